theorem dX12_hasStates_0 : decode cX12_hasStates 0 = .ok (.aload_n 0, 1) := by decide +kernel
theorem dX12_hasStates_1 : decode cX12_hasStates 1 = .ok (.getfield 160, 3) := by decide +kernel
theorem dX12_hasStates_4 : decode cX12_hasStates 4 = .ok (.ifCond .eq 14, 3) := by decide +kernel
theorem dX12_hasStates_7 : decode cX12_hasStates 7 = .ok (.aload_n 0, 1) := by decide +kernel
theorem dX12_hasStates_8 : decode cX12_hasStates 8 = .ok (.getfield 164, 3) := by decide +kernel
theorem dX12_hasStates_11 : decode cX12_hasStates 11 = .ok (.ifCond .ne 7, 3) := by decide +kernel
theorem dX12_hasStates_14 : decode cX12_hasStates 14 = .ok (.iconst 1, 1) := by decide +kernel
theorem dX12_hasStates_15 : decode cX12_hasStates 15 = .ok (.goto 4, 3) := by decide +kernel
theorem dX12_hasStates_18 : decode cX12_hasStates 18 = .ok (.iconst 0, 1) := by decide +kernel
theorem dX12_hasStates_19 : decode cX12_hasStates 19 = .ok (.ireturn, 1) := by decide +kernel
set_option maxHeartbeats 4000000 in
set_option maxRecDepth 100000 in
theorem c_X12_hasStates (l : Launch) {cs : Nat → ClassId} {ad : Nat → Nat} {A : Nat → Prop} {D : va_G} (hJ : hp_J SM ad A)   {h : hp_H} {Q : Int32 → Prop} (hq : q_X12_hasStates h Q) : hp_Mi l yX12_hasStates cX12_hasStates 1 (some .boolean) rm_X12_hasStates [.ref (ad 0)] SM cs ad A D h (fun r h' => Q r ∧ h' = h) := by
  refine hp_met (own := RX12) rfl (by decide) (Nat.le_of_ble_eq_true rfl) rfl (fun p e s m args below meth c Z E hZ hnm => ?_)
  refine hp_sub (lv' := [(0, .ref (ad 0))]) [0] rfl ?_
  unfold q_X12_hasStates at hq
  refine hp_aload_n E 0 dX12_hasStates_0 rfl rfl ?_
  refine hp_gI E g_RX12_160 fM_0_33 dX12_hasStates_1 ?_
  refine hp_if_eq E 18 dX12_hasStates_4 (by decide) (fun c1 => ?_) (fun c1 => ?_)
  · replace hq := hq.1 c1
    refine hp_iconst E (nI 0) dX12_hasStates_18 (by decide) ?_
    exact hp_zret E (by unfold hp_bz; decide) ⟨hq, rfl⟩ hZ dX12_hasStates_19
  · replace hq := hq.2 c1
    refine hp_aload_n E 0 dX12_hasStates_7 rfl rfl ?_
    refine hp_gI E g_RX12_164 fM_0_34 dX12_hasStates_8 ?_
    refine hp_if_ne E 18 dX12_hasStates_11 (by decide) (fun c2 => ?_) (fun c2 => ?_)
    · replace hq := hq.2 c2
      refine hp_iconst E (nI 0) dX12_hasStates_18 (by decide) ?_
      exact hp_zret E (by unfold hp_bz; decide) ⟨hq, rfl⟩ hZ dX12_hasStates_19
    · replace hq := hq.1 c2
      refine hp_iconst E (nI 1) dX12_hasStates_14 (by decide) ?_
      refine hp_goto E 19 dX12_hasStates_15 (by decide) ?_
      exact hp_zret E (by unfold hp_bz; decide) ⟨hq, rfl⟩ hZ dX12_hasStates_19
theorem dX12_isState_0 : decode cX12_isState 0 = .ok (.iload_n 1, 1) := by decide +kernel
theorem dX12_isState_1 : decode cX12_isState 1 = .ok (.iconst 0, 1) := by decide +kernel
theorem dX12_isState_2 : decode cX12_isState 2 = .ok (.aload_n 0, 1) := by decide +kernel
theorem dX12_isState_3 : decode cX12_isState 3 = .ok (.getfield 167, 3) := by decide +kernel
theorem dX12_isState_6 : decode cX12_isState 6 = .ok (.iconst 1, 1) := by decide +kernel
theorem dX12_isState_7 : decode cX12_isState 7 = .ok (.isub, 1) := by decide +kernel
theorem dX12_isState_8 : decode cX12_isState 8 = .ok (.invokestatic 156, 3) := by decide +kernel
theorem dX12_isState_11 : decode cX12_isState 11 = .ok (.ireturn, 1) := by decide +kernel
set_option maxHeartbeats 4000000 in
set_option maxRecDepth 100000 in
theorem c_X12_isState (l : Launch) {cs : Nat → ClassId} {ad : Nat → Nat} {A : Nat → Prop} {D : va_G} (hJ : hp_J SM ad A)   {h : hp_H} {a1 : Int32} {Q : Int32 → Prop} (hq : q_X12_isState h a1 Q) : hp_Mi l yX12_isState cX12_isState 2 (some .boolean) rm_X12_isState [.ref (ad 0), .int a1] SM cs ad A D h (fun r h' => Q r ∧ h' = h) := by
  refine hp_met (own := RX12) rfl (by decide) (Nat.le_of_ble_eq_true rfl) rfl (fun p e s m args below meth c Z E hZ hnm => ?_)
  refine hp_sub (lv' := [(0, .ref (ad 0)), (1, .int a1)]) [0, 1] rfl ?_
  unfold q_X12_isState at hq
  refine hp_iload_n E 1 dX12_isState_0 rfl rfl ?_
  refine hp_iconst E (nI 0) dX12_isState_1 (by decide) ?_
  refine hp_aload_n E 0 dX12_isState_2 rfl rfl ?_
  refine hp_gI E g_RX12_167 fM_0_35 dX12_isState_3 ?_
  refine hp_iconst E (nI 1) dX12_isState_6 (by decide) ?_
  refine hp_isub E dX12_isState_7 ?_
  refine hp_callSip (rest := []) E (c_X12_in l hJ hq) F_X12_in m_RX12_156 ⟨rfl, rfl⟩ ⟨Nat.le_of_ble_eq_true rfl, Nat.le_of_ble_eq_true rfl⟩ ⟨Nat.zero_le _, Nat.zero_le _⟩ rfl rfl (Nat.le_of_ble_eq_true rfl) dX12_isState_8 (fun r1 hq => ?_)
  have hbz := hq.1
  replace hq := hq.2
  exact hp_zret E hbz ⟨hq, rfl⟩ hZ dX12_isState_11
theorem dX12_tells_0 : decode cX12_tells 0 = .ok (.aload_n 0, 1) := by decide +kernel
theorem dX12_tells_1 : decode cX12_tells 1 = .ok (.invokevirtual 303, 3) := by decide +kernel
theorem dX12_tells_4 : decode cX12_tells 4 = .ok (.ifCond .eq 28, 3) := by decide +kernel
theorem dX12_tells_7 : decode cX12_tells 7 = .ok (.aload_n 0, 1) := by decide +kernel
theorem dX12_tells_8 : decode cX12_tells 8 = .ok (.iload_n 1, 1) := by decide +kernel
theorem dX12_tells_9 : decode cX12_tells 9 = .ok (.invokevirtual 306, 3) := by decide +kernel
theorem dX12_tells_12 : decode cX12_tells 12 = .ok (.ifCond .eq 20, 3) := by decide +kernel
theorem dX12_tells_15 : decode cX12_tells 15 = .ok (.aload_n 0, 1) := by decide +kernel
theorem dX12_tells_16 : decode cX12_tells 16 = .ok (.iload_n 2, 1) := by decide +kernel
theorem dX12_tells_17 : decode cX12_tells 17 = .ok (.invokevirtual 199, 3) := by decide +kernel
theorem dX12_tells_20 : decode cX12_tells 20 = .ok (.ifCond .eq 12, 3) := by decide +kernel
theorem dX12_tells_23 : decode cX12_tells 23 = .ok (.aload_n 0, 1) := by decide +kernel
theorem dX12_tells_24 : decode cX12_tells 24 = .ok (.getfield 59, 3) := by decide +kernel
theorem dX12_tells_27 : decode cX12_tells 27 = .ok (.iload_n 2, 1) := by decide +kernel
theorem dX12_tells_28 : decode cX12_tells 28 = .ok (.baload, 1) := by decide +kernel
theorem dX12_tells_29 : decode cX12_tells 29 = .ok (.ifCond .eq 7, 3) := by decide +kernel
theorem dX12_tells_32 : decode cX12_tells 32 = .ok (.ldc_w 309, 3) := by decide +kernel
theorem dX12_tells_35 : decode cX12_tells 35 = .ok (.ireturn, 1) := by decide +kernel
theorem dX12_tells_36 : decode cX12_tells 36 = .ok (.aload_n 0, 1) := by decide +kernel
theorem dX12_tells_37 : decode cX12_tells 37 = .ok (.iload_n 1, 1) := by decide +kernel
theorem dX12_tells_38 : decode cX12_tells 38 = .ok (.iconst (-1), 1) := by decide +kernel
theorem dX12_tells_39 : decode cX12_tells 39 = .ok (.iconst (-1), 1) := by decide +kernel
theorem dX12_tells_40 : decode cX12_tells 40 = .ok (.invokevirtual 280, 3) := by decide +kernel
theorem dX12_tells_43 : decode cX12_tells 43 = .ok (.aload_n 0, 1) := by decide +kernel
theorem dX12_tells_44 : decode cX12_tells 44 = .ok (.getfield 119, 3) := by decide +kernel
theorem dX12_tells_47 : decode cX12_tells 47 = .ok (.iload_n 2, 1) := by decide +kernel
theorem dX12_tells_48 : decode cX12_tells 48 = .ok (.iaload, 1) := by decide +kernel
theorem dX12_tells_49 : decode cX12_tells 49 = .ok (.ireturn, 1) := by decide +kernel
set_option maxHeartbeats 4000000 in
set_option maxRecDepth 100000 in
theorem c_X12_tells (l : Launch) {cs : Nat → ClassId} {ad : Nat → Nat} {A : Nat → Prop} {D : va_G} (hJ : hp_J SM ad A)   {h : hp_H} {a1 a2 : Int32} {Q : Int32 → hp_H → Prop} (hq : q_X12_tells h a1 a2 Q) : hp_Mi l yX12_tells cX12_tells 3 (some .int) rm_X12_tells [.ref (ad 0), .int a1, .int a2] SM cs ad A D h Q := by
  refine hp_met (own := RX12) rfl (by decide) (Nat.le_of_ble_eq_true rfl) rfl (fun p e s m args below meth c Z E hZ hnm => ?_)
  refine hp_sub (lv' := [(0, .ref (ad 0)), (1, .int a1), (2, .int a2)]) [0, 1, 2] rfl ?_
  unfold q_X12_tells at hq
  refine hp_aload_n E 0 dX12_tells_0 rfl rfl ?_
  refine hp_callVip (rest := []) E 0 fM_0_0 vcl_12 (c_X12_hasStates l hJ hq) F_X12_hasStates m_RX12_303 ⟨rfl, rfl⟩ ⟨Nat.le_of_ble_eq_true rfl, Nat.le_of_ble_eq_true rfl⟩ ⟨Nat.zero_le _, Nat.zero_le _⟩ rfl rfl (Nat.le_of_ble_eq_true rfl) dX12_tells_1 (fun r1 hq => ?_)
  refine hp_if_eq E 32 dX12_tells_4 (by decide) (fun c2 => ?_) (fun c2 => ?_)
  · replace hq := hq.1 c2
    refine hp_ldcw E (-2147483648) m_RX12_309 dX12_tells_32 ?_
    exact hp_iret E hq hZ dX12_tells_35
  · replace hq := hq.2 c2
    refine hp_aload_n E 0 dX12_tells_7 rfl rfl ?_
    refine hp_iload_n E 1 dX12_tells_8 rfl rfl ?_
    refine hp_callVip (rest := []) E 0 fM_0_0 vcl_12 (c_X12_isState l hJ hq) F_X12_isState m_RX12_306 ⟨rfl, rfl⟩ ⟨Nat.le_of_ble_eq_true rfl, Nat.le_of_ble_eq_true rfl⟩ ⟨Nat.zero_le _, Nat.zero_le _⟩ rfl rfl (Nat.le_of_ble_eq_true rfl) dX12_tells_9 (fun r3 hq => ?_)
    refine hp_if_eq E 32 dX12_tells_12 (by decide) (fun c4 => ?_) (fun c4 => ?_)
    · replace hq := hq.1 c4
      refine hp_ldcw E (-2147483648) m_RX12_309 dX12_tells_32 ?_
      exact hp_iret E hq hZ dX12_tells_35
    · replace hq := hq.2 c4
      refine hp_aload_n E 0 dX12_tells_15 rfl rfl ?_
      refine hp_iload_n E 2 dX12_tells_16 rfl rfl ?_
      refine hp_callVip (rest := []) E 0 fM_0_0 vcl_12 (c_X12_isExpr l hJ hq) F_X12_isExpr m_RX12_199 ⟨rfl, rfl⟩ ⟨Nat.le_of_ble_eq_true rfl, Nat.le_of_ble_eq_true rfl⟩ ⟨Nat.zero_le _, Nat.zero_le _⟩ rfl rfl (Nat.le_of_ble_eq_true rfl) dX12_tells_17 (fun r5 hq => ?_)
      refine hp_if_eq E 32 dX12_tells_20 (by decide) (fun c6 => ?_) (fun c6 => ?_)
      · replace hq := hq.1 c6
        refine hp_ldcw E (-2147483648) m_RX12_309 dX12_tells_32 ?_
        exact hp_iret E hq hZ dX12_tells_35
      · replace hq := hq.2 c6
        refine hp_aload_n E 0 dX12_tells_23 rfl rfl ?_
        refine hp_gR E g_RX12_59 fM_0_20 dX12_tells_24 ?_
        refine hp_iload_n E 2 dX12_tells_27 rfl rfl ?_
        refine hp_zald E 17 aM_17 hq.1 dX12_tells_28 ?_
        replace hq := hq.2
        refine hp_if_eq E 36 dX12_tells_29 (by decide) (fun c7 => ?_) (fun c7 => ?_)
        · replace hq := hq.1 c7
          refine hp_aload_n E 0 dX12_tells_36 rfl rfl ?_
          refine hp_iload_n E 1 dX12_tells_37 rfl rfl ?_
          refine hp_iconst E (-1) dX12_tells_38 (by decide) ?_
          refine hp_iconst E (-1) dX12_tells_39 (by decide) ?_
          refine hp_callVv' (rest := []) E 0 fM_0_0 vcl_12 (c_X12_reckon l hJ hq) F_X12_reckon m_RX12_280 ⟨rfl, rfl⟩ ⟨Nat.le_of_ble_eq_true rfl, Nat.le_of_ble_eq_true rfl⟩ ⟨Nat.zero_le _, Nat.zero_le _⟩ rfl rfl (Nat.le_of_ble_eq_true rfl) dX12_tells_40 (fun h8 hq => ?_)
          refine hp_aload_n E 0 dX12_tells_43 rfl rfl ?_
          refine hp_gR E g_RX12_119 fM_0_52 dX12_tells_44 ?_
          refine hp_iload_n E 2 dX12_tells_47 rfl rfl ?_
          refine hp_iald E 37 aM_37 hq.1 dX12_tells_48 ?_
          replace hq := hq.2
          exact hp_iret E hq hZ dX12_tells_49
        · replace hq := hq.2 c7
          refine hp_ldcw E (-2147483648) m_RX12_309 dX12_tells_32 ?_
          exact hp_iret E hq hZ dX12_tells_35
theorem dX12_isMember_0 : decode cX12_isMember 0 = .ok (.aload_n 0, 1) := by decide +kernel
theorem dX12_isMember_1 : decode cX12_isMember 1 = .ok (.iload_n 1, 1) := by decide +kernel
theorem dX12_isMember_2 : decode cX12_isMember 2 = .ok (.invokevirtual 186, 3) := by decide +kernel
theorem dX12_isMember_5 : decode cX12_isMember 5 = .ok (.ifCond .eq 23, 3) := by decide +kernel
theorem dX12_isMember_8 : decode cX12_isMember 8 = .ok (.iload_n 2, 1) := by decide +kernel
theorem dX12_isMember_9 : decode cX12_isMember 9 = .ok (.iconst 0, 1) := by decide +kernel
theorem dX12_isMember_10 : decode cX12_isMember 10 = .ok (.aload_n 0, 1) := by decide +kernel
theorem dX12_isMember_11 : decode cX12_isMember 11 = .ok (.getfield 19, 3) := by decide +kernel
theorem dX12_isMember_14 : decode cX12_isMember 14 = .ok (.iload_n 1, 1) := by decide +kernel
theorem dX12_isMember_15 : decode cX12_isMember 15 = .ok (.iaload, 1) := by decide +kernel
theorem dX12_isMember_16 : decode cX12_isMember 16 = .ok (.iconst 1, 1) := by decide +kernel
theorem dX12_isMember_17 : decode cX12_isMember 17 = .ok (.isub, 1) := by decide +kernel
theorem dX12_isMember_18 : decode cX12_isMember 18 = .ok (.invokestatic 156, 3) := by decide +kernel
theorem dX12_isMember_21 : decode cX12_isMember 21 = .ok (.ifCond .eq 7, 3) := by decide +kernel
theorem dX12_isMember_24 : decode cX12_isMember 24 = .ok (.iconst 1, 1) := by decide +kernel
theorem dX12_isMember_25 : decode cX12_isMember 25 = .ok (.goto 4, 3) := by decide +kernel
theorem dX12_isMember_28 : decode cX12_isMember 28 = .ok (.iconst 0, 1) := by decide +kernel
theorem dX12_isMember_29 : decode cX12_isMember 29 = .ok (.ireturn, 1) := by decide +kernel
set_option maxHeartbeats 4000000 in
set_option maxRecDepth 100000 in
theorem c_X12_isMember (l : Launch) {cs : Nat → ClassId} {ad : Nat → Nat} {A : Nat → Prop} {D : va_G} (hJ : hp_J SM ad A)   {h : hp_H} {a1 a2 : Int32} {Q : Int32 → Prop} (hq : q_X12_isMember h a1 a2 Q) : hp_Mi l yX12_isMember cX12_isMember 3 (some .boolean) rm_X12_isMember [.ref (ad 0), .int a1, .int a2] SM cs ad A D h (fun r h' => Q r ∧ h' = h) := by
  refine hp_met (own := RX12) rfl (by decide) (Nat.le_of_ble_eq_true rfl) rfl (fun p e s m args below meth c Z E hZ hnm => ?_)
  refine hp_sub (lv' := [(0, .ref (ad 0)), (1, .int a1), (2, .int a2)]) [0, 1, 2] rfl ?_
  unfold q_X12_isMember at hq
  refine hp_aload_n E 0 dX12_isMember_0 rfl rfl ?_
  refine hp_iload_n E 1 dX12_isMember_1 rfl rfl ?_
  refine hp_callVip (rest := []) E 0 fM_0_0 vcl_12 (c_X12_isRole l hJ hq) F_X12_isRole m_RX12_186 ⟨rfl, rfl⟩ ⟨Nat.le_of_ble_eq_true rfl, Nat.le_of_ble_eq_true rfl⟩ ⟨Nat.zero_le _, Nat.zero_le _⟩ rfl rfl (Nat.le_of_ble_eq_true rfl) dX12_isMember_2 (fun r1 hq => ?_)
  refine hp_if_eq E 28 dX12_isMember_5 (by decide) (fun c2 => ?_) (fun c2 => ?_)
  · replace hq := hq.1 c2
    refine hp_iconst E (nI 0) dX12_isMember_28 (by decide) ?_
    exact hp_zret E (by unfold hp_bz; decide) ⟨hq, rfl⟩ hZ dX12_isMember_29
  · replace hq := hq.2 c2
    refine hp_iload_n E 2 dX12_isMember_8 rfl rfl ?_
    refine hp_iconst E (nI 0) dX12_isMember_9 (by decide) ?_
    refine hp_aload_n E 0 dX12_isMember_10 rfl rfl ?_
    refine hp_gR E g_RX12_19 fM_0_5 dX12_isMember_11 ?_
    refine hp_iload_n E 1 dX12_isMember_14 rfl rfl ?_
    refine hp_iald E 4 aM_4 hq.1 dX12_isMember_15 ?_
    replace hq := hq.2
    refine hp_iconst E (nI 1) dX12_isMember_16 (by decide) ?_
    refine hp_isub E dX12_isMember_17 ?_
    refine hp_callSip (rest := []) E (c_X12_in l hJ hq) F_X12_in m_RX12_156 ⟨rfl, rfl⟩ ⟨Nat.le_of_ble_eq_true rfl, Nat.le_of_ble_eq_true rfl⟩ ⟨Nat.zero_le _, Nat.zero_le _⟩ rfl rfl (Nat.le_of_ble_eq_true rfl) dX12_isMember_18 (fun r3 hq => ?_)
    refine hp_if_eq E 28 dX12_isMember_21 (by decide) (fun c4 => ?_) (fun c4 => ?_)
    · replace hq := hq.1 c4
      refine hp_iconst E (nI 0) dX12_isMember_28 (by decide) ?_
      exact hp_zret E (by unfold hp_bz; decide) ⟨hq, rfl⟩ hZ dX12_isMember_29
    · replace hq := hq.2 c4
      refine hp_iconst E (nI 1) dX12_isMember_24 (by decide) ?_
      refine hp_goto E 29 dX12_isMember_25 (by decide) ?_
      exact hp_zret E (by unfold hp_bz; decide) ⟨hq, rfl⟩ hZ dX12_isMember_29
theorem dX12_place_0 : decode cX12_place 0 = .ok (.aload_n 0, 1) := by decide +kernel
theorem dX12_place_1 : decode cX12_place 1 = .ok (.invokevirtual 303, 3) := by decide +kernel
theorem dX12_place_4 : decode cX12_place 4 = .ok (.ifCond .ne 6, 3) := by decide +kernel
theorem dX12_place_7 : decode cX12_place 7 = .ok (.bipush (-5), 2) := by decide +kernel
theorem dX12_place_9 : decode cX12_place 9 = .ok (.ireturn, 1) := by decide +kernel
theorem dX12_place_10 : decode cX12_place 10 = .ok (.aload_n 0, 1) := by decide +kernel
theorem dX12_place_11 : decode cX12_place 11 = .ok (.iload_n 1, 1) := by decide +kernel
theorem dX12_place_12 : decode cX12_place 12 = .ok (.invokevirtual 306, 3) := by decide +kernel
theorem dX12_place_15 : decode cX12_place 15 = .ok (.ifCond .eq 25, 3) := by decide +kernel
theorem dX12_place_18 : decode cX12_place 18 = .ok (.aload_n 0, 1) := by decide +kernel
theorem dX12_place_19 : decode cX12_place 19 = .ok (.iload_n 2, 1) := by decide +kernel
theorem dX12_place_20 : decode cX12_place 20 = .ok (.iload_n 3, 1) := by decide +kernel
theorem dX12_place_21 : decode cX12_place 21 = .ok (.invokevirtual 310, 3) := by decide +kernel
theorem dX12_place_24 : decode cX12_place 24 = .ok (.ifCond .eq 16, 3) := by decide +kernel
theorem dX12_place_27 : decode cX12_place 27 = .ok (.aload_n 0, 1) := by decide +kernel
theorem dX12_place_28 : decode cX12_place 28 = .ok (.iload_n 1, 1) := by decide +kernel
theorem dX12_place_29 : decode cX12_place 29 = .ok (.iload_n 2, 1) := by decide +kernel
theorem dX12_place_30 : decode cX12_place 30 = .ok (.iload_n 3, 1) := by decide +kernel
theorem dX12_place_31 : decode cX12_place 31 = .ok (.invokestatic 212, 3) := by decide +kernel
theorem dX12_place_34 : decode cX12_place 34 = .ok (.invokevirtual 216, 3) := by decide +kernel
theorem dX12_place_37 : decode cX12_place 37 = .ok (.goto 5, 3) := by decide +kernel
theorem dX12_place_40 : decode cX12_place 40 = .ok (.bipush (-2), 2) := by decide +kernel
theorem dX12_place_42 : decode cX12_place 42 = .ok (.ireturn, 1) := by decide +kernel
set_option maxHeartbeats 4000000 in
set_option maxRecDepth 100000 in
theorem c_X12_place (l : Launch) {cs : Nat → ClassId} {ad : Nat → Nat} {A : Nat → Prop} {D : va_G} (hJ : hp_J SM ad A)   {h : hp_H} {a1 a2 a3 : Int32} {Q : Int32 → Prop} (hq : q_X12_place h a1 a2 a3 Q) : hp_Mi l yX12_place cX12_place 4 (some .int) rm_X12_place [.ref (ad 0), .int a1, .int a2, .int a3] SM cs ad A D h (fun r h' => Q r ∧ h' = h) := by
  refine hp_met (own := RX12) rfl (by decide) (Nat.le_of_ble_eq_true rfl) rfl (fun p e s m args below meth c Z E hZ hnm => ?_)
  refine hp_sub (lv' := [(0, .ref (ad 0)), (1, .int a1), (2, .int a2), (3, .int a3)]) [0, 1, 2, 3] rfl ?_
  unfold q_X12_place at hq
  refine hp_aload_n E 0 dX12_place_0 rfl rfl ?_
  refine hp_callVip (rest := []) E 0 fM_0_0 vcl_12 (c_X12_hasStates l hJ hq) F_X12_hasStates m_RX12_303 ⟨rfl, rfl⟩ ⟨Nat.le_of_ble_eq_true rfl, Nat.le_of_ble_eq_true rfl⟩ ⟨Nat.zero_le _, Nat.zero_le _⟩ rfl rfl (Nat.le_of_ble_eq_true rfl) dX12_place_1 (fun r1 hq => ?_)
  refine hp_if_ne E 10 dX12_place_4 (by decide) (fun c2 => ?_) (fun c2 => ?_)
  · replace hq := hq.2 c2
    refine hp_aload_n E 0 dX12_place_10 rfl rfl ?_
    refine hp_iload_n E 1 dX12_place_11 rfl rfl ?_
    refine hp_callVip (rest := []) E 0 fM_0_0 vcl_12 (c_X12_isState l hJ hq) F_X12_isState m_RX12_306 ⟨rfl, rfl⟩ ⟨Nat.le_of_ble_eq_true rfl, Nat.le_of_ble_eq_true rfl⟩ ⟨Nat.zero_le _, Nat.zero_le _⟩ rfl rfl (Nat.le_of_ble_eq_true rfl) dX12_place_12 (fun r3 hq => ?_)
    refine hp_if_eq E 40 dX12_place_15 (by decide) (fun c4 => ?_) (fun c4 => ?_)
    · replace hq := hq.1 c4
      refine hp_bipush E (-2) dX12_place_40 (by decide) ?_
      exact hp_iret E ⟨hq, rfl⟩ hZ dX12_place_42
    · replace hq := hq.2 c4
      refine hp_aload_n E 0 dX12_place_18 rfl rfl ?_
      refine hp_iload_n E 2 dX12_place_19 rfl rfl ?_
      refine hp_iload_n E 3 dX12_place_20 rfl rfl ?_
      refine hp_callVip (rest := []) E 0 fM_0_0 vcl_12 (c_X12_isMember l hJ hq) F_X12_isMember m_RX12_310 ⟨rfl, rfl⟩ ⟨Nat.le_of_ble_eq_true rfl, Nat.le_of_ble_eq_true rfl⟩ ⟨Nat.zero_le _, Nat.zero_le _⟩ rfl rfl (Nat.le_of_ble_eq_true rfl) dX12_place_21 (fun r5 hq => ?_)
      refine hp_if_eq E 40 dX12_place_24 (by decide) (fun c6 => ?_) (fun c6 => ?_)
      · replace hq := hq.1 c6
        refine hp_bipush E (-2) dX12_place_40 (by decide) ?_
        exact hp_iret E ⟨hq, rfl⟩ hZ dX12_place_42
      · replace hq := hq.2 c6
        refine hp_aload_n E 0 dX12_place_27 rfl rfl ?_
        refine hp_iload_n E 1 dX12_place_28 rfl rfl ?_
        refine hp_iload_n E 2 dX12_place_29 rfl rfl ?_
        refine hp_iload_n E 3 dX12_place_30 rfl rfl ?_
        refine hp_callSip (rest := [.int a1, .ref (ad 0)]) E (c_X12_memberAt l hJ hq) F_X12_memberAt m_RX12_212 ⟨rfl, rfl⟩ ⟨Nat.le_of_ble_eq_true rfl, Nat.le_of_ble_eq_true rfl⟩ ⟨Nat.zero_le _, Nat.zero_le _⟩ rfl rfl (Nat.le_of_ble_eq_true rfl) dX12_place_31 (fun r7 hq => ?_)
        refine hp_callVip (rest := []) E 0 fM_0_0 vcl_12 (c_X12_cell l hJ hq) F_X12_cell m_RX12_216 ⟨rfl, rfl⟩ ⟨Nat.le_of_ble_eq_true rfl, Nat.le_of_ble_eq_true rfl⟩ ⟨Nat.zero_le _, Nat.zero_le _⟩ rfl rfl (Nat.le_of_ble_eq_true rfl) dX12_place_34 (fun r8 hq => ?_)
        refine hp_goto E 42 dX12_place_37 (by decide) ?_
        exact hp_iret E ⟨hq, rfl⟩ hZ dX12_place_42
  · replace hq := hq.1 c2
    refine hp_bipush E (-5) dX12_place_7 (by decide) ?_
    exact hp_iret E ⟨hq, rfl⟩ hZ dX12_place_9
theorem dX12_owned_0 : decode cX12_owned 0 = .ok (.aload_n 0, 1) := by decide +kernel
theorem dX12_owned_1 : decode cX12_owned 1 = .ok (.invokevirtual 303, 3) := by decide +kernel
theorem dX12_owned_4 : decode cX12_owned 4 = .ok (.ifCond .ne 6, 3) := by decide +kernel
theorem dX12_owned_7 : decode cX12_owned 7 = .ok (.bipush (-5), 2) := by decide +kernel
theorem dX12_owned_9 : decode cX12_owned 9 = .ok (.ireturn, 1) := by decide +kernel
theorem dX12_owned_10 : decode cX12_owned 10 = .ok (.aload_n 0, 1) := by decide +kernel
theorem dX12_owned_11 : decode cX12_owned 11 = .ok (.iload_n 1, 1) := by decide +kernel
theorem dX12_owned_12 : decode cX12_owned 12 = .ok (.invokevirtual 306, 3) := by decide +kernel
theorem dX12_owned_15 : decode cX12_owned 15 = .ok (.ifCond .eq 47, 3) := by decide +kernel
theorem dX12_owned_18 : decode cX12_owned 18 = .ok (.aload_n 0, 1) := by decide +kernel
theorem dX12_owned_19 : decode cX12_owned 19 = .ok (.iload_n 2, 1) := by decide +kernel
theorem dX12_owned_20 : decode cX12_owned 20 = .ok (.iload_n 3, 1) := by decide +kernel
theorem dX12_owned_21 : decode cX12_owned 21 = .ok (.invokevirtual 310, 3) := by decide +kernel
theorem dX12_owned_24 : decode cX12_owned 24 = .ok (.ifCond .eq 38, 3) := by decide +kernel
theorem dX12_owned_27 : decode cX12_owned 27 = .ok (.iload 4, 2) := by decide +kernel
theorem dX12_owned_29 : decode cX12_owned 29 = .ok (.iconst 0, 1) := by decide +kernel
theorem dX12_owned_30 : decode cX12_owned 30 = .ok (.aload_n 0, 1) := by decide +kernel
theorem dX12_owned_31 : decode cX12_owned 31 = .ok (.getfield 22, 3) := by decide +kernel
theorem dX12_owned_34 : decode cX12_owned 34 = .ok (.iload_n 2, 1) := by decide +kernel
theorem dX12_owned_35 : decode cX12_owned 35 = .ok (.iaload, 1) := by decide +kernel
theorem dX12_owned_36 : decode cX12_owned 36 = .ok (.iconst 1, 1) := by decide +kernel
theorem dX12_owned_37 : decode cX12_owned 37 = .ok (.isub, 1) := by decide +kernel
theorem dX12_owned_38 : decode cX12_owned 38 = .ok (.invokestatic 156, 3) := by decide +kernel
theorem dX12_owned_41 : decode cX12_owned 41 = .ok (.ifCond .eq 21, 3) := by decide +kernel
theorem dX12_owned_44 : decode cX12_owned 44 = .ok (.aload_n 0, 1) := by decide +kernel
theorem dX12_owned_45 : decode cX12_owned 45 = .ok (.iload_n 1, 1) := by decide +kernel
theorem dX12_owned_46 : decode cX12_owned 46 = .ok (.iload_n 2, 1) := by decide +kernel
theorem dX12_owned_47 : decode cX12_owned 47 = .ok (.iload_n 3, 1) := by decide +kernel
theorem dX12_owned_48 : decode cX12_owned 48 = .ok (.invokestatic 212, 3) := by decide +kernel
theorem dX12_owned_51 : decode cX12_owned 51 = .ok (.iconst 1, 1) := by decide +kernel
theorem dX12_owned_52 : decode cX12_owned 52 = .ok (.iadd, 1) := by decide +kernel
theorem dX12_owned_53 : decode cX12_owned 53 = .ok (.iload 4, 2) := by decide +kernel
theorem dX12_owned_55 : decode cX12_owned 55 = .ok (.iadd, 1) := by decide +kernel
theorem dX12_owned_56 : decode cX12_owned 56 = .ok (.invokevirtual 216, 3) := by decide +kernel
theorem dX12_owned_59 : decode cX12_owned 59 = .ok (.goto 5, 3) := by decide +kernel
theorem dX12_owned_62 : decode cX12_owned 62 = .ok (.bipush (-2), 2) := by decide +kernel
theorem dX12_owned_64 : decode cX12_owned 64 = .ok (.ireturn, 1) := by decide +kernel
set_option maxHeartbeats 4000000 in
set_option maxRecDepth 100000 in
theorem c_X12_owned (l : Launch) {cs : Nat → ClassId} {ad : Nat → Nat} {A : Nat → Prop} {D : va_G} (hJ : hp_J SM ad A)   {h : hp_H} {a1 a2 a3 a4 : Int32} {Q : Int32 → Prop} (hq : q_X12_owned h a1 a2 a3 a4 Q) : hp_Mi l yX12_owned cX12_owned 5 (some .int) rm_X12_owned [.ref (ad 0), .int a1, .int a2, .int a3, .int a4] SM cs ad A D h (fun r h' => Q r ∧ h' = h) := by
  refine hp_met (own := RX12) rfl (by decide) (Nat.le_of_ble_eq_true rfl) rfl (fun p e s m args below meth c Z E hZ hnm => ?_)
  refine hp_sub (lv' := [(0, .ref (ad 0)), (1, .int a1), (2, .int a2), (3, .int a3), (4, .int a4)]) [0, 1, 2, 3, 4] rfl ?_
  unfold q_X12_owned at hq
  refine hp_aload_n E 0 dX12_owned_0 rfl rfl ?_
  refine hp_callVip (rest := []) E 0 fM_0_0 vcl_12 (c_X12_hasStates l hJ hq) F_X12_hasStates m_RX12_303 ⟨rfl, rfl⟩ ⟨Nat.le_of_ble_eq_true rfl, Nat.le_of_ble_eq_true rfl⟩ ⟨Nat.zero_le _, Nat.zero_le _⟩ rfl rfl (Nat.le_of_ble_eq_true rfl) dX12_owned_1 (fun r1 hq => ?_)
  refine hp_if_ne E 10 dX12_owned_4 (by decide) (fun c2 => ?_) (fun c2 => ?_)
  · replace hq := hq.2 c2
    refine hp_aload_n E 0 dX12_owned_10 rfl rfl ?_
    refine hp_iload_n E 1 dX12_owned_11 rfl rfl ?_
    refine hp_callVip (rest := []) E 0 fM_0_0 vcl_12 (c_X12_isState l hJ hq) F_X12_isState m_RX12_306 ⟨rfl, rfl⟩ ⟨Nat.le_of_ble_eq_true rfl, Nat.le_of_ble_eq_true rfl⟩ ⟨Nat.zero_le _, Nat.zero_le _⟩ rfl rfl (Nat.le_of_ble_eq_true rfl) dX12_owned_12 (fun r3 hq => ?_)
    refine hp_if_eq E 62 dX12_owned_15 (by decide) (fun c4 => ?_) (fun c4 => ?_)
    · replace hq := hq.1 c4
      refine hp_bipush E (-2) dX12_owned_62 (by decide) ?_
      exact hp_iret E ⟨hq, rfl⟩ hZ dX12_owned_64
    · replace hq := hq.2 c4
      refine hp_aload_n E 0 dX12_owned_18 rfl rfl ?_
      refine hp_iload_n E 2 dX12_owned_19 rfl rfl ?_
      refine hp_iload_n E 3 dX12_owned_20 rfl rfl ?_
      refine hp_callVip (rest := []) E 0 fM_0_0 vcl_12 (c_X12_isMember l hJ hq) F_X12_isMember m_RX12_310 ⟨rfl, rfl⟩ ⟨Nat.le_of_ble_eq_true rfl, Nat.le_of_ble_eq_true rfl⟩ ⟨Nat.zero_le _, Nat.zero_le _⟩ rfl rfl (Nat.le_of_ble_eq_true rfl) dX12_owned_21 (fun r5 hq => ?_)
      refine hp_if_eq E 62 dX12_owned_24 (by decide) (fun c6 => ?_) (fun c6 => ?_)
      · replace hq := hq.1 c6
        refine hp_bipush E (-2) dX12_owned_62 (by decide) ?_
        exact hp_iret E ⟨hq, rfl⟩ hZ dX12_owned_64
      · replace hq := hq.2 c6
        refine hp_iload E 4 dX12_owned_27 rfl ?_
        refine hp_iconst E (nI 0) dX12_owned_29 (by decide) ?_
        refine hp_aload_n E 0 dX12_owned_30 rfl rfl ?_
        refine hp_gR E g_RX12_22 fM_0_6 dX12_owned_31 ?_
        refine hp_iload_n E 2 dX12_owned_34 rfl rfl ?_
        refine hp_iald E 5 aM_5 hq.1 dX12_owned_35 ?_
        replace hq := hq.2
        refine hp_iconst E (nI 1) dX12_owned_36 (by decide) ?_
        refine hp_isub E dX12_owned_37 ?_
        refine hp_callSip (rest := []) E (c_X12_in l hJ hq) F_X12_in m_RX12_156 ⟨rfl, rfl⟩ ⟨Nat.le_of_ble_eq_true rfl, Nat.le_of_ble_eq_true rfl⟩ ⟨Nat.zero_le _, Nat.zero_le _⟩ rfl rfl (Nat.le_of_ble_eq_true rfl) dX12_owned_38 (fun r7 hq => ?_)
        refine hp_if_eq E 62 dX12_owned_41 (by decide) (fun c8 => ?_) (fun c8 => ?_)
        · replace hq := hq.1 c8
          refine hp_bipush E (-2) dX12_owned_62 (by decide) ?_
          exact hp_iret E ⟨hq, rfl⟩ hZ dX12_owned_64
        · replace hq := hq.2 c8
          refine hp_aload_n E 0 dX12_owned_44 rfl rfl ?_
          refine hp_iload_n E 1 dX12_owned_45 rfl rfl ?_
          refine hp_iload_n E 2 dX12_owned_46 rfl rfl ?_
          refine hp_iload_n E 3 dX12_owned_47 rfl rfl ?_
          refine hp_callSip (rest := [.int a1, .ref (ad 0)]) E (c_X12_memberAt l hJ hq) F_X12_memberAt m_RX12_212 ⟨rfl, rfl⟩ ⟨Nat.le_of_ble_eq_true rfl, Nat.le_of_ble_eq_true rfl⟩ ⟨Nat.zero_le _, Nat.zero_le _⟩ rfl rfl (Nat.le_of_ble_eq_true rfl) dX12_owned_48 (fun r9 hq => ?_)
          refine hp_iconst E (nI 1) dX12_owned_51 (by decide) ?_
          refine hp_iadd E dX12_owned_52 ?_
          refine hp_iload E 4 dX12_owned_53 rfl ?_
          refine hp_iadd E dX12_owned_55 ?_
          refine hp_callVip (rest := []) E 0 fM_0_0 vcl_12 (c_X12_cell l hJ hq) F_X12_cell m_RX12_216 ⟨rfl, rfl⟩ ⟨Nat.le_of_ble_eq_true rfl, Nat.le_of_ble_eq_true rfl⟩ ⟨Nat.zero_le _, Nat.zero_le _⟩ rfl rfl (Nat.le_of_ble_eq_true rfl) dX12_owned_56 (fun r10 hq => ?_)
          refine hp_goto E 64 dX12_owned_59 (by decide) ?_
          exact hp_iret E ⟨hq, rfl⟩ hZ dX12_owned_64
  · replace hq := hq.1 c2
    refine hp_bipush E (-5) dX12_owned_7 (by decide) ?_
    exact hp_iret E ⟨hq, rfl⟩ hZ dX12_owned_9
theorem dX12_letter_0 : decode cX12_letter 0 = .ok (.aload_n 0, 1) := by decide +kernel
theorem dX12_letter_1 : decode cX12_letter 1 = .ok (.invokevirtual 303, 3) := by decide +kernel
theorem dX12_letter_4 : decode cX12_letter 4 = .ok (.ifCond .ne 6, 3) := by decide +kernel
theorem dX12_letter_7 : decode cX12_letter 7 = .ok (.bipush (-5), 2) := by decide +kernel
theorem dX12_letter_9 : decode cX12_letter 9 = .ok (.ireturn, 1) := by decide +kernel
theorem dX12_letter_10 : decode cX12_letter 10 = .ok (.aload_n 0, 1) := by decide +kernel
theorem dX12_letter_11 : decode cX12_letter 11 = .ok (.iload_n 1, 1) := by decide +kernel
theorem dX12_letter_12 : decode cX12_letter 12 = .ok (.invokevirtual 306, 3) := by decide +kernel
theorem dX12_letter_15 : decode cX12_letter 15 = .ok (.ifCond .eq 11, 3) := by decide +kernel
theorem dX12_letter_18 : decode cX12_letter 18 = .ok (.aload_n 0, 1) := by decide +kernel
theorem dX12_letter_19 : decode cX12_letter 19 = .ok (.iload_n 2, 1) := by decide +kernel
theorem dX12_letter_20 : decode cX12_letter 20 = .ok (.invokevirtual 196, 3) := by decide +kernel
theorem dX12_letter_23 : decode cX12_letter 23 = .ok (.ifCond .ne 6, 3) := by decide +kernel
theorem dX12_letter_26 : decode cX12_letter 26 = .ok (.bipush (-2), 2) := by decide +kernel
theorem dX12_letter_28 : decode cX12_letter 28 = .ok (.ireturn, 1) := by decide +kernel
theorem dX12_letter_29 : decode cX12_letter 29 = .ok (.iload_n 3, 1) := by decide +kernel
theorem dX12_letter_30 : decode cX12_letter 30 = .ok (.iconst 0, 1) := by decide +kernel
theorem dX12_letter_31 : decode cX12_letter 31 = .ok (.aload_n 0, 1) := by decide +kernel
theorem dX12_letter_32 : decode cX12_letter 32 = .ok (.iload_n 1, 1) := by decide +kernel
theorem dX12_letter_33 : decode cX12_letter 33 = .ok (.iload_n 2, 1) := by decide +kernel
theorem dX12_letter_34 : decode cX12_letter 34 = .ok (.invokestatic 223, 3) := by decide +kernel
theorem dX12_letter_37 : decode cX12_letter 37 = .ok (.invokevirtual 216, 3) := by decide +kernel
theorem dX12_letter_40 : decode cX12_letter 40 = .ok (.iconst 1, 1) := by decide +kernel
theorem dX12_letter_41 : decode cX12_letter 41 = .ok (.isub, 1) := by decide +kernel
theorem dX12_letter_42 : decode cX12_letter 42 = .ok (.invokestatic 156, 3) := by decide +kernel
theorem dX12_letter_45 : decode cX12_letter 45 = .ok (.ifCond .eq 19, 3) := by decide +kernel
theorem dX12_letter_48 : decode cX12_letter 48 = .ok (.aload_n 0, 1) := by decide +kernel
theorem dX12_letter_49 : decode cX12_letter 49 = .ok (.iload_n 1, 1) := by decide +kernel
theorem dX12_letter_50 : decode cX12_letter 50 = .ok (.iload_n 2, 1) := by decide +kernel
theorem dX12_letter_51 : decode cX12_letter 51 = .ok (.invokestatic 223, 3) := by decide +kernel
theorem dX12_letter_54 : decode cX12_letter 54 = .ok (.iconst 1, 1) := by decide +kernel
theorem dX12_letter_55 : decode cX12_letter 55 = .ok (.iadd, 1) := by decide +kernel
theorem dX12_letter_56 : decode cX12_letter 56 = .ok (.iload_n 3, 1) := by decide +kernel
theorem dX12_letter_57 : decode cX12_letter 57 = .ok (.iadd, 1) := by decide +kernel
theorem dX12_letter_58 : decode cX12_letter 58 = .ok (.invokevirtual 216, 3) := by decide +kernel
theorem dX12_letter_61 : decode cX12_letter 61 = .ok (.goto 4, 3) := by decide +kernel
theorem dX12_letter_64 : decode cX12_letter 64 = .ok (.iconst (-1), 1) := by decide +kernel
theorem dX12_letter_65 : decode cX12_letter 65 = .ok (.ireturn, 1) := by decide +kernel
set_option maxHeartbeats 4000000 in
set_option maxRecDepth 100000 in
theorem c_X12_letter (l : Launch) {cs : Nat → ClassId} {ad : Nat → Nat} {A : Nat → Prop} {D : va_G} (hJ : hp_J SM ad A)   {h : hp_H} {a1 a2 a3 : Int32} {Q : Int32 → Prop} (hq : q_X12_letter h a1 a2 a3 Q) : hp_Mi l yX12_letter cX12_letter 4 (some .int) rm_X12_letter [.ref (ad 0), .int a1, .int a2, .int a3] SM cs ad A D h (fun r h' => Q r ∧ h' = h) := by
  refine hp_met (own := RX12) rfl (by decide) (Nat.le_of_ble_eq_true rfl) rfl (fun p e s m args below meth c Z E hZ hnm => ?_)
  refine hp_sub (lv' := [(0, .ref (ad 0)), (1, .int a1), (2, .int a2), (3, .int a3)]) [0, 1, 2, 3] rfl ?_
  unfold q_X12_letter at hq
  refine hp_aload_n E 0 dX12_letter_0 rfl rfl ?_
  refine hp_callVip (rest := []) E 0 fM_0_0 vcl_12 (c_X12_hasStates l hJ hq) F_X12_hasStates m_RX12_303 ⟨rfl, rfl⟩ ⟨Nat.le_of_ble_eq_true rfl, Nat.le_of_ble_eq_true rfl⟩ ⟨Nat.zero_le _, Nat.zero_le _⟩ rfl rfl (Nat.le_of_ble_eq_true rfl) dX12_letter_1 (fun r1 hq => ?_)
  refine hp_if_ne E 10 dX12_letter_4 (by decide) (fun c2 => ?_) (fun c2 => ?_)
  · replace hq := hq.2 c2
    refine hp_aload_n E 0 dX12_letter_10 rfl rfl ?_
    refine hp_iload_n E 1 dX12_letter_11 rfl rfl ?_
    refine hp_callVip (rest := []) E 0 fM_0_0 vcl_12 (c_X12_isState l hJ hq) F_X12_isState m_RX12_306 ⟨rfl, rfl⟩ ⟨Nat.le_of_ble_eq_true rfl, Nat.le_of_ble_eq_true rfl⟩ ⟨Nat.zero_le _, Nat.zero_le _⟩ rfl rfl (Nat.le_of_ble_eq_true rfl) dX12_letter_12 (fun r3 hq => ?_)
    refine hp_if_eq E 26 dX12_letter_15 (by decide) (fun c4 => ?_) (fun c4 => ?_)
    · replace hq := hq.1 c4
      refine hp_bipush E (-2) dX12_letter_26 (by decide) ?_
      exact hp_iret E ⟨hq, rfl⟩ hZ dX12_letter_28
    · replace hq := hq.2 c4
      refine hp_aload_n E 0 dX12_letter_18 rfl rfl ?_
      refine hp_iload_n E 2 dX12_letter_19 rfl rfl ?_
      refine hp_callVip (rest := []) E 0 fM_0_0 vcl_12 (c_X12_isChannel l hJ hq) F_X12_isChannel m_RX12_196 ⟨rfl, rfl⟩ ⟨Nat.le_of_ble_eq_true rfl, Nat.le_of_ble_eq_true rfl⟩ ⟨Nat.zero_le _, Nat.zero_le _⟩ rfl rfl (Nat.le_of_ble_eq_true rfl) dX12_letter_20 (fun r5 hq => ?_)
      refine hp_if_ne E 29 dX12_letter_23 (by decide) (fun c6 => ?_) (fun c6 => ?_)
      · replace hq := hq.2 c6
        refine hp_iload_n E 3 dX12_letter_29 rfl rfl ?_
        refine hp_iconst E (nI 0) dX12_letter_30 (by decide) ?_
        refine hp_aload_n E 0 dX12_letter_31 rfl rfl ?_
        refine hp_iload_n E 1 dX12_letter_32 rfl rfl ?_
        refine hp_iload_n E 2 dX12_letter_33 rfl rfl ?_
        refine hp_callSip (rest := [.int a1, .ref (ad 0), .int (nI 0), .int a3]) E (c_X12_channelAt l hJ hq) F_X12_channelAt m_RX12_223 ⟨rfl, rfl⟩ ⟨Nat.le_of_ble_eq_true rfl, Nat.le_of_ble_eq_true rfl⟩ ⟨Nat.zero_le _, Nat.zero_le _⟩ rfl rfl (Nat.le_of_ble_eq_true rfl) dX12_letter_34 (fun r7 hq => ?_)
        refine hp_callVip (rest := [.int (nI 0), .int a3]) E 0 fM_0_0 vcl_12 (c_X12_cell l hJ hq) F_X12_cell m_RX12_216 ⟨rfl, rfl⟩ ⟨Nat.le_of_ble_eq_true rfl, Nat.le_of_ble_eq_true rfl⟩ ⟨Nat.zero_le _, Nat.zero_le _⟩ rfl rfl (Nat.le_of_ble_eq_true rfl) dX12_letter_37 (fun r8 hq => ?_)
        refine hp_iconst E (nI 1) dX12_letter_40 (by decide) ?_
        refine hp_isub E dX12_letter_41 ?_
        refine hp_callSip (rest := []) E (c_X12_in l hJ hq) F_X12_in m_RX12_156 ⟨rfl, rfl⟩ ⟨Nat.le_of_ble_eq_true rfl, Nat.le_of_ble_eq_true rfl⟩ ⟨Nat.zero_le _, Nat.zero_le _⟩ rfl rfl (Nat.le_of_ble_eq_true rfl) dX12_letter_42 (fun r9 hq => ?_)
        refine hp_if_eq E 64 dX12_letter_45 (by decide) (fun c10 => ?_) (fun c10 => ?_)
        · replace hq := hq.1 c10
          refine hp_iconst E (-1) dX12_letter_64 (by decide) ?_
          exact hp_iret E ⟨hq, rfl⟩ hZ dX12_letter_65
        · replace hq := hq.2 c10
          refine hp_aload_n E 0 dX12_letter_48 rfl rfl ?_
          refine hp_iload_n E 1 dX12_letter_49 rfl rfl ?_
          refine hp_iload_n E 2 dX12_letter_50 rfl rfl ?_
          refine hp_callSip (rest := [.int a1, .ref (ad 0)]) E (c_X12_channelAt l hJ hq) F_X12_channelAt m_RX12_223 ⟨rfl, rfl⟩ ⟨Nat.le_of_ble_eq_true rfl, Nat.le_of_ble_eq_true rfl⟩ ⟨Nat.zero_le _, Nat.zero_le _⟩ rfl rfl (Nat.le_of_ble_eq_true rfl) dX12_letter_51 (fun r11 hq => ?_)
          refine hp_iconst E (nI 1) dX12_letter_54 (by decide) ?_
          refine hp_iadd E dX12_letter_55 ?_
          refine hp_iload_n E 3 dX12_letter_56 rfl rfl ?_
          refine hp_iadd E dX12_letter_57 ?_
          refine hp_callVip (rest := []) E 0 fM_0_0 vcl_12 (c_X12_cell l hJ hq) F_X12_cell m_RX12_216 ⟨rfl, rfl⟩ ⟨Nat.le_of_ble_eq_true rfl, Nat.le_of_ble_eq_true rfl⟩ ⟨Nat.zero_le _, Nat.zero_le _⟩ rfl rfl (Nat.le_of_ble_eq_true rfl) dX12_letter_58 (fun r12 hq => ?_)
          refine hp_goto E 65 dX12_letter_61 (by decide) ?_
          exact hp_iret E ⟨hq, rfl⟩ hZ dX12_letter_65
      · replace hq := hq.1 c6
        refine hp_bipush E (-2) dX12_letter_26 (by decide) ?_
        exact hp_iret E ⟨hq, rfl⟩ hZ dX12_letter_28
  · replace hq := hq.1 c2
    refine hp_bipush E (-5) dX12_letter_7 (by decide) ?_
    exact hp_iret E ⟨hq, rfl⟩ hZ dX12_letter_9
theorem dX12_movesOf_0 : decode cX12_movesOf 0 = .ok (.aload_n 0, 1) := by decide +kernel
theorem dX12_movesOf_1 : decode cX12_movesOf 1 = .ok (.getfield 101, 3) := by decide +kernel
theorem dX12_movesOf_4 : decode cX12_movesOf 4 = .ok (.iload_n 1, 1) := by decide +kernel
theorem dX12_movesOf_5 : decode cX12_movesOf 5 = .ok (.iconst 1, 1) := by decide +kernel
theorem dX12_movesOf_6 : decode cX12_movesOf 6 = .ok (.iadd, 1) := by decide +kernel
theorem dX12_movesOf_7 : decode cX12_movesOf 7 = .ok (.iaload, 1) := by decide +kernel
theorem dX12_movesOf_8 : decode cX12_movesOf 8 = .ok (.aload_n 0, 1) := by decide +kernel
theorem dX12_movesOf_9 : decode cX12_movesOf 9 = .ok (.getfield 101, 3) := by decide +kernel
theorem dX12_movesOf_12 : decode cX12_movesOf 12 = .ok (.iload_n 1, 1) := by decide +kernel
theorem dX12_movesOf_13 : decode cX12_movesOf 13 = .ok (.iaload, 1) := by decide +kernel
theorem dX12_movesOf_14 : decode cX12_movesOf 14 = .ok (.isub, 1) := by decide +kernel
theorem dX12_movesOf_15 : decode cX12_movesOf 15 = .ok (.ireturn, 1) := by decide +kernel
set_option maxHeartbeats 4000000 in
set_option maxRecDepth 100000 in
theorem c_X12_movesOf (l : Launch) {cs : Nat → ClassId} {ad : Nat → Nat} {A : Nat → Prop} {D : va_G} (hJ : hp_J SM ad A)   {h : hp_H} {a1 : Int32} {Q : Int32 → Prop} (hq : q_X12_movesOf h a1 Q) : hp_Mi l yX12_movesOf cX12_movesOf 2 (some .int) rm_X12_movesOf [.ref (ad 0), .int a1] SM cs ad A D h (fun r h' => Q r ∧ h' = h) := by
  refine hp_met (own := RX12) rfl (by decide) (Nat.le_of_ble_eq_true rfl) rfl (fun p e s m args below meth c Z E hZ hnm => ?_)
  refine hp_sub (lv' := [(0, .ref (ad 0)), (1, .int a1)]) [0, 1] rfl ?_
  unfold q_X12_movesOf at hq
  refine hp_aload_n E 0 dX12_movesOf_0 rfl rfl ?_
  refine hp_gR E g_RX12_101 fM_0_41 dX12_movesOf_1 ?_
  refine hp_iload_n E 1 dX12_movesOf_4 rfl rfl ?_
  refine hp_iconst E (nI 1) dX12_movesOf_5 (by decide) ?_
  refine hp_iadd E dX12_movesOf_6 ?_
  refine hp_iald E 31 aM_31 hq.1 dX12_movesOf_7 ?_
  replace hq := hq.2
  refine hp_aload_n E 0 dX12_movesOf_8 rfl rfl ?_
  refine hp_gR E g_RX12_101 fM_0_41 dX12_movesOf_9 ?_
  refine hp_iload_n E 1 dX12_movesOf_12 rfl rfl ?_
  refine hp_iald E 31 aM_31 hq.1 dX12_movesOf_13 ?_
  replace hq := hq.2
  refine hp_isub E dX12_movesOf_14 ?_
  exact hp_iret E ⟨hq, rfl⟩ hZ dX12_movesOf_15
theorem dX12_moves_0 : decode cX12_moves 0 = .ok (.aload_n 0, 1) := by decide +kernel
theorem dX12_moves_1 : decode cX12_moves 1 = .ok (.invokevirtual 303, 3) := by decide +kernel
theorem dX12_moves_4 : decode cX12_moves 4 = .ok (.ifCond .ne 6, 3) := by decide +kernel
theorem dX12_moves_7 : decode cX12_moves 7 = .ok (.bipush (-5), 2) := by decide +kernel
theorem dX12_moves_9 : decode cX12_moves 9 = .ok (.ireturn, 1) := by decide +kernel
theorem dX12_moves_10 : decode cX12_moves 10 = .ok (.aload_n 0, 1) := by decide +kernel
theorem dX12_moves_11 : decode cX12_moves 11 = .ok (.iload_n 1, 1) := by decide +kernel
theorem dX12_moves_12 : decode cX12_moves 12 = .ok (.invokevirtual 306, 3) := by decide +kernel
theorem dX12_moves_15 : decode cX12_moves 15 = .ok (.ifCond .eq 11, 3) := by decide +kernel
theorem dX12_moves_18 : decode cX12_moves 18 = .ok (.aload_n 0, 1) := by decide +kernel
theorem dX12_moves_19 : decode cX12_moves 19 = .ok (.iload_n 1, 1) := by decide +kernel
theorem dX12_moves_20 : decode cX12_moves 20 = .ok (.invokevirtual 313, 3) := by decide +kernel
theorem dX12_moves_23 : decode cX12_moves 23 = .ok (.goto 5, 3) := by decide +kernel
theorem dX12_moves_26 : decode cX12_moves 26 = .ok (.bipush (-2), 2) := by decide +kernel
theorem dX12_moves_28 : decode cX12_moves 28 = .ok (.ireturn, 1) := by decide +kernel
set_option maxHeartbeats 4000000 in
set_option maxRecDepth 100000 in
theorem c_X12_moves (l : Launch) {cs : Nat → ClassId} {ad : Nat → Nat} {A : Nat → Prop} {D : va_G} (hJ : hp_J SM ad A)   {h : hp_H} {a1 : Int32} {Q : Int32 → Prop} (hq : q_X12_moves h a1 Q) : hp_Mi l yX12_moves cX12_moves 2 (some .int) rm_X12_moves [.ref (ad 0), .int a1] SM cs ad A D h (fun r h' => Q r ∧ h' = h) := by
  refine hp_met (own := RX12) rfl (by decide) (Nat.le_of_ble_eq_true rfl) rfl (fun p e s m args below meth c Z E hZ hnm => ?_)
  refine hp_sub (lv' := [(0, .ref (ad 0)), (1, .int a1)]) [0, 1] rfl ?_
  unfold q_X12_moves at hq
  refine hp_aload_n E 0 dX12_moves_0 rfl rfl ?_
  refine hp_callVip (rest := []) E 0 fM_0_0 vcl_12 (c_X12_hasStates l hJ hq) F_X12_hasStates m_RX12_303 ⟨rfl, rfl⟩ ⟨Nat.le_of_ble_eq_true rfl, Nat.le_of_ble_eq_true rfl⟩ ⟨Nat.zero_le _, Nat.zero_le _⟩ rfl rfl (Nat.le_of_ble_eq_true rfl) dX12_moves_1 (fun r1 hq => ?_)
  refine hp_if_ne E 10 dX12_moves_4 (by decide) (fun c2 => ?_) (fun c2 => ?_)
  · replace hq := hq.2 c2
    refine hp_aload_n E 0 dX12_moves_10 rfl rfl ?_
    refine hp_iload_n E 1 dX12_moves_11 rfl rfl ?_
    refine hp_callVip (rest := []) E 0 fM_0_0 vcl_12 (c_X12_isState l hJ hq) F_X12_isState m_RX12_306 ⟨rfl, rfl⟩ ⟨Nat.le_of_ble_eq_true rfl, Nat.le_of_ble_eq_true rfl⟩ ⟨Nat.zero_le _, Nat.zero_le _⟩ rfl rfl (Nat.le_of_ble_eq_true rfl) dX12_moves_12 (fun r3 hq => ?_)
    refine hp_if_eq E 26 dX12_moves_15 (by decide) (fun c4 => ?_) (fun c4 => ?_)
    · replace hq := hq.1 c4
      refine hp_bipush E (-2) dX12_moves_26 (by decide) ?_
      exact hp_iret E ⟨hq, rfl⟩ hZ dX12_moves_28
    · replace hq := hq.2 c4
      refine hp_aload_n E 0 dX12_moves_18 rfl rfl ?_
      refine hp_iload_n E 1 dX12_moves_19 rfl rfl ?_
      refine hp_callVip (rest := []) E 0 fM_0_0 vcl_12 (c_X12_movesOf l hJ hq) F_X12_movesOf m_RX12_313 ⟨rfl, rfl⟩ ⟨Nat.le_of_ble_eq_true rfl, Nat.le_of_ble_eq_true rfl⟩ ⟨Nat.zero_le _, Nat.zero_le _⟩ rfl rfl (Nat.le_of_ble_eq_true rfl) dX12_moves_20 (fun r5 hq => ?_)
      refine hp_goto E 28 dX12_moves_23 (by decide) ?_
      exact hp_iret E ⟨hq, rfl⟩ hZ dX12_moves_28
  · replace hq := hq.1 c2
    refine hp_bipush E (-5) dX12_moves_7 (by decide) ?_
    exact hp_iret E ⟨hq, rfl⟩ hZ dX12_moves_9
theorem dX12_move_0 : decode cX12_move 0 = .ok (.aload_n 0, 1) := by decide +kernel
theorem dX12_move_1 : decode cX12_move 1 = .ok (.invokevirtual 303, 3) := by decide +kernel
theorem dX12_move_4 : decode cX12_move 4 = .ok (.ifCond .ne 6, 3) := by decide +kernel
theorem dX12_move_7 : decode cX12_move 7 = .ok (.bipush (-5), 2) := by decide +kernel
theorem dX12_move_9 : decode cX12_move 9 = .ok (.ireturn, 1) := by decide +kernel
theorem dX12_move_10 : decode cX12_move 10 = .ok (.aload_n 0, 1) := by decide +kernel
theorem dX12_move_11 : decode cX12_move 11 = .ok (.iload_n 1, 1) := by decide +kernel
theorem dX12_move_12 : decode cX12_move 12 = .ok (.invokevirtual 306, 3) := by decide +kernel
theorem dX12_move_15 : decode cX12_move 15 = .ok (.ifCond .eq 18, 3) := by decide +kernel
theorem dX12_move_18 : decode cX12_move 18 = .ok (.iload_n 2, 1) := by decide +kernel
theorem dX12_move_19 : decode cX12_move 19 = .ok (.iconst 0, 1) := by decide +kernel
theorem dX12_move_20 : decode cX12_move 20 = .ok (.aload_n 0, 1) := by decide +kernel
theorem dX12_move_21 : decode cX12_move 21 = .ok (.iload_n 1, 1) := by decide +kernel
theorem dX12_move_22 : decode cX12_move 22 = .ok (.invokevirtual 313, 3) := by decide +kernel
theorem dX12_move_25 : decode cX12_move 25 = .ok (.iconst 1, 1) := by decide +kernel
theorem dX12_move_26 : decode cX12_move 26 = .ok (.isub, 1) := by decide +kernel
theorem dX12_move_27 : decode cX12_move 27 = .ok (.invokestatic 156, 3) := by decide +kernel
theorem dX12_move_30 : decode cX12_move 30 = .ok (.ifCond .ne 6, 3) := by decide +kernel
theorem dX12_move_33 : decode cX12_move 33 = .ok (.bipush (-2), 2) := by decide +kernel
theorem dX12_move_35 : decode cX12_move 35 = .ok (.ireturn, 1) := by decide +kernel
theorem dX12_move_36 : decode cX12_move 36 = .ok (.aload_n 0, 1) := by decide +kernel
theorem dX12_move_37 : decode cX12_move 37 = .ok (.getfield 101, 3) := by decide +kernel
theorem dX12_move_40 : decode cX12_move 40 = .ok (.iload_n 1, 1) := by decide +kernel
theorem dX12_move_41 : decode cX12_move 41 = .ok (.iaload, 1) := by decide +kernel
theorem dX12_move_42 : decode cX12_move 42 = .ok (.iload_n 2, 1) := by decide +kernel
theorem dX12_move_43 : decode cX12_move 43 = .ok (.iadd, 1) := by decide +kernel
theorem dX12_move_44 : decode cX12_move 44 = .ok (.istore 4, 2) := by decide +kernel
theorem dX12_move_46 : decode cX12_move 46 = .ok (.iload_n 3, 1) := by decide +kernel
theorem dX12_move_47 : decode cX12_move 47 = .ok (.tableswitch 61 0 3 #[29, 37, 45, 53], 29) := by decide +kernel
theorem dX12_move_76 : decode cX12_move 76 = .ok (.aload_n 0, 1) := by decide +kernel
theorem dX12_move_77 : decode cX12_move 77 = .ok (.getfield 104, 3) := by decide +kernel
theorem dX12_move_80 : decode cX12_move 80 = .ok (.iload 4, 2) := by decide +kernel
theorem dX12_move_82 : decode cX12_move 82 = .ok (.iaload, 1) := by decide +kernel
theorem dX12_move_83 : decode cX12_move 83 = .ok (.ireturn, 1) := by decide +kernel
theorem dX12_move_84 : decode cX12_move 84 = .ok (.aload_n 0, 1) := by decide +kernel
theorem dX12_move_85 : decode cX12_move 85 = .ok (.getfield 107, 3) := by decide +kernel
theorem dX12_move_88 : decode cX12_move 88 = .ok (.iload 4, 2) := by decide +kernel
theorem dX12_move_90 : decode cX12_move 90 = .ok (.iaload, 1) := by decide +kernel
theorem dX12_move_91 : decode cX12_move 91 = .ok (.ireturn, 1) := by decide +kernel
theorem dX12_move_92 : decode cX12_move 92 = .ok (.aload_n 0, 1) := by decide +kernel
theorem dX12_move_93 : decode cX12_move 93 = .ok (.getfield 110, 3) := by decide +kernel
theorem dX12_move_96 : decode cX12_move 96 = .ok (.iload 4, 2) := by decide +kernel
theorem dX12_move_98 : decode cX12_move 98 = .ok (.iaload, 1) := by decide +kernel
theorem dX12_move_99 : decode cX12_move 99 = .ok (.ireturn, 1) := by decide +kernel
theorem dX12_move_100 : decode cX12_move 100 = .ok (.aload_n 0, 1) := by decide +kernel
theorem dX12_move_101 : decode cX12_move 101 = .ok (.getfield 113, 3) := by decide +kernel
theorem dX12_move_104 : decode cX12_move 104 = .ok (.iload 4, 2) := by decide +kernel
theorem dX12_move_106 : decode cX12_move 106 = .ok (.iaload, 1) := by decide +kernel
theorem dX12_move_107 : decode cX12_move 107 = .ok (.ireturn, 1) := by decide +kernel
theorem dX12_move_108 : decode cX12_move 108 = .ok (.bipush (-3), 2) := by decide +kernel
theorem dX12_move_110 : decode cX12_move 110 = .ok (.ireturn, 1) := by decide +kernel
set_option maxHeartbeats 4000000 in
set_option maxRecDepth 100000 in
theorem c_X12_move (l : Launch) {cs : Nat → ClassId} {ad : Nat → Nat} {A : Nat → Prop} {D : va_G} (hJ : hp_J SM ad A)   {h : hp_H} {a1 a2 a3 : Int32} {Q : Int32 → Prop} (hq : q_X12_move h a1 a2 a3 Q) : hp_Mi l yX12_move cX12_move 5 (some .int) rm_X12_move [.ref (ad 0), .int a1, .int a2, .int a3] SM cs ad A D h (fun r h' => Q r ∧ h' = h) := by
  refine hp_met (own := RX12) rfl (by decide) (Nat.le_of_ble_eq_true rfl) rfl (fun p e s m args below meth c Z E hZ hnm => ?_)
  refine hp_sub (lv' := [(0, .ref (ad 0)), (1, .int a1), (2, .int a2), (3, .int a3)]) [0, 1, 2, 3] rfl ?_
  unfold q_X12_move at hq
  refine hp_aload_n E 0 dX12_move_0 rfl rfl ?_
  refine hp_callVip (rest := []) E 0 fM_0_0 vcl_12 (c_X12_hasStates l hJ hq) F_X12_hasStates m_RX12_303 ⟨rfl, rfl⟩ ⟨Nat.le_of_ble_eq_true rfl, Nat.le_of_ble_eq_true rfl⟩ ⟨Nat.zero_le _, Nat.zero_le _⟩ rfl rfl (Nat.le_of_ble_eq_true rfl) dX12_move_1 (fun r1 hq => ?_)
  refine hp_if_ne E 10 dX12_move_4 (by decide) (fun c2 => ?_) (fun c2 => ?_)
  · replace hq := hq.2 c2
    refine hp_aload_n E 0 dX12_move_10 rfl rfl ?_
    refine hp_iload_n E 1 dX12_move_11 rfl rfl ?_
    refine hp_callVip (rest := []) E 0 fM_0_0 vcl_12 (c_X12_isState l hJ hq) F_X12_isState m_RX12_306 ⟨rfl, rfl⟩ ⟨Nat.le_of_ble_eq_true rfl, Nat.le_of_ble_eq_true rfl⟩ ⟨Nat.zero_le _, Nat.zero_le _⟩ rfl rfl (Nat.le_of_ble_eq_true rfl) dX12_move_12 (fun r3 hq => ?_)
    refine hp_if_eq E 33 dX12_move_15 (by decide) (fun c4 => ?_) (fun c4 => ?_)
    · replace hq := hq.1 c4
      refine hp_bipush E (-2) dX12_move_33 (by decide) ?_
      exact hp_iret E ⟨hq, rfl⟩ hZ dX12_move_35
    · replace hq := hq.2 c4
      refine hp_iload_n E 2 dX12_move_18 rfl rfl ?_
      refine hp_iconst E (nI 0) dX12_move_19 (by decide) ?_
      refine hp_aload_n E 0 dX12_move_20 rfl rfl ?_
      refine hp_iload_n E 1 dX12_move_21 rfl rfl ?_
      refine hp_callVip (rest := [.int (nI 0), .int a2]) E 0 fM_0_0 vcl_12 (c_X12_movesOf l hJ hq) F_X12_movesOf m_RX12_313 ⟨rfl, rfl⟩ ⟨Nat.le_of_ble_eq_true rfl, Nat.le_of_ble_eq_true rfl⟩ ⟨Nat.zero_le _, Nat.zero_le _⟩ rfl rfl (Nat.le_of_ble_eq_true rfl) dX12_move_22 (fun r5 hq => ?_)
      refine hp_iconst E (nI 1) dX12_move_25 (by decide) ?_
      refine hp_isub E dX12_move_26 ?_
      refine hp_callSip (rest := []) E (c_X12_in l hJ hq) F_X12_in m_RX12_156 ⟨rfl, rfl⟩ ⟨Nat.le_of_ble_eq_true rfl, Nat.le_of_ble_eq_true rfl⟩ ⟨Nat.zero_le _, Nat.zero_le _⟩ rfl rfl (Nat.le_of_ble_eq_true rfl) dX12_move_27 (fun r6 hq => ?_)
      refine hp_if_ne E 36 dX12_move_30 (by decide) (fun c7 => ?_) (fun c7 => ?_)
      · replace hq := hq.2 c7
        refine hp_aload_n E 0 dX12_move_36 rfl rfl ?_
        refine hp_gR E g_RX12_101 fM_0_41 dX12_move_37 ?_
        refine hp_iload_n E 1 dX12_move_40 rfl rfl ?_
        refine hp_iald E 31 aM_31 hq.1 dX12_move_41 ?_
        replace hq := hq.2
        refine hp_iload_n E 2 dX12_move_42 rfl rfl ?_
        refine hp_iadd E dX12_move_43 ?_
        refine hp_topi (fun v8 ev8 => ?_)
        replace hq := hq v8 ev8
        refine hp_istore (lv' := [(0, .ref (ad 0)), (1, .int a1), (2, .int a2), (3, .int a3), (4, .int v8)]) E dX12_move_44 (by decide) rfl rfl ?_
        refine hp_iload_n E 3 dX12_move_46 rfl rfl ?_
        by_cases c9 : a3 = (nI 0)
        · replace hq := hq.1 (c9)
          refine hp_tswV (off := 29) E (nI 0) 76 dX12_move_47 c9 (by decide) (by decide) (by decide) (by decide) ?_
          refine hp_aload_n E 0 dX12_move_76 rfl rfl ?_
          refine hp_gR E g_RX12_104 fM_0_42 dX12_move_77 ?_
          refine hp_iload E 4 dX12_move_80 rfl ?_
          refine hp_iald E 32 aM_32 hq.1 dX12_move_82 ?_
          replace hq := hq.2
          exact hp_iret E ⟨hq, rfl⟩ hZ dX12_move_83
        by_cases c10 : a3 = (nI 1)
        · replace hq := hq.2.1 (c10)
          refine hp_tswV (off := 37) E (nI 1) 84 dX12_move_47 c10 (by decide) (by decide) (by decide) (by decide) ?_
          refine hp_aload_n E 0 dX12_move_84 rfl rfl ?_
          refine hp_gR E g_RX12_107 fM_0_43 dX12_move_85 ?_
          refine hp_iload E 4 dX12_move_88 rfl ?_
          refine hp_iald E 33 aM_33 hq.1 dX12_move_90 ?_
          replace hq := hq.2
          exact hp_iret E ⟨hq, rfl⟩ hZ dX12_move_91
        by_cases c11 : a3 = (nI 2)
        · replace hq := hq.2.2.1 (c11)
          refine hp_tswV (off := 45) E (nI 2) 92 dX12_move_47 c11 (by decide) (by decide) (by decide) (by decide) ?_
          refine hp_aload_n E 0 dX12_move_92 rfl rfl ?_
          refine hp_gR E g_RX12_110 fM_0_44 dX12_move_93 ?_
          refine hp_iload E 4 dX12_move_96 rfl ?_
          refine hp_iald E 34 aM_34 hq.1 dX12_move_98 ?_
          replace hq := hq.2
          exact hp_iret E ⟨hq, rfl⟩ hZ dX12_move_99
        by_cases c12 : a3 = (nI 3)
        · replace hq := hq.2.2.2.1 (c12)
          refine hp_tswV (off := 53) E (nI 3) 100 dX12_move_47 c12 (by decide) (by decide) (by decide) (by decide) ?_
          refine hp_aload_n E 0 dX12_move_100 rfl rfl ?_
          refine hp_gR E g_RX12_113 fM_0_45 dX12_move_101 ?_
          refine hp_iload E 4 dX12_move_104 rfl ?_
          refine hp_iald E 35 aM_35 hq.1 dX12_move_106 ?_
          replace hq := hq.2
          exact hp_iret E ⟨hq, rfl⟩ hZ dX12_move_107
        replace hq := hq.2.2.2.2 ⟨c9, c10, c11, c12⟩
        refine hp_tswD E 108 dX12_move_47 (hp_out (fun i h1 h2 => ?_)) (by decide) ?_
        · rcases (show i = 0 ∨ i = 1 ∨ i = 2 ∨ i = 3 by omega) with rfl | rfl | rfl | rfl
          · exact hp_nat c9 (by decide)
          · exact hp_nat c10 (by decide)
          · exact hp_nat c11 (by decide)
          · exact hp_nat c12 (by decide)
        · refine hp_bipush E (-3) dX12_move_108 (by decide) ?_
          exact hp_iret E ⟨hq, rfl⟩ hZ dX12_move_110
      · replace hq := hq.1 c7
        refine hp_bipush E (-2) dX12_move_33 (by decide) ?_
        exact hp_iret E ⟨hq, rfl⟩ hZ dX12_move_35
  · replace hq := hq.1 c2
    refine hp_bipush E (-5) dX12_move_7 (by decide) ?_
    exact hp_iret E ⟨hq, rfl⟩ hZ dX12_move_9
theorem dX12_depth_0 : decode cX12_depth 0 = .ok (.aload_n 0, 1) := by decide +kernel
theorem dX12_depth_1 : decode cX12_depth 1 = .ok (.invokevirtual 303, 3) := by decide +kernel
theorem dX12_depth_4 : decode cX12_depth 4 = .ok (.ifCond .ne 6, 3) := by decide +kernel
theorem dX12_depth_7 : decode cX12_depth 7 = .ok (.bipush (-5), 2) := by decide +kernel
theorem dX12_depth_9 : decode cX12_depth 9 = .ok (.ireturn, 1) := by decide +kernel
theorem dX12_depth_10 : decode cX12_depth 10 = .ok (.aload_n 0, 1) := by decide +kernel
theorem dX12_depth_11 : decode cX12_depth 11 = .ok (.iload_n 1, 1) := by decide +kernel
theorem dX12_depth_12 : decode cX12_depth 12 = .ok (.invokevirtual 306, 3) := by decide +kernel
theorem dX12_depth_15 : decode cX12_depth 15 = .ok (.ifCond .eq 12, 3) := by decide +kernel
theorem dX12_depth_18 : decode cX12_depth 18 = .ok (.aload_n 0, 1) := by decide +kernel
theorem dX12_depth_19 : decode cX12_depth 19 = .ok (.getfield 98, 3) := by decide +kernel
theorem dX12_depth_22 : decode cX12_depth 22 = .ok (.iload_n 1, 1) := by decide +kernel
theorem dX12_depth_23 : decode cX12_depth 23 = .ok (.iaload, 1) := by decide +kernel
theorem dX12_depth_24 : decode cX12_depth 24 = .ok (.goto 5, 3) := by decide +kernel
theorem dX12_depth_27 : decode cX12_depth 27 = .ok (.bipush (-2), 2) := by decide +kernel
theorem dX12_depth_29 : decode cX12_depth 29 = .ok (.ireturn, 1) := by decide +kernel
set_option maxHeartbeats 4000000 in
set_option maxRecDepth 100000 in
theorem c_X12_depth (l : Launch) {cs : Nat → ClassId} {ad : Nat → Nat} {A : Nat → Prop} {D : va_G} (hJ : hp_J SM ad A)   {h : hp_H} {a1 : Int32} {Q : Int32 → Prop} (hq : q_X12_depth h a1 Q) : hp_Mi l yX12_depth cX12_depth 2 (some .int) rm_X12_depth [.ref (ad 0), .int a1] SM cs ad A D h (fun r h' => Q r ∧ h' = h) := by
  refine hp_met (own := RX12) rfl (by decide) (Nat.le_of_ble_eq_true rfl) rfl (fun p e s m args below meth c Z E hZ hnm => ?_)
  refine hp_sub (lv' := [(0, .ref (ad 0)), (1, .int a1)]) [0, 1] rfl ?_
  unfold q_X12_depth at hq
  refine hp_aload_n E 0 dX12_depth_0 rfl rfl ?_
  refine hp_callVip (rest := []) E 0 fM_0_0 vcl_12 (c_X12_hasStates l hJ hq) F_X12_hasStates m_RX12_303 ⟨rfl, rfl⟩ ⟨Nat.le_of_ble_eq_true rfl, Nat.le_of_ble_eq_true rfl⟩ ⟨Nat.zero_le _, Nat.zero_le _⟩ rfl rfl (Nat.le_of_ble_eq_true rfl) dX12_depth_1 (fun r1 hq => ?_)
  refine hp_if_ne E 10 dX12_depth_4 (by decide) (fun c2 => ?_) (fun c2 => ?_)
  · replace hq := hq.2 c2
    refine hp_aload_n E 0 dX12_depth_10 rfl rfl ?_
    refine hp_iload_n E 1 dX12_depth_11 rfl rfl ?_
    refine hp_callVip (rest := []) E 0 fM_0_0 vcl_12 (c_X12_isState l hJ hq) F_X12_isState m_RX12_306 ⟨rfl, rfl⟩ ⟨Nat.le_of_ble_eq_true rfl, Nat.le_of_ble_eq_true rfl⟩ ⟨Nat.zero_le _, Nat.zero_le _⟩ rfl rfl (Nat.le_of_ble_eq_true rfl) dX12_depth_12 (fun r3 hq => ?_)
    refine hp_if_eq E 27 dX12_depth_15 (by decide) (fun c4 => ?_) (fun c4 => ?_)
    · replace hq := hq.1 c4
      refine hp_bipush E (-2) dX12_depth_27 (by decide) ?_
      exact hp_iret E ⟨hq, rfl⟩ hZ dX12_depth_29
    · replace hq := hq.2 c4
      refine hp_aload_n E 0 dX12_depth_18 rfl rfl ?_
      refine hp_gR E g_RX12_98 fM_0_39 dX12_depth_19 ?_
      refine hp_iload_n E 1 dX12_depth_22 rfl rfl ?_
      refine hp_iald E 30 aM_30 hq.1 dX12_depth_23 ?_
      replace hq := hq.2
      refine hp_goto E 29 dX12_depth_24 (by decide) ?_
      exact hp_iret E ⟨hq, rfl⟩ hZ dX12_depth_29
  · replace hq := hq.1 c2
    refine hp_bipush E (-5) dX12_depth_7 (by decide) ?_
    exact hp_iret E ⟨hq, rfl⟩ hZ dX12_depth_9
theorem dX12_came_0 : decode cX12_came 0 = .ok (.aload_n 0, 1) := by decide +kernel
theorem dX12_came_1 : decode cX12_came 1 = .ok (.invokevirtual 303, 3) := by decide +kernel
theorem dX12_came_4 : decode cX12_came 4 = .ok (.ifCond .ne 6, 3) := by decide +kernel
theorem dX12_came_7 : decode cX12_came 7 = .ok (.bipush (-5), 2) := by decide +kernel
theorem dX12_came_9 : decode cX12_came 9 = .ok (.ireturn, 1) := by decide +kernel
theorem dX12_came_10 : decode cX12_came 10 = .ok (.aload_n 0, 1) := by decide +kernel
theorem dX12_came_11 : decode cX12_came 11 = .ok (.iload_n 1, 1) := by decide +kernel
theorem dX12_came_12 : decode cX12_came 12 = .ok (.invokevirtual 306, 3) := by decide +kernel
theorem dX12_came_15 : decode cX12_came 15 = .ok (.ifCond .ne 6, 3) := by decide +kernel
theorem dX12_came_18 : decode cX12_came 18 = .ok (.bipush (-2), 2) := by decide +kernel
theorem dX12_came_20 : decode cX12_came 20 = .ok (.ireturn, 1) := by decide +kernel
theorem dX12_came_21 : decode cX12_came 21 = .ok (.iload_n 2, 1) := by decide +kernel
theorem dX12_came_22 : decode cX12_came 22 = .ok (.iconst 0, 1) := by decide +kernel
theorem dX12_came_23 : decode cX12_came 23 = .ok (.iconst 1, 1) := by decide +kernel
theorem dX12_came_24 : decode cX12_came 24 = .ok (.invokestatic 156, 3) := by decide +kernel
theorem dX12_came_27 : decode cX12_came 27 = .ok (.ifCond .ne 6, 3) := by decide +kernel
theorem dX12_came_30 : decode cX12_came 30 = .ok (.bipush (-3), 2) := by decide +kernel
theorem dX12_came_32 : decode cX12_came 32 = .ok (.ireturn, 1) := by decide +kernel
theorem dX12_came_33 : decode cX12_came 33 = .ok (.iload_n 2, 1) := by decide +kernel
theorem dX12_came_34 : decode cX12_came 34 = .ok (.ifCond .ne 12, 3) := by decide +kernel
theorem dX12_came_37 : decode cX12_came 37 = .ok (.aload_n 0, 1) := by decide +kernel
theorem dX12_came_38 : decode cX12_came 38 = .ok (.getfield 92, 3) := by decide +kernel
theorem dX12_came_41 : decode cX12_came 41 = .ok (.iload_n 1, 1) := by decide +kernel
theorem dX12_came_42 : decode cX12_came 42 = .ok (.iaload, 1) := by decide +kernel
theorem dX12_came_43 : decode cX12_came 43 = .ok (.goto 9, 3) := by decide +kernel
theorem dX12_came_46 : decode cX12_came 46 = .ok (.aload_n 0, 1) := by decide +kernel
theorem dX12_came_47 : decode cX12_came 47 = .ok (.getfield 95, 3) := by decide +kernel
theorem dX12_came_50 : decode cX12_came 50 = .ok (.iload_n 1, 1) := by decide +kernel
theorem dX12_came_51 : decode cX12_came 51 = .ok (.iaload, 1) := by decide +kernel
theorem dX12_came_52 : decode cX12_came 52 = .ok (.ireturn, 1) := by decide +kernel
set_option maxHeartbeats 4000000 in
set_option maxRecDepth 100000 in
theorem c_X12_came (l : Launch) {cs : Nat → ClassId} {ad : Nat → Nat} {A : Nat → Prop} {D : va_G} (hJ : hp_J SM ad A)   {h : hp_H} {a1 a2 : Int32} {Q : Int32 → Prop} (hq : q_X12_came h a1 a2 Q) : hp_Mi l yX12_came cX12_came 3 (some .int) rm_X12_came [.ref (ad 0), .int a1, .int a2] SM cs ad A D h (fun r h' => Q r ∧ h' = h) := by
  refine hp_met (own := RX12) rfl (by decide) (Nat.le_of_ble_eq_true rfl) rfl (fun p e s m args below meth c Z E hZ hnm => ?_)
  refine hp_sub (lv' := [(0, .ref (ad 0)), (1, .int a1), (2, .int a2)]) [0, 1, 2] rfl ?_
  unfold q_X12_came at hq
  refine hp_aload_n E 0 dX12_came_0 rfl rfl ?_
  refine hp_callVip (rest := []) E 0 fM_0_0 vcl_12 (c_X12_hasStates l hJ hq) F_X12_hasStates m_RX12_303 ⟨rfl, rfl⟩ ⟨Nat.le_of_ble_eq_true rfl, Nat.le_of_ble_eq_true rfl⟩ ⟨Nat.zero_le _, Nat.zero_le _⟩ rfl rfl (Nat.le_of_ble_eq_true rfl) dX12_came_1 (fun r1 hq => ?_)
  refine hp_if_ne E 10 dX12_came_4 (by decide) (fun c2 => ?_) (fun c2 => ?_)
  · replace hq := hq.2 c2
    refine hp_aload_n E 0 dX12_came_10 rfl rfl ?_
    refine hp_iload_n E 1 dX12_came_11 rfl rfl ?_
    refine hp_callVip (rest := []) E 0 fM_0_0 vcl_12 (c_X12_isState l hJ hq) F_X12_isState m_RX12_306 ⟨rfl, rfl⟩ ⟨Nat.le_of_ble_eq_true rfl, Nat.le_of_ble_eq_true rfl⟩ ⟨Nat.zero_le _, Nat.zero_le _⟩ rfl rfl (Nat.le_of_ble_eq_true rfl) dX12_came_12 (fun r3 hq => ?_)
    refine hp_if_ne E 21 dX12_came_15 (by decide) (fun c4 => ?_) (fun c4 => ?_)
    · replace hq := hq.2 c4
      refine hp_iload_n E 2 dX12_came_21 rfl rfl ?_
      refine hp_iconst E (nI 0) dX12_came_22 (by decide) ?_
      refine hp_iconst E (nI 1) dX12_came_23 (by decide) ?_
      refine hp_callSip (rest := []) E (c_X12_in l hJ hq) F_X12_in m_RX12_156 ⟨rfl, rfl⟩ ⟨Nat.le_of_ble_eq_true rfl, Nat.le_of_ble_eq_true rfl⟩ ⟨Nat.zero_le _, Nat.zero_le _⟩ rfl rfl (Nat.le_of_ble_eq_true rfl) dX12_came_24 (fun r5 hq => ?_)
      refine hp_if_ne E 33 dX12_came_27 (by decide) (fun c6 => ?_) (fun c6 => ?_)
      · replace hq := hq.2 c6
        refine hp_iload_n E 2 dX12_came_33 rfl rfl ?_
        refine hp_if_ne E 46 dX12_came_34 (by decide) (fun c7 => ?_) (fun c7 => ?_)
        · replace hq := hq.2 c7
          refine hp_aload_n E 0 dX12_came_46 rfl rfl ?_
          refine hp_gR E g_RX12_95 fM_0_38 dX12_came_47 ?_
          refine hp_iload_n E 1 dX12_came_50 rfl rfl ?_
          refine hp_iald E 29 aM_29 hq.1 dX12_came_51 ?_
          replace hq := hq.2
          exact hp_iret E ⟨hq, rfl⟩ hZ dX12_came_52
        · replace hq := hq.1 c7
          refine hp_aload_n E 0 dX12_came_37 rfl rfl ?_
          refine hp_gR E g_RX12_92 fM_0_37 dX12_came_38 ?_
          refine hp_iload_n E 1 dX12_came_41 rfl rfl ?_
          refine hp_iald E 28 aM_28 hq.1 dX12_came_42 ?_
          replace hq := hq.2
          refine hp_goto E 52 dX12_came_43 (by decide) ?_
          exact hp_iret E ⟨hq, rfl⟩ hZ dX12_came_52
      · replace hq := hq.1 c6
        refine hp_bipush E (-3) dX12_came_30 (by decide) ?_
        exact hp_iret E ⟨hq, rfl⟩ hZ dX12_came_32
    · replace hq := hq.1 c4
      refine hp_bipush E (-2) dX12_came_18 (by decide) ?_
      exact hp_iret E ⟨hq, rfl⟩ hZ dX12_came_20
  · replace hq := hq.1 c2
    refine hp_bipush E (-5) dX12_came_7 (by decide) ?_
    exact hp_iret E ⟨hq, rfl⟩ hZ dX12_came_9
theorem dX12_isStuck_0 : decode cX12_isStuck 0 = .ok (.aload_n 0, 1) := by decide +kernel
theorem dX12_isStuck_1 : decode cX12_isStuck 1 = .ok (.getfield 101, 3) := by decide +kernel
theorem dX12_isStuck_4 : decode cX12_isStuck 4 = .ok (.iload_n 1, 1) := by decide +kernel
theorem dX12_isStuck_5 : decode cX12_isStuck 5 = .ok (.iaload, 1) := by decide +kernel
theorem dX12_isStuck_6 : decode cX12_isStuck 6 = .ok (.istore_n 2, 1) := by decide +kernel
theorem dX12_isStuck_7 : decode cX12_isStuck 7 = .ok (.iload_n 2, 1) := by decide +kernel
theorem dX12_isStuck_8 : decode cX12_isStuck 8 = .ok (.aload_n 0, 1) := by decide +kernel
theorem dX12_isStuck_9 : decode cX12_isStuck 9 = .ok (.getfield 101, 3) := by decide +kernel
theorem dX12_isStuck_12 : decode cX12_isStuck 12 = .ok (.iload_n 1, 1) := by decide +kernel
theorem dX12_isStuck_13 : decode cX12_isStuck 13 = .ok (.iconst 1, 1) := by decide +kernel
theorem dX12_isStuck_14 : decode cX12_isStuck 14 = .ok (.iadd, 1) := by decide +kernel
theorem dX12_isStuck_15 : decode cX12_isStuck 15 = .ok (.iaload, 1) := by decide +kernel
theorem dX12_isStuck_16 : decode cX12_isStuck 16 = .ok (.if_icmp .ge 21, 3) := by decide +kernel
theorem dX12_isStuck_19 : decode cX12_isStuck 19 = .ok (.aload_n 0, 1) := by decide +kernel
theorem dX12_isStuck_20 : decode cX12_isStuck 20 = .ok (.getfield 107, 3) := by decide +kernel
theorem dX12_isStuck_23 : decode cX12_isStuck 23 = .ok (.iload_n 2, 1) := by decide +kernel
theorem dX12_isStuck_24 : decode cX12_isStuck 24 = .ok (.iaload, 1) := by decide +kernel
theorem dX12_isStuck_25 : decode cX12_isStuck 25 = .ok (.iconst (-1), 1) := by decide +kernel
theorem dX12_isStuck_26 : decode cX12_isStuck 26 = .ok (.if_icmp .eq 5, 3) := by decide +kernel
theorem dX12_isStuck_29 : decode cX12_isStuck 29 = .ok (.iconst 0, 1) := by decide +kernel
theorem dX12_isStuck_30 : decode cX12_isStuck 30 = .ok (.ireturn, 1) := by decide +kernel
theorem dX12_isStuck_31 : decode cX12_isStuck 31 = .ok (.iinc 2 1, 3) := by decide +kernel
theorem dX12_isStuck_34 : decode cX12_isStuck 34 = .ok (.goto (-27), 3) := by decide +kernel
theorem dX12_isStuck_37 : decode cX12_isStuck 37 = .ok (.iconst 0, 1) := by decide +kernel
theorem dX12_isStuck_38 : decode cX12_isStuck 38 = .ok (.istore_n 2, 1) := by decide +kernel
theorem dX12_isStuck_39 : decode cX12_isStuck 39 = .ok (.iload_n 2, 1) := by decide +kernel
theorem dX12_isStuck_40 : decode cX12_isStuck 40 = .ok (.aload_n 0, 1) := by decide +kernel
theorem dX12_isStuck_41 : decode cX12_isStuck 41 = .ok (.getfield 183, 3) := by decide +kernel
theorem dX12_isStuck_44 : decode cX12_isStuck 44 = .ok (.if_icmp .ge 52, 3) := by decide +kernel
theorem dX12_isStuck_47 : decode cX12_isStuck 47 = .ok (.iconst 0, 1) := by decide +kernel
theorem dX12_isStuck_48 : decode cX12_isStuck 48 = .ok (.istore_n 3, 1) := by decide +kernel
theorem dX12_isStuck_49 : decode cX12_isStuck 49 = .ok (.iload_n 3, 1) := by decide +kernel
theorem dX12_isStuck_50 : decode cX12_isStuck 50 = .ok (.aload_n 0, 1) := by decide +kernel
theorem dX12_isStuck_51 : decode cX12_isStuck 51 = .ok (.getfield 19, 3) := by decide +kernel
theorem dX12_isStuck_54 : decode cX12_isStuck 54 = .ok (.iload_n 2, 1) := by decide +kernel
theorem dX12_isStuck_55 : decode cX12_isStuck 55 = .ok (.iaload, 1) := by decide +kernel
theorem dX12_isStuck_56 : decode cX12_isStuck 56 = .ok (.if_icmp .ge 34, 3) := by decide +kernel
theorem dX12_isStuck_59 : decode cX12_isStuck 59 = .ok (.aload_n 0, 1) := by decide +kernel
theorem dX12_isStuck_60 : decode cX12_isStuck 60 = .ok (.getfield 34, 3) := by decide +kernel
theorem dX12_isStuck_63 : decode cX12_isStuck 63 = .ok (.bipush 10, 2) := by decide +kernel
theorem dX12_isStuck_65 : decode cX12_isStuck 65 = .ok (.iload_n 2, 1) := by decide +kernel
theorem dX12_isStuck_66 : decode cX12_isStuck 66 = .ok (.imul, 1) := by decide +kernel
theorem dX12_isStuck_67 : decode cX12_isStuck 67 = .ok (.aload_n 0, 1) := by decide +kernel
theorem dX12_isStuck_68 : decode cX12_isStuck 68 = .ok (.iload_n 1, 1) := by decide +kernel
theorem dX12_isStuck_69 : decode cX12_isStuck 69 = .ok (.iload_n 2, 1) := by decide +kernel
theorem dX12_isStuck_70 : decode cX12_isStuck 70 = .ok (.iload_n 3, 1) := by decide +kernel
theorem dX12_isStuck_71 : decode cX12_isStuck 71 = .ok (.invokestatic 212, 3) := by decide +kernel
theorem dX12_isStuck_74 : decode cX12_isStuck 74 = .ok (.invokevirtual 216, 3) := by decide +kernel
theorem dX12_isStuck_77 : decode cX12_isStuck 77 = .ok (.iadd, 1) := by decide +kernel
theorem dX12_isStuck_78 : decode cX12_isStuck 78 = .ok (.baload, 1) := by decide +kernel
theorem dX12_isStuck_79 : decode cX12_isStuck 79 = .ok (.ifCond .ne 5, 3) := by decide +kernel
theorem dX12_isStuck_82 : decode cX12_isStuck 82 = .ok (.iconst 1, 1) := by decide +kernel
theorem dX12_isStuck_83 : decode cX12_isStuck 83 = .ok (.ireturn, 1) := by decide +kernel
theorem dX12_isStuck_84 : decode cX12_isStuck 84 = .ok (.iinc 3 1, 3) := by decide +kernel
theorem dX12_isStuck_87 : decode cX12_isStuck 87 = .ok (.goto (-38), 3) := by decide +kernel
theorem dX12_isStuck_90 : decode cX12_isStuck 90 = .ok (.iinc 2 1, 3) := by decide +kernel
theorem dX12_isStuck_93 : decode cX12_isStuck 93 = .ok (.goto (-54), 3) := by decide +kernel
theorem dX12_isStuck_96 : decode cX12_isStuck 96 = .ok (.iconst 0, 1) := by decide +kernel
theorem dX12_isStuck_97 : decode cX12_isStuck 97 = .ok (.ireturn, 1) := by decide +kernel
set_option maxHeartbeats 4000000 in
set_option maxRecDepth 100000 in
theorem c_X12_isStuck (l : Launch) {cs : Nat → ClassId} {ad : Nat → Nat} {A : Nat → Prop} {D : va_G} (hJ : hp_J SM ad A)   {h : hp_H} {a1 : Int32} {Q : Int32 → Prop} (hq : q_X12_isStuck h a1 Q) : hp_Mi l yX12_isStuck cX12_isStuck 4 (some .boolean) rm_X12_isStuck [.ref (ad 0), .int a1] SM cs ad A D h (fun r h' => Q r ∧ h' = h) := by
  refine hp_met (own := RX12) rfl (by decide) (Nat.le_of_ble_eq_true rfl) rfl (fun p e s m args below meth c Z E hZ hnm => ?_)
  refine hp_sub (lv' := [(0, .ref (ad 0)), (1, .int a1)]) [0, 1] rfl ?_
  unfold q_X12_isStuck at hq
  refine hp_aload_n E 0 dX12_isStuck_0 rfl rfl ?_
  refine hp_gR E g_RX12_101 fM_0_41 dX12_isStuck_1 ?_
  refine hp_iload_n E 1 dX12_isStuck_4 rfl rfl ?_
  refine hp_iald E 31 aM_31 hq.1 dX12_isStuck_5 ?_
  replace hq := hq.2
  refine hp_topi (fun v1 ev1 => ?_)
  replace hq := hq v1 ev1
  refine hp_istore_n (lv' := [(0, .ref (ad 0)), (1, .int a1), (2, .int v1)]) E dX12_isStuck_6 rfl (by decide) rfl rfl ?_
  refine hq (fun v3 => hp_G p l e rm_X12_isStuck s m args below meth c SM cs ad A D 4 0 0 Z 7 [(0, .ref (ad 0)), (1, .int a1), (2, .int v3)] [] h) (fun v3 hB => ?_)
  obtain ⟨B2, hq, hB2⟩ := hB
  refine hp_iload_n E 2 dX12_isStuck_7 rfl rfl ?_
  refine hp_aload_n E 0 dX12_isStuck_8 rfl rfl ?_
  refine hp_gR E g_RX12_101 fM_0_41 dX12_isStuck_9 ?_
  refine hp_iload_n E 1 dX12_isStuck_12 rfl rfl ?_
  refine hp_iconst E (nI 1) dX12_isStuck_13 (by decide) ?_
  refine hp_iadd E dX12_isStuck_14 ?_
  refine hp_iald E 31 aM_31 hq.1 dX12_isStuck_15 ?_
  replace hq := hq.2
  refine hp_icmp_ge E 37 dX12_isStuck_16 (by decide) (fun c4 => ?_) (fun c4 => ?_)
  · replace hq := hq.1 c4
    refine hp_iconst E (nI 0) dX12_isStuck_37 (by decide) ?_
    refine hp_istore_n (lv' := [(0, .ref (ad 0)), (1, .int a1), (2, .int (nI 0))]) E dX12_isStuck_38 rfl (by decide) rfl rfl ?_
    refine hq (fun v6 => hp_G p l e rm_X12_isStuck s m args below meth c SM cs ad A D 4 0 0 Z 39 [(0, .ref (ad 0)), (1, .int a1), (2, .int v6)] [] h) (fun v6 hB => ?_)
    obtain ⟨B5, hq, hB5⟩ := hB
    refine hp_iload_n E 2 dX12_isStuck_39 rfl rfl ?_
    refine hp_aload_n E 0 dX12_isStuck_40 rfl rfl ?_
    refine hp_gI E g_RX12_183 fM_0_4 dX12_isStuck_41 ?_
    refine hp_icmp_ge E 96 dX12_isStuck_44 (by decide) (fun c7 => ?_) (fun c7 => ?_)
    · replace hq := hq.1 c7
      refine hp_iconst E (nI 0) dX12_isStuck_96 (by decide) ?_
      exact hp_zret E (by unfold hp_bz; decide) ⟨hq, rfl⟩ hZ dX12_isStuck_97
    · replace hq := hq.2 c7
      refine hp_iconst E (nI 0) dX12_isStuck_47 (by decide) ?_
      refine hp_istore_n (lv' := [(0, .ref (ad 0)), (1, .int a1), (2, .int v6), (3, .int (nI 0))]) E dX12_isStuck_48 rfl (by decide) rfl rfl ?_
      refine hq (fun v9 => hp_G p l e rm_X12_isStuck s m args below meth c SM cs ad A D 4 0 0 Z 49 [(0, .ref (ad 0)), (1, .int a1), (2, .int v6), (3, .int v9)] [] h) (fun v9 hB => ?_)
      obtain ⟨B8, hq, hB8⟩ := hB
      refine hp_iload_n E 3 dX12_isStuck_49 rfl rfl ?_
      refine hp_aload_n E 0 dX12_isStuck_50 rfl rfl ?_
      refine hp_gR E g_RX12_19 fM_0_5 dX12_isStuck_51 ?_
      refine hp_iload_n E 2 dX12_isStuck_54 rfl rfl ?_
      refine hp_iald E 4 aM_4 hq.1 dX12_isStuck_55 ?_
      replace hq := hq.2
      refine hp_icmp_ge E 90 dX12_isStuck_56 (by decide) (fun c10 => ?_) (fun c10 => ?_)
      · replace hq := hq.1 c10
        obtain ⟨v11, ev11⟩ : ∃ z : Int32, z = v6 + (nI 1) := ⟨_, rfl⟩
        replace hq := hq v11 ev11
        refine hp_iinc (lv' := [(0, .ref (ad 0)), (1, .int a1), (2, .int v11), (3, .int v9)]) E 2 v11 dX12_isStuck_90 rfl (by rw [ev11]; rfl) (by decide) rfl rfl ?_
        refine hp_goto E 39 dX12_isStuck_93 (by decide) ?_
        refine hp_sub (lv' := [(0, .ref (ad 0)), (1, .int a1), (2, .int v11)]) [0, 1, 2] rfl ?_
        exact hB5 _ hq
      · replace hq := hq.2 c10
        refine hp_aload_n E 0 dX12_isStuck_59 rfl rfl ?_
        refine hp_gR E g_RX12_34 fM_0_10 dX12_isStuck_60 ?_
        refine hp_bipush E (nI 10) dX12_isStuck_63 (by decide) ?_
        refine hp_iload_n E 2 dX12_isStuck_65 rfl rfl ?_
        refine hp_imul E dX12_isStuck_66 ?_
        refine hp_aload_n E 0 dX12_isStuck_67 rfl rfl ?_
        refine hp_iload_n E 1 dX12_isStuck_68 rfl rfl ?_
        refine hp_iload_n E 2 dX12_isStuck_69 rfl rfl ?_
        refine hp_iload_n E 3 dX12_isStuck_70 rfl rfl ?_
        refine hp_callSip (rest := [.int a1, .ref (ad 0), .int ((nI 10) * v6), .ref (ad 9)]) E (c_X12_memberAt l hJ hq) F_X12_memberAt m_RX12_212 ⟨rfl, rfl⟩ ⟨Nat.le_of_ble_eq_true rfl, Nat.le_of_ble_eq_true rfl⟩ ⟨Nat.zero_le _, Nat.zero_le _⟩ rfl rfl (Nat.le_of_ble_eq_true rfl) dX12_isStuck_71 (fun r12 hq => ?_)
        refine hp_callVip (rest := [.int ((nI 10) * v6), .ref (ad 9)]) E 0 fM_0_0 vcl_12 (c_X12_cell l hJ hq) F_X12_cell m_RX12_216 ⟨rfl, rfl⟩ ⟨Nat.le_of_ble_eq_true rfl, Nat.le_of_ble_eq_true rfl⟩ ⟨Nat.zero_le _, Nat.zero_le _⟩ rfl rfl (Nat.le_of_ble_eq_true rfl) dX12_isStuck_74 (fun r13 hq => ?_)
        refine hp_iadd E dX12_isStuck_77 ?_
        refine hp_zald E 9 aM_9 hq.1 dX12_isStuck_78 ?_
        replace hq := hq.2
        refine hp_if_ne E 84 dX12_isStuck_79 (by decide) (fun c14 => ?_) (fun c14 => ?_)
        · replace hq := hq.2 c14
          obtain ⟨v15, ev15⟩ : ∃ z : Int32, z = v9 + (nI 1) := ⟨_, rfl⟩
          replace hq := hq v15 ev15
          refine hp_iinc (lv' := [(0, .ref (ad 0)), (1, .int a1), (2, .int v6), (3, .int v15)]) E 3 v15 dX12_isStuck_84 rfl (by rw [ev15]; rfl) (by decide) rfl rfl ?_
          refine hp_goto E 49 dX12_isStuck_87 (by decide) ?_
          exact hB8 _ hq
        · replace hq := hq.1 c14
          refine hp_iconst E (nI 1) dX12_isStuck_82 (by decide) ?_
          exact hp_zret E (by unfold hp_bz; decide) ⟨hq, rfl⟩ hZ dX12_isStuck_83
  · replace hq := hq.2 c4
    refine hp_aload_n E 0 dX12_isStuck_19 rfl rfl ?_
    refine hp_gR E g_RX12_107 fM_0_43 dX12_isStuck_20 ?_
    refine hp_iload_n E 2 dX12_isStuck_23 rfl rfl ?_
    refine hp_iald E 33 aM_33 hq.1 dX12_isStuck_24 ?_
    replace hq := hq.2
    refine hp_iconst E (-1) dX12_isStuck_25 (by decide) ?_
    refine hp_icmp_eq E 31 dX12_isStuck_26 (by decide) (fun c16 => ?_) (fun c16 => ?_)
    · replace hq := hq.1 c16
      obtain ⟨v17, ev17⟩ : ∃ z : Int32, z = v3 + (nI 1) := ⟨_, rfl⟩
      replace hq := hq v17 ev17
      refine hp_iinc (lv' := [(0, .ref (ad 0)), (1, .int a1), (2, .int v17)]) E 2 v17 dX12_isStuck_31 rfl (by rw [ev17]; rfl) (by decide) rfl rfl ?_
      refine hp_goto E 7 dX12_isStuck_34 (by decide) ?_
      exact hB2 _ hq
    · replace hq := hq.2 c16
      refine hp_iconst E (nI 0) dX12_isStuck_29 (by decide) ?_
      exact hp_zret E (by unfold hp_bz; decide) ⟨hq, rfl⟩ hZ dX12_isStuck_30
theorem dX12_stuck_0 : decode cX12_stuck 0 = .ok (.aload_n 0, 1) := by decide +kernel
theorem dX12_stuck_1 : decode cX12_stuck 1 = .ok (.invokevirtual 303, 3) := by decide +kernel
theorem dX12_stuck_4 : decode cX12_stuck 4 = .ok (.ifCond .ne 6, 3) := by decide +kernel
theorem dX12_stuck_7 : decode cX12_stuck 7 = .ok (.bipush (-5), 2) := by decide +kernel
theorem dX12_stuck_9 : decode cX12_stuck 9 = .ok (.ireturn, 1) := by decide +kernel
theorem dX12_stuck_10 : decode cX12_stuck 10 = .ok (.iconst 0, 1) := by decide +kernel
theorem dX12_stuck_11 : decode cX12_stuck 11 = .ok (.istore_n 1, 1) := by decide +kernel
theorem dX12_stuck_12 : decode cX12_stuck 12 = .ok (.iload_n 1, 1) := by decide +kernel
theorem dX12_stuck_13 : decode cX12_stuck 13 = .ok (.aload_n 0, 1) := by decide +kernel
theorem dX12_stuck_14 : decode cX12_stuck 14 = .ok (.getfield 167, 3) := by decide +kernel
theorem dX12_stuck_17 : decode cX12_stuck 17 = .ok (.if_icmp .ge 19, 3) := by decide +kernel
theorem dX12_stuck_20 : decode cX12_stuck 20 = .ok (.aload_n 0, 1) := by decide +kernel
theorem dX12_stuck_21 : decode cX12_stuck 21 = .ok (.iload_n 1, 1) := by decide +kernel
theorem dX12_stuck_22 : decode cX12_stuck 22 = .ok (.invokevirtual 316, 3) := by decide +kernel
theorem dX12_stuck_25 : decode cX12_stuck 25 = .ok (.ifCond .eq 5, 3) := by decide +kernel
theorem dX12_stuck_28 : decode cX12_stuck 28 = .ok (.iload_n 1, 1) := by decide +kernel
theorem dX12_stuck_29 : decode cX12_stuck 29 = .ok (.ireturn, 1) := by decide +kernel
theorem dX12_stuck_30 : decode cX12_stuck 30 = .ok (.iinc 1 1, 3) := by decide +kernel
theorem dX12_stuck_33 : decode cX12_stuck 33 = .ok (.goto (-21), 3) := by decide +kernel
theorem dX12_stuck_36 : decode cX12_stuck 36 = .ok (.iconst (-1), 1) := by decide +kernel
theorem dX12_stuck_37 : decode cX12_stuck 37 = .ok (.ireturn, 1) := by decide +kernel
set_option maxHeartbeats 4000000 in
set_option maxRecDepth 100000 in
theorem c_X12_stuck (l : Launch) {cs : Nat → ClassId} {ad : Nat → Nat} {A : Nat → Prop} {D : va_G} (hJ : hp_J SM ad A)   {h : hp_H} {Q : Int32 → Prop} (hq : q_X12_stuck h Q) : hp_Mi l yX12_stuck cX12_stuck 2 (some .int) rm_X12_stuck [.ref (ad 0)] SM cs ad A D h (fun r h' => Q r ∧ h' = h) := by
  refine hp_met (own := RX12) rfl (by decide) (Nat.le_of_ble_eq_true rfl) rfl (fun p e s m args below meth c Z E hZ hnm => ?_)
  refine hp_sub (lv' := [(0, .ref (ad 0))]) [0] rfl ?_
  unfold q_X12_stuck at hq
  refine hp_aload_n E 0 dX12_stuck_0 rfl rfl ?_
  refine hp_callVip (rest := []) E 0 fM_0_0 vcl_12 (c_X12_hasStates l hJ hq) F_X12_hasStates m_RX12_303 ⟨rfl, rfl⟩ ⟨Nat.le_of_ble_eq_true rfl, Nat.le_of_ble_eq_true rfl⟩ ⟨Nat.zero_le _, Nat.zero_le _⟩ rfl rfl (Nat.le_of_ble_eq_true rfl) dX12_stuck_1 (fun r1 hq => ?_)
  refine hp_if_ne E 10 dX12_stuck_4 (by decide) (fun c2 => ?_) (fun c2 => ?_)
  · replace hq := hq.2 c2
    refine hp_iconst E (nI 0) dX12_stuck_10 (by decide) ?_
    refine hp_istore_n (lv' := [(0, .ref (ad 0)), (1, .int (nI 0))]) E dX12_stuck_11 rfl (by decide) rfl rfl ?_
    refine hq (fun v4 => hp_G p l e rm_X12_stuck s m args below meth c SM cs ad A D 2 0 0 Z 12 [(0, .ref (ad 0)), (1, .int v4)] [] h) (fun v4 hB => ?_)
    obtain ⟨B3, hq, hB3⟩ := hB
    refine hp_iload_n E 1 dX12_stuck_12 rfl rfl ?_
    refine hp_aload_n E 0 dX12_stuck_13 rfl rfl ?_
    refine hp_gI E g_RX12_167 fM_0_35 dX12_stuck_14 ?_
    refine hp_icmp_ge E 36 dX12_stuck_17 (by decide) (fun c5 => ?_) (fun c5 => ?_)
    · replace hq := hq.1 c5
      refine hp_iconst E (-1) dX12_stuck_36 (by decide) ?_
      exact hp_iret E ⟨hq, rfl⟩ hZ dX12_stuck_37
    · replace hq := hq.2 c5
      refine hp_aload_n E 0 dX12_stuck_20 rfl rfl ?_
      refine hp_iload_n E 1 dX12_stuck_21 rfl rfl ?_
      refine hp_callVip (rest := []) E 0 fM_0_0 vcl_12 (c_X12_isStuck l hJ hq) F_X12_isStuck m_RX12_316 ⟨rfl, rfl⟩ ⟨Nat.le_of_ble_eq_true rfl, Nat.le_of_ble_eq_true rfl⟩ ⟨Nat.zero_le _, Nat.zero_le _⟩ rfl rfl (Nat.le_of_ble_eq_true rfl) dX12_stuck_22 (fun r6 hq => ?_)
      refine hp_if_eq E 30 dX12_stuck_25 (by decide) (fun c7 => ?_) (fun c7 => ?_)
      · replace hq := hq.1 c7
        obtain ⟨v8, ev8⟩ : ∃ z : Int32, z = v4 + (nI 1) := ⟨_, rfl⟩
        replace hq := hq v8 ev8
        refine hp_iinc (lv' := [(0, .ref (ad 0)), (1, .int v8)]) E 1 v8 dX12_stuck_30 rfl (by rw [ev8]; rfl) (by decide) rfl rfl ?_
        refine hp_goto E 12 dX12_stuck_33 (by decide) ?_
        exact hB3 _ hq
      · replace hq := hq.2 c7
        refine hp_iload_n E 1 dX12_stuck_28 rfl rfl ?_
        exact hp_iret E ⟨hq, rfl⟩ hZ dX12_stuck_29
  · replace hq := hq.1 c2
    refine hp_bipush E (-5) dX12_stuck_7 (by decide) ?_
    exact hp_iret E ⟨hq, rfl⟩ hZ dX12_stuck_9
theorem dX12_fault__0 : decode cX12_fault_ 0 = .ok (.iload_n 1, 1) := by decide +kernel
theorem dX12_fault__1 : decode cX12_fault_ 1 = .ok (.iconst 0, 1) := by decide +kernel
theorem dX12_fault__2 : decode cX12_fault_ 2 = .ok (.iconst 3, 1) := by decide +kernel
theorem dX12_fault__3 : decode cX12_fault_ 3 = .ok (.invokestatic 156, 3) := by decide +kernel
theorem dX12_fault__6 : decode cX12_fault_ 6 = .ok (.ifCond .ne 6, 3) := by decide +kernel
theorem dX12_fault__9 : decode cX12_fault_ 9 = .ok (.bipush (-3), 2) := by decide +kernel
theorem dX12_fault__11 : decode cX12_fault_ 11 = .ok (.ireturn, 1) := by decide +kernel
theorem dX12_fault__12 : decode cX12_fault_ 12 = .ok (.aload_n 0, 1) := by decide +kernel
theorem dX12_fault__13 : decode cX12_fault_ 13 = .ok (.invokevirtual 303, 3) := by decide +kernel
theorem dX12_fault__16 : decode cX12_fault_ 16 = .ok (.ifCond .ne 6, 3) := by decide +kernel
theorem dX12_fault__19 : decode cX12_fault_ 19 = .ok (.bipush (-5), 2) := by decide +kernel
theorem dX12_fault__21 : decode cX12_fault_ 21 = .ok (.ireturn, 1) := by decide +kernel
theorem dX12_fault__22 : decode cX12_fault_ 22 = .ok (.aload_n 0, 1) := by decide +kernel
theorem dX12_fault__23 : decode cX12_fault_ 23 = .ok (.getfield 247, 3) := by decide +kernel
theorem dX12_fault__26 : decode cX12_fault_ 26 = .ok (.ifCond .ne 7, 3) := by decide +kernel
theorem dX12_fault__29 : decode cX12_fault_ 29 = .ok (.iconst (-1), 1) := by decide +kernel
theorem dX12_fault__30 : decode cX12_fault_ 30 = .ok (.goto 42, 3) := by decide +kernel
theorem dX12_fault__33 : decode cX12_fault_ 33 = .ok (.iload_n 1, 1) := by decide +kernel
theorem dX12_fault__34 : decode cX12_fault_ 34 = .ok (.ifCond .ne 10, 3) := by decide +kernel
theorem dX12_fault__37 : decode cX12_fault_ 37 = .ok (.aload_n 0, 1) := by decide +kernel
theorem dX12_fault__38 : decode cX12_fault_ 38 = .ok (.getfield 250, 3) := by decide +kernel
theorem dX12_fault__41 : decode cX12_fault_ 41 = .ok (.goto 31, 3) := by decide +kernel
theorem dX12_fault__44 : decode cX12_fault_ 44 = .ok (.iload_n 1, 1) := by decide +kernel
theorem dX12_fault__45 : decode cX12_fault_ 45 = .ok (.iconst 1, 1) := by decide +kernel
theorem dX12_fault__46 : decode cX12_fault_ 46 = .ok (.if_icmp .ne 10, 3) := by decide +kernel
theorem dX12_fault__49 : decode cX12_fault_ 49 = .ok (.aload_n 0, 1) := by decide +kernel
theorem dX12_fault__50 : decode cX12_fault_ 50 = .ok (.getfield 253, 3) := by decide +kernel
theorem dX12_fault__53 : decode cX12_fault_ 53 = .ok (.goto 19, 3) := by decide +kernel
theorem dX12_fault__56 : decode cX12_fault_ 56 = .ok (.iload_n 1, 1) := by decide +kernel
theorem dX12_fault__57 : decode cX12_fault_ 57 = .ok (.iconst 2, 1) := by decide +kernel
theorem dX12_fault__58 : decode cX12_fault_ 58 = .ok (.if_icmp .ne 10, 3) := by decide +kernel
theorem dX12_fault__61 : decode cX12_fault_ 61 = .ok (.aload_n 0, 1) := by decide +kernel
theorem dX12_fault__62 : decode cX12_fault_ 62 = .ok (.getfield 256, 3) := by decide +kernel
theorem dX12_fault__65 : decode cX12_fault_ 65 = .ok (.goto 7, 3) := by decide +kernel
theorem dX12_fault__68 : decode cX12_fault_ 68 = .ok (.aload_n 0, 1) := by decide +kernel
theorem dX12_fault__69 : decode cX12_fault_ 69 = .ok (.getfield 259, 3) := by decide +kernel
theorem dX12_fault__72 : decode cX12_fault_ 72 = .ok (.ireturn, 1) := by decide +kernel
set_option maxHeartbeats 4000000 in
set_option maxRecDepth 100000 in
theorem c_X12_fault_ (l : Launch) {cs : Nat → ClassId} {ad : Nat → Nat} {A : Nat → Prop} {D : va_G} (hJ : hp_J SM ad A)   {h : hp_H} {a1 : Int32} {Q : Int32 → Prop} (hq : q_X12_fault_ h a1 Q) : hp_Mi l yX12_fault_ cX12_fault_ 2 (some .int) rm_X12_fault_ [.ref (ad 0), .int a1] SM cs ad A D h (fun r h' => Q r ∧ h' = h) := by
  refine hp_met (own := RX12) rfl (by decide) (Nat.le_of_ble_eq_true rfl) rfl (fun p e s m args below meth c Z E hZ hnm => ?_)
  refine hp_sub (lv' := [(0, .ref (ad 0)), (1, .int a1)]) [0, 1] rfl ?_
  unfold q_X12_fault_ at hq
  refine hp_iload_n E 1 dX12_fault__0 rfl rfl ?_
  refine hp_iconst E (nI 0) dX12_fault__1 (by decide) ?_
  refine hp_iconst E (nI 3) dX12_fault__2 (by decide) ?_
  refine hp_callSip (rest := []) E (c_X12_in l hJ hq) F_X12_in m_RX12_156 ⟨rfl, rfl⟩ ⟨Nat.le_of_ble_eq_true rfl, Nat.le_of_ble_eq_true rfl⟩ ⟨Nat.zero_le _, Nat.zero_le _⟩ rfl rfl (Nat.le_of_ble_eq_true rfl) dX12_fault__3 (fun r1 hq => ?_)
  refine hp_if_ne E 12 dX12_fault__6 (by decide) (fun c2 => ?_) (fun c2 => ?_)
  · replace hq := hq.2 c2
    refine hp_aload_n E 0 dX12_fault__12 rfl rfl ?_
    refine hp_callVip (rest := []) E 0 fM_0_0 vcl_12 (c_X12_hasStates l hJ hq) F_X12_hasStates m_RX12_303 ⟨rfl, rfl⟩ ⟨Nat.le_of_ble_eq_true rfl, Nat.le_of_ble_eq_true rfl⟩ ⟨Nat.zero_le _, Nat.zero_le _⟩ rfl rfl (Nat.le_of_ble_eq_true rfl) dX12_fault__13 (fun r3 hq => ?_)
    refine hp_if_ne E 22 dX12_fault__16 (by decide) (fun c4 => ?_) (fun c4 => ?_)
    · replace hq := hq.2 c4
      refine hp_aload_n E 0 dX12_fault__22 rfl rfl ?_
      refine hp_gI E g_RX12_247 fM_0_46 dX12_fault__23 ?_
      refine hp_if_ne E 33 dX12_fault__26 (by decide) (fun c5 => ?_) (fun c5 => ?_)
      · replace hq := hq.2 c5
        refine hp_iload_n E 1 dX12_fault__33 rfl rfl ?_
        refine hp_if_ne E 44 dX12_fault__34 (by decide) (fun c6 => ?_) (fun c6 => ?_)
        · replace hq := hq.2 c6
          refine hp_iload_n E 1 dX12_fault__44 rfl rfl ?_
          refine hp_iconst E (nI 1) dX12_fault__45 (by decide) ?_
          refine hp_icmp_ne E 56 dX12_fault__46 (by decide) (fun c7 => ?_) (fun c7 => ?_)
          · replace hq := hq.2 c7
            refine hp_iload_n E 1 dX12_fault__56 rfl rfl ?_
            refine hp_iconst E (nI 2) dX12_fault__57 (by decide) ?_
            refine hp_icmp_ne E 68 dX12_fault__58 (by decide) (fun c8 => ?_) (fun c8 => ?_)
            · replace hq := hq.2 c8
              refine hp_aload_n E 0 dX12_fault__68 rfl rfl ?_
              refine hp_gI E g_RX12_259 fM_0_50 dX12_fault__69 ?_
              exact hp_iret E ⟨hq, rfl⟩ hZ dX12_fault__72
            · replace hq := hq.1 c8
              refine hp_aload_n E 0 dX12_fault__61 rfl rfl ?_
              refine hp_gI E g_RX12_256 fM_0_49 dX12_fault__62 ?_
              refine hp_goto E 72 dX12_fault__65 (by decide) ?_
              exact hp_iret E ⟨hq, rfl⟩ hZ dX12_fault__72
          · replace hq := hq.1 c7
            refine hp_aload_n E 0 dX12_fault__49 rfl rfl ?_
            refine hp_gI E g_RX12_253 fM_0_48 dX12_fault__50 ?_
            refine hp_goto E 72 dX12_fault__53 (by decide) ?_
            exact hp_iret E ⟨hq, rfl⟩ hZ dX12_fault__72
        · replace hq := hq.1 c6
          refine hp_aload_n E 0 dX12_fault__37 rfl rfl ?_
          refine hp_gI E g_RX12_250 fM_0_47 dX12_fault__38 ?_
          refine hp_goto E 72 dX12_fault__41 (by decide) ?_
          exact hp_iret E ⟨hq, rfl⟩ hZ dX12_fault__72
      · replace hq := hq.1 c5
        refine hp_iconst E (-1) dX12_fault__29 (by decide) ?_
        refine hp_goto E 72 dX12_fault__30 (by decide) ?_
        exact hp_iret E ⟨hq, rfl⟩ hZ dX12_fault__72
    · replace hq := hq.1 c4
      refine hp_bipush E (-5) dX12_fault__19 (by decide) ?_
      exact hp_iret E ⟨hq, rfl⟩ hZ dX12_fault__21
  · replace hq := hq.1 c2
    refine hp_bipush E (-3) dX12_fault__9 (by decide) ?_
    exact hp_iret E ⟨hq, rfl⟩ hZ dX12_fault__11
theorem dX12_always_0 : decode cX12_always 0 = .ok (.aload_n 0, 1) := by decide +kernel
theorem dX12_always_1 : decode cX12_always 1 = .ok (.iload_n 1, 1) := by decide +kernel
theorem dX12_always_2 : decode cX12_always 2 = .ok (.invokevirtual 199, 3) := by decide +kernel
theorem dX12_always_5 : decode cX12_always 5 = .ok (.ifCond .ne 6, 3) := by decide +kernel
theorem dX12_always_8 : decode cX12_always 8 = .ok (.bipush (-2), 2) := by decide +kernel
theorem dX12_always_10 : decode cX12_always 10 = .ok (.ireturn, 1) := by decide +kernel
theorem dX12_always_11 : decode cX12_always 11 = .ok (.aload_n 0, 1) := by decide +kernel
theorem dX12_always_12 : decode cX12_always 12 = .ok (.getfield 59, 3) := by decide +kernel
theorem dX12_always_15 : decode cX12_always 15 = .ok (.iload_n 1, 1) := by decide +kernel
theorem dX12_always_16 : decode cX12_always 16 = .ok (.baload, 1) := by decide +kernel
theorem dX12_always_17 : decode cX12_always 17 = .ok (.ifCond .eq 6, 3) := by decide +kernel
theorem dX12_always_20 : decode cX12_always 20 = .ok (.bipush (-4), 2) := by decide +kernel
theorem dX12_always_22 : decode cX12_always 22 = .ok (.ireturn, 1) := by decide +kernel
theorem dX12_always_23 : decode cX12_always 23 = .ok (.aload_n 0, 1) := by decide +kernel
theorem dX12_always_24 : decode cX12_always 24 = .ok (.invokevirtual 303, 3) := by decide +kernel
theorem dX12_always_27 : decode cX12_always 27 = .ok (.ifCond .ne 6, 3) := by decide +kernel
theorem dX12_always_30 : decode cX12_always 30 = .ok (.bipush (-5), 2) := by decide +kernel
theorem dX12_always_32 : decode cX12_always 32 = .ok (.ireturn, 1) := by decide +kernel
theorem dX12_always_33 : decode cX12_always 33 = .ok (.iconst 0, 1) := by decide +kernel
theorem dX12_always_34 : decode cX12_always 34 = .ok (.istore_n 2, 1) := by decide +kernel
theorem dX12_always_35 : decode cX12_always 35 = .ok (.iload_n 2, 1) := by decide +kernel
theorem dX12_always_36 : decode cX12_always 36 = .ok (.aload_n 0, 1) := by decide +kernel
theorem dX12_always_37 : decode cX12_always 37 = .ok (.getfield 167, 3) := by decide +kernel
theorem dX12_always_40 : decode cX12_always 40 = .ok (.if_icmp .ge 27, 3) := by decide +kernel
theorem dX12_always_43 : decode cX12_always 43 = .ok (.aload_n 0, 1) := by decide +kernel
theorem dX12_always_44 : decode cX12_always 44 = .ok (.iload_n 2, 1) := by decide +kernel
theorem dX12_always_45 : decode cX12_always 45 = .ok (.iconst (-1), 1) := by decide +kernel
theorem dX12_always_46 : decode cX12_always 46 = .ok (.iconst (-1), 1) := by decide +kernel
theorem dX12_always_47 : decode cX12_always 47 = .ok (.invokevirtual 280, 3) := by decide +kernel
theorem dX12_always_50 : decode cX12_always 50 = .ok (.aload_n 0, 1) := by decide +kernel
theorem dX12_always_51 : decode cX12_always 51 = .ok (.getfield 119, 3) := by decide +kernel
theorem dX12_always_54 : decode cX12_always 54 = .ok (.iload_n 1, 1) := by decide +kernel
theorem dX12_always_55 : decode cX12_always 55 = .ok (.iaload, 1) := by decide +kernel
theorem dX12_always_56 : decode cX12_always 56 = .ok (.ifCond .ne 5, 3) := by decide +kernel
theorem dX12_always_59 : decode cX12_always 59 = .ok (.iload_n 2, 1) := by decide +kernel
theorem dX12_always_60 : decode cX12_always 60 = .ok (.ireturn, 1) := by decide +kernel
theorem dX12_always_61 : decode cX12_always 61 = .ok (.iinc 2 1, 3) := by decide +kernel
theorem dX12_always_64 : decode cX12_always 64 = .ok (.goto (-29), 3) := by decide +kernel
theorem dX12_always_67 : decode cX12_always 67 = .ok (.iconst (-1), 1) := by decide +kernel
theorem dX12_always_68 : decode cX12_always 68 = .ok (.ireturn, 1) := by decide +kernel
set_option maxHeartbeats 4000000 in
set_option maxRecDepth 100000 in
theorem c_X12_always (l : Launch) {cs : Nat → ClassId} {ad : Nat → Nat} {A : Nat → Prop} {D : va_G} (hJ : hp_J SM ad A)   {h : hp_H} {a1 : Int32} {Q : Int32 → hp_H → Prop} (hq : q_X12_always h a1 Q) : hp_Mi l yX12_always cX12_always 3 (some .int) rm_X12_always [.ref (ad 0), .int a1] SM cs ad A D h Q := by
  refine hp_met (own := RX12) rfl (by decide) (Nat.le_of_ble_eq_true rfl) rfl (fun p e s m args below meth c Z E hZ hnm => ?_)
  refine hp_sub (lv' := [(0, .ref (ad 0)), (1, .int a1)]) [0, 1] rfl ?_
  unfold q_X12_always at hq
  refine hp_aload_n E 0 dX12_always_0 rfl rfl ?_
  refine hp_iload_n E 1 dX12_always_1 rfl rfl ?_
  refine hp_callVip (rest := []) E 0 fM_0_0 vcl_12 (c_X12_isExpr l hJ hq) F_X12_isExpr m_RX12_199 ⟨rfl, rfl⟩ ⟨Nat.le_of_ble_eq_true rfl, Nat.le_of_ble_eq_true rfl⟩ ⟨Nat.zero_le _, Nat.zero_le _⟩ rfl rfl (Nat.le_of_ble_eq_true rfl) dX12_always_2 (fun r1 hq => ?_)
  refine hp_if_ne E 11 dX12_always_5 (by decide) (fun c2 => ?_) (fun c2 => ?_)
  · replace hq := hq.2 c2
    refine hp_aload_n E 0 dX12_always_11 rfl rfl ?_
    refine hp_gR E g_RX12_59 fM_0_20 dX12_always_12 ?_
    refine hp_iload_n E 1 dX12_always_15 rfl rfl ?_
    refine hp_zald E 17 aM_17 hq.1 dX12_always_16 ?_
    replace hq := hq.2
    refine hp_if_eq E 23 dX12_always_17 (by decide) (fun c3 => ?_) (fun c3 => ?_)
    · replace hq := hq.1 c3
      refine hp_aload_n E 0 dX12_always_23 rfl rfl ?_
      refine hp_callVip (rest := []) E 0 fM_0_0 vcl_12 (c_X12_hasStates l hJ hq) F_X12_hasStates m_RX12_303 ⟨rfl, rfl⟩ ⟨Nat.le_of_ble_eq_true rfl, Nat.le_of_ble_eq_true rfl⟩ ⟨Nat.zero_le _, Nat.zero_le _⟩ rfl rfl (Nat.le_of_ble_eq_true rfl) dX12_always_24 (fun r4 hq => ?_)
      refine hp_if_ne E 33 dX12_always_27 (by decide) (fun c5 => ?_) (fun c5 => ?_)
      · replace hq := hq.2 c5
        refine hp_iconst E (nI 0) dX12_always_33 (by decide) ?_
        refine hp_istore_n (lv' := [(0, .ref (ad 0)), (1, .int a1), (2, .int (nI 0))]) E dX12_always_34 rfl (by decide) rfl rfl ?_
        refine hq (fun v7 h8 => hp_G p l e rm_X12_always s m args below meth c SM cs ad A D 3 0 0 Z 35 [(0, .ref (ad 0)), (1, .int a1), (2, .int v7)] [] h8) (fun v7 h8 hB => ?_)
        obtain ⟨B6, hq, hB6⟩ := hB
        refine hp_iload_n E 2 dX12_always_35 rfl rfl ?_
        refine hp_aload_n E 0 dX12_always_36 rfl rfl ?_
        refine hp_gI E g_RX12_167 fM_0_35 dX12_always_37 ?_
        refine hp_icmp_ge E 67 dX12_always_40 (by decide) (fun c9 => ?_) (fun c9 => ?_)
        · replace hq := hq.1 c9
          refine hp_iconst E (-1) dX12_always_67 (by decide) ?_
          exact hp_iret E hq hZ dX12_always_68
        · replace hq := hq.2 c9
          refine hp_aload_n E 0 dX12_always_43 rfl rfl ?_
          refine hp_iload_n E 2 dX12_always_44 rfl rfl ?_
          refine hp_iconst E (-1) dX12_always_45 (by decide) ?_
          refine hp_iconst E (-1) dX12_always_46 (by decide) ?_
          refine hp_callVv' (rest := []) E 0 fM_0_0 vcl_12 (c_X12_reckon l hJ hq) F_X12_reckon m_RX12_280 ⟨rfl, rfl⟩ ⟨Nat.le_of_ble_eq_true rfl, Nat.le_of_ble_eq_true rfl⟩ ⟨Nat.zero_le _, Nat.zero_le _⟩ rfl rfl (Nat.le_of_ble_eq_true rfl) dX12_always_47 (fun h10 hq => ?_)
          refine hp_aload_n E 0 dX12_always_50 rfl rfl ?_
          refine hp_gR E g_RX12_119 fM_0_52 dX12_always_51 ?_
          refine hp_iload_n E 1 dX12_always_54 rfl rfl ?_
          refine hp_iald E 37 aM_37 hq.1 dX12_always_55 ?_
          replace hq := hq.2
          refine hp_if_ne E 61 dX12_always_56 (by decide) (fun c11 => ?_) (fun c11 => ?_)
          · replace hq := hq.2 c11
            obtain ⟨v12, ev12⟩ : ∃ z : Int32, z = v7 + (nI 1) := ⟨_, rfl⟩
            replace hq := hq v12 ev12
            refine hp_iinc (lv' := [(0, .ref (ad 0)), (1, .int a1), (2, .int v12)]) E 2 v12 dX12_always_61 rfl (by rw [ev12]; rfl) (by decide) rfl rfl ?_
            refine hp_goto E 35 dX12_always_64 (by decide) ?_
            exact hB6 _ _ hq
          · replace hq := hq.1 c11
            refine hp_iload_n E 2 dX12_always_59 rfl rfl ?_
            exact hp_iret E hq hZ dX12_always_60
      · replace hq := hq.1 c5
        refine hp_bipush E (-5) dX12_always_30 (by decide) ?_
        exact hp_iret E hq hZ dX12_always_32
    · replace hq := hq.2 c3
      refine hp_bipush E (-4) dX12_always_20 (by decide) ?_
      exact hp_iret E hq hZ dX12_always_22
  · replace hq := hq.1 c2
    refine hp_bipush E (-2) dX12_always_8 (by decide) ?_
    exact hp_iret E hq hZ dX12_always_10
theorem dX12_goAhead_0 : decode cX12_goAhead 0 = .ok (.iconst 0, 1) := by decide +kernel
theorem dX12_goAhead_1 : decode cX12_goAhead 1 = .ok (.istore_n 3, 1) := by decide +kernel
theorem dX12_goAhead_2 : decode cX12_goAhead 2 = .ok (.iload_n 3, 1) := by decide +kernel
theorem dX12_goAhead_3 : decode cX12_goAhead 3 = .ok (.aload_n 0, 1) := by decide +kernel
theorem dX12_goAhead_4 : decode cX12_goAhead 4 = .ok (.getfield 167, 3) := by decide +kernel
theorem dX12_goAhead_7 : decode cX12_goAhead 7 = .ok (.if_icmp .ge 22, 3) := by decide +kernel
theorem dX12_goAhead_10 : decode cX12_goAhead 10 = .ok (.aload_n 2, 1) := by decide +kernel
theorem dX12_goAhead_11 : decode cX12_goAhead 11 = .ok (.iload_n 3, 1) := by decide +kernel
theorem dX12_goAhead_12 : decode cX12_goAhead 12 = .ok (.iload_n 3, 1) := by decide +kernel
theorem dX12_goAhead_13 : decode cX12_goAhead 13 = .ok (.iload_n 1, 1) := by decide +kernel
theorem dX12_goAhead_14 : decode cX12_goAhead 14 = .ok (.if_icmp .ne 7, 3) := by decide +kernel
theorem dX12_goAhead_17 : decode cX12_goAhead 17 = .ok (.iconst 1, 1) := by decide +kernel
theorem dX12_goAhead_18 : decode cX12_goAhead 18 = .ok (.goto 4, 3) := by decide +kernel
theorem dX12_goAhead_21 : decode cX12_goAhead 21 = .ok (.iconst 0, 1) := by decide +kernel
theorem dX12_goAhead_22 : decode cX12_goAhead 22 = .ok (.bastore, 1) := by decide +kernel
theorem dX12_goAhead_23 : decode cX12_goAhead 23 = .ok (.iinc 3 1, 3) := by decide +kernel
theorem dX12_goAhead_26 : decode cX12_goAhead 26 = .ok (.goto (-24), 3) := by decide +kernel
theorem dX12_goAhead_29 : decode cX12_goAhead 29 = .ok (.iconst 1, 1) := by decide +kernel
theorem dX12_goAhead_30 : decode cX12_goAhead 30 = .ok (.istore_n 3, 1) := by decide +kernel
theorem dX12_goAhead_31 : decode cX12_goAhead 31 = .ok (.iload_n 3, 1) := by decide +kernel
theorem dX12_goAhead_32 : decode cX12_goAhead 32 = .ok (.ifCond .eq 101, 3) := by decide +kernel
theorem dX12_goAhead_35 : decode cX12_goAhead 35 = .ok (.iconst 0, 1) := by decide +kernel
theorem dX12_goAhead_36 : decode cX12_goAhead 36 = .ok (.istore_n 3, 1) := by decide +kernel
theorem dX12_goAhead_37 : decode cX12_goAhead 37 = .ok (.iconst 0, 1) := by decide +kernel
theorem dX12_goAhead_38 : decode cX12_goAhead 38 = .ok (.istore 4, 2) := by decide +kernel
theorem dX12_goAhead_40 : decode cX12_goAhead 40 = .ok (.iload 4, 2) := by decide +kernel
theorem dX12_goAhead_42 : decode cX12_goAhead 42 = .ok (.aload_n 0, 1) := by decide +kernel
theorem dX12_goAhead_43 : decode cX12_goAhead 43 = .ok (.getfield 167, 3) := by decide +kernel
theorem dX12_goAhead_46 : decode cX12_goAhead 46 = .ok (.if_icmp .ge 84, 3) := by decide +kernel
theorem dX12_goAhead_49 : decode cX12_goAhead 49 = .ok (.aload_n 0, 1) := by decide +kernel
theorem dX12_goAhead_50 : decode cX12_goAhead 50 = .ok (.getfield 101, 3) := by decide +kernel
theorem dX12_goAhead_53 : decode cX12_goAhead 53 = .ok (.iload 4, 2) := by decide +kernel
theorem dX12_goAhead_55 : decode cX12_goAhead 55 = .ok (.iaload, 1) := by decide +kernel
theorem dX12_goAhead_56 : decode cX12_goAhead 56 = .ok (.istore 5, 2) := by decide +kernel
theorem dX12_goAhead_58 : decode cX12_goAhead 58 = .ok (.iload 5, 2) := by decide +kernel
theorem dX12_goAhead_60 : decode cX12_goAhead 60 = .ok (.aload_n 0, 1) := by decide +kernel
theorem dX12_goAhead_61 : decode cX12_goAhead 61 = .ok (.getfield 101, 3) := by decide +kernel
theorem dX12_goAhead_64 : decode cX12_goAhead 64 = .ok (.iload 4, 2) := by decide +kernel
theorem dX12_goAhead_66 : decode cX12_goAhead 66 = .ok (.iconst 1, 1) := by decide +kernel
theorem dX12_goAhead_67 : decode cX12_goAhead 67 = .ok (.iadd, 1) := by decide +kernel
theorem dX12_goAhead_68 : decode cX12_goAhead 68 = .ok (.iaload, 1) := by decide +kernel
theorem dX12_goAhead_69 : decode cX12_goAhead 69 = .ok (.if_icmp .ge 55, 3) := by decide +kernel
theorem dX12_goAhead_72 : decode cX12_goAhead 72 = .ok (.aload_n 2, 1) := by decide +kernel
theorem dX12_goAhead_73 : decode cX12_goAhead 73 = .ok (.iload 4, 2) := by decide +kernel
theorem dX12_goAhead_75 : decode cX12_goAhead 75 = .ok (.baload, 1) := by decide +kernel
theorem dX12_goAhead_76 : decode cX12_goAhead 76 = .ok (.ifCond .eq 48, 3) := by decide +kernel
theorem dX12_goAhead_79 : decode cX12_goAhead 79 = .ok (.aload_n 0, 1) := by decide +kernel
theorem dX12_goAhead_80 : decode cX12_goAhead 80 = .ok (.getfield 128, 3) := by decide +kernel
theorem dX12_goAhead_83 : decode cX12_goAhead 83 = .ok (.aload_n 0, 1) := by decide +kernel
theorem dX12_goAhead_84 : decode cX12_goAhead 84 = .ok (.getfield 104, 3) := by decide +kernel
theorem dX12_goAhead_87 : decode cX12_goAhead 87 = .ok (.iload 5, 2) := by decide +kernel
theorem dX12_goAhead_89 : decode cX12_goAhead 89 = .ok (.iaload, 1) := by decide +kernel
theorem dX12_goAhead_90 : decode cX12_goAhead 90 = .ok (.baload, 1) := by decide +kernel
theorem dX12_goAhead_91 : decode cX12_goAhead 91 = .ok (.ifCond .eq 27, 3) := by decide +kernel
theorem dX12_goAhead_94 : decode cX12_goAhead 94 = .ok (.aload_n 2, 1) := by decide +kernel
theorem dX12_goAhead_95 : decode cX12_goAhead 95 = .ok (.aload_n 0, 1) := by decide +kernel
theorem dX12_goAhead_96 : decode cX12_goAhead 96 = .ok (.getfield 104, 3) := by decide +kernel
theorem dX12_goAhead_99 : decode cX12_goAhead 99 = .ok (.iload 5, 2) := by decide +kernel
theorem dX12_goAhead_101 : decode cX12_goAhead 101 = .ok (.iaload, 1) := by decide +kernel
theorem dX12_goAhead_102 : decode cX12_goAhead 102 = .ok (.baload, 1) := by decide +kernel
theorem dX12_goAhead_103 : decode cX12_goAhead 103 = .ok (.ifCond .ne 15, 3) := by decide +kernel
theorem dX12_goAhead_106 : decode cX12_goAhead 106 = .ok (.aload_n 2, 1) := by decide +kernel
theorem dX12_goAhead_107 : decode cX12_goAhead 107 = .ok (.aload_n 0, 1) := by decide +kernel
theorem dX12_goAhead_108 : decode cX12_goAhead 108 = .ok (.getfield 104, 3) := by decide +kernel
theorem dX12_goAhead_111 : decode cX12_goAhead 111 = .ok (.iload 5, 2) := by decide +kernel
theorem dX12_goAhead_113 : decode cX12_goAhead 113 = .ok (.iaload, 1) := by decide +kernel
theorem dX12_goAhead_114 : decode cX12_goAhead 114 = .ok (.iconst 1, 1) := by decide +kernel
theorem dX12_goAhead_115 : decode cX12_goAhead 115 = .ok (.bastore, 1) := by decide +kernel
theorem dX12_goAhead_116 : decode cX12_goAhead 116 = .ok (.iconst 1, 1) := by decide +kernel
theorem dX12_goAhead_117 : decode cX12_goAhead 117 = .ok (.istore_n 3, 1) := by decide +kernel
theorem dX12_goAhead_118 : decode cX12_goAhead 118 = .ok (.iinc 5 1, 3) := by decide +kernel
theorem dX12_goAhead_121 : decode cX12_goAhead 121 = .ok (.goto (-63), 3) := by decide +kernel
theorem dX12_goAhead_124 : decode cX12_goAhead 124 = .ok (.iinc 4 1, 3) := by decide +kernel
theorem dX12_goAhead_127 : decode cX12_goAhead 127 = .ok (.goto (-87), 3) := by decide +kernel
theorem dX12_goAhead_130 : decode cX12_goAhead 130 = .ok (.goto (-99), 3) := by decide +kernel
theorem dX12_goAhead_133 : decode cX12_goAhead 133 = .ok (.return_, 1) := by decide +kernel
set_option maxHeartbeats 4000000 in
set_option maxRecDepth 100000 in
theorem c_X12_goAhead (l : Launch) {cs : Nat → ClassId} {ad : Nat → Nat} {A : Nat → Prop} {D : va_G} (hJ : hp_J SM ad A)   {h : hp_H} {a1 : Int32} {Q : hp_H → Prop} (hq : q_X12_goAhead h a1 Q) : hp_Mv l yX12_goAhead cX12_goAhead 6 none rm_X12_goAhead [.ref (ad 0), .int a1, .ref (ad 41)] SM cs ad A D h Q := by
  refine hp_met (own := RX12) rfl (by decide) (Nat.le_of_ble_eq_true rfl) rfl (fun p e s m args below meth c Z E hZ hnm => ?_)
  refine hp_sub (lv' := [(0, .ref (ad 0)), (1, .int a1), (2, .ref (ad 41))]) [0, 1, 2] rfl ?_
  unfold q_X12_goAhead at hq
  refine hp_iconst E (nI 0) dX12_goAhead_0 (by decide) ?_
  refine hp_istore_n (lv' := [(0, .ref (ad 0)), (1, .int a1), (2, .ref (ad 41)), (3, .int (nI 0))]) E dX12_goAhead_1 rfl (by decide) rfl rfl ?_
  refine hq (fun v2 h3 => hp_G p l e rm_X12_goAhead s m args below meth c SM cs ad A D 6 0 0 Z 2 [(0, .ref (ad 0)), (1, .int a1), (2, .ref (ad 41)), (3, .int v2)] [] h3) (fun v2 h3 hB => ?_)
  obtain ⟨B1, hq, hB1⟩ := hB
  refine hp_iload_n E 3 dX12_goAhead_2 rfl rfl ?_
  refine hp_aload_n E 0 dX12_goAhead_3 rfl rfl ?_
  refine hp_gI E g_RX12_167 fM_0_35 dX12_goAhead_4 ?_
  refine hp_icmp_ge E 29 dX12_goAhead_7 (by decide) (fun c4 => ?_) (fun c4 => ?_)
  · replace hq := hq.1 c4
    refine hp_iconst E (nI 1) dX12_goAhead_29 (by decide) ?_
    refine hp_istore_n (lv' := [(0, .ref (ad 0)), (1, .int a1), (2, .ref (ad 41)), (3, .int (nI 1))]) E dX12_goAhead_30 rfl (by decide) rfl rfl ?_
    refine hp_sub (lv' := [(0, .ref (ad 0)), (2, .ref (ad 41)), (3, .int (nI 1))]) [0, 2, 3] rfl ?_
    refine hq (fun v6 h7 => hp_G p l e rm_X12_goAhead s m args below meth c SM cs ad A D 6 0 0 Z 31 [(0, .ref (ad 0)), (2, .ref (ad 41)), (3, .int v6)] [] h7) (fun v6 h7 hB => ?_)
    obtain ⟨B5, hq, hB5⟩ := hB
    refine hp_iload_n E 2 dX12_goAhead_31 rfl rfl ?_
    refine hp_if_eq E 133 dX12_goAhead_32 (by decide) (fun c8 => ?_) (fun c8 => ?_)
    · replace hq := hq.1 c8
      exact hp_vret E hq hZ dX12_goAhead_133
    · replace hq := hq.2 c8
      refine hp_iconst E (nI 0) dX12_goAhead_35 (by decide) ?_
      refine hp_istore_n (lv' := [(0, .ref (ad 0)), (2, .ref (ad 41)), (3, .int (nI 0))]) E dX12_goAhead_36 rfl (by decide) rfl rfl ?_
      refine hp_iconst E (nI 0) dX12_goAhead_37 (by decide) ?_
      refine hp_istore (lv' := [(0, .ref (ad 0)), (2, .ref (ad 41)), (3, .int (nI 0)), (4, .int (nI 0))]) E dX12_goAhead_38 (by decide) rfl rfl ?_
      refine hq (fun v10 v11 h12 => hp_G p l e rm_X12_goAhead s m args below meth c SM cs ad A D 6 0 0 Z 40 [(0, .ref (ad 0)), (2, .ref (ad 41)), (3, .int v10), (4, .int v11)] [] h12) (fun v10 v11 h12 hB => ?_)
      obtain ⟨B9, hq, hB9⟩ := hB
      refine hp_iload E 3 dX12_goAhead_40 rfl ?_
      refine hp_aload_n E 0 dX12_goAhead_42 rfl rfl ?_
      refine hp_gI E g_RX12_167 fM_0_35 dX12_goAhead_43 ?_
      refine hp_icmp_ge E 130 dX12_goAhead_46 (by decide) (fun c13 => ?_) (fun c13 => ?_)
      · replace hq := hq.1 c13
        refine hp_goto E 31 dX12_goAhead_130 (by decide) ?_
        refine hp_sub (lv' := [(0, .ref (ad 0)), (2, .ref (ad 41)), (3, .int v10)]) [0, 1, 2] rfl ?_
        exact hB5 _ _ hq
      · replace hq := hq.2 c13
        refine hp_aload_n E 0 dX12_goAhead_49 rfl rfl ?_
        refine hp_gR E g_RX12_101 fM_0_41 dX12_goAhead_50 ?_
        refine hp_iload E 3 dX12_goAhead_53 rfl ?_
        refine hp_iald E 31 aM_31 hq.1 dX12_goAhead_55 ?_
        replace hq := hq.2
        refine hp_topi (fun v14 ev14 => ?_)
        replace hq := hq v14 ev14
        refine hp_istore (lv' := [(0, .ref (ad 0)), (2, .ref (ad 41)), (3, .int v10), (4, .int v11), (5, .int v14)]) E dX12_goAhead_56 (by decide) rfl rfl ?_
        refine hq (fun v16 v17 h18 => hp_G p l e rm_X12_goAhead s m args below meth c SM cs ad A D 6 0 0 Z 58 [(0, .ref (ad 0)), (2, .ref (ad 41)), (3, .int v16), (4, .int v11), (5, .int v17)] [] h18) (fun v16 v17 h18 hB => ?_)
        obtain ⟨B15, hq, hB15⟩ := hB
        refine hp_iload E 4 dX12_goAhead_58 rfl ?_
        refine hp_aload_n E 0 dX12_goAhead_60 rfl rfl ?_
        refine hp_gR E g_RX12_101 fM_0_41 dX12_goAhead_61 ?_
        refine hp_iload E 3 dX12_goAhead_64 rfl ?_
        refine hp_iconst E (nI 1) dX12_goAhead_66 (by decide) ?_
        refine hp_iadd E dX12_goAhead_67 ?_
        refine hp_iald E 31 aM_31 hq.1 dX12_goAhead_68 ?_
        replace hq := hq.2
        obtain ⟨K20, hq, hK20⟩ := hq
        have jK20 : K20 → hp_G p l e rm_X12_goAhead s m args below meth c SM cs ad A D 6 0 0 Z 124 [(0, .ref (ad 0)), (2, .ref (ad 41)), (3, .int v16), (4, .int v11)] [] h18 := by
          intro  hq
          replace hq := hK20  hq
          obtain ⟨v29, ev29⟩ : ∃ z : Int32, z = v11 + (nI 1) := ⟨_, rfl⟩
          replace hq := hq v29 ev29
          refine hp_iinc (lv' := [(0, .ref (ad 0)), (2, .ref (ad 41)), (3, .int v16), (4, .int v29)]) E 3 v29 dX12_goAhead_124 rfl (by rw [ev29]; rfl) (by decide) rfl rfl ?_
          refine hp_goto E 40 dX12_goAhead_127 (by decide) ?_
          exact hB9 _ _ _ hq
        refine hp_icmp_ge E 124 dX12_goAhead_69 (by decide) (fun c19 => ?_) (fun c19 => ?_)
        · replace hq := hq.1 c19
          refine hp_sub (lv' := [(0, .ref (ad 0)), (2, .ref (ad 41)), (3, .int v16), (4, .int v11)]) [0, 1, 2, 3] rfl ?_
          exact jK20  hq
        · replace hq := hq.2 c19
          refine hp_aload_n E 1 dX12_goAhead_72 rfl rfl ?_
          refine hp_iload E 3 dX12_goAhead_73 rfl ?_
          refine hp_zald E 41 aM_41 hq.1 dX12_goAhead_75 ?_
          replace hq := hq.2
          refine hp_if_eq E 124 dX12_goAhead_76 (by decide) (fun c21 => ?_) (fun c21 => ?_)
          · replace hq := hq.1 c21
            refine hp_sub (lv' := [(0, .ref (ad 0)), (2, .ref (ad 41)), (3, .int v16), (4, .int v11)]) [0, 1, 2, 3] rfl ?_
            exact jK20  hq
          · replace hq := hq.2 c21
            refine hp_aload_n E 0 dX12_goAhead_79 rfl rfl ?_
            refine hp_gR E g_RX12_128 fM_0_55 dX12_goAhead_80 ?_
            refine hp_aload_n E 0 dX12_goAhead_83 rfl rfl ?_
            refine hp_gR E g_RX12_104 fM_0_42 dX12_goAhead_84 ?_
            refine hp_iload E 4 dX12_goAhead_87 rfl ?_
            refine hp_iald E 32 aM_32 hq.1 dX12_goAhead_89 ?_
            replace hq := hq.2
            refine hp_zald E 40 aM_40 hq.1 dX12_goAhead_90 ?_
            replace hq := hq.2
            obtain ⟨K23, hq, hK23⟩ := hq
            have jK23 : ∀ (v24 : Int32) (h25 : hp_H), K23 v24 h25 → hp_G p l e rm_X12_goAhead s m args below meth c SM cs ad A D 6 0 0 Z 118 [(0, .ref (ad 0)), (2, .ref (ad 41)), (3, .int v24), (4, .int v11), (5, .int v17)] [] h25 := by
              intro v24 h25 hq
              replace hq := hK23 v24 h25 hq
              obtain ⟨v28, ev28⟩ : ∃ z : Int32, z = v17 + (nI 1) := ⟨_, rfl⟩
              replace hq := hq v28 ev28
              refine hp_iinc (lv' := [(0, .ref (ad 0)), (2, .ref (ad 41)), (3, .int v24), (4, .int v11), (5, .int v28)]) E 4 v28 dX12_goAhead_118 rfl (by rw [ev28]; rfl) (by decide) rfl rfl ?_
              refine hp_goto E 58 dX12_goAhead_121 (by decide) ?_
              exact hB15 _ _ _ hq
            refine hp_if_eq E 118 dX12_goAhead_91 (by decide) (fun c22 => ?_) (fun c22 => ?_)
            · replace hq := hq.1 c22
              exact jK23 _ _ hq
            · replace hq := hq.2 c22
              refine hp_aload_n E 1 dX12_goAhead_94 rfl rfl ?_
              refine hp_aload_n E 0 dX12_goAhead_95 rfl rfl ?_
              refine hp_gR E g_RX12_104 fM_0_42 dX12_goAhead_96 ?_
              refine hp_iload E 4 dX12_goAhead_99 rfl ?_
              refine hp_iald E 32 aM_32 hq.1 dX12_goAhead_101 ?_
              replace hq := hq.2
              refine hp_zald E 41 aM_41 hq.1 dX12_goAhead_102 ?_
              replace hq := hq.2
              refine hp_if_ne E 118 dX12_goAhead_103 (by decide) (fun c26 => ?_) (fun c26 => ?_)
              · replace hq := hq.2 c26
                exact jK23 _ _ hq
              · replace hq := hq.1 c26
                refine hp_aload_n E 1 dX12_goAhead_106 rfl rfl ?_
                refine hp_aload_n E 0 dX12_goAhead_107 rfl rfl ?_
                refine hp_gR E g_RX12_104 fM_0_42 dX12_goAhead_108 ?_
                refine hp_iload E 4 dX12_goAhead_111 rfl ?_
                refine hp_iald E 32 aM_32 hq.1 dX12_goAhead_113 ?_
                replace hq := hq.2
                refine hp_iconst E (nI 1) dX12_goAhead_114 (by decide) ?_
                have hin := hq.1
                replace hq := hq.2
                refine hp_zast E 41 aM_41 zM_41 hJ hin (by unfold hp_bz; decide) dX12_goAhead_115 ?_
                refine hp_toph (fun h27 eh27 => ?_)
                replace hq := hq h27 eh27
                refine hp_iconst E (nI 1) dX12_goAhead_116 (by decide) ?_
                refine hp_istore_n (lv' := [(0, .ref (ad 0)), (2, .ref (ad 41)), (3, .int (nI 1)), (4, .int v11), (5, .int v17)]) E dX12_goAhead_117 rfl (by decide) rfl rfl ?_
                exact jK23 _ _ hq
  · replace hq := hq.2 c4
    refine hp_aload_n E 2 dX12_goAhead_10 rfl rfl ?_
    refine hp_iload_n E 3 dX12_goAhead_11 rfl rfl ?_
    refine hp_iload_n E 3 dX12_goAhead_12 rfl rfl ?_
    refine hp_iload_n E 1 dX12_goAhead_13 rfl rfl ?_
    obtain ⟨K31, hq, hK31⟩ := hq
    have jK31 : ∀ (v32 : Int32), K31 v32 → hp_G p l e rm_X12_goAhead s m args below meth c SM cs ad A D 6 0 0 Z 22 [(0, .ref (ad 0)), (1, .int a1), (2, .ref (ad 41)), (3, .int v2)] [.int v32, .int v2, .ref (ad 41)] h3 := by
      intro v32 hq
      replace hq := hK31 v32 hq
      have hin := hq.1
      replace hq := hq.2
      have hbz := hq.1
      replace hq := hq.2
      refine hp_zast E 41 aM_41 zM_41 hJ hin hbz dX12_goAhead_22 ?_
      refine hp_toph (fun h33 eh33 => ?_)
      replace hq := hq h33 eh33
      obtain ⟨v34, ev34⟩ : ∃ z : Int32, z = v2 + (nI 1) := ⟨_, rfl⟩
      replace hq := hq v34 ev34
      refine hp_iinc (lv' := [(0, .ref (ad 0)), (1, .int a1), (2, .ref (ad 41)), (3, .int v34)]) E 3 v34 dX12_goAhead_23 rfl (by rw [ev34]; rfl) (by decide) rfl rfl ?_
      refine hp_goto E 2 dX12_goAhead_26 (by decide) ?_
      exact hB1 _ _ hq
    refine hp_icmp_ne E 21 dX12_goAhead_14 (by decide) (fun c30 => ?_) (fun c30 => ?_)
    · replace hq := hq.2 c30
      refine hp_iconst E (nI 0) dX12_goAhead_21 (by decide) ?_
      exact jK31 _ hq
    · replace hq := hq.1 c30
      refine hp_iconst E (nI 1) dX12_goAhead_17 (by decide) ?_
      refine hp_goto E 22 dX12_goAhead_18 (by decide) ?_
      exact jK31 _ hq
theorem dX12_goBack_0 : decode cX12_goBack 0 = .ok (.iconst 0, 1) := by decide +kernel
theorem dX12_goBack_1 : decode cX12_goBack 1 = .ok (.istore_n 3, 1) := by decide +kernel
theorem dX12_goBack_2 : decode cX12_goBack 2 = .ok (.iload_n 3, 1) := by decide +kernel
theorem dX12_goBack_3 : decode cX12_goBack 3 = .ok (.aload_n 0, 1) := by decide +kernel
theorem dX12_goBack_4 : decode cX12_goBack 4 = .ok (.getfield 167, 3) := by decide +kernel
theorem dX12_goBack_7 : decode cX12_goBack 7 = .ok (.if_icmp .ge 22, 3) := by decide +kernel
theorem dX12_goBack_10 : decode cX12_goBack 10 = .ok (.aload_n 2, 1) := by decide +kernel
theorem dX12_goBack_11 : decode cX12_goBack 11 = .ok (.iload_n 3, 1) := by decide +kernel
theorem dX12_goBack_12 : decode cX12_goBack 12 = .ok (.iload_n 3, 1) := by decide +kernel
theorem dX12_goBack_13 : decode cX12_goBack 13 = .ok (.iload_n 1, 1) := by decide +kernel
theorem dX12_goBack_14 : decode cX12_goBack 14 = .ok (.if_icmp .ne 7, 3) := by decide +kernel
theorem dX12_goBack_17 : decode cX12_goBack 17 = .ok (.iconst 1, 1) := by decide +kernel
theorem dX12_goBack_18 : decode cX12_goBack 18 = .ok (.goto 4, 3) := by decide +kernel
theorem dX12_goBack_21 : decode cX12_goBack 21 = .ok (.iconst 0, 1) := by decide +kernel
theorem dX12_goBack_22 : decode cX12_goBack 22 = .ok (.bastore, 1) := by decide +kernel
theorem dX12_goBack_23 : decode cX12_goBack 23 = .ok (.iinc 3 1, 3) := by decide +kernel
theorem dX12_goBack_26 : decode cX12_goBack 26 = .ok (.goto (-24), 3) := by decide +kernel
theorem dX12_goBack_29 : decode cX12_goBack 29 = .ok (.iconst 1, 1) := by decide +kernel
theorem dX12_goBack_30 : decode cX12_goBack 30 = .ok (.istore_n 3, 1) := by decide +kernel
theorem dX12_goBack_31 : decode cX12_goBack 31 = .ok (.iload_n 3, 1) := by decide +kernel
theorem dX12_goBack_32 : decode cX12_goBack 32 = .ok (.ifCond .eq 92, 3) := by decide +kernel
theorem dX12_goBack_35 : decode cX12_goBack 35 = .ok (.iconst 0, 1) := by decide +kernel
theorem dX12_goBack_36 : decode cX12_goBack 36 = .ok (.istore_n 3, 1) := by decide +kernel
theorem dX12_goBack_37 : decode cX12_goBack 37 = .ok (.aload_n 0, 1) := by decide +kernel
theorem dX12_goBack_38 : decode cX12_goBack 38 = .ok (.getfield 167, 3) := by decide +kernel
theorem dX12_goBack_41 : decode cX12_goBack 41 = .ok (.iconst 1, 1) := by decide +kernel
theorem dX12_goBack_42 : decode cX12_goBack 42 = .ok (.isub, 1) := by decide +kernel
theorem dX12_goBack_43 : decode cX12_goBack 43 = .ok (.istore 4, 2) := by decide +kernel
theorem dX12_goBack_45 : decode cX12_goBack 45 = .ok (.iload 4, 2) := by decide +kernel
theorem dX12_goBack_47 : decode cX12_goBack 47 = .ok (.ifCond .lt 74, 3) := by decide +kernel
theorem dX12_goBack_50 : decode cX12_goBack 50 = .ok (.aload_n 0, 1) := by decide +kernel
theorem dX12_goBack_51 : decode cX12_goBack 51 = .ok (.getfield 101, 3) := by decide +kernel
theorem dX12_goBack_54 : decode cX12_goBack 54 = .ok (.iload 4, 2) := by decide +kernel
theorem dX12_goBack_56 : decode cX12_goBack 56 = .ok (.iaload, 1) := by decide +kernel
theorem dX12_goBack_57 : decode cX12_goBack 57 = .ok (.istore 5, 2) := by decide +kernel
theorem dX12_goBack_59 : decode cX12_goBack 59 = .ok (.iload 5, 2) := by decide +kernel
theorem dX12_goBack_61 : decode cX12_goBack 61 = .ok (.aload_n 0, 1) := by decide +kernel
theorem dX12_goBack_62 : decode cX12_goBack 62 = .ok (.getfield 101, 3) := by decide +kernel
theorem dX12_goBack_65 : decode cX12_goBack 65 = .ok (.iload 4, 2) := by decide +kernel
theorem dX12_goBack_67 : decode cX12_goBack 67 = .ok (.iconst 1, 1) := by decide +kernel
theorem dX12_goBack_68 : decode cX12_goBack 68 = .ok (.iadd, 1) := by decide +kernel
theorem dX12_goBack_69 : decode cX12_goBack 69 = .ok (.iaload, 1) := by decide +kernel
theorem dX12_goBack_70 : decode cX12_goBack 70 = .ok (.if_icmp .ge 45, 3) := by decide +kernel
theorem dX12_goBack_73 : decode cX12_goBack 73 = .ok (.aload_n 0, 1) := by decide +kernel
theorem dX12_goBack_74 : decode cX12_goBack 74 = .ok (.getfield 128, 3) := by decide +kernel
theorem dX12_goBack_77 : decode cX12_goBack 77 = .ok (.iload 4, 2) := by decide +kernel
theorem dX12_goBack_79 : decode cX12_goBack 79 = .ok (.baload, 1) := by decide +kernel
theorem dX12_goBack_80 : decode cX12_goBack 80 = .ok (.ifCond .eq 35, 3) := by decide +kernel
theorem dX12_goBack_83 : decode cX12_goBack 83 = .ok (.aload_n 2, 1) := by decide +kernel
theorem dX12_goBack_84 : decode cX12_goBack 84 = .ok (.iload 4, 2) := by decide +kernel
theorem dX12_goBack_86 : decode cX12_goBack 86 = .ok (.baload, 1) := by decide +kernel
theorem dX12_goBack_87 : decode cX12_goBack 87 = .ok (.ifCond .ne 28, 3) := by decide +kernel
theorem dX12_goBack_90 : decode cX12_goBack 90 = .ok (.aload_n 2, 1) := by decide +kernel
theorem dX12_goBack_91 : decode cX12_goBack 91 = .ok (.aload_n 0, 1) := by decide +kernel
theorem dX12_goBack_92 : decode cX12_goBack 92 = .ok (.getfield 104, 3) := by decide +kernel
theorem dX12_goBack_95 : decode cX12_goBack 95 = .ok (.iload 5, 2) := by decide +kernel
theorem dX12_goBack_97 : decode cX12_goBack 97 = .ok (.iaload, 1) := by decide +kernel
theorem dX12_goBack_98 : decode cX12_goBack 98 = .ok (.baload, 1) := by decide +kernel
theorem dX12_goBack_99 : decode cX12_goBack 99 = .ok (.ifCond .eq 10, 3) := by decide +kernel
theorem dX12_goBack_102 : decode cX12_goBack 102 = .ok (.aload_n 2, 1) := by decide +kernel
theorem dX12_goBack_103 : decode cX12_goBack 103 = .ok (.iload 4, 2) := by decide +kernel
theorem dX12_goBack_105 : decode cX12_goBack 105 = .ok (.iconst 1, 1) := by decide +kernel
theorem dX12_goBack_106 : decode cX12_goBack 106 = .ok (.bastore, 1) := by decide +kernel
theorem dX12_goBack_107 : decode cX12_goBack 107 = .ok (.iconst 1, 1) := by decide +kernel
theorem dX12_goBack_108 : decode cX12_goBack 108 = .ok (.istore_n 3, 1) := by decide +kernel
theorem dX12_goBack_109 : decode cX12_goBack 109 = .ok (.iinc 5 1, 3) := by decide +kernel
theorem dX12_goBack_112 : decode cX12_goBack 112 = .ok (.goto (-53), 3) := by decide +kernel
theorem dX12_goBack_115 : decode cX12_goBack 115 = .ok (.iinc 4 (-1), 3) := by decide +kernel
theorem dX12_goBack_118 : decode cX12_goBack 118 = .ok (.goto (-73), 3) := by decide +kernel
theorem dX12_goBack_121 : decode cX12_goBack 121 = .ok (.goto (-90), 3) := by decide +kernel
theorem dX12_goBack_124 : decode cX12_goBack 124 = .ok (.return_, 1) := by decide +kernel
set_option maxHeartbeats 4000000 in
set_option maxRecDepth 100000 in
theorem c_X12_goBack (l : Launch) {cs : Nat → ClassId} {ad : Nat → Nat} {A : Nat → Prop} {D : va_G} (hJ : hp_J SM ad A)   {h : hp_H} {a1 : Int32} {Q : hp_H → Prop} (hq : q_X12_goBack h a1 Q) : hp_Mv l yX12_goBack cX12_goBack 6 none rm_X12_goBack [.ref (ad 0), .int a1, .ref (ad 42)] SM cs ad A D h Q := by
  refine hp_met (own := RX12) rfl (by decide) (Nat.le_of_ble_eq_true rfl) rfl (fun p e s m args below meth c Z E hZ hnm => ?_)
  refine hp_sub (lv' := [(0, .ref (ad 0)), (1, .int a1), (2, .ref (ad 42))]) [0, 1, 2] rfl ?_
  unfold q_X12_goBack at hq
  refine hp_iconst E (nI 0) dX12_goBack_0 (by decide) ?_
  refine hp_istore_n (lv' := [(0, .ref (ad 0)), (1, .int a1), (2, .ref (ad 42)), (3, .int (nI 0))]) E dX12_goBack_1 rfl (by decide) rfl rfl ?_
  refine hq (fun v2 h3 => hp_G p l e rm_X12_goBack s m args below meth c SM cs ad A D 6 0 0 Z 2 [(0, .ref (ad 0)), (1, .int a1), (2, .ref (ad 42)), (3, .int v2)] [] h3) (fun v2 h3 hB => ?_)
  obtain ⟨B1, hq, hB1⟩ := hB
  refine hp_iload_n E 3 dX12_goBack_2 rfl rfl ?_
  refine hp_aload_n E 0 dX12_goBack_3 rfl rfl ?_
  refine hp_gI E g_RX12_167 fM_0_35 dX12_goBack_4 ?_
  refine hp_icmp_ge E 29 dX12_goBack_7 (by decide) (fun c4 => ?_) (fun c4 => ?_)
  · replace hq := hq.1 c4
    refine hp_iconst E (nI 1) dX12_goBack_29 (by decide) ?_
    refine hp_istore_n (lv' := [(0, .ref (ad 0)), (1, .int a1), (2, .ref (ad 42)), (3, .int (nI 1))]) E dX12_goBack_30 rfl (by decide) rfl rfl ?_
    refine hp_sub (lv' := [(0, .ref (ad 0)), (2, .ref (ad 42)), (3, .int (nI 1))]) [0, 2, 3] rfl ?_
    refine hq (fun v6 h7 => hp_G p l e rm_X12_goBack s m args below meth c SM cs ad A D 6 0 0 Z 31 [(0, .ref (ad 0)), (2, .ref (ad 42)), (3, .int v6)] [] h7) (fun v6 h7 hB => ?_)
    obtain ⟨B5, hq, hB5⟩ := hB
    refine hp_iload_n E 2 dX12_goBack_31 rfl rfl ?_
    refine hp_if_eq E 124 dX12_goBack_32 (by decide) (fun c8 => ?_) (fun c8 => ?_)
    · replace hq := hq.1 c8
      exact hp_vret E hq hZ dX12_goBack_124
    · replace hq := hq.2 c8
      refine hp_iconst E (nI 0) dX12_goBack_35 (by decide) ?_
      refine hp_istore_n (lv' := [(0, .ref (ad 0)), (2, .ref (ad 42)), (3, .int (nI 0))]) E dX12_goBack_36 rfl (by decide) rfl rfl ?_
      refine hp_aload_n E 0 dX12_goBack_37 rfl rfl ?_
      refine hp_gI E g_RX12_167 fM_0_35 dX12_goBack_38 ?_
      refine hp_iconst E (nI 1) dX12_goBack_41 (by decide) ?_
      refine hp_isub E dX12_goBack_42 ?_
      refine hp_topi (fun v9 ev9 => ?_)
      replace hq := hq v9 ev9
      refine hp_istore (lv' := [(0, .ref (ad 0)), (2, .ref (ad 42)), (3, .int (nI 0)), (4, .int v9)]) E dX12_goBack_43 (by decide) rfl rfl ?_
      refine hq (fun v11 v12 h13 => hp_G p l e rm_X12_goBack s m args below meth c SM cs ad A D 6 0 0 Z 45 [(0, .ref (ad 0)), (2, .ref (ad 42)), (3, .int v11), (4, .int v12)] [] h13) (fun v11 v12 h13 hB => ?_)
      obtain ⟨B10, hq, hB10⟩ := hB
      refine hp_iload E 3 dX12_goBack_45 rfl ?_
      refine hp_if_lt E 121 dX12_goBack_47 (by decide) (fun c14 => ?_) (fun c14 => ?_)
      · replace hq := hq.1 c14
        refine hp_goto E 31 dX12_goBack_121 (by decide) ?_
        refine hp_sub (lv' := [(0, .ref (ad 0)), (2, .ref (ad 42)), (3, .int v11)]) [0, 1, 2] rfl ?_
        exact hB5 _ _ hq
      · replace hq := hq.2 c14
        refine hp_aload_n E 0 dX12_goBack_50 rfl rfl ?_
        refine hp_gR E g_RX12_101 fM_0_41 dX12_goBack_51 ?_
        refine hp_iload E 3 dX12_goBack_54 rfl ?_
        refine hp_iald E 31 aM_31 hq.1 dX12_goBack_56 ?_
        replace hq := hq.2
        refine hp_topi (fun v15 ev15 => ?_)
        replace hq := hq v15 ev15
        refine hp_istore (lv' := [(0, .ref (ad 0)), (2, .ref (ad 42)), (3, .int v11), (4, .int v12), (5, .int v15)]) E dX12_goBack_57 (by decide) rfl rfl ?_
        refine hq (fun v17 v18 h19 => hp_G p l e rm_X12_goBack s m args below meth c SM cs ad A D 6 0 0 Z 59 [(0, .ref (ad 0)), (2, .ref (ad 42)), (3, .int v17), (4, .int v12), (5, .int v18)] [] h19) (fun v17 v18 h19 hB => ?_)
        obtain ⟨B16, hq, hB16⟩ := hB
        refine hp_iload E 4 dX12_goBack_59 rfl ?_
        refine hp_aload_n E 0 dX12_goBack_61 rfl rfl ?_
        refine hp_gR E g_RX12_101 fM_0_41 dX12_goBack_62 ?_
        refine hp_iload E 3 dX12_goBack_65 rfl ?_
        refine hp_iconst E (nI 1) dX12_goBack_67 (by decide) ?_
        refine hp_iadd E dX12_goBack_68 ?_
        refine hp_iald E 31 aM_31 hq.1 dX12_goBack_69 ?_
        replace hq := hq.2
        obtain ⟨K21, hq, hK21⟩ := hq
        have jK21 : K21 → hp_G p l e rm_X12_goBack s m args below meth c SM cs ad A D 6 0 0 Z 115 [(0, .ref (ad 0)), (2, .ref (ad 42)), (3, .int v17), (4, .int v12)] [] h19 := by
          intro  hq
          replace hq := hK21  hq
          obtain ⟨v30, ev30⟩ : ∃ z : Int32, z = v12 + (-1) := ⟨_, rfl⟩
          replace hq := hq v30 ev30
          refine hp_iinc (lv' := [(0, .ref (ad 0)), (2, .ref (ad 42)), (3, .int v17), (4, .int v30)]) E 3 v30 dX12_goBack_115 rfl (by rw [ev30]; rfl) (by decide) rfl rfl ?_
          refine hp_goto E 45 dX12_goBack_118 (by decide) ?_
          exact hB10 _ _ _ hq
        refine hp_icmp_ge E 115 dX12_goBack_70 (by decide) (fun c20 => ?_) (fun c20 => ?_)
        · replace hq := hq.1 c20
          refine hp_sub (lv' := [(0, .ref (ad 0)), (2, .ref (ad 42)), (3, .int v17), (4, .int v12)]) [0, 1, 2, 3] rfl ?_
          exact jK21  hq
        · replace hq := hq.2 c20
          refine hp_aload_n E 0 dX12_goBack_73 rfl rfl ?_
          refine hp_gR E g_RX12_128 fM_0_55 dX12_goBack_74 ?_
          refine hp_iload E 3 dX12_goBack_77 rfl ?_
          refine hp_zald E 40 aM_40 hq.1 dX12_goBack_79 ?_
          replace hq := hq.2
          refine hp_if_eq E 115 dX12_goBack_80 (by decide) (fun c22 => ?_) (fun c22 => ?_)
          · replace hq := hq.1 c22
            refine hp_sub (lv' := [(0, .ref (ad 0)), (2, .ref (ad 42)), (3, .int v17), (4, .int v12)]) [0, 1, 2, 3] rfl ?_
            exact jK21  hq
          · replace hq := hq.2 c22
            refine hp_aload_n E 1 dX12_goBack_83 rfl rfl ?_
            refine hp_iload E 3 dX12_goBack_84 rfl ?_
            refine hp_zald E 42 aM_42 hq.1 dX12_goBack_86 ?_
            replace hq := hq.2
            refine hp_if_ne E 115 dX12_goBack_87 (by decide) (fun c23 => ?_) (fun c23 => ?_)
            · replace hq := hq.2 c23
              refine hp_sub (lv' := [(0, .ref (ad 0)), (2, .ref (ad 42)), (3, .int v17), (4, .int v12)]) [0, 1, 2, 3] rfl ?_
              exact jK21  hq
            · replace hq := hq.1 c23
              refine hp_aload_n E 1 dX12_goBack_90 rfl rfl ?_
              refine hp_aload_n E 0 dX12_goBack_91 rfl rfl ?_
              refine hp_gR E g_RX12_104 fM_0_42 dX12_goBack_92 ?_
              refine hp_iload E 4 dX12_goBack_95 rfl ?_
              refine hp_iald E 32 aM_32 hq.1 dX12_goBack_97 ?_
              replace hq := hq.2
              refine hp_zald E 42 aM_42 hq.1 dX12_goBack_98 ?_
              replace hq := hq.2
              obtain ⟨K25, hq, hK25⟩ := hq
              have jK25 : ∀ (v26 : Int32) (h27 : hp_H), K25 v26 h27 → hp_G p l e rm_X12_goBack s m args below meth c SM cs ad A D 6 0 0 Z 109 [(0, .ref (ad 0)), (2, .ref (ad 42)), (3, .int v26), (4, .int v12), (5, .int v18)] [] h27 := by
                intro v26 h27 hq
                replace hq := hK25 v26 h27 hq
                obtain ⟨v29, ev29⟩ : ∃ z : Int32, z = v18 + (nI 1) := ⟨_, rfl⟩
                replace hq := hq v29 ev29
                refine hp_iinc (lv' := [(0, .ref (ad 0)), (2, .ref (ad 42)), (3, .int v26), (4, .int v12), (5, .int v29)]) E 4 v29 dX12_goBack_109 rfl (by rw [ev29]; rfl) (by decide) rfl rfl ?_
                refine hp_goto E 59 dX12_goBack_112 (by decide) ?_
                exact hB16 _ _ _ hq
              refine hp_if_eq E 109 dX12_goBack_99 (by decide) (fun c24 => ?_) (fun c24 => ?_)
              · replace hq := hq.1 c24
                exact jK25 _ _ hq
              · replace hq := hq.2 c24
                refine hp_aload_n E 1 dX12_goBack_102 rfl rfl ?_
                refine hp_iload E 3 dX12_goBack_103 rfl ?_
                refine hp_iconst E (nI 1) dX12_goBack_105 (by decide) ?_
                have hin := hq.1
                replace hq := hq.2
                refine hp_zast E 42 aM_42 zM_42 hJ hin (by unfold hp_bz; decide) dX12_goBack_106 ?_
                refine hp_toph (fun h28 eh28 => ?_)
                replace hq := hq h28 eh28
                refine hp_iconst E (nI 1) dX12_goBack_107 (by decide) ?_
                refine hp_istore_n (lv' := [(0, .ref (ad 0)), (2, .ref (ad 42)), (3, .int (nI 1)), (4, .int v12), (5, .int v18)]) E dX12_goBack_108 rfl (by decide) rfl rfl ?_
                exact jK25 _ _ hq
  · replace hq := hq.2 c4
    refine hp_aload_n E 2 dX12_goBack_10 rfl rfl ?_
    refine hp_iload_n E 3 dX12_goBack_11 rfl rfl ?_
    refine hp_iload_n E 3 dX12_goBack_12 rfl rfl ?_
    refine hp_iload_n E 1 dX12_goBack_13 rfl rfl ?_
    obtain ⟨K32, hq, hK32⟩ := hq
    have jK32 : ∀ (v33 : Int32), K32 v33 → hp_G p l e rm_X12_goBack s m args below meth c SM cs ad A D 6 0 0 Z 22 [(0, .ref (ad 0)), (1, .int a1), (2, .ref (ad 42)), (3, .int v2)] [.int v33, .int v2, .ref (ad 42)] h3 := by
      intro v33 hq
      replace hq := hK32 v33 hq
      have hin := hq.1
      replace hq := hq.2
      have hbz := hq.1
      replace hq := hq.2
      refine hp_zast E 42 aM_42 zM_42 hJ hin hbz dX12_goBack_22 ?_
      refine hp_toph (fun h34 eh34 => ?_)
      replace hq := hq h34 eh34
      obtain ⟨v35, ev35⟩ : ∃ z : Int32, z = v2 + (nI 1) := ⟨_, rfl⟩
      replace hq := hq v35 ev35
      refine hp_iinc (lv' := [(0, .ref (ad 0)), (1, .int a1), (2, .ref (ad 42)), (3, .int v35)]) E 3 v35 dX12_goBack_23 rfl (by rw [ev35]; rfl) (by decide) rfl rfl ?_
      refine hp_goto E 2 dX12_goBack_26 (by decide) ?_
      exact hB1 _ _ hq
    refine hp_icmp_ne E 21 dX12_goBack_14 (by decide) (fun c31 => ?_) (fun c31 => ?_)
    · replace hq := hq.2 c31
      refine hp_iconst E (nI 0) dX12_goBack_21 (by decide) ?_
      exact jK32 _ hq
    · replace hq := hq.1 c31
      refine hp_iconst E (nI 1) dX12_goBack_17 (by decide) ?_
      refine hp_goto E 22 dX12_goBack_18 (by decide) ?_
      exact jK32 _ hq
theorem dX12_hasTurn_0 : decode cX12_hasTurn 0 = .ok (.iconst 0, 1) := by decide +kernel
theorem dX12_hasTurn_1 : decode cX12_hasTurn 1 = .ok (.istore_n 3, 1) := by decide +kernel
theorem dX12_hasTurn_2 : decode cX12_hasTurn 2 = .ok (.iload_n 3, 1) := by decide +kernel
theorem dX12_hasTurn_3 : decode cX12_hasTurn 3 = .ok (.aload_n 0, 1) := by decide +kernel
theorem dX12_hasTurn_4 : decode cX12_hasTurn 4 = .ok (.getfield 167, 3) := by decide +kernel
theorem dX12_hasTurn_7 : decode cX12_hasTurn 7 = .ok (.if_icmp .ge 132, 3) := by decide +kernel
theorem dX12_hasTurn_10 : decode cX12_hasTurn 10 = .ok (.iconst 0, 1) := by decide +kernel
theorem dX12_hasTurn_11 : decode cX12_hasTurn 11 = .ok (.istore 4, 2) := by decide +kernel
theorem dX12_hasTurn_13 : decode cX12_hasTurn 13 = .ok (.aload_n 0, 1) := by decide +kernel
theorem dX12_hasTurn_14 : decode cX12_hasTurn 14 = .ok (.getfield 101, 3) := by decide +kernel
theorem dX12_hasTurn_17 : decode cX12_hasTurn 17 = .ok (.iload_n 3, 1) := by decide +kernel
theorem dX12_hasTurn_18 : decode cX12_hasTurn 18 = .ok (.iaload, 1) := by decide +kernel
theorem dX12_hasTurn_19 : decode cX12_hasTurn 19 = .ok (.istore 5, 2) := by decide +kernel
theorem dX12_hasTurn_21 : decode cX12_hasTurn 21 = .ok (.iload 5, 2) := by decide +kernel
theorem dX12_hasTurn_23 : decode cX12_hasTurn 23 = .ok (.aload_n 0, 1) := by decide +kernel
theorem dX12_hasTurn_24 : decode cX12_hasTurn 24 = .ok (.getfield 101, 3) := by decide +kernel
theorem dX12_hasTurn_27 : decode cX12_hasTurn 27 = .ok (.iload_n 3, 1) := by decide +kernel
theorem dX12_hasTurn_28 : decode cX12_hasTurn 28 = .ok (.iconst 1, 1) := by decide +kernel
theorem dX12_hasTurn_29 : decode cX12_hasTurn 29 = .ok (.iadd, 1) := by decide +kernel
theorem dX12_hasTurn_30 : decode cX12_hasTurn 30 = .ok (.iaload, 1) := by decide +kernel
theorem dX12_hasTurn_31 : decode cX12_hasTurn 31 = .ok (.if_icmp .ge 86, 3) := by decide +kernel
theorem dX12_hasTurn_34 : decode cX12_hasTurn 34 = .ok (.aload_n 0, 1) := by decide +kernel
theorem dX12_hasTurn_35 : decode cX12_hasTurn 35 = .ok (.getfield 131, 3) := by decide +kernel
theorem dX12_hasTurn_38 : decode cX12_hasTurn 38 = .ok (.iload_n 3, 1) := by decide +kernel
theorem dX12_hasTurn_39 : decode cX12_hasTurn 39 = .ok (.baload, 1) := by decide +kernel
theorem dX12_hasTurn_40 : decode cX12_hasTurn 40 = .ok (.ifCond .eq 77, 3) := by decide +kernel
theorem dX12_hasTurn_43 : decode cX12_hasTurn 43 = .ok (.aload_n 0, 1) := by decide +kernel
theorem dX12_hasTurn_44 : decode cX12_hasTurn 44 = .ok (.getfield 107, 3) := by decide +kernel
theorem dX12_hasTurn_47 : decode cX12_hasTurn 47 = .ok (.iload 5, 2) := by decide +kernel
theorem dX12_hasTurn_49 : decode cX12_hasTurn 49 = .ok (.iaload, 1) := by decide +kernel
theorem dX12_hasTurn_50 : decode cX12_hasTurn 50 = .ok (.iload_n 1, 1) := by decide +kernel
theorem dX12_hasTurn_51 : decode cX12_hasTurn 51 = .ok (.if_icmp .ne 18, 3) := by decide +kernel
theorem dX12_hasTurn_54 : decode cX12_hasTurn 54 = .ok (.aload_n 0, 1) := by decide +kernel
theorem dX12_hasTurn_55 : decode cX12_hasTurn 55 = .ok (.getfield 110, 3) := by decide +kernel
theorem dX12_hasTurn_58 : decode cX12_hasTurn 58 = .ok (.iload 5, 2) := by decide +kernel
theorem dX12_hasTurn_60 : decode cX12_hasTurn 60 = .ok (.iaload, 1) := by decide +kernel
theorem dX12_hasTurn_61 : decode cX12_hasTurn 61 = .ok (.iload_n 2, 1) := by decide +kernel
theorem dX12_hasTurn_62 : decode cX12_hasTurn 62 = .ok (.if_icmp .ne 7, 3) := by decide +kernel
theorem dX12_hasTurn_65 : decode cX12_hasTurn 65 = .ok (.iconst 1, 1) := by decide +kernel
theorem dX12_hasTurn_66 : decode cX12_hasTurn 66 = .ok (.goto 4, 3) := by decide +kernel
theorem dX12_hasTurn_69 : decode cX12_hasTurn 69 = .ok (.iconst 0, 1) := by decide +kernel
theorem dX12_hasTurn_70 : decode cX12_hasTurn 70 = .ok (.istore 6, 2) := by decide +kernel
theorem dX12_hasTurn_72 : decode cX12_hasTurn 72 = .ok (.iload 4, 2) := by decide +kernel
theorem dX12_hasTurn_74 : decode cX12_hasTurn 74 = .ok (.ifCond .ne 8, 3) := by decide +kernel
theorem dX12_hasTurn_77 : decode cX12_hasTurn 77 = .ok (.iload 6, 2) := by decide +kernel
theorem dX12_hasTurn_79 : decode cX12_hasTurn 79 = .ok (.ifCond .eq 7, 3) := by decide +kernel
theorem dX12_hasTurn_82 : decode cX12_hasTurn 82 = .ok (.iconst 1, 1) := by decide +kernel
theorem dX12_hasTurn_83 : decode cX12_hasTurn 83 = .ok (.goto 4, 3) := by decide +kernel
theorem dX12_hasTurn_86 : decode cX12_hasTurn 86 = .ok (.iconst 0, 1) := by decide +kernel
theorem dX12_hasTurn_87 : decode cX12_hasTurn 87 = .ok (.istore 4, 2) := by decide +kernel
theorem dX12_hasTurn_89 : decode cX12_hasTurn 89 = .ok (.iload 6, 2) := by decide +kernel
theorem dX12_hasTurn_91 : decode cX12_hasTurn 91 = .ok (.ifCond .eq 20, 3) := by decide +kernel
theorem dX12_hasTurn_94 : decode cX12_hasTurn 94 = .ok (.aload_n 0, 1) := by decide +kernel
theorem dX12_hasTurn_95 : decode cX12_hasTurn 95 = .ok (.getfield 131, 3) := by decide +kernel
theorem dX12_hasTurn_98 : decode cX12_hasTurn 98 = .ok (.aload_n 0, 1) := by decide +kernel
theorem dX12_hasTurn_99 : decode cX12_hasTurn 99 = .ok (.getfield 104, 3) := by decide +kernel
theorem dX12_hasTurn_102 : decode cX12_hasTurn 102 = .ok (.iload 5, 2) := by decide +kernel
theorem dX12_hasTurn_104 : decode cX12_hasTurn 104 = .ok (.iaload, 1) := by decide +kernel
theorem dX12_hasTurn_105 : decode cX12_hasTurn 105 = .ok (.baload, 1) := by decide +kernel
theorem dX12_hasTurn_106 : decode cX12_hasTurn 106 = .ok (.ifCond .eq 5, 3) := by decide +kernel
theorem dX12_hasTurn_109 : decode cX12_hasTurn 109 = .ok (.iconst 1, 1) := by decide +kernel
theorem dX12_hasTurn_110 : decode cX12_hasTurn 110 = .ok (.ireturn, 1) := by decide +kernel
theorem dX12_hasTurn_111 : decode cX12_hasTurn 111 = .ok (.iinc 5 1, 3) := by decide +kernel
theorem dX12_hasTurn_114 : decode cX12_hasTurn 114 = .ok (.goto (-93), 3) := by decide +kernel
theorem dX12_hasTurn_117 : decode cX12_hasTurn 117 = .ok (.aload_n 0, 1) := by decide +kernel
theorem dX12_hasTurn_118 : decode cX12_hasTurn 118 = .ok (.getfield 131, 3) := by decide +kernel
theorem dX12_hasTurn_121 : decode cX12_hasTurn 121 = .ok (.iload_n 3, 1) := by decide +kernel
theorem dX12_hasTurn_122 : decode cX12_hasTurn 122 = .ok (.baload, 1) := by decide +kernel
theorem dX12_hasTurn_123 : decode cX12_hasTurn 123 = .ok (.ifCond .eq 10, 3) := by decide +kernel
theorem dX12_hasTurn_126 : decode cX12_hasTurn 126 = .ok (.iload 4, 2) := by decide +kernel
theorem dX12_hasTurn_128 : decode cX12_hasTurn 128 = .ok (.ifCond .ne 5, 3) := by decide +kernel
theorem dX12_hasTurn_131 : decode cX12_hasTurn 131 = .ok (.iconst 1, 1) := by decide +kernel
theorem dX12_hasTurn_132 : decode cX12_hasTurn 132 = .ok (.ireturn, 1) := by decide +kernel
theorem dX12_hasTurn_133 : decode cX12_hasTurn 133 = .ok (.iinc 3 1, 3) := by decide +kernel
theorem dX12_hasTurn_136 : decode cX12_hasTurn 136 = .ok (.goto (-134), 3) := by decide +kernel
theorem dX12_hasTurn_139 : decode cX12_hasTurn 139 = .ok (.iconst 0, 1) := by decide +kernel
theorem dX12_hasTurn_140 : decode cX12_hasTurn 140 = .ok (.ireturn, 1) := by decide +kernel
set_option maxHeartbeats 4000000 in
set_option maxRecDepth 100000 in
theorem c_X12_hasTurn (l : Launch) {cs : Nat → ClassId} {ad : Nat → Nat} {A : Nat → Prop} {D : va_G} (hJ : hp_J SM ad A)   {h : hp_H} {a1 a2 : Int32} {Q : Int32 → Prop} (hq : q_X12_hasTurn h a1 a2 Q) : hp_Mi l yX12_hasTurn cX12_hasTurn 7 (some .boolean) rm_X12_hasTurn [.ref (ad 0), .int a1, .int a2] SM cs ad A D h (fun r h' => Q r ∧ h' = h) := by
  refine hp_met (own := RX12) rfl (by decide) (Nat.le_of_ble_eq_true rfl) rfl (fun p e s m args below meth c Z E hZ hnm => ?_)
  refine hp_sub (lv' := [(0, .ref (ad 0)), (1, .int a1), (2, .int a2)]) [0, 1, 2] rfl ?_
  unfold q_X12_hasTurn at hq
  refine hp_iconst E (nI 0) dX12_hasTurn_0 (by decide) ?_
  refine hp_istore_n (lv' := [(0, .ref (ad 0)), (1, .int a1), (2, .int a2), (3, .int (nI 0))]) E dX12_hasTurn_1 rfl (by decide) rfl rfl ?_
  refine hq (fun v2 => hp_G p l e rm_X12_hasTurn s m args below meth c SM cs ad A D 7 0 0 Z 2 [(0, .ref (ad 0)), (1, .int a1), (2, .int a2), (3, .int v2)] [] h) (fun v2 hB => ?_)
  obtain ⟨B1, hq, hB1⟩ := hB
  refine hp_iload_n E 3 dX12_hasTurn_2 rfl rfl ?_
  refine hp_aload_n E 0 dX12_hasTurn_3 rfl rfl ?_
  refine hp_gI E g_RX12_167 fM_0_35 dX12_hasTurn_4 ?_
  refine hp_icmp_ge E 139 dX12_hasTurn_7 (by decide) (fun c3 => ?_) (fun c3 => ?_)
  · replace hq := hq.1 c3
    refine hp_iconst E (nI 0) dX12_hasTurn_139 (by decide) ?_
    exact hp_zret E (by unfold hp_bz; decide) ⟨hq, rfl⟩ hZ dX12_hasTurn_140
  · replace hq := hq.2 c3
    refine hp_iconst E (nI 0) dX12_hasTurn_10 (by decide) ?_
    refine hp_istore (lv' := [(0, .ref (ad 0)), (1, .int a1), (2, .int a2), (3, .int v2), (4, .int (nI 0))]) E dX12_hasTurn_11 (by decide) rfl rfl ?_
    refine hp_aload_n E 0 dX12_hasTurn_13 rfl rfl ?_
    refine hp_gR E g_RX12_101 fM_0_41 dX12_hasTurn_14 ?_
    refine hp_iload_n E 3 dX12_hasTurn_17 rfl rfl ?_
    refine hp_iald E 31 aM_31 hq.1 dX12_hasTurn_18 ?_
    replace hq := hq.2
    refine hp_topi (fun v4 ev4 => ?_)
    replace hq := hq v4 ev4
    refine hp_istore (lv' := [(0, .ref (ad 0)), (1, .int a1), (2, .int a2), (3, .int v2), (4, .int (nI 0)), (5, .int v4)]) E dX12_hasTurn_19 (by decide) rfl rfl ?_
    refine hq (fun v6 v7 => hp_G p l e rm_X12_hasTurn s m args below meth c SM cs ad A D 7 0 0 Z 21 [(0, .ref (ad 0)), (1, .int a1), (2, .int a2), (3, .int v2), (4, .int v6), (5, .int v7)] [] h) (fun v6 v7 hB => ?_)
    obtain ⟨B5, hq, hB5⟩ := hB
    refine hp_iload E 5 dX12_hasTurn_21 rfl ?_
    refine hp_aload_n E 0 dX12_hasTurn_23 rfl rfl ?_
    refine hp_gR E g_RX12_101 fM_0_41 dX12_hasTurn_24 ?_
    refine hp_iload_n E 3 dX12_hasTurn_27 rfl rfl ?_
    refine hp_iconst E (nI 1) dX12_hasTurn_28 (by decide) ?_
    refine hp_iadd E dX12_hasTurn_29 ?_
    refine hp_iald E 31 aM_31 hq.1 dX12_hasTurn_30 ?_
    replace hq := hq.2
    obtain ⟨K9, hq, hK9⟩ := hq
    have jK9 : K9 → hp_G p l e rm_X12_hasTurn s m args below meth c SM cs ad A D 7 0 0 Z 117 [(0, .ref (ad 0)), (1, .int a1), (2, .int a2), (3, .int v2), (4, .int v6)] [] h := by
      intro  hq
      replace hq := hK9  hq
      refine hp_aload_n E 0 dX12_hasTurn_117 rfl rfl ?_
      refine hp_gR E g_RX12_131 fM_0_56 dX12_hasTurn_118 ?_
      refine hp_iload_n E 3 dX12_hasTurn_121 rfl rfl ?_
      refine hp_zald E 41 aM_41 hq.1 dX12_hasTurn_122 ?_
      replace hq := hq.2
      obtain ⟨K26, hq, hK26⟩ := hq
      have jK26 : K26 → hp_G p l e rm_X12_hasTurn s m args below meth c SM cs ad A D 7 0 0 Z 133 [(0, .ref (ad 0)), (1, .int a1), (2, .int a2), (3, .int v2)] [] h := by
        intro  hq
        replace hq := hK26  hq
        obtain ⟨v28, ev28⟩ : ∃ z : Int32, z = v2 + (nI 1) := ⟨_, rfl⟩
        replace hq := hq v28 ev28
        refine hp_iinc (lv' := [(0, .ref (ad 0)), (1, .int a1), (2, .int a2), (3, .int v28)]) E 3 v28 dX12_hasTurn_133 rfl (by rw [ev28]; rfl) (by decide) rfl rfl ?_
        refine hp_goto E 2 dX12_hasTurn_136 (by decide) ?_
        exact hB1 _ hq
      refine hp_if_eq E 133 dX12_hasTurn_123 (by decide) (fun c25 => ?_) (fun c25 => ?_)
      · replace hq := hq.1 c25
        refine hp_sub (lv' := [(0, .ref (ad 0)), (1, .int a1), (2, .int a2), (3, .int v2)]) [0, 1, 2, 3] rfl ?_
        exact jK26  hq
      · replace hq := hq.2 c25
        refine hp_iload E 4 dX12_hasTurn_126 rfl ?_
        refine hp_if_ne E 133 dX12_hasTurn_128 (by decide) (fun c27 => ?_) (fun c27 => ?_)
        · replace hq := hq.2 c27
          refine hp_sub (lv' := [(0, .ref (ad 0)), (1, .int a1), (2, .int a2), (3, .int v2)]) [0, 1, 2, 3] rfl ?_
          exact jK26  hq
        · replace hq := hq.1 c27
          refine hp_iconst E (nI 1) dX12_hasTurn_131 (by decide) ?_
          exact hp_zret E (by unfold hp_bz; decide) ⟨hq, rfl⟩ hZ dX12_hasTurn_132
    refine hp_icmp_ge E 117 dX12_hasTurn_31 (by decide) (fun c8 => ?_) (fun c8 => ?_)
    · replace hq := hq.1 c8
      refine hp_sub (lv' := [(0, .ref (ad 0)), (1, .int a1), (2, .int a2), (3, .int v2), (4, .int v6)]) [0, 1, 2, 3, 4] rfl ?_
      exact jK9  hq
    · replace hq := hq.2 c8
      refine hp_aload_n E 0 dX12_hasTurn_34 rfl rfl ?_
      refine hp_gR E g_RX12_131 fM_0_56 dX12_hasTurn_35 ?_
      refine hp_iload_n E 3 dX12_hasTurn_38 rfl rfl ?_
      refine hp_zald E 41 aM_41 hq.1 dX12_hasTurn_39 ?_
      replace hq := hq.2
      refine hp_if_eq E 117 dX12_hasTurn_40 (by decide) (fun c10 => ?_) (fun c10 => ?_)
      · replace hq := hq.1 c10
        refine hp_sub (lv' := [(0, .ref (ad 0)), (1, .int a1), (2, .int a2), (3, .int v2), (4, .int v6)]) [0, 1, 2, 3, 4] rfl ?_
        exact jK9  hq
      · replace hq := hq.2 c10
        refine hp_aload_n E 0 dX12_hasTurn_43 rfl rfl ?_
        refine hp_gR E g_RX12_107 fM_0_43 dX12_hasTurn_44 ?_
        refine hp_iload E 5 dX12_hasTurn_47 rfl ?_
        refine hp_iald E 33 aM_33 hq.1 dX12_hasTurn_49 ?_
        replace hq := hq.2
        refine hp_iload_n E 1 dX12_hasTurn_50 rfl rfl ?_
        obtain ⟨K12, hq, hK12⟩ := hq
        have jK12 : ∀ (v13 : Int32), K12 v13 → hp_G p l e rm_X12_hasTurn s m args below meth c SM cs ad A D 7 0 0 Z 70 [(0, .ref (ad 0)), (1, .int a1), (2, .int a2), (3, .int v2), (4, .int v6), (5, .int v7)] [.int v13] h := by
          intro v13 hq
          replace hq := hK12 v13 hq
          refine hp_istore (lv' := [(0, .ref (ad 0)), (1, .int a1), (2, .int a2), (3, .int v2), (4, .int v6), (5, .int v7), (6, .int v13)]) E dX12_hasTurn_70 (by decide) rfl rfl ?_
          refine hp_iload E 4 dX12_hasTurn_72 rfl ?_
          obtain ⟨K17, hq, hK17⟩ := hq
          have jK17 : ∀ (v18 : Int32), K17 v18 → hp_G p l e rm_X12_hasTurn s m args below meth c SM cs ad A D 7 0 0 Z 87 [(0, .ref (ad 0)), (1, .int a1), (2, .int a2), (3, .int v2), (5, .int v7), (6, .int v13)] [.int v18] h := by
            intro v18 hq
            replace hq := hK17 v18 hq
            refine hp_istore (lv' := [(0, .ref (ad 0)), (1, .int a1), (2, .int a2), (3, .int v2), (4, .int v18), (5, .int v7), (6, .int v13)]) E dX12_hasTurn_87 (by decide) rfl rfl ?_
            refine hp_iload E 6 dX12_hasTurn_89 rfl ?_
            obtain ⟨K22, hq, hK22⟩ := hq
            have jK22 : K22 → hp_G p l e rm_X12_hasTurn s m args below meth c SM cs ad A D 7 0 0 Z 111 [(0, .ref (ad 0)), (1, .int a1), (2, .int a2), (3, .int v2), (4, .int v18), (5, .int v7)] [] h := by
              intro  hq
              replace hq := hK22  hq
              obtain ⟨v24, ev24⟩ : ∃ z : Int32, z = v7 + (nI 1) := ⟨_, rfl⟩
              replace hq := hq v24 ev24
              refine hp_iinc (lv' := [(0, .ref (ad 0)), (1, .int a1), (2, .int a2), (3, .int v2), (4, .int v18), (5, .int v24)]) E 5 v24 dX12_hasTurn_111 rfl (by rw [ev24]; rfl) (by decide) rfl rfl ?_
              refine hp_goto E 21 dX12_hasTurn_114 (by decide) ?_
              exact hB5 _ _ hq
            refine hp_if_eq E 111 dX12_hasTurn_91 (by decide) (fun c21 => ?_) (fun c21 => ?_)
            · replace hq := hq.1 c21
              refine hp_sub (lv' := [(0, .ref (ad 0)), (1, .int a1), (2, .int a2), (3, .int v2), (4, .int v18), (5, .int v7)]) [0, 1, 2, 3, 4, 5] rfl ?_
              exact jK22  hq
            · replace hq := hq.2 c21
              refine hp_aload_n E 0 dX12_hasTurn_94 rfl rfl ?_
              refine hp_gR E g_RX12_131 fM_0_56 dX12_hasTurn_95 ?_
              refine hp_aload_n E 0 dX12_hasTurn_98 rfl rfl ?_
              refine hp_gR E g_RX12_104 fM_0_42 dX12_hasTurn_99 ?_
              refine hp_iload E 5 dX12_hasTurn_102 rfl ?_
              refine hp_iald E 32 aM_32 hq.1 dX12_hasTurn_104 ?_
              replace hq := hq.2
              refine hp_zald E 41 aM_41 hq.1 dX12_hasTurn_105 ?_
              replace hq := hq.2
              refine hp_if_eq E 111 dX12_hasTurn_106 (by decide) (fun c23 => ?_) (fun c23 => ?_)
              · replace hq := hq.1 c23
                refine hp_sub (lv' := [(0, .ref (ad 0)), (1, .int a1), (2, .int a2), (3, .int v2), (4, .int v18), (5, .int v7)]) [0, 1, 2, 3, 4, 5] rfl ?_
                exact jK22  hq
              · replace hq := hq.2 c23
                refine hp_iconst E (nI 1) dX12_hasTurn_109 (by decide) ?_
                exact hp_zret E (by unfold hp_bz; decide) ⟨hq, rfl⟩ hZ dX12_hasTurn_110
          obtain ⟨K19, hq, hK19⟩ := hq
          have jK19 : K19 → hp_G p l e rm_X12_hasTurn s m args below meth c SM cs ad A D 7 0 0 Z 82 [(0, .ref (ad 0)), (1, .int a1), (2, .int a2), (3, .int v2), (5, .int v7), (6, .int v13)] [] h := by
            intro  hq
            replace hq := hK19  hq
            refine hp_iconst E (nI 1) dX12_hasTurn_82 (by decide) ?_
            refine hp_goto E 87 dX12_hasTurn_83 (by decide) ?_
            exact jK17 _ hq
          refine hp_if_ne E 82 dX12_hasTurn_74 (by decide) (fun c16 => ?_) (fun c16 => ?_)
          · replace hq := hq.2 c16
            refine hp_sub (lv' := [(0, .ref (ad 0)), (1, .int a1), (2, .int a2), (3, .int v2), (5, .int v7), (6, .int v13)]) [0, 1, 2, 3, 5, 6] rfl ?_
            exact jK19  hq
          · replace hq := hq.1 c16
            refine hp_iload E 6 dX12_hasTurn_77 rfl ?_
            refine hp_if_eq E 86 dX12_hasTurn_79 (by decide) (fun c20 => ?_) (fun c20 => ?_)
            · replace hq := hq.1 c20
              refine hp_iconst E (nI 0) dX12_hasTurn_86 (by decide) ?_
              refine hp_sub (lv' := [(0, .ref (ad 0)), (1, .int a1), (2, .int a2), (3, .int v2), (5, .int v7), (6, .int v13)]) [0, 1, 2, 3, 5, 6] rfl ?_
              exact jK17 _ hq
            · replace hq := hq.2 c20
              refine hp_sub (lv' := [(0, .ref (ad 0)), (1, .int a1), (2, .int a2), (3, .int v2), (5, .int v7), (6, .int v13)]) [0, 1, 2, 3, 5, 6] rfl ?_
              exact jK19  hq
        obtain ⟨K14, hq, hK14⟩ := hq
        have jK14 : K14 → hp_G p l e rm_X12_hasTurn s m args below meth c SM cs ad A D 7 0 0 Z 69 [(0, .ref (ad 0)), (1, .int a1), (2, .int a2), (3, .int v2), (4, .int v6), (5, .int v7)] [] h := by
          intro  hq
          replace hq := hK14  hq
          refine hp_iconst E (nI 0) dX12_hasTurn_69 (by decide) ?_
          exact jK12 _ hq
        refine hp_icmp_ne E 69 dX12_hasTurn_51 (by decide) (fun c11 => ?_) (fun c11 => ?_)
        · replace hq := hq.2 c11
          exact jK14  hq
        · replace hq := hq.1 c11
          refine hp_aload_n E 0 dX12_hasTurn_54 rfl rfl ?_
          refine hp_gR E g_RX12_110 fM_0_44 dX12_hasTurn_55 ?_
          refine hp_iload E 5 dX12_hasTurn_58 rfl ?_
          refine hp_iald E 34 aM_34 hq.1 dX12_hasTurn_60 ?_
          replace hq := hq.2
          refine hp_iload_n E 2 dX12_hasTurn_61 rfl rfl ?_
          refine hp_icmp_ne E 69 dX12_hasTurn_62 (by decide) (fun c15 => ?_) (fun c15 => ?_)
          · replace hq := hq.2 c15
            exact jK14  hq
          · replace hq := hq.1 c15
            refine hp_iconst E (nI 1) dX12_hasTurn_65 (by decide) ?_
            refine hp_goto E 70 dX12_hasTurn_66 (by decide) ?_
            exact jK12 _ hq
theorem dX12_isFair_0 : decode cX12_isFair 0 = .ok (.iconst 0, 1) := by decide +kernel
theorem dX12_isFair_1 : decode cX12_isFair 1 = .ok (.istore_n 1, 1) := by decide +kernel
theorem dX12_isFair_2 : decode cX12_isFair 2 = .ok (.iload_n 1, 1) := by decide +kernel
theorem dX12_isFair_3 : decode cX12_isFair 3 = .ok (.aload_n 0, 1) := by decide +kernel
theorem dX12_isFair_4 : decode cX12_isFair 4 = .ok (.getfield 183, 3) := by decide +kernel
theorem dX12_isFair_7 : decode cX12_isFair 7 = .ok (.if_icmp .ge 38, 3) := by decide +kernel
theorem dX12_isFair_10 : decode cX12_isFair 10 = .ok (.iconst 0, 1) := by decide +kernel
theorem dX12_isFair_11 : decode cX12_isFair 11 = .ok (.istore_n 2, 1) := by decide +kernel
theorem dX12_isFair_12 : decode cX12_isFair 12 = .ok (.iload_n 2, 1) := by decide +kernel
theorem dX12_isFair_13 : decode cX12_isFair 13 = .ok (.aload_n 0, 1) := by decide +kernel
theorem dX12_isFair_14 : decode cX12_isFair 14 = .ok (.getfield 19, 3) := by decide +kernel
theorem dX12_isFair_17 : decode cX12_isFair 17 = .ok (.iload_n 1, 1) := by decide +kernel
theorem dX12_isFair_18 : decode cX12_isFair 18 = .ok (.iaload, 1) := by decide +kernel
theorem dX12_isFair_19 : decode cX12_isFair 19 = .ok (.if_icmp .ge 20, 3) := by decide +kernel
theorem dX12_isFair_22 : decode cX12_isFair 22 = .ok (.aload_n 0, 1) := by decide +kernel
theorem dX12_isFair_23 : decode cX12_isFair 23 = .ok (.iload_n 1, 1) := by decide +kernel
theorem dX12_isFair_24 : decode cX12_isFair 24 = .ok (.iload_n 2, 1) := by decide +kernel
theorem dX12_isFair_25 : decode cX12_isFair 25 = .ok (.invokevirtual 319, 3) := by decide +kernel
theorem dX12_isFair_28 : decode cX12_isFair 28 = .ok (.ifCond .ne 5, 3) := by decide +kernel
theorem dX12_isFair_31 : decode cX12_isFair 31 = .ok (.iconst 0, 1) := by decide +kernel
theorem dX12_isFair_32 : decode cX12_isFair 32 = .ok (.ireturn, 1) := by decide +kernel
theorem dX12_isFair_33 : decode cX12_isFair 33 = .ok (.iinc 2 1, 3) := by decide +kernel
theorem dX12_isFair_36 : decode cX12_isFair 36 = .ok (.goto (-24), 3) := by decide +kernel
theorem dX12_isFair_39 : decode cX12_isFair 39 = .ok (.iinc 1 1, 3) := by decide +kernel
theorem dX12_isFair_42 : decode cX12_isFair 42 = .ok (.goto (-40), 3) := by decide +kernel
theorem dX12_isFair_45 : decode cX12_isFair 45 = .ok (.iconst 1, 1) := by decide +kernel
theorem dX12_isFair_46 : decode cX12_isFair 46 = .ok (.ireturn, 1) := by decide +kernel
set_option maxHeartbeats 4000000 in
set_option maxRecDepth 100000 in
theorem c_X12_isFair (l : Launch) {cs : Nat → ClassId} {ad : Nat → Nat} {A : Nat → Prop} {D : va_G} (hJ : hp_J SM ad A)   {h : hp_H} {Q : Int32 → Prop} (hq : q_X12_isFair h Q) : hp_Mi l yX12_isFair cX12_isFair 3 (some .boolean) rm_X12_isFair [.ref (ad 0)] SM cs ad A D h (fun r h' => Q r ∧ h' = h) := by
  refine hp_met (own := RX12) rfl (by decide) (Nat.le_of_ble_eq_true rfl) rfl (fun p e s m args below meth c Z E hZ hnm => ?_)
  refine hp_sub (lv' := [(0, .ref (ad 0))]) [0] rfl ?_
  unfold q_X12_isFair at hq
  refine hp_iconst E (nI 0) dX12_isFair_0 (by decide) ?_
  refine hp_istore_n (lv' := [(0, .ref (ad 0)), (1, .int (nI 0))]) E dX12_isFair_1 rfl (by decide) rfl rfl ?_
  refine hq (fun v2 => hp_G p l e rm_X12_isFair s m args below meth c SM cs ad A D 3 0 0 Z 2 [(0, .ref (ad 0)), (1, .int v2)] [] h) (fun v2 hB => ?_)
  obtain ⟨B1, hq, hB1⟩ := hB
  refine hp_iload_n E 1 dX12_isFair_2 rfl rfl ?_
  refine hp_aload_n E 0 dX12_isFair_3 rfl rfl ?_
  refine hp_gI E g_RX12_183 fM_0_4 dX12_isFair_4 ?_
  refine hp_icmp_ge E 45 dX12_isFair_7 (by decide) (fun c3 => ?_) (fun c3 => ?_)
  · replace hq := hq.1 c3
    refine hp_iconst E (nI 1) dX12_isFair_45 (by decide) ?_
    exact hp_zret E (by unfold hp_bz; decide) ⟨hq, rfl⟩ hZ dX12_isFair_46
  · replace hq := hq.2 c3
    refine hp_iconst E (nI 0) dX12_isFair_10 (by decide) ?_
    refine hp_istore_n (lv' := [(0, .ref (ad 0)), (1, .int v2), (2, .int (nI 0))]) E dX12_isFair_11 rfl (by decide) rfl rfl ?_
    refine hq (fun v5 => hp_G p l e rm_X12_isFair s m args below meth c SM cs ad A D 3 0 0 Z 12 [(0, .ref (ad 0)), (1, .int v2), (2, .int v5)] [] h) (fun v5 hB => ?_)
    obtain ⟨B4, hq, hB4⟩ := hB
    refine hp_iload_n E 2 dX12_isFair_12 rfl rfl ?_
    refine hp_aload_n E 0 dX12_isFair_13 rfl rfl ?_
    refine hp_gR E g_RX12_19 fM_0_5 dX12_isFair_14 ?_
    refine hp_iload_n E 1 dX12_isFair_17 rfl rfl ?_
    refine hp_iald E 4 aM_4 hq.1 dX12_isFair_18 ?_
    replace hq := hq.2
    refine hp_icmp_ge E 39 dX12_isFair_19 (by decide) (fun c6 => ?_) (fun c6 => ?_)
    · replace hq := hq.1 c6
      obtain ⟨v7, ev7⟩ : ∃ z : Int32, z = v2 + (nI 1) := ⟨_, rfl⟩
      replace hq := hq v7 ev7
      refine hp_iinc (lv' := [(0, .ref (ad 0)), (1, .int v7), (2, .int v5)]) E 1 v7 dX12_isFair_39 rfl (by rw [ev7]; rfl) (by decide) rfl rfl ?_
      refine hp_goto E 2 dX12_isFair_42 (by decide) ?_
      refine hp_sub (lv' := [(0, .ref (ad 0)), (1, .int v7)]) [0, 1] rfl ?_
      exact hB1 _ hq
    · replace hq := hq.2 c6
      refine hp_aload_n E 0 dX12_isFair_22 rfl rfl ?_
      refine hp_iload_n E 1 dX12_isFair_23 rfl rfl ?_
      refine hp_iload_n E 2 dX12_isFair_24 rfl rfl ?_
      refine hp_callVip (rest := []) E 0 fM_0_0 vcl_12 (c_X12_hasTurn l hJ hq) F_X12_hasTurn m_RX12_319 ⟨rfl, rfl⟩ ⟨Nat.le_of_ble_eq_true rfl, Nat.le_of_ble_eq_true rfl⟩ ⟨Nat.zero_le _, Nat.zero_le _⟩ rfl rfl (Nat.le_of_ble_eq_true rfl) dX12_isFair_25 (fun r8 hq => ?_)
      refine hp_if_ne E 33 dX12_isFair_28 (by decide) (fun c9 => ?_) (fun c9 => ?_)
      · replace hq := hq.2 c9
        obtain ⟨v10, ev10⟩ : ∃ z : Int32, z = v5 + (nI 1) := ⟨_, rfl⟩
        replace hq := hq v10 ev10
        refine hp_iinc (lv' := [(0, .ref (ad 0)), (1, .int v2), (2, .int v10)]) E 2 v10 dX12_isFair_33 rfl (by rw [ev10]; rfl) (by decide) rfl rfl ?_
        refine hp_goto E 12 dX12_isFair_36 (by decide) ?_
        exact hB4 _ hq
      · replace hq := hq.1 c9
        refine hp_iconst E (nI 0) dX12_isFair_31 (by decide) ?_
        exact hp_zret E (by unfold hp_bz; decide) ⟨hq, rfl⟩ hZ dX12_isFair_32
theorem dX12_hasMove_0 : decode cX12_hasMove 0 = .ok (.iconst 0, 1) := by decide +kernel
theorem dX12_hasMove_1 : decode cX12_hasMove 1 = .ok (.istore_n 1, 1) := by decide +kernel
theorem dX12_hasMove_2 : decode cX12_hasMove 2 = .ok (.iload_n 1, 1) := by decide +kernel
theorem dX12_hasMove_3 : decode cX12_hasMove 3 = .ok (.aload_n 0, 1) := by decide +kernel
theorem dX12_hasMove_4 : decode cX12_hasMove 4 = .ok (.getfield 167, 3) := by decide +kernel
theorem dX12_hasMove_7 : decode cX12_hasMove 7 = .ok (.if_icmp .ge 69, 3) := by decide +kernel
theorem dX12_hasMove_10 : decode cX12_hasMove 10 = .ok (.aload_n 0, 1) := by decide +kernel
theorem dX12_hasMove_11 : decode cX12_hasMove 11 = .ok (.getfield 101, 3) := by decide +kernel
theorem dX12_hasMove_14 : decode cX12_hasMove 14 = .ok (.iload_n 1, 1) := by decide +kernel
theorem dX12_hasMove_15 : decode cX12_hasMove 15 = .ok (.iaload, 1) := by decide +kernel
theorem dX12_hasMove_16 : decode cX12_hasMove 16 = .ok (.istore_n 2, 1) := by decide +kernel
theorem dX12_hasMove_17 : decode cX12_hasMove 17 = .ok (.iload_n 2, 1) := by decide +kernel
theorem dX12_hasMove_18 : decode cX12_hasMove 18 = .ok (.aload_n 0, 1) := by decide +kernel
theorem dX12_hasMove_19 : decode cX12_hasMove 19 = .ok (.getfield 101, 3) := by decide +kernel
theorem dX12_hasMove_22 : decode cX12_hasMove 22 = .ok (.iload_n 1, 1) := by decide +kernel
theorem dX12_hasMove_23 : decode cX12_hasMove 23 = .ok (.iconst 1, 1) := by decide +kernel
theorem dX12_hasMove_24 : decode cX12_hasMove 24 = .ok (.iadd, 1) := by decide +kernel
theorem dX12_hasMove_25 : decode cX12_hasMove 25 = .ok (.iaload, 1) := by decide +kernel
theorem dX12_hasMove_26 : decode cX12_hasMove 26 = .ok (.if_icmp .ge 44, 3) := by decide +kernel
theorem dX12_hasMove_29 : decode cX12_hasMove 29 = .ok (.aload_n 0, 1) := by decide +kernel
theorem dX12_hasMove_30 : decode cX12_hasMove 30 = .ok (.getfield 131, 3) := by decide +kernel
theorem dX12_hasMove_33 : decode cX12_hasMove 33 = .ok (.iload_n 1, 1) := by decide +kernel
theorem dX12_hasMove_34 : decode cX12_hasMove 34 = .ok (.baload, 1) := by decide +kernel
theorem dX12_hasMove_35 : decode cX12_hasMove 35 = .ok (.ifCond .eq 35, 3) := by decide +kernel
theorem dX12_hasMove_38 : decode cX12_hasMove 38 = .ok (.aload_n 0, 1) := by decide +kernel
theorem dX12_hasMove_39 : decode cX12_hasMove 39 = .ok (.getfield 107, 3) := by decide +kernel
theorem dX12_hasMove_42 : decode cX12_hasMove 42 = .ok (.iload_n 2, 1) := by decide +kernel
theorem dX12_hasMove_43 : decode cX12_hasMove 43 = .ok (.iaload, 1) := by decide +kernel
theorem dX12_hasMove_44 : decode cX12_hasMove 44 = .ok (.iconst (-1), 1) := by decide +kernel
theorem dX12_hasMove_45 : decode cX12_hasMove 45 = .ok (.if_icmp .eq 19, 3) := by decide +kernel
theorem dX12_hasMove_48 : decode cX12_hasMove 48 = .ok (.aload_n 0, 1) := by decide +kernel
theorem dX12_hasMove_49 : decode cX12_hasMove 49 = .ok (.getfield 131, 3) := by decide +kernel
theorem dX12_hasMove_52 : decode cX12_hasMove 52 = .ok (.aload_n 0, 1) := by decide +kernel
theorem dX12_hasMove_53 : decode cX12_hasMove 53 = .ok (.getfield 104, 3) := by decide +kernel
theorem dX12_hasMove_56 : decode cX12_hasMove 56 = .ok (.iload_n 2, 1) := by decide +kernel
theorem dX12_hasMove_57 : decode cX12_hasMove 57 = .ok (.iaload, 1) := by decide +kernel
theorem dX12_hasMove_58 : decode cX12_hasMove 58 = .ok (.baload, 1) := by decide +kernel
theorem dX12_hasMove_59 : decode cX12_hasMove 59 = .ok (.ifCond .eq 5, 3) := by decide +kernel
theorem dX12_hasMove_62 : decode cX12_hasMove 62 = .ok (.iconst 1, 1) := by decide +kernel
theorem dX12_hasMove_63 : decode cX12_hasMove 63 = .ok (.ireturn, 1) := by decide +kernel
theorem dX12_hasMove_64 : decode cX12_hasMove 64 = .ok (.iinc 2 1, 3) := by decide +kernel
theorem dX12_hasMove_67 : decode cX12_hasMove 67 = .ok (.goto (-50), 3) := by decide +kernel
theorem dX12_hasMove_70 : decode cX12_hasMove 70 = .ok (.iinc 1 1, 3) := by decide +kernel
theorem dX12_hasMove_73 : decode cX12_hasMove 73 = .ok (.goto (-71), 3) := by decide +kernel
theorem dX12_hasMove_76 : decode cX12_hasMove 76 = .ok (.iconst 0, 1) := by decide +kernel
theorem dX12_hasMove_77 : decode cX12_hasMove 77 = .ok (.ireturn, 1) := by decide +kernel
set_option maxHeartbeats 4000000 in
set_option maxRecDepth 100000 in
theorem c_X12_hasMove (l : Launch) {cs : Nat → ClassId} {ad : Nat → Nat} {A : Nat → Prop} {D : va_G} (hJ : hp_J SM ad A)   {h : hp_H} {Q : Int32 → Prop} (hq : q_X12_hasMove h Q) : hp_Mi l yX12_hasMove cX12_hasMove 3 (some .boolean) rm_X12_hasMove [.ref (ad 0)] SM cs ad A D h (fun r h' => Q r ∧ h' = h) := by
  refine hp_met (own := RX12) rfl (by decide) (Nat.le_of_ble_eq_true rfl) rfl (fun p e s m args below meth c Z E hZ hnm => ?_)
  refine hp_sub (lv' := [(0, .ref (ad 0))]) [0] rfl ?_
  unfold q_X12_hasMove at hq
  refine hp_iconst E (nI 0) dX12_hasMove_0 (by decide) ?_
  refine hp_istore_n (lv' := [(0, .ref (ad 0)), (1, .int (nI 0))]) E dX12_hasMove_1 rfl (by decide) rfl rfl ?_
  refine hq (fun v2 => hp_G p l e rm_X12_hasMove s m args below meth c SM cs ad A D 3 0 0 Z 2 [(0, .ref (ad 0)), (1, .int v2)] [] h) (fun v2 hB => ?_)
  obtain ⟨B1, hq, hB1⟩ := hB
  refine hp_iload_n E 1 dX12_hasMove_2 rfl rfl ?_
  refine hp_aload_n E 0 dX12_hasMove_3 rfl rfl ?_
  refine hp_gI E g_RX12_167 fM_0_35 dX12_hasMove_4 ?_
  refine hp_icmp_ge E 76 dX12_hasMove_7 (by decide) (fun c3 => ?_) (fun c3 => ?_)
  · replace hq := hq.1 c3
    refine hp_iconst E (nI 0) dX12_hasMove_76 (by decide) ?_
    exact hp_zret E (by unfold hp_bz; decide) ⟨hq, rfl⟩ hZ dX12_hasMove_77
  · replace hq := hq.2 c3
    refine hp_aload_n E 0 dX12_hasMove_10 rfl rfl ?_
    refine hp_gR E g_RX12_101 fM_0_41 dX12_hasMove_11 ?_
    refine hp_iload_n E 1 dX12_hasMove_14 rfl rfl ?_
    refine hp_iald E 31 aM_31 hq.1 dX12_hasMove_15 ?_
    replace hq := hq.2
    refine hp_topi (fun v4 ev4 => ?_)
    replace hq := hq v4 ev4
    refine hp_istore_n (lv' := [(0, .ref (ad 0)), (1, .int v2), (2, .int v4)]) E dX12_hasMove_16 rfl (by decide) rfl rfl ?_
    refine hq (fun v6 => hp_G p l e rm_X12_hasMove s m args below meth c SM cs ad A D 3 0 0 Z 17 [(0, .ref (ad 0)), (1, .int v2), (2, .int v6)] [] h) (fun v6 hB => ?_)
    obtain ⟨B5, hq, hB5⟩ := hB
    refine hp_iload_n E 2 dX12_hasMove_17 rfl rfl ?_
    refine hp_aload_n E 0 dX12_hasMove_18 rfl rfl ?_
    refine hp_gR E g_RX12_101 fM_0_41 dX12_hasMove_19 ?_
    refine hp_iload_n E 1 dX12_hasMove_22 rfl rfl ?_
    refine hp_iconst E (nI 1) dX12_hasMove_23 (by decide) ?_
    refine hp_iadd E dX12_hasMove_24 ?_
    refine hp_iald E 31 aM_31 hq.1 dX12_hasMove_25 ?_
    replace hq := hq.2
    obtain ⟨K8, hq, hK8⟩ := hq
    have jK8 : K8 → hp_G p l e rm_X12_hasMove s m args below meth c SM cs ad A D 3 0 0 Z 70 [(0, .ref (ad 0)), (1, .int v2)] [] h := by
      intro  hq
      replace hq := hK8  hq
      obtain ⟨v14, ev14⟩ : ∃ z : Int32, z = v2 + (nI 1) := ⟨_, rfl⟩
      replace hq := hq v14 ev14
      refine hp_iinc (lv' := [(0, .ref (ad 0)), (1, .int v14)]) E 1 v14 dX12_hasMove_70 rfl (by rw [ev14]; rfl) (by decide) rfl rfl ?_
      refine hp_goto E 2 dX12_hasMove_73 (by decide) ?_
      exact hB1 _ hq
    refine hp_icmp_ge E 70 dX12_hasMove_26 (by decide) (fun c7 => ?_) (fun c7 => ?_)
    · replace hq := hq.1 c7
      refine hp_sub (lv' := [(0, .ref (ad 0)), (1, .int v2)]) [0, 1] rfl ?_
      exact jK8  hq
    · replace hq := hq.2 c7
      refine hp_aload_n E 0 dX12_hasMove_29 rfl rfl ?_
      refine hp_gR E g_RX12_131 fM_0_56 dX12_hasMove_30 ?_
      refine hp_iload_n E 1 dX12_hasMove_33 rfl rfl ?_
      refine hp_zald E 41 aM_41 hq.1 dX12_hasMove_34 ?_
      replace hq := hq.2
      refine hp_if_eq E 70 dX12_hasMove_35 (by decide) (fun c9 => ?_) (fun c9 => ?_)
      · replace hq := hq.1 c9
        refine hp_sub (lv' := [(0, .ref (ad 0)), (1, .int v2)]) [0, 1] rfl ?_
        exact jK8  hq
      · replace hq := hq.2 c9
        refine hp_aload_n E 0 dX12_hasMove_38 rfl rfl ?_
        refine hp_gR E g_RX12_107 fM_0_43 dX12_hasMove_39 ?_
        refine hp_iload_n E 2 dX12_hasMove_42 rfl rfl ?_
        refine hp_iald E 33 aM_33 hq.1 dX12_hasMove_43 ?_
        replace hq := hq.2
        refine hp_iconst E (-1) dX12_hasMove_44 (by decide) ?_
        obtain ⟨K11, hq, hK11⟩ := hq
        have jK11 : K11 → hp_G p l e rm_X12_hasMove s m args below meth c SM cs ad A D 3 0 0 Z 64 [(0, .ref (ad 0)), (1, .int v2), (2, .int v6)] [] h := by
          intro  hq
          replace hq := hK11  hq
          obtain ⟨v13, ev13⟩ : ∃ z : Int32, z = v6 + (nI 1) := ⟨_, rfl⟩
          replace hq := hq v13 ev13
          refine hp_iinc (lv' := [(0, .ref (ad 0)), (1, .int v2), (2, .int v13)]) E 2 v13 dX12_hasMove_64 rfl (by rw [ev13]; rfl) (by decide) rfl rfl ?_
          refine hp_goto E 17 dX12_hasMove_67 (by decide) ?_
          exact hB5 _ hq
        refine hp_icmp_eq E 64 dX12_hasMove_45 (by decide) (fun c10 => ?_) (fun c10 => ?_)
        · replace hq := hq.1 c10
          exact jK11  hq
        · replace hq := hq.2 c10
          refine hp_aload_n E 0 dX12_hasMove_48 rfl rfl ?_
          refine hp_gR E g_RX12_131 fM_0_56 dX12_hasMove_49 ?_
          refine hp_aload_n E 0 dX12_hasMove_52 rfl rfl ?_
          refine hp_gR E g_RX12_104 fM_0_42 dX12_hasMove_53 ?_
          refine hp_iload_n E 2 dX12_hasMove_56 rfl rfl ?_
          refine hp_iald E 32 aM_32 hq.1 dX12_hasMove_57 ?_
          replace hq := hq.2
          refine hp_zald E 41 aM_41 hq.1 dX12_hasMove_58 ?_
          replace hq := hq.2
          refine hp_if_eq E 64 dX12_hasMove_59 (by decide) (fun c12 => ?_) (fun c12 => ?_)
          · replace hq := hq.1 c12
            exact jK11  hq
          · replace hq := hq.2 c12
            refine hp_iconst E (nI 1) dX12_hasMove_62 (by decide) ?_
            exact hp_zret E (by unfold hp_bz; decide) ⟨hq, rfl⟩ hZ dX12_hasMove_63
