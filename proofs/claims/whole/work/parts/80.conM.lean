theorem dX12_in_0 : decode cX12_in 0 = .ok (.iload_n 0, 1) := by decide +kernel
theorem dX12_in_1 : decode cX12_in 1 = .ok (.iload_n 1, 1) := by decide +kernel
theorem dX12_in_2 : decode cX12_in 2 = .ok (.if_icmp .lt 12, 3) := by decide +kernel
theorem dX12_in_5 : decode cX12_in 5 = .ok (.iload_n 0, 1) := by decide +kernel
theorem dX12_in_6 : decode cX12_in 6 = .ok (.iload_n 2, 1) := by decide +kernel
theorem dX12_in_7 : decode cX12_in 7 = .ok (.if_icmp .gt 7, 3) := by decide +kernel
theorem dX12_in_10 : decode cX12_in 10 = .ok (.iconst 1, 1) := by decide +kernel
theorem dX12_in_11 : decode cX12_in 11 = .ok (.goto 4, 3) := by decide +kernel
theorem dX12_in_14 : decode cX12_in 14 = .ok (.iconst 0, 1) := by decide +kernel
theorem dX12_in_15 : decode cX12_in 15 = .ok (.ireturn, 1) := by decide +kernel
set_option maxHeartbeats 4000000 in
set_option maxRecDepth 100000 in
theorem c_X12_in (l : Launch) {cs : Nat → ClassId} {ad : Nat → Nat} {A : Nat → Prop} {D : va_G} (hJ : hp_J SM ad A)   {h : hp_H} {a0 a1 a2 : Int32} {Q : Int32 → Prop} (hq : q_X12_in a0 a1 a2 Q) : hp_Mi l yX12_in cX12_in 3 (some .boolean) rm_X12_in [.int a0, .int a1, .int a2] SM cs ad A D h (fun r h' => Q r ∧ h' = h) := by
  refine hp_met (own := RX12) rfl (by decide) (Nat.le_of_ble_eq_true rfl) rfl (fun p e s m args below meth c Z E hZ hnm => ?_)
  refine hp_sub (lv' := [(0, .int a0), (1, .int a1), (2, .int a2)]) [0, 1, 2] rfl ?_
  unfold q_X12_in at hq
  refine hp_iload_n E 0 dX12_in_0 rfl rfl ?_
  refine hp_iload_n E 1 dX12_in_1 rfl rfl ?_
  refine hp_icmp_lt E 14 dX12_in_2 (by decide) (fun c1 => ?_) (fun c1 => ?_)
  · replace hq := hq.1 c1
    refine hp_iconst E (nI 0) dX12_in_14 (by decide) ?_
    exact hp_zret E (by unfold hp_bz; decide) ⟨hq, rfl⟩ hZ dX12_in_15
  · replace hq := hq.2 c1
    refine hp_iload_n E 0 dX12_in_5 rfl rfl ?_
    refine hp_iload_n E 2 dX12_in_6 rfl rfl ?_
    refine hp_icmp_gt E 14 dX12_in_7 (by decide) (fun c2 => ?_) (fun c2 => ?_)
    · replace hq := hq.1 c2
      refine hp_iconst E (nI 0) dX12_in_14 (by decide) ?_
      exact hp_zret E (by unfold hp_bz; decide) ⟨hq, rfl⟩ hZ dX12_in_15
    · replace hq := hq.2 c2
      refine hp_iconst E (nI 1) dX12_in_10 (by decide) ?_
      refine hp_goto E 15 dX12_in_11 (by decide) ?_
      exact hp_zret E (by unfold hp_bz; decide) ⟨hq, rfl⟩ hZ dX12_in_15
theorem dX12_isValue_0 : decode cX12_isValue 0 = .ok (.iload_n 0, 1) := by decide +kernel
theorem dX12_isValue_1 : decode cX12_isValue 1 = .ok (.iconst 0, 1) := by decide +kernel
theorem dX12_isValue_2 : decode cX12_isValue 2 = .ok (.bipush 9, 2) := by decide +kernel
theorem dX12_isValue_4 : decode cX12_isValue 4 = .ok (.invokestatic 156, 3) := by decide +kernel
theorem dX12_isValue_7 : decode cX12_isValue 7 = .ok (.ifCond .eq 26, 3) := by decide +kernel
theorem dX12_isValue_10 : decode cX12_isValue 10 = .ok (.iload_n 1, 1) := by decide +kernel
theorem dX12_isValue_11 : decode cX12_isValue 11 = .ok (.iload_n 0, 1) := by decide +kernel
theorem dX12_isValue_12 : decode cX12_isValue 12 = .ok (.bipush 9, 2) := by decide +kernel
theorem dX12_isValue_14 : decode cX12_isValue 14 = .ok (.invokestatic 156, 3) := by decide +kernel
theorem dX12_isValue_17 : decode cX12_isValue 17 = .ok (.ifCond .eq 16, 3) := by decide +kernel
theorem dX12_isValue_20 : decode cX12_isValue 20 = .ok (.iload_n 2, 1) := by decide +kernel
theorem dX12_isValue_21 : decode cX12_isValue 21 = .ok (.iload_n 0, 1) := by decide +kernel
theorem dX12_isValue_22 : decode cX12_isValue 22 = .ok (.iload_n 1, 1) := by decide +kernel
theorem dX12_isValue_23 : decode cX12_isValue 23 = .ok (.invokestatic 156, 3) := by decide +kernel
theorem dX12_isValue_26 : decode cX12_isValue 26 = .ok (.ifCond .eq 7, 3) := by decide +kernel
theorem dX12_isValue_29 : decode cX12_isValue 29 = .ok (.iconst 1, 1) := by decide +kernel
theorem dX12_isValue_30 : decode cX12_isValue 30 = .ok (.goto 4, 3) := by decide +kernel
theorem dX12_isValue_33 : decode cX12_isValue 33 = .ok (.iconst 0, 1) := by decide +kernel
theorem dX12_isValue_34 : decode cX12_isValue 34 = .ok (.ireturn, 1) := by decide +kernel
set_option maxHeartbeats 4000000 in
set_option maxRecDepth 100000 in
theorem c_X12_isValue (l : Launch) {cs : Nat → ClassId} {ad : Nat → Nat} {A : Nat → Prop} {D : va_G} (hJ : hp_J SM ad A)   {h : hp_H} {a0 a1 a2 : Int32} {Q : Int32 → Prop} (hq : q_X12_isValue a0 a1 a2 Q) : hp_Mi l yX12_isValue cX12_isValue 3 (some .boolean) rm_X12_isValue [.int a0, .int a1, .int a2] SM cs ad A D h (fun r h' => Q r ∧ h' = h) := by
  refine hp_met (own := RX12) rfl (by decide) (Nat.le_of_ble_eq_true rfl) rfl (fun p e s m args below meth c Z E hZ hnm => ?_)
  refine hp_sub (lv' := [(0, .int a0), (1, .int a1), (2, .int a2)]) [0, 1, 2] rfl ?_
  unfold q_X12_isValue at hq
  refine hp_iload_n E 0 dX12_isValue_0 rfl rfl ?_
  refine hp_iconst E (nI 0) dX12_isValue_1 (by decide) ?_
  refine hp_bipush E (nI 9) dX12_isValue_2 (by decide) ?_
  refine hp_callSip (rest := []) E (c_X12_in l hJ hq) F_X12_in m_RX12_156 ⟨rfl, rfl⟩ ⟨Nat.le_of_ble_eq_true rfl, Nat.le_of_ble_eq_true rfl⟩ ⟨Nat.zero_le _, Nat.zero_le _⟩ rfl rfl (Nat.le_of_ble_eq_true rfl) dX12_isValue_4 (fun r1 hq => ?_)
  refine hp_if_eq E 33 dX12_isValue_7 (by decide) (fun c2 => ?_) (fun c2 => ?_)
  · replace hq := hq.1 c2
    refine hp_iconst E (nI 0) dX12_isValue_33 (by decide) ?_
    exact hp_zret E (by unfold hp_bz; decide) ⟨hq, rfl⟩ hZ dX12_isValue_34
  · replace hq := hq.2 c2
    refine hp_iload_n E 1 dX12_isValue_10 rfl rfl ?_
    refine hp_iload_n E 0 dX12_isValue_11 rfl rfl ?_
    refine hp_bipush E (nI 9) dX12_isValue_12 (by decide) ?_
    refine hp_callSip (rest := []) E (c_X12_in l hJ hq) F_X12_in m_RX12_156 ⟨rfl, rfl⟩ ⟨Nat.le_of_ble_eq_true rfl, Nat.le_of_ble_eq_true rfl⟩ ⟨Nat.zero_le _, Nat.zero_le _⟩ rfl rfl (Nat.le_of_ble_eq_true rfl) dX12_isValue_14 (fun r3 hq => ?_)
    refine hp_if_eq E 33 dX12_isValue_17 (by decide) (fun c4 => ?_) (fun c4 => ?_)
    · replace hq := hq.1 c4
      refine hp_iconst E (nI 0) dX12_isValue_33 (by decide) ?_
      exact hp_zret E (by unfold hp_bz; decide) ⟨hq, rfl⟩ hZ dX12_isValue_34
    · replace hq := hq.2 c4
      refine hp_iload_n E 2 dX12_isValue_20 rfl rfl ?_
      refine hp_iload_n E 0 dX12_isValue_21 rfl rfl ?_
      refine hp_iload_n E 1 dX12_isValue_22 rfl rfl ?_
      refine hp_callSip (rest := []) E (c_X12_in l hJ hq) F_X12_in m_RX12_156 ⟨rfl, rfl⟩ ⟨Nat.le_of_ble_eq_true rfl, Nat.le_of_ble_eq_true rfl⟩ ⟨Nat.zero_le _, Nat.zero_le _⟩ rfl rfl (Nat.le_of_ble_eq_true rfl) dX12_isValue_23 (fun r5 hq => ?_)
      refine hp_if_eq E 33 dX12_isValue_26 (by decide) (fun c6 => ?_) (fun c6 => ?_)
      · replace hq := hq.1 c6
        refine hp_iconst E (nI 0) dX12_isValue_33 (by decide) ?_
        exact hp_zret E (by unfold hp_bz; decide) ⟨hq, rfl⟩ hZ dX12_isValue_34
      · replace hq := hq.2 c6
        refine hp_iconst E (nI 1) dX12_isValue_29 (by decide) ?_
        refine hp_goto E 34 dX12_isValue_30 (by decide) ?_
        exact hp_zret E (by unfold hp_bz; decide) ⟨hq, rfl⟩ hZ dX12_isValue_34
theorem dX12_over_0 : decode cX12_over 0 = .ok (.aload_n 0, 1) := by decide +kernel
theorem dX12_over_1 : decode cX12_over 1 = .ok (.iconst 0, 1) := by decide +kernel
theorem dX12_over_2 : decode cX12_over 2 = .ok (.putfield 160, 3) := by decide +kernel
theorem dX12_over_5 : decode cX12_over 5 = .ok (.aload_n 0, 1) := by decide +kernel
theorem dX12_over_6 : decode cX12_over 6 = .ok (.iconst 0, 1) := by decide +kernel
theorem dX12_over_7 : decode cX12_over 7 = .ok (.putfield 164, 3) := by decide +kernel
theorem dX12_over_10 : decode cX12_over 10 = .ok (.aload_n 0, 1) := by decide +kernel
theorem dX12_over_11 : decode cX12_over 11 = .ok (.iconst 0, 1) := by decide +kernel
theorem dX12_over_12 : decode cX12_over 12 = .ok (.putfield 167, 3) := by decide +kernel
theorem dX12_over_15 : decode cX12_over 15 = .ok (.aload_n 0, 1) := by decide +kernel
theorem dX12_over_16 : decode cX12_over 16 = .ok (.iconst 0, 1) := by decide +kernel
theorem dX12_over_17 : decode cX12_over 17 = .ok (.putfield 171, 3) := by decide +kernel
theorem dX12_over_20 : decode cX12_over 20 = .ok (.return_, 1) := by decide +kernel
set_option maxHeartbeats 4000000 in
set_option maxRecDepth 100000 in
theorem c_X12_over (l : Launch) {cs : Nat → ClassId} {ad : Nat → Nat} {A : Nat → Prop} {D : va_G} (hJ : hp_J SM ad A)   {h : hp_H} {Q : hp_H → Prop} (hq : q_X12_over h Q) : hp_Mv l yX12_over cX12_over 1 none rm_X12_over [.ref (ad 0)] SM cs ad A D h Q := by
  refine hp_met (own := RX12) rfl (by decide) (Nat.le_of_ble_eq_true rfl) rfl (fun p e s m args below meth c Z E hZ hnm => ?_)
  refine hp_sub (lv' := [(0, .ref (ad 0))]) [0] rfl ?_
  unfold q_X12_over at hq
  refine hp_aload_n E 0 dX12_over_0 rfl rfl ?_
  refine hp_iconst E (nI 0) dX12_over_1 (by decide) ?_
  refine hp_pZ E p_RX12_160 fM_0_33 (by decide) hJ (by unfold hp_bz; decide) dX12_over_2 ?_
  refine hp_toph (fun h1 eh1 => ?_)
  replace hq := hq h1 eh1
  refine hp_aload_n E 0 dX12_over_5 rfl rfl ?_
  refine hp_iconst E (nI 0) dX12_over_6 (by decide) ?_
  refine hp_pZ E p_RX12_164 fM_0_34 (by decide) hJ (by unfold hp_bz; decide) dX12_over_7 ?_
  refine hp_toph (fun h2 eh2 => ?_)
  replace hq := hq h2 eh2
  refine hp_aload_n E 0 dX12_over_10 rfl rfl ?_
  refine hp_iconst E (nI 0) dX12_over_11 (by decide) ?_
  refine hp_pI E p_RX12_167 fM_0_35 (by decide) hJ dX12_over_12 ?_
  refine hp_toph (fun h3 eh3 => ?_)
  replace hq := hq h3 eh3
  refine hp_aload_n E 0 dX12_over_15 rfl rfl ?_
  refine hp_iconst E (nI 0) dX12_over_16 (by decide) ?_
  refine hp_pI E p_RX12_171 fM_0_40 (by decide) hJ dX12_over_17 ?_
  refine hp_toph (fun h4 eh4 => ?_)
  replace hq := hq h4 eh4
  exact hp_vret E hq hZ dX12_over_20
theorem dX12_shared_0 : decode cX12_shared 0 = .ok (.iload_n 1, 1) := by decide +kernel
theorem dX12_shared_1 : decode cX12_shared 1 = .ok (.iload_n 2, 1) := by decide +kernel
theorem dX12_shared_2 : decode cX12_shared 2 = .ok (.iload_n 3, 1) := by decide +kernel
theorem dX12_shared_3 : decode cX12_shared 3 = .ok (.invokestatic 174, 3) := by decide +kernel
theorem dX12_shared_6 : decode cX12_shared 6 = .ok (.ifCond .ne 6, 3) := by decide +kernel
theorem dX12_shared_9 : decode cX12_shared 9 = .ok (.bipush (-3), 2) := by decide +kernel
theorem dX12_shared_11 : decode cX12_shared 11 = .ok (.ireturn, 1) := by decide +kernel
theorem dX12_shared_12 : decode cX12_shared 12 = .ok (.aload_n 0, 1) := by decide +kernel
theorem dX12_shared_13 : decode cX12_shared 13 = .ok (.getfield 177, 3) := by decide +kernel
theorem dX12_shared_16 : decode cX12_shared 16 = .ok (.bipush 6, 2) := by decide +kernel
theorem dX12_shared_18 : decode cX12_shared 18 = .ok (.if_icmp .ne 6, 3) := by decide +kernel
theorem dX12_shared_21 : decode cX12_shared 21 = .ok (.bipush (-6), 2) := by decide +kernel
theorem dX12_shared_23 : decode cX12_shared 23 = .ok (.ireturn, 1) := by decide +kernel
theorem dX12_shared_24 : decode cX12_shared 24 = .ok (.aload_n 0, 1) := by decide +kernel
theorem dX12_shared_25 : decode cX12_shared 25 = .ok (.invokevirtual 180, 3) := by decide +kernel
theorem dX12_shared_28 : decode cX12_shared 28 = .ok (.aload_n 0, 1) := by decide +kernel
theorem dX12_shared_29 : decode cX12_shared 29 = .ok (.getfield 7, 3) := by decide +kernel
theorem dX12_shared_32 : decode cX12_shared 32 = .ok (.aload_n 0, 1) := by decide +kernel
theorem dX12_shared_33 : decode cX12_shared 33 = .ok (.getfield 177, 3) := by decide +kernel
theorem dX12_shared_36 : decode cX12_shared 36 = .ok (.iload_n 1, 1) := by decide +kernel
theorem dX12_shared_37 : decode cX12_shared 37 = .ok (.iastore, 1) := by decide +kernel
theorem dX12_shared_38 : decode cX12_shared 38 = .ok (.aload_n 0, 1) := by decide +kernel
theorem dX12_shared_39 : decode cX12_shared 39 = .ok (.getfield 13, 3) := by decide +kernel
theorem dX12_shared_42 : decode cX12_shared 42 = .ok (.aload_n 0, 1) := by decide +kernel
theorem dX12_shared_43 : decode cX12_shared 43 = .ok (.getfield 177, 3) := by decide +kernel
theorem dX12_shared_46 : decode cX12_shared 46 = .ok (.iload_n 2, 1) := by decide +kernel
theorem dX12_shared_47 : decode cX12_shared 47 = .ok (.iastore, 1) := by decide +kernel
theorem dX12_shared_48 : decode cX12_shared 48 = .ok (.aload_n 0, 1) := by decide +kernel
theorem dX12_shared_49 : decode cX12_shared 49 = .ok (.getfield 16, 3) := by decide +kernel
theorem dX12_shared_52 : decode cX12_shared 52 = .ok (.aload_n 0, 1) := by decide +kernel
theorem dX12_shared_53 : decode cX12_shared 53 = .ok (.getfield 177, 3) := by decide +kernel
theorem dX12_shared_56 : decode cX12_shared 56 = .ok (.iload_n 3, 1) := by decide +kernel
theorem dX12_shared_57 : decode cX12_shared 57 = .ok (.iastore, 1) := by decide +kernel
theorem dX12_shared_58 : decode cX12_shared 58 = .ok (.aload_n 0, 1) := by decide +kernel
theorem dX12_shared_59 : decode cX12_shared 59 = .ok (.dup, 1) := by decide +kernel
theorem dX12_shared_60 : decode cX12_shared 60 = .ok (.getfield 177, 3) := by decide +kernel
theorem dX12_shared_63 : decode cX12_shared 63 = .ok (.iconst 1, 1) := by decide +kernel
theorem dX12_shared_64 : decode cX12_shared 64 = .ok (.iadd, 1) := by decide +kernel
theorem dX12_shared_65 : decode cX12_shared 65 = .ok (.putfield 177, 3) := by decide +kernel
theorem dX12_shared_68 : decode cX12_shared 68 = .ok (.aload_n 0, 1) := by decide +kernel
theorem dX12_shared_69 : decode cX12_shared 69 = .ok (.getfield 177, 3) := by decide +kernel
theorem dX12_shared_72 : decode cX12_shared 72 = .ok (.iconst 1, 1) := by decide +kernel
theorem dX12_shared_73 : decode cX12_shared 73 = .ok (.isub, 1) := by decide +kernel
theorem dX12_shared_74 : decode cX12_shared 74 = .ok (.ireturn, 1) := by decide +kernel
set_option maxHeartbeats 4000000 in
set_option maxRecDepth 100000 in
theorem c_X12_shared (l : Launch) {cs : Nat → ClassId} {ad : Nat → Nat} {A : Nat → Prop} {D : va_G} (hJ : hp_J SM ad A)   {h : hp_H} {a1 a2 a3 : Int32} {Q : Int32 → hp_H → Prop} (hq : q_X12_shared h a1 a2 a3 Q) : hp_Mi l yX12_shared cX12_shared 4 (some .int) rm_X12_shared [.ref (ad 0), .int a1, .int a2, .int a3] SM cs ad A D h Q := by
  refine hp_met (own := RX12) rfl (by decide) (Nat.le_of_ble_eq_true rfl) rfl (fun p e s m args below meth c Z E hZ hnm => ?_)
  refine hp_sub (lv' := [(0, .ref (ad 0)), (1, .int a1), (2, .int a2), (3, .int a3)]) [0, 1, 2, 3] rfl ?_
  unfold q_X12_shared at hq
  refine hp_iload_n E 1 dX12_shared_0 rfl rfl ?_
  refine hp_iload_n E 2 dX12_shared_1 rfl rfl ?_
  refine hp_iload_n E 3 dX12_shared_2 rfl rfl ?_
  refine hp_callSip (rest := []) E (c_X12_isValue l hJ hq) F_X12_isValue m_RX12_174 ⟨rfl, rfl⟩ ⟨Nat.le_of_ble_eq_true rfl, Nat.le_of_ble_eq_true rfl⟩ ⟨Nat.zero_le _, Nat.zero_le _⟩ rfl rfl (Nat.le_of_ble_eq_true rfl) dX12_shared_3 (fun r1 hq => ?_)
  refine hp_if_ne E 12 dX12_shared_6 (by decide) (fun c2 => ?_) (fun c2 => ?_)
  · replace hq := hq.2 c2
    refine hp_aload_n E 0 dX12_shared_12 rfl rfl ?_
    refine hp_gI E g_RX12_177 fM_0_0 dX12_shared_13 ?_
    refine hp_bipush E (nI 6) dX12_shared_16 (by decide) ?_
    refine hp_icmp_ne E 24 dX12_shared_18 (by decide) (fun c3 => ?_) (fun c3 => ?_)
    · replace hq := hq.2 c3
      refine hp_aload_n E 0 dX12_shared_24 rfl rfl ?_
      refine hp_callVv' (rest := []) E 0 fM_0_0 vcl_12 (c_X12_over l hJ hq) F_X12_over m_RX12_180 ⟨rfl, rfl⟩ ⟨Nat.le_of_ble_eq_true rfl, Nat.le_of_ble_eq_true rfl⟩ ⟨Nat.zero_le _, Nat.zero_le _⟩ rfl rfl (Nat.le_of_ble_eq_true rfl) dX12_shared_25 (fun h4 hq => ?_)
      refine hp_aload_n E 0 dX12_shared_28 rfl rfl ?_
      refine hp_gR E g_RX12_7 fM_0_1 dX12_shared_29 ?_
      refine hp_aload_n E 0 dX12_shared_32 rfl rfl ?_
      refine hp_gI E g_RX12_177 fM_0_0 dX12_shared_33 ?_
      refine hp_iload_n E 1 dX12_shared_36 rfl rfl ?_
      have hin := hq.1
      replace hq := hq.2
      refine hp_iast E 1 aM_1 zM_1 hJ hin dX12_shared_37 ?_
      refine hp_toph (fun h5 eh5 => ?_)
      replace hq := hq h5 eh5
      refine hp_aload_n E 0 dX12_shared_38 rfl rfl ?_
      refine hp_gR E g_RX12_13 fM_0_2 dX12_shared_39 ?_
      refine hp_aload_n E 0 dX12_shared_42 rfl rfl ?_
      refine hp_gI E g_RX12_177 fM_0_0 dX12_shared_43 ?_
      refine hp_iload_n E 2 dX12_shared_46 rfl rfl ?_
      have hin := hq.1
      replace hq := hq.2
      refine hp_iast E 2 aM_2 zM_2 hJ hin dX12_shared_47 ?_
      refine hp_toph (fun h6 eh6 => ?_)
      replace hq := hq h6 eh6
      refine hp_aload_n E 0 dX12_shared_48 rfl rfl ?_
      refine hp_gR E g_RX12_16 fM_0_3 dX12_shared_49 ?_
      refine hp_aload_n E 0 dX12_shared_52 rfl rfl ?_
      refine hp_gI E g_RX12_177 fM_0_0 dX12_shared_53 ?_
      refine hp_iload_n E 3 dX12_shared_56 rfl rfl ?_
      have hin := hq.1
      replace hq := hq.2
      refine hp_iast E 3 aM_3 zM_3 hJ hin dX12_shared_57 ?_
      refine hp_toph (fun h7 eh7 => ?_)
      replace hq := hq h7 eh7
      refine hp_aload_n E 0 dX12_shared_58 rfl rfl ?_
      refine hp_dup E rfl dX12_shared_59 ?_
      refine hp_gI E g_RX12_177 fM_0_0 dX12_shared_60 ?_
      refine hp_iconst E (nI 1) dX12_shared_63 (by decide) ?_
      refine hp_iadd E dX12_shared_64 ?_
      refine hp_pI E p_RX12_177 fM_0_0 (by decide) hJ dX12_shared_65 ?_
      refine hp_toph (fun h8 eh8 => ?_)
      replace hq := hq h8 eh8
      refine hp_aload_n E 0 dX12_shared_68 rfl rfl ?_
      refine hp_gI E g_RX12_177 fM_0_0 dX12_shared_69 ?_
      refine hp_iconst E (nI 1) dX12_shared_72 (by decide) ?_
      refine hp_isub E dX12_shared_73 ?_
      exact hp_iret E hq hZ dX12_shared_74
    · replace hq := hq.1 c3
      refine hp_bipush E (-6) dX12_shared_21 (by decide) ?_
      exact hp_iret E hq hZ dX12_shared_23
  · replace hq := hq.1 c2
    refine hp_bipush E (-3) dX12_shared_9 (by decide) ?_
    exact hp_iret E hq hZ dX12_shared_11
theorem dX12_role_0 : decode cX12_role 0 = .ok (.iload_n 1, 1) := by decide +kernel
theorem dX12_role_1 : decode cX12_role 1 = .ok (.iconst 1, 1) := by decide +kernel
theorem dX12_role_2 : decode cX12_role 2 = .ok (.iconst 3, 1) := by decide +kernel
theorem dX12_role_3 : decode cX12_role 3 = .ok (.invokestatic 156, 3) := by decide +kernel
theorem dX12_role_6 : decode cX12_role 6 = .ok (.ifCond .ne 6, 3) := by decide +kernel
theorem dX12_role_9 : decode cX12_role 9 = .ok (.bipush (-3), 2) := by decide +kernel
theorem dX12_role_11 : decode cX12_role 11 = .ok (.ireturn, 1) := by decide +kernel
theorem dX12_role_12 : decode cX12_role 12 = .ok (.aload_n 0, 1) := by decide +kernel
theorem dX12_role_13 : decode cX12_role 13 = .ok (.getfield 183, 3) := by decide +kernel
theorem dX12_role_16 : decode cX12_role 16 = .ok (.iconst 3, 1) := by decide +kernel
theorem dX12_role_17 : decode cX12_role 17 = .ok (.if_icmp .ne 6, 3) := by decide +kernel
theorem dX12_role_20 : decode cX12_role 20 = .ok (.bipush (-6), 2) := by decide +kernel
theorem dX12_role_22 : decode cX12_role 22 = .ok (.ireturn, 1) := by decide +kernel
theorem dX12_role_23 : decode cX12_role 23 = .ok (.aload_n 0, 1) := by decide +kernel
theorem dX12_role_24 : decode cX12_role 24 = .ok (.invokevirtual 180, 3) := by decide +kernel
theorem dX12_role_27 : decode cX12_role 27 = .ok (.aload_n 0, 1) := by decide +kernel
theorem dX12_role_28 : decode cX12_role 28 = .ok (.getfield 19, 3) := by decide +kernel
theorem dX12_role_31 : decode cX12_role 31 = .ok (.aload_n 0, 1) := by decide +kernel
theorem dX12_role_32 : decode cX12_role 32 = .ok (.getfield 183, 3) := by decide +kernel
theorem dX12_role_35 : decode cX12_role 35 = .ok (.iload_n 1, 1) := by decide +kernel
theorem dX12_role_36 : decode cX12_role 36 = .ok (.iastore, 1) := by decide +kernel
theorem dX12_role_37 : decode cX12_role 37 = .ok (.aload_n 0, 1) := by decide +kernel
theorem dX12_role_38 : decode cX12_role 38 = .ok (.dup, 1) := by decide +kernel
theorem dX12_role_39 : decode cX12_role 39 = .ok (.getfield 183, 3) := by decide +kernel
theorem dX12_role_42 : decode cX12_role 42 = .ok (.iconst 1, 1) := by decide +kernel
theorem dX12_role_43 : decode cX12_role 43 = .ok (.iadd, 1) := by decide +kernel
theorem dX12_role_44 : decode cX12_role 44 = .ok (.putfield 183, 3) := by decide +kernel
theorem dX12_role_47 : decode cX12_role 47 = .ok (.aload_n 0, 1) := by decide +kernel
theorem dX12_role_48 : decode cX12_role 48 = .ok (.getfield 183, 3) := by decide +kernel
theorem dX12_role_51 : decode cX12_role 51 = .ok (.iconst 1, 1) := by decide +kernel
theorem dX12_role_52 : decode cX12_role 52 = .ok (.isub, 1) := by decide +kernel
theorem dX12_role_53 : decode cX12_role 53 = .ok (.ireturn, 1) := by decide +kernel
set_option maxHeartbeats 4000000 in
set_option maxRecDepth 100000 in
theorem c_X12_role (l : Launch) {cs : Nat → ClassId} {ad : Nat → Nat} {A : Nat → Prop} {D : va_G} (hJ : hp_J SM ad A)   {h : hp_H} {a1 : Int32} {Q : Int32 → hp_H → Prop} (hq : q_X12_role h a1 Q) : hp_Mi l yX12_role cX12_role 2 (some .int) rm_X12_role [.ref (ad 0), .int a1] SM cs ad A D h Q := by
  refine hp_met (own := RX12) rfl (by decide) (Nat.le_of_ble_eq_true rfl) rfl (fun p e s m args below meth c Z E hZ hnm => ?_)
  refine hp_sub (lv' := [(0, .ref (ad 0)), (1, .int a1)]) [0, 1] rfl ?_
  unfold q_X12_role at hq
  refine hp_iload_n E 1 dX12_role_0 rfl rfl ?_
  refine hp_iconst E (nI 1) dX12_role_1 (by decide) ?_
  refine hp_iconst E (nI 3) dX12_role_2 (by decide) ?_
  refine hp_callSip (rest := []) E (c_X12_in l hJ hq) F_X12_in m_RX12_156 ⟨rfl, rfl⟩ ⟨Nat.le_of_ble_eq_true rfl, Nat.le_of_ble_eq_true rfl⟩ ⟨Nat.zero_le _, Nat.zero_le _⟩ rfl rfl (Nat.le_of_ble_eq_true rfl) dX12_role_3 (fun r1 hq => ?_)
  refine hp_if_ne E 12 dX12_role_6 (by decide) (fun c2 => ?_) (fun c2 => ?_)
  · replace hq := hq.2 c2
    refine hp_aload_n E 0 dX12_role_12 rfl rfl ?_
    refine hp_gI E g_RX12_183 fM_0_4 dX12_role_13 ?_
    refine hp_iconst E (nI 3) dX12_role_16 (by decide) ?_
    refine hp_icmp_ne E 23 dX12_role_17 (by decide) (fun c3 => ?_) (fun c3 => ?_)
    · replace hq := hq.2 c3
      refine hp_aload_n E 0 dX12_role_23 rfl rfl ?_
      refine hp_callVv' (rest := []) E 0 fM_0_0 vcl_12 (c_X12_over l hJ hq) F_X12_over m_RX12_180 ⟨rfl, rfl⟩ ⟨Nat.le_of_ble_eq_true rfl, Nat.le_of_ble_eq_true rfl⟩ ⟨Nat.zero_le _, Nat.zero_le _⟩ rfl rfl (Nat.le_of_ble_eq_true rfl) dX12_role_24 (fun h4 hq => ?_)
      refine hp_aload_n E 0 dX12_role_27 rfl rfl ?_
      refine hp_gR E g_RX12_19 fM_0_5 dX12_role_28 ?_
      refine hp_aload_n E 0 dX12_role_31 rfl rfl ?_
      refine hp_gI E g_RX12_183 fM_0_4 dX12_role_32 ?_
      refine hp_iload_n E 1 dX12_role_35 rfl rfl ?_
      have hin := hq.1
      replace hq := hq.2
      refine hp_iast E 4 aM_4 zM_4 hJ hin dX12_role_36 ?_
      refine hp_toph (fun h5 eh5 => ?_)
      replace hq := hq h5 eh5
      refine hp_aload_n E 0 dX12_role_37 rfl rfl ?_
      refine hp_dup E rfl dX12_role_38 ?_
      refine hp_gI E g_RX12_183 fM_0_4 dX12_role_39 ?_
      refine hp_iconst E (nI 1) dX12_role_42 (by decide) ?_
      refine hp_iadd E dX12_role_43 ?_
      refine hp_pI E p_RX12_183 fM_0_4 (by decide) hJ dX12_role_44 ?_
      refine hp_toph (fun h6 eh6 => ?_)
      replace hq := hq h6 eh6
      refine hp_aload_n E 0 dX12_role_47 rfl rfl ?_
      refine hp_gI E g_RX12_183 fM_0_4 dX12_role_48 ?_
      refine hp_iconst E (nI 1) dX12_role_51 (by decide) ?_
      refine hp_isub E dX12_role_52 ?_
      exact hp_iret E hq hZ dX12_role_53
    · replace hq := hq.1 c3
      refine hp_bipush E (-6) dX12_role_20 (by decide) ?_
      exact hp_iret E hq hZ dX12_role_22
  · replace hq := hq.1 c2
    refine hp_bipush E (-3) dX12_role_9 (by decide) ?_
    exact hp_iret E hq hZ dX12_role_11
theorem dX12_isRole_0 : decode cX12_isRole 0 = .ok (.iload_n 1, 1) := by decide +kernel
theorem dX12_isRole_1 : decode cX12_isRole 1 = .ok (.iconst 0, 1) := by decide +kernel
theorem dX12_isRole_2 : decode cX12_isRole 2 = .ok (.aload_n 0, 1) := by decide +kernel
theorem dX12_isRole_3 : decode cX12_isRole 3 = .ok (.getfield 183, 3) := by decide +kernel
theorem dX12_isRole_6 : decode cX12_isRole 6 = .ok (.iconst 1, 1) := by decide +kernel
theorem dX12_isRole_7 : decode cX12_isRole 7 = .ok (.isub, 1) := by decide +kernel
theorem dX12_isRole_8 : decode cX12_isRole 8 = .ok (.invokestatic 156, 3) := by decide +kernel
theorem dX12_isRole_11 : decode cX12_isRole 11 = .ok (.ireturn, 1) := by decide +kernel
set_option maxHeartbeats 4000000 in
set_option maxRecDepth 100000 in
theorem c_X12_isRole (l : Launch) {cs : Nat → ClassId} {ad : Nat → Nat} {A : Nat → Prop} {D : va_G} (hJ : hp_J SM ad A)   {h : hp_H} {a1 : Int32} {Q : Int32 → Prop} (hq : q_X12_isRole h a1 Q) : hp_Mi l yX12_isRole cX12_isRole 2 (some .boolean) rm_X12_isRole [.ref (ad 0), .int a1] SM cs ad A D h (fun r h' => Q r ∧ h' = h) := by
  refine hp_met (own := RX12) rfl (by decide) (Nat.le_of_ble_eq_true rfl) rfl (fun p e s m args below meth c Z E hZ hnm => ?_)
  refine hp_sub (lv' := [(0, .ref (ad 0)), (1, .int a1)]) [0, 1] rfl ?_
  unfold q_X12_isRole at hq
  refine hp_iload_n E 1 dX12_isRole_0 rfl rfl ?_
  refine hp_iconst E (nI 0) dX12_isRole_1 (by decide) ?_
  refine hp_aload_n E 0 dX12_isRole_2 rfl rfl ?_
  refine hp_gI E g_RX12_183 fM_0_4 dX12_isRole_3 ?_
  refine hp_iconst E (nI 1) dX12_isRole_6 (by decide) ?_
  refine hp_isub E dX12_isRole_7 ?_
  refine hp_callSip (rest := []) E (c_X12_in l hJ hq) F_X12_in m_RX12_156 ⟨rfl, rfl⟩ ⟨Nat.le_of_ble_eq_true rfl, Nat.le_of_ble_eq_true rfl⟩ ⟨Nat.zero_le _, Nat.zero_le _⟩ rfl rfl (Nat.le_of_ble_eq_true rfl) dX12_isRole_8 (fun r1 hq => ?_)
  have hbz := hq.1
  replace hq := hq.2
  exact hp_zret E hbz ⟨hq, rfl⟩ hZ dX12_isRole_11
theorem dX12_own_0 : decode cX12_own 0 = .ok (.aload_n 0, 1) := by decide +kernel
theorem dX12_own_1 : decode cX12_own 1 = .ok (.iload_n 1, 1) := by decide +kernel
theorem dX12_own_2 : decode cX12_own 2 = .ok (.invokevirtual 186, 3) := by decide +kernel
theorem dX12_own_5 : decode cX12_own 5 = .ok (.ifCond .ne 6, 3) := by decide +kernel
theorem dX12_own_8 : decode cX12_own 8 = .ok (.bipush (-2), 2) := by decide +kernel
theorem dX12_own_10 : decode cX12_own 10 = .ok (.ireturn, 1) := by decide +kernel
theorem dX12_own_11 : decode cX12_own 11 = .ok (.iload_n 2, 1) := by decide +kernel
theorem dX12_own_12 : decode cX12_own 12 = .ok (.iload_n 3, 1) := by decide +kernel
theorem dX12_own_13 : decode cX12_own 13 = .ok (.iload 4, 2) := by decide +kernel
theorem dX12_own_15 : decode cX12_own 15 = .ok (.invokestatic 174, 3) := by decide +kernel
theorem dX12_own_18 : decode cX12_own 18 = .ok (.ifCond .ne 6, 3) := by decide +kernel
theorem dX12_own_21 : decode cX12_own 21 = .ok (.bipush (-3), 2) := by decide +kernel
theorem dX12_own_23 : decode cX12_own 23 = .ok (.ireturn, 1) := by decide +kernel
theorem dX12_own_24 : decode cX12_own 24 = .ok (.aload_n 0, 1) := by decide +kernel
theorem dX12_own_25 : decode cX12_own 25 = .ok (.getfield 22, 3) := by decide +kernel
theorem dX12_own_28 : decode cX12_own 28 = .ok (.iload_n 1, 1) := by decide +kernel
theorem dX12_own_29 : decode cX12_own 29 = .ok (.iaload, 1) := by decide +kernel
theorem dX12_own_30 : decode cX12_own 30 = .ok (.iconst 3, 1) := by decide +kernel
theorem dX12_own_31 : decode cX12_own 31 = .ok (.if_icmp .ne 6, 3) := by decide +kernel
theorem dX12_own_34 : decode cX12_own 34 = .ok (.bipush (-6), 2) := by decide +kernel
theorem dX12_own_36 : decode cX12_own 36 = .ok (.ireturn, 1) := by decide +kernel
theorem dX12_own_37 : decode cX12_own 37 = .ok (.aload_n 0, 1) := by decide +kernel
theorem dX12_own_38 : decode cX12_own 38 = .ok (.invokevirtual 180, 3) := by decide +kernel
theorem dX12_own_41 : decode cX12_own 41 = .ok (.iconst 3, 1) := by decide +kernel
theorem dX12_own_42 : decode cX12_own 42 = .ok (.iload_n 1, 1) := by decide +kernel
theorem dX12_own_43 : decode cX12_own 43 = .ok (.imul, 1) := by decide +kernel
theorem dX12_own_44 : decode cX12_own 44 = .ok (.aload_n 0, 1) := by decide +kernel
theorem dX12_own_45 : decode cX12_own 45 = .ok (.getfield 22, 3) := by decide +kernel
theorem dX12_own_48 : decode cX12_own 48 = .ok (.iload_n 1, 1) := by decide +kernel
theorem dX12_own_49 : decode cX12_own 49 = .ok (.iaload, 1) := by decide +kernel
theorem dX12_own_50 : decode cX12_own 50 = .ok (.iadd, 1) := by decide +kernel
theorem dX12_own_51 : decode cX12_own 51 = .ok (.istore 5, 2) := by decide +kernel
theorem dX12_own_53 : decode cX12_own 53 = .ok (.aload_n 0, 1) := by decide +kernel
theorem dX12_own_54 : decode cX12_own 54 = .ok (.getfield 25, 3) := by decide +kernel
theorem dX12_own_57 : decode cX12_own 57 = .ok (.iload 5, 2) := by decide +kernel
theorem dX12_own_59 : decode cX12_own 59 = .ok (.iload_n 2, 1) := by decide +kernel
theorem dX12_own_60 : decode cX12_own 60 = .ok (.iastore, 1) := by decide +kernel
theorem dX12_own_61 : decode cX12_own 61 = .ok (.aload_n 0, 1) := by decide +kernel
theorem dX12_own_62 : decode cX12_own 62 = .ok (.getfield 28, 3) := by decide +kernel
theorem dX12_own_65 : decode cX12_own 65 = .ok (.iload 5, 2) := by decide +kernel
theorem dX12_own_67 : decode cX12_own 67 = .ok (.iload_n 3, 1) := by decide +kernel
theorem dX12_own_68 : decode cX12_own 68 = .ok (.iastore, 1) := by decide +kernel
theorem dX12_own_69 : decode cX12_own 69 = .ok (.aload_n 0, 1) := by decide +kernel
theorem dX12_own_70 : decode cX12_own 70 = .ok (.getfield 31, 3) := by decide +kernel
theorem dX12_own_73 : decode cX12_own 73 = .ok (.iload 5, 2) := by decide +kernel
theorem dX12_own_75 : decode cX12_own 75 = .ok (.iload 4, 2) := by decide +kernel
theorem dX12_own_77 : decode cX12_own 77 = .ok (.iastore, 1) := by decide +kernel
theorem dX12_own_78 : decode cX12_own 78 = .ok (.aload_n 0, 1) := by decide +kernel
theorem dX12_own_79 : decode cX12_own 79 = .ok (.getfield 22, 3) := by decide +kernel
theorem dX12_own_82 : decode cX12_own 82 = .ok (.iload_n 1, 1) := by decide +kernel
theorem dX12_own_83 : decode cX12_own 83 = .ok (.dup2, 1) := by decide +kernel
theorem dX12_own_84 : decode cX12_own 84 = .ok (.iaload, 1) := by decide +kernel
theorem dX12_own_85 : decode cX12_own 85 = .ok (.iconst 1, 1) := by decide +kernel
theorem dX12_own_86 : decode cX12_own 86 = .ok (.iadd, 1) := by decide +kernel
theorem dX12_own_87 : decode cX12_own 87 = .ok (.iastore, 1) := by decide +kernel
theorem dX12_own_88 : decode cX12_own 88 = .ok (.aload_n 0, 1) := by decide +kernel
theorem dX12_own_89 : decode cX12_own 89 = .ok (.getfield 22, 3) := by decide +kernel
theorem dX12_own_92 : decode cX12_own 92 = .ok (.iload_n 1, 1) := by decide +kernel
theorem dX12_own_93 : decode cX12_own 93 = .ok (.iaload, 1) := by decide +kernel
theorem dX12_own_94 : decode cX12_own 94 = .ok (.iconst 1, 1) := by decide +kernel
theorem dX12_own_95 : decode cX12_own 95 = .ok (.isub, 1) := by decide +kernel
theorem dX12_own_96 : decode cX12_own 96 = .ok (.ireturn, 1) := by decide +kernel
set_option maxHeartbeats 4000000 in
set_option maxRecDepth 100000 in
theorem c_X12_own (l : Launch) {cs : Nat → ClassId} {ad : Nat → Nat} {A : Nat → Prop} {D : va_G} (hJ : hp_J SM ad A)   {h : hp_H} {a1 a2 a3 a4 : Int32} {Q : Int32 → hp_H → Prop} (hq : q_X12_own h a1 a2 a3 a4 Q) : hp_Mi l yX12_own cX12_own 6 (some .int) rm_X12_own [.ref (ad 0), .int a1, .int a2, .int a3, .int a4] SM cs ad A D h Q := by
  refine hp_met (own := RX12) rfl (by decide) (Nat.le_of_ble_eq_true rfl) rfl (fun p e s m args below meth c Z E hZ hnm => ?_)
  refine hp_sub (lv' := [(0, .ref (ad 0)), (1, .int a1), (2, .int a2), (3, .int a3), (4, .int a4)]) [0, 1, 2, 3, 4] rfl ?_
  unfold q_X12_own at hq
  refine hp_aload_n E 0 dX12_own_0 rfl rfl ?_
  refine hp_iload_n E 1 dX12_own_1 rfl rfl ?_
  refine hp_callVip (rest := []) E 0 fM_0_0 vcl_12 (c_X12_isRole l hJ hq) F_X12_isRole m_RX12_186 ⟨rfl, rfl⟩ ⟨Nat.le_of_ble_eq_true rfl, Nat.le_of_ble_eq_true rfl⟩ ⟨Nat.zero_le _, Nat.zero_le _⟩ rfl rfl (Nat.le_of_ble_eq_true rfl) dX12_own_2 (fun r1 hq => ?_)
  refine hp_if_ne E 11 dX12_own_5 (by decide) (fun c2 => ?_) (fun c2 => ?_)
  · replace hq := hq.2 c2
    refine hp_iload_n E 2 dX12_own_11 rfl rfl ?_
    refine hp_iload_n E 3 dX12_own_12 rfl rfl ?_
    refine hp_iload E 4 dX12_own_13 rfl ?_
    refine hp_callSip (rest := []) E (c_X12_isValue l hJ hq) F_X12_isValue m_RX12_174 ⟨rfl, rfl⟩ ⟨Nat.le_of_ble_eq_true rfl, Nat.le_of_ble_eq_true rfl⟩ ⟨Nat.zero_le _, Nat.zero_le _⟩ rfl rfl (Nat.le_of_ble_eq_true rfl) dX12_own_15 (fun r3 hq => ?_)
    refine hp_if_ne E 24 dX12_own_18 (by decide) (fun c4 => ?_) (fun c4 => ?_)
    · replace hq := hq.2 c4
      refine hp_aload_n E 0 dX12_own_24 rfl rfl ?_
      refine hp_gR E g_RX12_22 fM_0_6 dX12_own_25 ?_
      refine hp_iload_n E 1 dX12_own_28 rfl rfl ?_
      refine hp_iald E 5 aM_5 hq.1 dX12_own_29 ?_
      replace hq := hq.2
      refine hp_iconst E (nI 3) dX12_own_30 (by decide) ?_
      refine hp_icmp_ne E 37 dX12_own_31 (by decide) (fun c5 => ?_) (fun c5 => ?_)
      · replace hq := hq.2 c5
        refine hp_aload_n E 0 dX12_own_37 rfl rfl ?_
        refine hp_callVv' (rest := []) E 0 fM_0_0 vcl_12 (c_X12_over l hJ hq) F_X12_over m_RX12_180 ⟨rfl, rfl⟩ ⟨Nat.le_of_ble_eq_true rfl, Nat.le_of_ble_eq_true rfl⟩ ⟨Nat.zero_le _, Nat.zero_le _⟩ rfl rfl (Nat.le_of_ble_eq_true rfl) dX12_own_38 (fun h6 hq => ?_)
        refine hp_iconst E (nI 3) dX12_own_41 (by decide) ?_
        refine hp_iload_n E 1 dX12_own_42 rfl rfl ?_
        refine hp_imul E dX12_own_43 ?_
        refine hp_aload_n E 0 dX12_own_44 rfl rfl ?_
        refine hp_gR E g_RX12_22 fM_0_6 dX12_own_45 ?_
        refine hp_iload_n E 1 dX12_own_48 rfl rfl ?_
        refine hp_iald E 5 aM_5 hq.1 dX12_own_49 ?_
        replace hq := hq.2
        refine hp_iadd E dX12_own_50 ?_
        refine hp_topi (fun v7 ev7 => ?_)
        replace hq := hq v7 ev7
        refine hp_istore (lv' := [(0, .ref (ad 0)), (1, .int a1), (2, .int a2), (3, .int a3), (4, .int a4), (5, .int v7)]) E dX12_own_51 (by decide) rfl rfl ?_
        refine hp_aload_n E 0 dX12_own_53 rfl rfl ?_
        refine hp_gR E g_RX12_25 fM_0_7 dX12_own_54 ?_
        refine hp_iload E 5 dX12_own_57 rfl ?_
        refine hp_iload_n E 2 dX12_own_59 rfl rfl ?_
        have hin := hq.1
        replace hq := hq.2
        refine hp_iast E 6 aM_6 zM_6 hJ hin dX12_own_60 ?_
        refine hp_toph (fun h8 eh8 => ?_)
        replace hq := hq h8 eh8
        refine hp_aload_n E 0 dX12_own_61 rfl rfl ?_
        refine hp_gR E g_RX12_28 fM_0_8 dX12_own_62 ?_
        refine hp_iload E 5 dX12_own_65 rfl ?_
        refine hp_iload_n E 3 dX12_own_67 rfl rfl ?_
        have hin := hq.1
        replace hq := hq.2
        refine hp_iast E 7 aM_7 zM_7 hJ hin dX12_own_68 ?_
        refine hp_toph (fun h9 eh9 => ?_)
        replace hq := hq h9 eh9
        refine hp_aload_n E 0 dX12_own_69 rfl rfl ?_
        refine hp_gR E g_RX12_31 fM_0_9 dX12_own_70 ?_
        refine hp_iload E 5 dX12_own_73 rfl ?_
        refine hp_iload E 4 dX12_own_75 rfl ?_
        have hin := hq.1
        replace hq := hq.2
        refine hp_iast E 8 aM_8 zM_8 hJ hin dX12_own_77 ?_
        refine hp_toph (fun h10 eh10 => ?_)
        replace hq := hq h10 eh10
        refine hp_aload_n E 0 dX12_own_78 rfl rfl ?_
        refine hp_gR E g_RX12_22 fM_0_6 dX12_own_79 ?_
        refine hp_iload_n E 1 dX12_own_82 rfl rfl ?_
        refine hp_dup2 E rfl rfl dX12_own_83 ?_
        refine hp_iald E 5 aM_5 hq.1 dX12_own_84 ?_
        replace hq := hq.2
        refine hp_iconst E (nI 1) dX12_own_85 (by decide) ?_
        refine hp_iadd E dX12_own_86 ?_
        have hin := hq.1
        replace hq := hq.2
        refine hp_iast E 5 aM_5 zM_5 hJ hin dX12_own_87 ?_
        refine hp_toph (fun h11 eh11 => ?_)
        replace hq := hq h11 eh11
        refine hp_aload_n E 0 dX12_own_88 rfl rfl ?_
        refine hp_gR E g_RX12_22 fM_0_6 dX12_own_89 ?_
        refine hp_iload_n E 1 dX12_own_92 rfl rfl ?_
        refine hp_iald E 5 aM_5 hq.1 dX12_own_93 ?_
        replace hq := hq.2
        refine hp_iconst E (nI 1) dX12_own_94 (by decide) ?_
        refine hp_isub E dX12_own_95 ?_
        exact hp_iret E hq hZ dX12_own_96
      · replace hq := hq.1 c5
        refine hp_bipush E (-6) dX12_own_34 (by decide) ?_
        exact hp_iret E hq hZ dX12_own_36
    · replace hq := hq.1 c4
      refine hp_bipush E (-3) dX12_own_21 (by decide) ?_
      exact hp_iret E hq hZ dX12_own_23
  · replace hq := hq.1 c2
    refine hp_bipush E (-2) dX12_own_8 (by decide) ?_
    exact hp_iret E hq hZ dX12_own_10
theorem dX12_end_0 : decode cX12_end 0 = .ok (.aload_n 0, 1) := by decide +kernel
theorem dX12_end_1 : decode cX12_end 1 = .ok (.iload_n 1, 1) := by decide +kernel
theorem dX12_end_2 : decode cX12_end 2 = .ok (.invokevirtual 186, 3) := by decide +kernel
theorem dX12_end_5 : decode cX12_end 5 = .ok (.ifCond .ne 6, 3) := by decide +kernel
theorem dX12_end_8 : decode cX12_end 8 = .ok (.bipush (-2), 2) := by decide +kernel
theorem dX12_end_10 : decode cX12_end 10 = .ok (.ireturn, 1) := by decide +kernel
theorem dX12_end_11 : decode cX12_end 11 = .ok (.iload_n 2, 1) := by decide +kernel
theorem dX12_end_12 : decode cX12_end 12 = .ok (.iconst 0, 1) := by decide +kernel
theorem dX12_end_13 : decode cX12_end 13 = .ok (.bipush 9, 2) := by decide +kernel
theorem dX12_end_15 : decode cX12_end 15 = .ok (.invokestatic 156, 3) := by decide +kernel
theorem dX12_end_18 : decode cX12_end 18 = .ok (.ifCond .ne 6, 3) := by decide +kernel
theorem dX12_end_21 : decode cX12_end 21 = .ok (.bipush (-3), 2) := by decide +kernel
theorem dX12_end_23 : decode cX12_end 23 = .ok (.ireturn, 1) := by decide +kernel
theorem dX12_end_24 : decode cX12_end 24 = .ok (.aload_n 0, 1) := by decide +kernel
theorem dX12_end_25 : decode cX12_end 25 = .ok (.invokevirtual 180, 3) := by decide +kernel
theorem dX12_end_28 : decode cX12_end 28 = .ok (.aload_n 0, 1) := by decide +kernel
theorem dX12_end_29 : decode cX12_end 29 = .ok (.getfield 34, 3) := by decide +kernel
theorem dX12_end_32 : decode cX12_end 32 = .ok (.bipush 10, 2) := by decide +kernel
theorem dX12_end_34 : decode cX12_end 34 = .ok (.iload_n 1, 1) := by decide +kernel
theorem dX12_end_35 : decode cX12_end 35 = .ok (.imul, 1) := by decide +kernel
theorem dX12_end_36 : decode cX12_end 36 = .ok (.iload_n 2, 1) := by decide +kernel
theorem dX12_end_37 : decode cX12_end 37 = .ok (.iadd, 1) := by decide +kernel
theorem dX12_end_38 : decode cX12_end 38 = .ok (.baload, 1) := by decide +kernel
theorem dX12_end_39 : decode cX12_end 39 = .ok (.ifCond .eq 7, 3) := by decide +kernel
theorem dX12_end_42 : decode cX12_end 42 = .ok (.iconst 1, 1) := by decide +kernel
theorem dX12_end_43 : decode cX12_end 43 = .ok (.goto 4, 3) := by decide +kernel
theorem dX12_end_46 : decode cX12_end 46 = .ok (.iconst 0, 1) := by decide +kernel
theorem dX12_end_47 : decode cX12_end 47 = .ok (.istore_n 3, 1) := by decide +kernel
theorem dX12_end_48 : decode cX12_end 48 = .ok (.aload_n 0, 1) := by decide +kernel
theorem dX12_end_49 : decode cX12_end 49 = .ok (.getfield 34, 3) := by decide +kernel
theorem dX12_end_52 : decode cX12_end 52 = .ok (.bipush 10, 2) := by decide +kernel
theorem dX12_end_54 : decode cX12_end 54 = .ok (.iload_n 1, 1) := by decide +kernel
theorem dX12_end_55 : decode cX12_end 55 = .ok (.imul, 1) := by decide +kernel
theorem dX12_end_56 : decode cX12_end 56 = .ok (.iload_n 2, 1) := by decide +kernel
theorem dX12_end_57 : decode cX12_end 57 = .ok (.iadd, 1) := by decide +kernel
theorem dX12_end_58 : decode cX12_end 58 = .ok (.iconst 1, 1) := by decide +kernel
theorem dX12_end_59 : decode cX12_end 59 = .ok (.bastore, 1) := by decide +kernel
theorem dX12_end_60 : decode cX12_end 60 = .ok (.iload_n 3, 1) := by decide +kernel
theorem dX12_end_61 : decode cX12_end 61 = .ok (.ireturn, 1) := by decide +kernel
set_option maxHeartbeats 4000000 in
set_option maxRecDepth 100000 in
theorem c_X12_end (l : Launch) {cs : Nat → ClassId} {ad : Nat → Nat} {A : Nat → Prop} {D : va_G} (hJ : hp_J SM ad A)   {h : hp_H} {a1 a2 : Int32} {Q : Int32 → hp_H → Prop} (hq : q_X12_end h a1 a2 Q) : hp_Mi l yX12_end cX12_end 4 (some .int) rm_X12_end [.ref (ad 0), .int a1, .int a2] SM cs ad A D h Q := by
  refine hp_met (own := RX12) rfl (by decide) (Nat.le_of_ble_eq_true rfl) rfl (fun p e s m args below meth c Z E hZ hnm => ?_)
  refine hp_sub (lv' := [(0, .ref (ad 0)), (1, .int a1), (2, .int a2)]) [0, 1, 2] rfl ?_
  unfold q_X12_end at hq
  refine hp_aload_n E 0 dX12_end_0 rfl rfl ?_
  refine hp_iload_n E 1 dX12_end_1 rfl rfl ?_
  refine hp_callVip (rest := []) E 0 fM_0_0 vcl_12 (c_X12_isRole l hJ hq) F_X12_isRole m_RX12_186 ⟨rfl, rfl⟩ ⟨Nat.le_of_ble_eq_true rfl, Nat.le_of_ble_eq_true rfl⟩ ⟨Nat.zero_le _, Nat.zero_le _⟩ rfl rfl (Nat.le_of_ble_eq_true rfl) dX12_end_2 (fun r1 hq => ?_)
  refine hp_if_ne E 11 dX12_end_5 (by decide) (fun c2 => ?_) (fun c2 => ?_)
  · replace hq := hq.2 c2
    refine hp_iload_n E 2 dX12_end_11 rfl rfl ?_
    refine hp_iconst E (nI 0) dX12_end_12 (by decide) ?_
    refine hp_bipush E (nI 9) dX12_end_13 (by decide) ?_
    refine hp_callSip (rest := []) E (c_X12_in l hJ hq) F_X12_in m_RX12_156 ⟨rfl, rfl⟩ ⟨Nat.le_of_ble_eq_true rfl, Nat.le_of_ble_eq_true rfl⟩ ⟨Nat.zero_le _, Nat.zero_le _⟩ rfl rfl (Nat.le_of_ble_eq_true rfl) dX12_end_15 (fun r3 hq => ?_)
    refine hp_if_ne E 24 dX12_end_18 (by decide) (fun c4 => ?_) (fun c4 => ?_)
    · replace hq := hq.2 c4
      refine hp_aload_n E 0 dX12_end_24 rfl rfl ?_
      refine hp_callVv' (rest := []) E 0 fM_0_0 vcl_12 (c_X12_over l hJ hq) F_X12_over m_RX12_180 ⟨rfl, rfl⟩ ⟨Nat.le_of_ble_eq_true rfl, Nat.le_of_ble_eq_true rfl⟩ ⟨Nat.zero_le _, Nat.zero_le _⟩ rfl rfl (Nat.le_of_ble_eq_true rfl) dX12_end_25 (fun h5 hq => ?_)
      refine hp_aload_n E 0 dX12_end_28 rfl rfl ?_
      refine hp_gR E g_RX12_34 fM_0_10 dX12_end_29 ?_
      refine hp_bipush E (nI 10) dX12_end_32 (by decide) ?_
      refine hp_iload_n E 1 dX12_end_34 rfl rfl ?_
      refine hp_imul E dX12_end_35 ?_
      refine hp_iload_n E 2 dX12_end_36 rfl rfl ?_
      refine hp_iadd E dX12_end_37 ?_
      refine hp_zald E 9 aM_9 hq.1 dX12_end_38 ?_
      replace hq := hq.2
      obtain ⟨K7, hq, hK7⟩ := hq
      have jK7 : ∀ (v8 : Int32), K7 v8 → hp_G p l e rm_X12_end s m args below meth c SM cs ad A D 4 0 0 Z 47 [(0, .ref (ad 0)), (1, .int a1), (2, .int a2)] [.int v8] h5 := by
        intro v8 hq
        replace hq := hK7 v8 hq
        refine hp_istore_n (lv' := [(0, .ref (ad 0)), (1, .int a1), (2, .int a2), (3, .int v8)]) E dX12_end_47 rfl (by decide) rfl rfl ?_
        refine hp_aload_n E 0 dX12_end_48 rfl rfl ?_
        refine hp_gR E g_RX12_34 fM_0_10 dX12_end_49 ?_
        refine hp_bipush E (nI 10) dX12_end_52 (by decide) ?_
        refine hp_iload_n E 1 dX12_end_54 rfl rfl ?_
        refine hp_imul E dX12_end_55 ?_
        refine hp_iload_n E 2 dX12_end_56 rfl rfl ?_
        refine hp_iadd E dX12_end_57 ?_
        refine hp_iconst E (nI 1) dX12_end_58 (by decide) ?_
        have hin := hq.1
        replace hq := hq.2
        refine hp_zast E 9 aM_9 zM_9 hJ hin (by unfold hp_bz; decide) dX12_end_59 ?_
        refine hp_toph (fun h9 eh9 => ?_)
        replace hq := hq h9 eh9
        refine hp_iload_n E 3 dX12_end_60 rfl rfl ?_
        exact hp_iret E hq hZ dX12_end_61
      refine hp_if_eq E 46 dX12_end_39 (by decide) (fun c6 => ?_) (fun c6 => ?_)
      · replace hq := hq.1 c6
        refine hp_iconst E (nI 0) dX12_end_46 (by decide) ?_
        exact jK7 _ hq
      · replace hq := hq.2 c6
        refine hp_iconst E (nI 1) dX12_end_42 (by decide) ?_
        refine hp_goto E 47 dX12_end_43 (by decide) ?_
        exact jK7 _ hq
    · replace hq := hq.1 c4
      refine hp_bipush E (-3) dX12_end_21 (by decide) ?_
      exact hp_iret E hq hZ dX12_end_23
  · replace hq := hq.1 c2
    refine hp_bipush E (-2) dX12_end_8 (by decide) ?_
    exact hp_iret E hq hZ dX12_end_10
theorem dX12_channel_0 : decode cX12_channel 0 = .ok (.iload_n 1, 1) := by decide +kernel
theorem dX12_channel_1 : decode cX12_channel 1 = .ok (.iconst 1, 1) := by decide +kernel
theorem dX12_channel_2 : decode cX12_channel 2 = .ok (.iconst 3, 1) := by decide +kernel
theorem dX12_channel_3 : decode cX12_channel 3 = .ok (.invokestatic 156, 3) := by decide +kernel
theorem dX12_channel_6 : decode cX12_channel 6 = .ok (.ifCond .ne 6, 3) := by decide +kernel
theorem dX12_channel_9 : decode cX12_channel 9 = .ok (.bipush (-3), 2) := by decide +kernel
theorem dX12_channel_11 : decode cX12_channel 11 = .ok (.ireturn, 1) := by decide +kernel
theorem dX12_channel_12 : decode cX12_channel 12 = .ok (.aload_n 0, 1) := by decide +kernel
theorem dX12_channel_13 : decode cX12_channel 13 = .ok (.getfield 190, 3) := by decide +kernel
theorem dX12_channel_16 : decode cX12_channel 16 = .ok (.iconst 3, 1) := by decide +kernel
theorem dX12_channel_17 : decode cX12_channel 17 = .ok (.if_icmp .ne 6, 3) := by decide +kernel
theorem dX12_channel_20 : decode cX12_channel 20 = .ok (.bipush (-6), 2) := by decide +kernel
theorem dX12_channel_22 : decode cX12_channel 22 = .ok (.ireturn, 1) := by decide +kernel
theorem dX12_channel_23 : decode cX12_channel 23 = .ok (.aload_n 0, 1) := by decide +kernel
theorem dX12_channel_24 : decode cX12_channel 24 = .ok (.invokevirtual 180, 3) := by decide +kernel
theorem dX12_channel_27 : decode cX12_channel 27 = .ok (.aload_n 0, 1) := by decide +kernel
theorem dX12_channel_28 : decode cX12_channel 28 = .ok (.getfield 38, 3) := by decide +kernel
theorem dX12_channel_31 : decode cX12_channel 31 = .ok (.aload_n 0, 1) := by decide +kernel
theorem dX12_channel_32 : decode cX12_channel 32 = .ok (.getfield 190, 3) := by decide +kernel
theorem dX12_channel_35 : decode cX12_channel 35 = .ok (.iload_n 1, 1) := by decide +kernel
theorem dX12_channel_36 : decode cX12_channel 36 = .ok (.iastore, 1) := by decide +kernel
theorem dX12_channel_37 : decode cX12_channel 37 = .ok (.aload_n 0, 1) := by decide +kernel
theorem dX12_channel_38 : decode cX12_channel 38 = .ok (.getfield 41, 3) := by decide +kernel
theorem dX12_channel_41 : decode cX12_channel 41 = .ok (.aload_n 0, 1) := by decide +kernel
theorem dX12_channel_42 : decode cX12_channel 42 = .ok (.getfield 190, 3) := by decide +kernel
theorem dX12_channel_45 : decode cX12_channel 45 = .ok (.iload_n 2, 1) := by decide +kernel
theorem dX12_channel_46 : decode cX12_channel 46 = .ok (.bastore, 1) := by decide +kernel
theorem dX12_channel_47 : decode cX12_channel 47 = .ok (.aload_n 0, 1) := by decide +kernel
theorem dX12_channel_48 : decode cX12_channel 48 = .ok (.getfield 44, 3) := by decide +kernel
theorem dX12_channel_51 : decode cX12_channel 51 = .ok (.aload_n 0, 1) := by decide +kernel
theorem dX12_channel_52 : decode cX12_channel 52 = .ok (.getfield 190, 3) := by decide +kernel
theorem dX12_channel_55 : decode cX12_channel 55 = .ok (.iload_n 3, 1) := by decide +kernel
theorem dX12_channel_56 : decode cX12_channel 56 = .ok (.bastore, 1) := by decide +kernel
theorem dX12_channel_57 : decode cX12_channel 57 = .ok (.aload_n 0, 1) := by decide +kernel
theorem dX12_channel_58 : decode cX12_channel 58 = .ok (.dup, 1) := by decide +kernel
theorem dX12_channel_59 : decode cX12_channel 59 = .ok (.getfield 190, 3) := by decide +kernel
theorem dX12_channel_62 : decode cX12_channel 62 = .ok (.iconst 1, 1) := by decide +kernel
theorem dX12_channel_63 : decode cX12_channel 63 = .ok (.iadd, 1) := by decide +kernel
theorem dX12_channel_64 : decode cX12_channel 64 = .ok (.putfield 190, 3) := by decide +kernel
theorem dX12_channel_67 : decode cX12_channel 67 = .ok (.aload_n 0, 1) := by decide +kernel
theorem dX12_channel_68 : decode cX12_channel 68 = .ok (.getfield 190, 3) := by decide +kernel
theorem dX12_channel_71 : decode cX12_channel 71 = .ok (.iconst 1, 1) := by decide +kernel
theorem dX12_channel_72 : decode cX12_channel 72 = .ok (.isub, 1) := by decide +kernel
theorem dX12_channel_73 : decode cX12_channel 73 = .ok (.ireturn, 1) := by decide +kernel
set_option maxHeartbeats 4000000 in
set_option maxRecDepth 100000 in
theorem c_X12_channel (l : Launch) {cs : Nat → ClassId} {ad : Nat → Nat} {A : Nat → Prop} {D : va_G} (hJ : hp_J SM ad A)   {h : hp_H} {a1 a2 a3 : Int32} {Q : Int32 → hp_H → Prop} (hq : q_X12_channel h a1 a2 a3 Q) : hp_Mi l yX12_channel cX12_channel 4 (some .int) rm_X12_channel [.ref (ad 0), .int a1, .int a2, .int a3] SM cs ad A D h Q := by
  refine hp_met (own := RX12) rfl (by decide) (Nat.le_of_ble_eq_true rfl) rfl (fun p e s m args below meth c Z E hZ hnm => ?_)
  refine hp_sub (lv' := [(0, .ref (ad 0)), (1, .int a1), (2, .int a2), (3, .int a3)]) [0, 1, 2, 3] rfl ?_
  unfold q_X12_channel at hq
  refine hp_iload_n E 1 dX12_channel_0 rfl rfl ?_
  refine hp_iconst E (nI 1) dX12_channel_1 (by decide) ?_
  refine hp_iconst E (nI 3) dX12_channel_2 (by decide) ?_
  refine hp_callSip (rest := []) E (c_X12_in l hJ hq) F_X12_in m_RX12_156 ⟨rfl, rfl⟩ ⟨Nat.le_of_ble_eq_true rfl, Nat.le_of_ble_eq_true rfl⟩ ⟨Nat.zero_le _, Nat.zero_le _⟩ rfl rfl (Nat.le_of_ble_eq_true rfl) dX12_channel_3 (fun r1 hq => ?_)
  refine hp_if_ne E 12 dX12_channel_6 (by decide) (fun c2 => ?_) (fun c2 => ?_)
  · replace hq := hq.2 c2
    refine hp_aload_n E 0 dX12_channel_12 rfl rfl ?_
    refine hp_gI E g_RX12_190 fM_0_11 dX12_channel_13 ?_
    refine hp_iconst E (nI 3) dX12_channel_16 (by decide) ?_
    refine hp_icmp_ne E 23 dX12_channel_17 (by decide) (fun c3 => ?_) (fun c3 => ?_)
    · replace hq := hq.2 c3
      refine hp_aload_n E 0 dX12_channel_23 rfl rfl ?_
      refine hp_callVv' (rest := []) E 0 fM_0_0 vcl_12 (c_X12_over l hJ hq) F_X12_over m_RX12_180 ⟨rfl, rfl⟩ ⟨Nat.le_of_ble_eq_true rfl, Nat.le_of_ble_eq_true rfl⟩ ⟨Nat.zero_le _, Nat.zero_le _⟩ rfl rfl (Nat.le_of_ble_eq_true rfl) dX12_channel_24 (fun h4 hq => ?_)
      refine hp_aload_n E 0 dX12_channel_27 rfl rfl ?_
      refine hp_gR E g_RX12_38 fM_0_12 dX12_channel_28 ?_
      refine hp_aload_n E 0 dX12_channel_31 rfl rfl ?_
      refine hp_gI E g_RX12_190 fM_0_11 dX12_channel_32 ?_
      refine hp_iload_n E 1 dX12_channel_35 rfl rfl ?_
      have hin := hq.1
      replace hq := hq.2
      refine hp_iast E 10 aM_10 zM_10 hJ hin dX12_channel_36 ?_
      refine hp_toph (fun h5 eh5 => ?_)
      replace hq := hq h5 eh5
      refine hp_aload_n E 0 dX12_channel_37 rfl rfl ?_
      refine hp_gR E g_RX12_41 fM_0_13 dX12_channel_38 ?_
      refine hp_aload_n E 0 dX12_channel_41 rfl rfl ?_
      refine hp_gI E g_RX12_190 fM_0_11 dX12_channel_42 ?_
      refine hp_iload_n E 2 dX12_channel_45 rfl rfl ?_
      have hin := hq.1
      replace hq := hq.2
      have hbz := hq.1
      replace hq := hq.2
      refine hp_zast E 11 aM_11 zM_11 hJ hin hbz dX12_channel_46 ?_
      refine hp_toph (fun h6 eh6 => ?_)
      replace hq := hq h6 eh6
      refine hp_aload_n E 0 dX12_channel_47 rfl rfl ?_
      refine hp_gR E g_RX12_44 fM_0_14 dX12_channel_48 ?_
      refine hp_aload_n E 0 dX12_channel_51 rfl rfl ?_
      refine hp_gI E g_RX12_190 fM_0_11 dX12_channel_52 ?_
      refine hp_iload_n E 3 dX12_channel_55 rfl rfl ?_
      have hin := hq.1
      replace hq := hq.2
      have hbz := hq.1
      replace hq := hq.2
      refine hp_zast E 12 aM_12 zM_12 hJ hin hbz dX12_channel_56 ?_
      refine hp_toph (fun h7 eh7 => ?_)
      replace hq := hq h7 eh7
      refine hp_aload_n E 0 dX12_channel_57 rfl rfl ?_
      refine hp_dup E rfl dX12_channel_58 ?_
      refine hp_gI E g_RX12_190 fM_0_11 dX12_channel_59 ?_
      refine hp_iconst E (nI 1) dX12_channel_62 (by decide) ?_
      refine hp_iadd E dX12_channel_63 ?_
      refine hp_pI E p_RX12_190 fM_0_11 (by decide) hJ dX12_channel_64 ?_
      refine hp_toph (fun h8 eh8 => ?_)
      replace hq := hq h8 eh8
      refine hp_aload_n E 0 dX12_channel_67 rfl rfl ?_
      refine hp_gI E g_RX12_190 fM_0_11 dX12_channel_68 ?_
      refine hp_iconst E (nI 1) dX12_channel_71 (by decide) ?_
      refine hp_isub E dX12_channel_72 ?_
      exact hp_iret E hq hZ dX12_channel_73
    · replace hq := hq.1 c3
      refine hp_bipush E (-6) dX12_channel_20 (by decide) ?_
      exact hp_iret E hq hZ dX12_channel_22
  · replace hq := hq.1 c2
    refine hp_bipush E (-3) dX12_channel_9 (by decide) ?_
    exact hp_iret E hq hZ dX12_channel_11
theorem dX12_isExpr_0 : decode cX12_isExpr 0 = .ok (.iload_n 1, 1) := by decide +kernel
theorem dX12_isExpr_1 : decode cX12_isExpr 1 = .ok (.iconst 0, 1) := by decide +kernel
theorem dX12_isExpr_2 : decode cX12_isExpr 2 = .ok (.aload_n 0, 1) := by decide +kernel
theorem dX12_isExpr_3 : decode cX12_isExpr 3 = .ok (.getfield 193, 3) := by decide +kernel
theorem dX12_isExpr_6 : decode cX12_isExpr 6 = .ok (.iconst 1, 1) := by decide +kernel
theorem dX12_isExpr_7 : decode cX12_isExpr 7 = .ok (.isub, 1) := by decide +kernel
theorem dX12_isExpr_8 : decode cX12_isExpr 8 = .ok (.invokestatic 156, 3) := by decide +kernel
theorem dX12_isExpr_11 : decode cX12_isExpr 11 = .ok (.ireturn, 1) := by decide +kernel
set_option maxHeartbeats 4000000 in
set_option maxRecDepth 100000 in
theorem c_X12_isExpr (l : Launch) {cs : Nat → ClassId} {ad : Nat → Nat} {A : Nat → Prop} {D : va_G} (hJ : hp_J SM ad A)   {h : hp_H} {a1 : Int32} {Q : Int32 → Prop} (hq : q_X12_isExpr h a1 Q) : hp_Mi l yX12_isExpr cX12_isExpr 2 (some .boolean) rm_X12_isExpr [.ref (ad 0), .int a1] SM cs ad A D h (fun r h' => Q r ∧ h' = h) := by
  refine hp_met (own := RX12) rfl (by decide) (Nat.le_of_ble_eq_true rfl) rfl (fun p e s m args below meth c Z E hZ hnm => ?_)
  refine hp_sub (lv' := [(0, .ref (ad 0)), (1, .int a1)]) [0, 1] rfl ?_
  unfold q_X12_isExpr at hq
  refine hp_iload_n E 1 dX12_isExpr_0 rfl rfl ?_
  refine hp_iconst E (nI 0) dX12_isExpr_1 (by decide) ?_
  refine hp_aload_n E 0 dX12_isExpr_2 rfl rfl ?_
  refine hp_gI E g_RX12_193 fM_0_15 dX12_isExpr_3 ?_
  refine hp_iconst E (nI 1) dX12_isExpr_6 (by decide) ?_
  refine hp_isub E dX12_isExpr_7 ?_
  refine hp_callSip (rest := []) E (c_X12_in l hJ hq) F_X12_in m_RX12_156 ⟨rfl, rfl⟩ ⟨Nat.le_of_ble_eq_true rfl, Nat.le_of_ble_eq_true rfl⟩ ⟨Nat.zero_le _, Nat.zero_le _⟩ rfl rfl (Nat.le_of_ble_eq_true rfl) dX12_isExpr_8 (fun r1 hq => ?_)
  have hbz := hq.1
  replace hq := hq.2
  exact hp_zret E hbz ⟨hq, rfl⟩ hZ dX12_isExpr_11
theorem dX12_isChannel_0 : decode cX12_isChannel 0 = .ok (.iload_n 1, 1) := by decide +kernel
theorem dX12_isChannel_1 : decode cX12_isChannel 1 = .ok (.iconst 0, 1) := by decide +kernel
theorem dX12_isChannel_2 : decode cX12_isChannel 2 = .ok (.aload_n 0, 1) := by decide +kernel
theorem dX12_isChannel_3 : decode cX12_isChannel 3 = .ok (.getfield 190, 3) := by decide +kernel
theorem dX12_isChannel_6 : decode cX12_isChannel 6 = .ok (.iconst 1, 1) := by decide +kernel
theorem dX12_isChannel_7 : decode cX12_isChannel 7 = .ok (.isub, 1) := by decide +kernel
theorem dX12_isChannel_8 : decode cX12_isChannel 8 = .ok (.invokestatic 156, 3) := by decide +kernel
theorem dX12_isChannel_11 : decode cX12_isChannel 11 = .ok (.ireturn, 1) := by decide +kernel
set_option maxHeartbeats 4000000 in
set_option maxRecDepth 100000 in
theorem c_X12_isChannel (l : Launch) {cs : Nat → ClassId} {ad : Nat → Nat} {A : Nat → Prop} {D : va_G} (hJ : hp_J SM ad A)   {h : hp_H} {a1 : Int32} {Q : Int32 → Prop} (hq : q_X12_isChannel h a1 Q) : hp_Mi l yX12_isChannel cX12_isChannel 2 (some .boolean) rm_X12_isChannel [.ref (ad 0), .int a1] SM cs ad A D h (fun r h' => Q r ∧ h' = h) := by
  refine hp_met (own := RX12) rfl (by decide) (Nat.le_of_ble_eq_true rfl) rfl (fun p e s m args below meth c Z E hZ hnm => ?_)
  refine hp_sub (lv' := [(0, .ref (ad 0)), (1, .int a1)]) [0, 1] rfl ?_
  unfold q_X12_isChannel at hq
  refine hp_iload_n E 1 dX12_isChannel_0 rfl rfl ?_
  refine hp_iconst E (nI 0) dX12_isChannel_1 (by decide) ?_
  refine hp_aload_n E 0 dX12_isChannel_2 rfl rfl ?_
  refine hp_gI E g_RX12_190 fM_0_11 dX12_isChannel_3 ?_
  refine hp_iconst E (nI 1) dX12_isChannel_6 (by decide) ?_
  refine hp_isub E dX12_isChannel_7 ?_
  refine hp_callSip (rest := []) E (c_X12_in l hJ hq) F_X12_in m_RX12_156 ⟨rfl, rfl⟩ ⟨Nat.le_of_ble_eq_true rfl, Nat.le_of_ble_eq_true rfl⟩ ⟨Nat.zero_le _, Nat.zero_le _⟩ rfl rfl (Nat.le_of_ble_eq_true rfl) dX12_isChannel_8 (fun r1 hq => ?_)
  have hbz := hq.1
  replace hq := hq.2
  exact hp_zret E hbz ⟨hq, rfl⟩ hZ dX12_isChannel_11
theorem dX12_isThere_0 : decode cX12_isThere 0 = .ok (.iload_n 1, 1) := by decide +kernel
theorem dX12_isThere_1 : decode cX12_isThere 1 = .ok (.tableswitch 154 0 14 #[75, 77, 75, 75, 89, 95, 101, 154, 154, 154, 154, 154, 154, 154, 148], 75) := by decide +kernel
theorem dX12_isThere_76 : decode cX12_isThere 76 = .ok (.iconst 1, 1) := by decide +kernel
theorem dX12_isThere_77 : decode cX12_isThere 77 = .ok (.ireturn, 1) := by decide +kernel
theorem dX12_isThere_78 : decode cX12_isThere 78 = .ok (.iload_n 2, 1) := by decide +kernel
theorem dX12_isThere_79 : decode cX12_isThere 79 = .ok (.iconst 0, 1) := by decide +kernel
theorem dX12_isThere_80 : decode cX12_isThere 80 = .ok (.aload_n 0, 1) := by decide +kernel
theorem dX12_isThere_81 : decode cX12_isThere 81 = .ok (.getfield 177, 3) := by decide +kernel
theorem dX12_isThere_84 : decode cX12_isThere 84 = .ok (.iconst 1, 1) := by decide +kernel
theorem dX12_isThere_85 : decode cX12_isThere 85 = .ok (.isub, 1) := by decide +kernel
theorem dX12_isThere_86 : decode cX12_isThere 86 = .ok (.invokestatic 156, 3) := by decide +kernel
theorem dX12_isThere_89 : decode cX12_isThere 89 = .ok (.ireturn, 1) := by decide +kernel
theorem dX12_isThere_90 : decode cX12_isThere 90 = .ok (.aload_n 0, 1) := by decide +kernel
theorem dX12_isThere_91 : decode cX12_isThere 91 = .ok (.iload_n 2, 1) := by decide +kernel
theorem dX12_isThere_92 : decode cX12_isThere 92 = .ok (.invokevirtual 186, 3) := by decide +kernel
theorem dX12_isThere_95 : decode cX12_isThere 95 = .ok (.ireturn, 1) := by decide +kernel
theorem dX12_isThere_96 : decode cX12_isThere 96 = .ok (.aload_n 0, 1) := by decide +kernel
theorem dX12_isThere_97 : decode cX12_isThere 97 = .ok (.iload_n 2, 1) := by decide +kernel
theorem dX12_isThere_98 : decode cX12_isThere 98 = .ok (.invokevirtual 196, 3) := by decide +kernel
theorem dX12_isThere_101 : decode cX12_isThere 101 = .ok (.ireturn, 1) := by decide +kernel
theorem dX12_isThere_102 : decode cX12_isThere 102 = .ok (.aload_n 0, 1) := by decide +kernel
theorem dX12_isThere_103 : decode cX12_isThere 103 = .ok (.iload_n 2, 1) := by decide +kernel
theorem dX12_isThere_104 : decode cX12_isThere 104 = .ok (.invokevirtual 186, 3) := by decide +kernel
theorem dX12_isThere_107 : decode cX12_isThere 107 = .ok (.ifCond .eq 40, 3) := by decide +kernel
theorem dX12_isThere_110 : decode cX12_isThere 110 = .ok (.iload_n 3, 1) := by decide +kernel
theorem dX12_isThere_111 : decode cX12_isThere 111 = .ok (.iconst 0, 1) := by decide +kernel
theorem dX12_isThere_112 : decode cX12_isThere 112 = .ok (.aload_n 0, 1) := by decide +kernel
theorem dX12_isThere_113 : decode cX12_isThere 113 = .ok (.getfield 19, 3) := by decide +kernel
theorem dX12_isThere_116 : decode cX12_isThere 116 = .ok (.iload_n 2, 1) := by decide +kernel
theorem dX12_isThere_117 : decode cX12_isThere 117 = .ok (.iaload, 1) := by decide +kernel
theorem dX12_isThere_118 : decode cX12_isThere 118 = .ok (.iconst 1, 1) := by decide +kernel
theorem dX12_isThere_119 : decode cX12_isThere 119 = .ok (.isub, 1) := by decide +kernel
theorem dX12_isThere_120 : decode cX12_isThere 120 = .ok (.invokestatic 156, 3) := by decide +kernel
theorem dX12_isThere_123 : decode cX12_isThere 123 = .ok (.ifCond .eq 24, 3) := by decide +kernel
theorem dX12_isThere_126 : decode cX12_isThere 126 = .ok (.iload 4, 2) := by decide +kernel
theorem dX12_isThere_128 : decode cX12_isThere 128 = .ok (.iconst 0, 1) := by decide +kernel
theorem dX12_isThere_129 : decode cX12_isThere 129 = .ok (.aload_n 0, 1) := by decide +kernel
theorem dX12_isThere_130 : decode cX12_isThere 130 = .ok (.getfield 22, 3) := by decide +kernel
theorem dX12_isThere_133 : decode cX12_isThere 133 = .ok (.iload_n 2, 1) := by decide +kernel
theorem dX12_isThere_134 : decode cX12_isThere 134 = .ok (.iaload, 1) := by decide +kernel
theorem dX12_isThere_135 : decode cX12_isThere 135 = .ok (.iconst 1, 1) := by decide +kernel
theorem dX12_isThere_136 : decode cX12_isThere 136 = .ok (.isub, 1) := by decide +kernel
theorem dX12_isThere_137 : decode cX12_isThere 137 = .ok (.invokestatic 156, 3) := by decide +kernel
theorem dX12_isThere_140 : decode cX12_isThere 140 = .ok (.ifCond .eq 7, 3) := by decide +kernel
theorem dX12_isThere_143 : decode cX12_isThere 143 = .ok (.iconst 1, 1) := by decide +kernel
theorem dX12_isThere_144 : decode cX12_isThere 144 = .ok (.goto 4, 3) := by decide +kernel
theorem dX12_isThere_147 : decode cX12_isThere 147 = .ok (.iconst 0, 1) := by decide +kernel
theorem dX12_isThere_148 : decode cX12_isThere 148 = .ok (.ireturn, 1) := by decide +kernel
theorem dX12_isThere_149 : decode cX12_isThere 149 = .ok (.aload_n 0, 1) := by decide +kernel
theorem dX12_isThere_150 : decode cX12_isThere 150 = .ok (.iload_n 2, 1) := by decide +kernel
theorem dX12_isThere_151 : decode cX12_isThere 151 = .ok (.invokevirtual 199, 3) := by decide +kernel
theorem dX12_isThere_154 : decode cX12_isThere 154 = .ok (.ireturn, 1) := by decide +kernel
theorem dX12_isThere_155 : decode cX12_isThere 155 = .ok (.aload_n 0, 1) := by decide +kernel
theorem dX12_isThere_156 : decode cX12_isThere 156 = .ok (.iload_n 2, 1) := by decide +kernel
theorem dX12_isThere_157 : decode cX12_isThere 157 = .ok (.invokevirtual 199, 3) := by decide +kernel
theorem dX12_isThere_160 : decode cX12_isThere 160 = .ok (.ifCond .eq 15, 3) := by decide +kernel
theorem dX12_isThere_163 : decode cX12_isThere 163 = .ok (.aload_n 0, 1) := by decide +kernel
theorem dX12_isThere_164 : decode cX12_isThere 164 = .ok (.iload_n 3, 1) := by decide +kernel
theorem dX12_isThere_165 : decode cX12_isThere 165 = .ok (.invokevirtual 199, 3) := by decide +kernel
theorem dX12_isThere_168 : decode cX12_isThere 168 = .ok (.ifCond .eq 7, 3) := by decide +kernel
theorem dX12_isThere_171 : decode cX12_isThere 171 = .ok (.iconst 1, 1) := by decide +kernel
theorem dX12_isThere_172 : decode cX12_isThere 172 = .ok (.goto 4, 3) := by decide +kernel
theorem dX12_isThere_175 : decode cX12_isThere 175 = .ok (.iconst 0, 1) := by decide +kernel
theorem dX12_isThere_176 : decode cX12_isThere 176 = .ok (.ireturn, 1) := by decide +kernel
set_option maxHeartbeats 4000000 in
set_option maxRecDepth 100000 in
theorem c_X12_isThere (l : Launch) {cs : Nat → ClassId} {ad : Nat → Nat} {A : Nat → Prop} {D : va_G} (hJ : hp_J SM ad A)   {h : hp_H} {a1 a2 a3 a4 : Int32} {Q : Int32 → Prop} (hq : q_X12_isThere h a1 a2 a3 a4 Q) : hp_Mi l yX12_isThere cX12_isThere 5 (some .boolean) rm_X12_isThere [.ref (ad 0), .int a1, .int a2, .int a3, .int a4] SM cs ad A D h (fun r h' => Q r ∧ h' = h) := by
  refine hp_met (own := RX12) rfl (by decide) (Nat.le_of_ble_eq_true rfl) rfl (fun p e s m args below meth c Z E hZ hnm => ?_)
  refine hp_sub (lv' := [(0, .ref (ad 0)), (1, .int a1), (2, .int a2), (3, .int a3), (4, .int a4)]) [0, 1, 2, 3, 4] rfl ?_
  unfold q_X12_isThere at hq
  refine hp_iload_n E 1 dX12_isThere_0 rfl rfl ?_
  by_cases c15 : a1 = (nI 0)
  · replace hq := hq.1 (Or.inl c15)
    refine hp_tswV (off := 75) E (nI 0) 76 dX12_isThere_1 c15 (by decide) (by decide) (by decide) (by decide) ?_
    refine hp_iconst E (nI 1) dX12_isThere_76 (by decide) ?_
    exact hp_zret E (by unfold hp_bz; decide) ⟨hq, rfl⟩ hZ dX12_isThere_77
  by_cases c16 : a1 = (nI 1)
  · replace hq := hq.2.1 (c16)
    refine hp_tswV (off := 77) E (nI 1) 78 dX12_isThere_1 c16 (by decide) (by decide) (by decide) (by decide) ?_
    refine hp_iload_n E 2 dX12_isThere_78 rfl rfl ?_
    refine hp_iconst E (nI 0) dX12_isThere_79 (by decide) ?_
    refine hp_aload_n E 0 dX12_isThere_80 rfl rfl ?_
    refine hp_gI E g_RX12_177 fM_0_0 dX12_isThere_81 ?_
    refine hp_iconst E (nI 1) dX12_isThere_84 (by decide) ?_
    refine hp_isub E dX12_isThere_85 ?_
    refine hp_callSip (rest := []) E (c_X12_in l hJ hq) F_X12_in m_RX12_156 ⟨rfl, rfl⟩ ⟨Nat.le_of_ble_eq_true rfl, Nat.le_of_ble_eq_true rfl⟩ ⟨Nat.zero_le _, Nat.zero_le _⟩ rfl rfl (Nat.le_of_ble_eq_true rfl) dX12_isThere_86 (fun r1 hq => ?_)
    have hbz := hq.1
    replace hq := hq.2
    exact hp_zret E hbz ⟨hq, rfl⟩ hZ dX12_isThere_89
  by_cases c17 : a1 = (nI 2)
  · replace hq := hq.1 (Or.inr (Or.inl c17))
    refine hp_tswV (off := 75) E (nI 2) 76 dX12_isThere_1 c17 (by decide) (by decide) (by decide) (by decide) ?_
    refine hp_iconst E (nI 1) dX12_isThere_76 (by decide) ?_
    exact hp_zret E (by unfold hp_bz; decide) ⟨hq, rfl⟩ hZ dX12_isThere_77
  by_cases c18 : a1 = (nI 3)
  · replace hq := hq.1 (Or.inr (Or.inr (c18)))
    refine hp_tswV (off := 75) E (nI 3) 76 dX12_isThere_1 c18 (by decide) (by decide) (by decide) (by decide) ?_
    refine hp_iconst E (nI 1) dX12_isThere_76 (by decide) ?_
    exact hp_zret E (by unfold hp_bz; decide) ⟨hq, rfl⟩ hZ dX12_isThere_77
  by_cases c19 : a1 = (nI 4)
  · replace hq := hq.2.2.1 (c19)
    refine hp_tswV (off := 89) E (nI 4) 90 dX12_isThere_1 c19 (by decide) (by decide) (by decide) (by decide) ?_
    refine hp_aload_n E 0 dX12_isThere_90 rfl rfl ?_
    refine hp_iload_n E 2 dX12_isThere_91 rfl rfl ?_
    refine hp_callVip (rest := []) E 0 fM_0_0 vcl_12 (c_X12_isRole l hJ hq) F_X12_isRole m_RX12_186 ⟨rfl, rfl⟩ ⟨Nat.le_of_ble_eq_true rfl, Nat.le_of_ble_eq_true rfl⟩ ⟨Nat.zero_le _, Nat.zero_le _⟩ rfl rfl (Nat.le_of_ble_eq_true rfl) dX12_isThere_92 (fun r2 hq => ?_)
    have hbz := hq.1
    replace hq := hq.2
    exact hp_zret E hbz ⟨hq, rfl⟩ hZ dX12_isThere_95
  by_cases c20 : a1 = (nI 5)
  · replace hq := hq.2.2.2.1 (c20)
    refine hp_tswV (off := 95) E (nI 5) 96 dX12_isThere_1 c20 (by decide) (by decide) (by decide) (by decide) ?_
    refine hp_aload_n E 0 dX12_isThere_96 rfl rfl ?_
    refine hp_iload_n E 2 dX12_isThere_97 rfl rfl ?_
    refine hp_callVip (rest := []) E 0 fM_0_0 vcl_12 (c_X12_isChannel l hJ hq) F_X12_isChannel m_RX12_196 ⟨rfl, rfl⟩ ⟨Nat.le_of_ble_eq_true rfl, Nat.le_of_ble_eq_true rfl⟩ ⟨Nat.zero_le _, Nat.zero_le _⟩ rfl rfl (Nat.le_of_ble_eq_true rfl) dX12_isThere_98 (fun r3 hq => ?_)
    have hbz := hq.1
    replace hq := hq.2
    exact hp_zret E hbz ⟨hq, rfl⟩ hZ dX12_isThere_101
  by_cases c21 : a1 = (nI 6)
  · replace hq := hq.2.2.2.2.1 (c21)
    refine hp_tswV (off := 101) E (nI 6) 102 dX12_isThere_1 c21 (by decide) (by decide) (by decide) (by decide) ?_
    refine hp_aload_n E 0 dX12_isThere_102 rfl rfl ?_
    refine hp_iload_n E 2 dX12_isThere_103 rfl rfl ?_
    refine hp_callVip (rest := []) E 0 fM_0_0 vcl_12 (c_X12_isRole l hJ hq) F_X12_isRole m_RX12_186 ⟨rfl, rfl⟩ ⟨Nat.le_of_ble_eq_true rfl, Nat.le_of_ble_eq_true rfl⟩ ⟨Nat.zero_le _, Nat.zero_le _⟩ rfl rfl (Nat.le_of_ble_eq_true rfl) dX12_isThere_104 (fun r4 hq => ?_)
    refine hp_if_eq E 147 dX12_isThere_107 (by decide) (fun c5 => ?_) (fun c5 => ?_)
    · replace hq := hq.1 c5
      refine hp_iconst E (nI 0) dX12_isThere_147 (by decide) ?_
      exact hp_zret E (by unfold hp_bz; decide) ⟨hq, rfl⟩ hZ dX12_isThere_148
    · replace hq := hq.2 c5
      refine hp_iload_n E 3 dX12_isThere_110 rfl rfl ?_
      refine hp_iconst E (nI 0) dX12_isThere_111 (by decide) ?_
      refine hp_aload_n E 0 dX12_isThere_112 rfl rfl ?_
      refine hp_gR E g_RX12_19 fM_0_5 dX12_isThere_113 ?_
      refine hp_iload_n E 2 dX12_isThere_116 rfl rfl ?_
      refine hp_iald E 4 aM_4 hq.1 dX12_isThere_117 ?_
      replace hq := hq.2
      refine hp_iconst E (nI 1) dX12_isThere_118 (by decide) ?_
      refine hp_isub E dX12_isThere_119 ?_
      refine hp_callSip (rest := []) E (c_X12_in l hJ hq) F_X12_in m_RX12_156 ⟨rfl, rfl⟩ ⟨Nat.le_of_ble_eq_true rfl, Nat.le_of_ble_eq_true rfl⟩ ⟨Nat.zero_le _, Nat.zero_le _⟩ rfl rfl (Nat.le_of_ble_eq_true rfl) dX12_isThere_120 (fun r6 hq => ?_)
      refine hp_if_eq E 147 dX12_isThere_123 (by decide) (fun c7 => ?_) (fun c7 => ?_)
      · replace hq := hq.1 c7
        refine hp_iconst E (nI 0) dX12_isThere_147 (by decide) ?_
        exact hp_zret E (by unfold hp_bz; decide) ⟨hq, rfl⟩ hZ dX12_isThere_148
      · replace hq := hq.2 c7
        refine hp_iload E 4 dX12_isThere_126 rfl ?_
        refine hp_iconst E (nI 0) dX12_isThere_128 (by decide) ?_
        refine hp_aload_n E 0 dX12_isThere_129 rfl rfl ?_
        refine hp_gR E g_RX12_22 fM_0_6 dX12_isThere_130 ?_
        refine hp_iload_n E 2 dX12_isThere_133 rfl rfl ?_
        refine hp_iald E 5 aM_5 hq.1 dX12_isThere_134 ?_
        replace hq := hq.2
        refine hp_iconst E (nI 1) dX12_isThere_135 (by decide) ?_
        refine hp_isub E dX12_isThere_136 ?_
        refine hp_callSip (rest := []) E (c_X12_in l hJ hq) F_X12_in m_RX12_156 ⟨rfl, rfl⟩ ⟨Nat.le_of_ble_eq_true rfl, Nat.le_of_ble_eq_true rfl⟩ ⟨Nat.zero_le _, Nat.zero_le _⟩ rfl rfl (Nat.le_of_ble_eq_true rfl) dX12_isThere_137 (fun r8 hq => ?_)
        refine hp_if_eq E 147 dX12_isThere_140 (by decide) (fun c9 => ?_) (fun c9 => ?_)
        · replace hq := hq.1 c9
          refine hp_iconst E (nI 0) dX12_isThere_147 (by decide) ?_
          exact hp_zret E (by unfold hp_bz; decide) ⟨hq, rfl⟩ hZ dX12_isThere_148
        · replace hq := hq.2 c9
          refine hp_iconst E (nI 1) dX12_isThere_143 (by decide) ?_
          refine hp_goto E 148 dX12_isThere_144 (by decide) ?_
          exact hp_zret E (by unfold hp_bz; decide) ⟨hq, rfl⟩ hZ dX12_isThere_148
  by_cases c22 : a1 = (nI 7)
  · replace hq := hq.2.2.2.2.2.2 ⟨(by rw [c22]; decide), (by rw [c22]; decide), (by rw [c22]; decide), (by rw [c22]; decide), (by rw [c22]; decide), (by rw [c22]; decide), (by rw [c22]; decide), (by rw [c22]; decide)⟩
    refine hp_tswV (off := 154) E (nI 7) 155 dX12_isThere_1 c22 (by decide) (by decide) (by decide) (by decide) ?_
    refine hp_aload_n E 0 dX12_isThere_155 rfl rfl ?_
    refine hp_iload_n E 2 dX12_isThere_156 rfl rfl ?_
    refine hp_callVip (rest := []) E 0 fM_0_0 vcl_12 (c_X12_isExpr l hJ hq) F_X12_isExpr m_RX12_199 ⟨rfl, rfl⟩ ⟨Nat.le_of_ble_eq_true rfl, Nat.le_of_ble_eq_true rfl⟩ ⟨Nat.zero_le _, Nat.zero_le _⟩ rfl rfl (Nat.le_of_ble_eq_true rfl) dX12_isThere_157 (fun r11 hq => ?_)
    refine hp_if_eq E 175 dX12_isThere_160 (by decide) (fun c12 => ?_) (fun c12 => ?_)
    · replace hq := hq.1 c12
      refine hp_iconst E (nI 0) dX12_isThere_175 (by decide) ?_
      exact hp_zret E (by unfold hp_bz; decide) ⟨hq, rfl⟩ hZ dX12_isThere_176
    · replace hq := hq.2 c12
      refine hp_aload_n E 0 dX12_isThere_163 rfl rfl ?_
      refine hp_iload_n E 3 dX12_isThere_164 rfl rfl ?_
      refine hp_callVip (rest := []) E 0 fM_0_0 vcl_12 (c_X12_isExpr l hJ hq) F_X12_isExpr m_RX12_199 ⟨rfl, rfl⟩ ⟨Nat.le_of_ble_eq_true rfl, Nat.le_of_ble_eq_true rfl⟩ ⟨Nat.zero_le _, Nat.zero_le _⟩ rfl rfl (Nat.le_of_ble_eq_true rfl) dX12_isThere_165 (fun r13 hq => ?_)
      refine hp_if_eq E 175 dX12_isThere_168 (by decide) (fun c14 => ?_) (fun c14 => ?_)
      · replace hq := hq.1 c14
        refine hp_iconst E (nI 0) dX12_isThere_175 (by decide) ?_
        exact hp_zret E (by unfold hp_bz; decide) ⟨hq, rfl⟩ hZ dX12_isThere_176
      · replace hq := hq.2 c14
        refine hp_iconst E (nI 1) dX12_isThere_171 (by decide) ?_
        refine hp_goto E 176 dX12_isThere_172 (by decide) ?_
        exact hp_zret E (by unfold hp_bz; decide) ⟨hq, rfl⟩ hZ dX12_isThere_176
  by_cases c23 : a1 = (nI 8)
  · replace hq := hq.2.2.2.2.2.2 ⟨(by rw [c23]; decide), (by rw [c23]; decide), (by rw [c23]; decide), (by rw [c23]; decide), (by rw [c23]; decide), (by rw [c23]; decide), (by rw [c23]; decide), (by rw [c23]; decide)⟩
    refine hp_tswV (off := 154) E (nI 8) 155 dX12_isThere_1 c23 (by decide) (by decide) (by decide) (by decide) ?_
    refine hp_aload_n E 0 dX12_isThere_155 rfl rfl ?_
    refine hp_iload_n E 2 dX12_isThere_156 rfl rfl ?_
    refine hp_callVip (rest := []) E 0 fM_0_0 vcl_12 (c_X12_isExpr l hJ hq) F_X12_isExpr m_RX12_199 ⟨rfl, rfl⟩ ⟨Nat.le_of_ble_eq_true rfl, Nat.le_of_ble_eq_true rfl⟩ ⟨Nat.zero_le _, Nat.zero_le _⟩ rfl rfl (Nat.le_of_ble_eq_true rfl) dX12_isThere_157 (fun r11 hq => ?_)
    refine hp_if_eq E 175 dX12_isThere_160 (by decide) (fun c12 => ?_) (fun c12 => ?_)
    · replace hq := hq.1 c12
      refine hp_iconst E (nI 0) dX12_isThere_175 (by decide) ?_
      exact hp_zret E (by unfold hp_bz; decide) ⟨hq, rfl⟩ hZ dX12_isThere_176
    · replace hq := hq.2 c12
      refine hp_aload_n E 0 dX12_isThere_163 rfl rfl ?_
      refine hp_iload_n E 3 dX12_isThere_164 rfl rfl ?_
      refine hp_callVip (rest := []) E 0 fM_0_0 vcl_12 (c_X12_isExpr l hJ hq) F_X12_isExpr m_RX12_199 ⟨rfl, rfl⟩ ⟨Nat.le_of_ble_eq_true rfl, Nat.le_of_ble_eq_true rfl⟩ ⟨Nat.zero_le _, Nat.zero_le _⟩ rfl rfl (Nat.le_of_ble_eq_true rfl) dX12_isThere_165 (fun r13 hq => ?_)
      refine hp_if_eq E 175 dX12_isThere_168 (by decide) (fun c14 => ?_) (fun c14 => ?_)
      · replace hq := hq.1 c14
        refine hp_iconst E (nI 0) dX12_isThere_175 (by decide) ?_
        exact hp_zret E (by unfold hp_bz; decide) ⟨hq, rfl⟩ hZ dX12_isThere_176
      · replace hq := hq.2 c14
        refine hp_iconst E (nI 1) dX12_isThere_171 (by decide) ?_
        refine hp_goto E 176 dX12_isThere_172 (by decide) ?_
        exact hp_zret E (by unfold hp_bz; decide) ⟨hq, rfl⟩ hZ dX12_isThere_176
  by_cases c24 : a1 = (nI 9)
  · replace hq := hq.2.2.2.2.2.2 ⟨(by rw [c24]; decide), (by rw [c24]; decide), (by rw [c24]; decide), (by rw [c24]; decide), (by rw [c24]; decide), (by rw [c24]; decide), (by rw [c24]; decide), (by rw [c24]; decide)⟩
    refine hp_tswV (off := 154) E (nI 9) 155 dX12_isThere_1 c24 (by decide) (by decide) (by decide) (by decide) ?_
    refine hp_aload_n E 0 dX12_isThere_155 rfl rfl ?_
    refine hp_iload_n E 2 dX12_isThere_156 rfl rfl ?_
    refine hp_callVip (rest := []) E 0 fM_0_0 vcl_12 (c_X12_isExpr l hJ hq) F_X12_isExpr m_RX12_199 ⟨rfl, rfl⟩ ⟨Nat.le_of_ble_eq_true rfl, Nat.le_of_ble_eq_true rfl⟩ ⟨Nat.zero_le _, Nat.zero_le _⟩ rfl rfl (Nat.le_of_ble_eq_true rfl) dX12_isThere_157 (fun r11 hq => ?_)
    refine hp_if_eq E 175 dX12_isThere_160 (by decide) (fun c12 => ?_) (fun c12 => ?_)
    · replace hq := hq.1 c12
      refine hp_iconst E (nI 0) dX12_isThere_175 (by decide) ?_
      exact hp_zret E (by unfold hp_bz; decide) ⟨hq, rfl⟩ hZ dX12_isThere_176
    · replace hq := hq.2 c12
      refine hp_aload_n E 0 dX12_isThere_163 rfl rfl ?_
      refine hp_iload_n E 3 dX12_isThere_164 rfl rfl ?_
      refine hp_callVip (rest := []) E 0 fM_0_0 vcl_12 (c_X12_isExpr l hJ hq) F_X12_isExpr m_RX12_199 ⟨rfl, rfl⟩ ⟨Nat.le_of_ble_eq_true rfl, Nat.le_of_ble_eq_true rfl⟩ ⟨Nat.zero_le _, Nat.zero_le _⟩ rfl rfl (Nat.le_of_ble_eq_true rfl) dX12_isThere_165 (fun r13 hq => ?_)
      refine hp_if_eq E 175 dX12_isThere_168 (by decide) (fun c14 => ?_) (fun c14 => ?_)
      · replace hq := hq.1 c14
        refine hp_iconst E (nI 0) dX12_isThere_175 (by decide) ?_
        exact hp_zret E (by unfold hp_bz; decide) ⟨hq, rfl⟩ hZ dX12_isThere_176
      · replace hq := hq.2 c14
        refine hp_iconst E (nI 1) dX12_isThere_171 (by decide) ?_
        refine hp_goto E 176 dX12_isThere_172 (by decide) ?_
        exact hp_zret E (by unfold hp_bz; decide) ⟨hq, rfl⟩ hZ dX12_isThere_176
  by_cases c25 : a1 = (nI 10)
  · replace hq := hq.2.2.2.2.2.2 ⟨(by rw [c25]; decide), (by rw [c25]; decide), (by rw [c25]; decide), (by rw [c25]; decide), (by rw [c25]; decide), (by rw [c25]; decide), (by rw [c25]; decide), (by rw [c25]; decide)⟩
    refine hp_tswV (off := 154) E (nI 10) 155 dX12_isThere_1 c25 (by decide) (by decide) (by decide) (by decide) ?_
    refine hp_aload_n E 0 dX12_isThere_155 rfl rfl ?_
    refine hp_iload_n E 2 dX12_isThere_156 rfl rfl ?_
    refine hp_callVip (rest := []) E 0 fM_0_0 vcl_12 (c_X12_isExpr l hJ hq) F_X12_isExpr m_RX12_199 ⟨rfl, rfl⟩ ⟨Nat.le_of_ble_eq_true rfl, Nat.le_of_ble_eq_true rfl⟩ ⟨Nat.zero_le _, Nat.zero_le _⟩ rfl rfl (Nat.le_of_ble_eq_true rfl) dX12_isThere_157 (fun r11 hq => ?_)
    refine hp_if_eq E 175 dX12_isThere_160 (by decide) (fun c12 => ?_) (fun c12 => ?_)
    · replace hq := hq.1 c12
      refine hp_iconst E (nI 0) dX12_isThere_175 (by decide) ?_
      exact hp_zret E (by unfold hp_bz; decide) ⟨hq, rfl⟩ hZ dX12_isThere_176
    · replace hq := hq.2 c12
      refine hp_aload_n E 0 dX12_isThere_163 rfl rfl ?_
      refine hp_iload_n E 3 dX12_isThere_164 rfl rfl ?_
      refine hp_callVip (rest := []) E 0 fM_0_0 vcl_12 (c_X12_isExpr l hJ hq) F_X12_isExpr m_RX12_199 ⟨rfl, rfl⟩ ⟨Nat.le_of_ble_eq_true rfl, Nat.le_of_ble_eq_true rfl⟩ ⟨Nat.zero_le _, Nat.zero_le _⟩ rfl rfl (Nat.le_of_ble_eq_true rfl) dX12_isThere_165 (fun r13 hq => ?_)
      refine hp_if_eq E 175 dX12_isThere_168 (by decide) (fun c14 => ?_) (fun c14 => ?_)
      · replace hq := hq.1 c14
        refine hp_iconst E (nI 0) dX12_isThere_175 (by decide) ?_
        exact hp_zret E (by unfold hp_bz; decide) ⟨hq, rfl⟩ hZ dX12_isThere_176
      · replace hq := hq.2 c14
        refine hp_iconst E (nI 1) dX12_isThere_171 (by decide) ?_
        refine hp_goto E 176 dX12_isThere_172 (by decide) ?_
        exact hp_zret E (by unfold hp_bz; decide) ⟨hq, rfl⟩ hZ dX12_isThere_176
  by_cases c26 : a1 = (nI 11)
  · replace hq := hq.2.2.2.2.2.2 ⟨(by rw [c26]; decide), (by rw [c26]; decide), (by rw [c26]; decide), (by rw [c26]; decide), (by rw [c26]; decide), (by rw [c26]; decide), (by rw [c26]; decide), (by rw [c26]; decide)⟩
    refine hp_tswV (off := 154) E (nI 11) 155 dX12_isThere_1 c26 (by decide) (by decide) (by decide) (by decide) ?_
    refine hp_aload_n E 0 dX12_isThere_155 rfl rfl ?_
    refine hp_iload_n E 2 dX12_isThere_156 rfl rfl ?_
    refine hp_callVip (rest := []) E 0 fM_0_0 vcl_12 (c_X12_isExpr l hJ hq) F_X12_isExpr m_RX12_199 ⟨rfl, rfl⟩ ⟨Nat.le_of_ble_eq_true rfl, Nat.le_of_ble_eq_true rfl⟩ ⟨Nat.zero_le _, Nat.zero_le _⟩ rfl rfl (Nat.le_of_ble_eq_true rfl) dX12_isThere_157 (fun r11 hq => ?_)
    refine hp_if_eq E 175 dX12_isThere_160 (by decide) (fun c12 => ?_) (fun c12 => ?_)
    · replace hq := hq.1 c12
      refine hp_iconst E (nI 0) dX12_isThere_175 (by decide) ?_
      exact hp_zret E (by unfold hp_bz; decide) ⟨hq, rfl⟩ hZ dX12_isThere_176
    · replace hq := hq.2 c12
      refine hp_aload_n E 0 dX12_isThere_163 rfl rfl ?_
      refine hp_iload_n E 3 dX12_isThere_164 rfl rfl ?_
      refine hp_callVip (rest := []) E 0 fM_0_0 vcl_12 (c_X12_isExpr l hJ hq) F_X12_isExpr m_RX12_199 ⟨rfl, rfl⟩ ⟨Nat.le_of_ble_eq_true rfl, Nat.le_of_ble_eq_true rfl⟩ ⟨Nat.zero_le _, Nat.zero_le _⟩ rfl rfl (Nat.le_of_ble_eq_true rfl) dX12_isThere_165 (fun r13 hq => ?_)
      refine hp_if_eq E 175 dX12_isThere_168 (by decide) (fun c14 => ?_) (fun c14 => ?_)
      · replace hq := hq.1 c14
        refine hp_iconst E (nI 0) dX12_isThere_175 (by decide) ?_
        exact hp_zret E (by unfold hp_bz; decide) ⟨hq, rfl⟩ hZ dX12_isThere_176
      · replace hq := hq.2 c14
        refine hp_iconst E (nI 1) dX12_isThere_171 (by decide) ?_
        refine hp_goto E 176 dX12_isThere_172 (by decide) ?_
        exact hp_zret E (by unfold hp_bz; decide) ⟨hq, rfl⟩ hZ dX12_isThere_176
  by_cases c27 : a1 = (nI 12)
  · replace hq := hq.2.2.2.2.2.2 ⟨(by rw [c27]; decide), (by rw [c27]; decide), (by rw [c27]; decide), (by rw [c27]; decide), (by rw [c27]; decide), (by rw [c27]; decide), (by rw [c27]; decide), (by rw [c27]; decide)⟩
    refine hp_tswV (off := 154) E (nI 12) 155 dX12_isThere_1 c27 (by decide) (by decide) (by decide) (by decide) ?_
    refine hp_aload_n E 0 dX12_isThere_155 rfl rfl ?_
    refine hp_iload_n E 2 dX12_isThere_156 rfl rfl ?_
    refine hp_callVip (rest := []) E 0 fM_0_0 vcl_12 (c_X12_isExpr l hJ hq) F_X12_isExpr m_RX12_199 ⟨rfl, rfl⟩ ⟨Nat.le_of_ble_eq_true rfl, Nat.le_of_ble_eq_true rfl⟩ ⟨Nat.zero_le _, Nat.zero_le _⟩ rfl rfl (Nat.le_of_ble_eq_true rfl) dX12_isThere_157 (fun r11 hq => ?_)
    refine hp_if_eq E 175 dX12_isThere_160 (by decide) (fun c12 => ?_) (fun c12 => ?_)
    · replace hq := hq.1 c12
      refine hp_iconst E (nI 0) dX12_isThere_175 (by decide) ?_
      exact hp_zret E (by unfold hp_bz; decide) ⟨hq, rfl⟩ hZ dX12_isThere_176
    · replace hq := hq.2 c12
      refine hp_aload_n E 0 dX12_isThere_163 rfl rfl ?_
      refine hp_iload_n E 3 dX12_isThere_164 rfl rfl ?_
      refine hp_callVip (rest := []) E 0 fM_0_0 vcl_12 (c_X12_isExpr l hJ hq) F_X12_isExpr m_RX12_199 ⟨rfl, rfl⟩ ⟨Nat.le_of_ble_eq_true rfl, Nat.le_of_ble_eq_true rfl⟩ ⟨Nat.zero_le _, Nat.zero_le _⟩ rfl rfl (Nat.le_of_ble_eq_true rfl) dX12_isThere_165 (fun r13 hq => ?_)
      refine hp_if_eq E 175 dX12_isThere_168 (by decide) (fun c14 => ?_) (fun c14 => ?_)
      · replace hq := hq.1 c14
        refine hp_iconst E (nI 0) dX12_isThere_175 (by decide) ?_
        exact hp_zret E (by unfold hp_bz; decide) ⟨hq, rfl⟩ hZ dX12_isThere_176
      · replace hq := hq.2 c14
        refine hp_iconst E (nI 1) dX12_isThere_171 (by decide) ?_
        refine hp_goto E 176 dX12_isThere_172 (by decide) ?_
        exact hp_zret E (by unfold hp_bz; decide) ⟨hq, rfl⟩ hZ dX12_isThere_176
  by_cases c28 : a1 = (nI 13)
  · replace hq := hq.2.2.2.2.2.2 ⟨(by rw [c28]; decide), (by rw [c28]; decide), (by rw [c28]; decide), (by rw [c28]; decide), (by rw [c28]; decide), (by rw [c28]; decide), (by rw [c28]; decide), (by rw [c28]; decide)⟩
    refine hp_tswV (off := 154) E (nI 13) 155 dX12_isThere_1 c28 (by decide) (by decide) (by decide) (by decide) ?_
    refine hp_aload_n E 0 dX12_isThere_155 rfl rfl ?_
    refine hp_iload_n E 2 dX12_isThere_156 rfl rfl ?_
    refine hp_callVip (rest := []) E 0 fM_0_0 vcl_12 (c_X12_isExpr l hJ hq) F_X12_isExpr m_RX12_199 ⟨rfl, rfl⟩ ⟨Nat.le_of_ble_eq_true rfl, Nat.le_of_ble_eq_true rfl⟩ ⟨Nat.zero_le _, Nat.zero_le _⟩ rfl rfl (Nat.le_of_ble_eq_true rfl) dX12_isThere_157 (fun r11 hq => ?_)
    refine hp_if_eq E 175 dX12_isThere_160 (by decide) (fun c12 => ?_) (fun c12 => ?_)
    · replace hq := hq.1 c12
      refine hp_iconst E (nI 0) dX12_isThere_175 (by decide) ?_
      exact hp_zret E (by unfold hp_bz; decide) ⟨hq, rfl⟩ hZ dX12_isThere_176
    · replace hq := hq.2 c12
      refine hp_aload_n E 0 dX12_isThere_163 rfl rfl ?_
      refine hp_iload_n E 3 dX12_isThere_164 rfl rfl ?_
      refine hp_callVip (rest := []) E 0 fM_0_0 vcl_12 (c_X12_isExpr l hJ hq) F_X12_isExpr m_RX12_199 ⟨rfl, rfl⟩ ⟨Nat.le_of_ble_eq_true rfl, Nat.le_of_ble_eq_true rfl⟩ ⟨Nat.zero_le _, Nat.zero_le _⟩ rfl rfl (Nat.le_of_ble_eq_true rfl) dX12_isThere_165 (fun r13 hq => ?_)
      refine hp_if_eq E 175 dX12_isThere_168 (by decide) (fun c14 => ?_) (fun c14 => ?_)
      · replace hq := hq.1 c14
        refine hp_iconst E (nI 0) dX12_isThere_175 (by decide) ?_
        exact hp_zret E (by unfold hp_bz; decide) ⟨hq, rfl⟩ hZ dX12_isThere_176
      · replace hq := hq.2 c14
        refine hp_iconst E (nI 1) dX12_isThere_171 (by decide) ?_
        refine hp_goto E 176 dX12_isThere_172 (by decide) ?_
        exact hp_zret E (by unfold hp_bz; decide) ⟨hq, rfl⟩ hZ dX12_isThere_176
  by_cases c29 : a1 = (nI 14)
  · replace hq := hq.2.2.2.2.2.1 (c29)
    refine hp_tswV (off := 148) E (nI 14) 149 dX12_isThere_1 c29 (by decide) (by decide) (by decide) (by decide) ?_
    refine hp_aload_n E 0 dX12_isThere_149 rfl rfl ?_
    refine hp_iload_n E 2 dX12_isThere_150 rfl rfl ?_
    refine hp_callVip (rest := []) E 0 fM_0_0 vcl_12 (c_X12_isExpr l hJ hq) F_X12_isExpr m_RX12_199 ⟨rfl, rfl⟩ ⟨Nat.le_of_ble_eq_true rfl, Nat.le_of_ble_eq_true rfl⟩ ⟨Nat.zero_le _, Nat.zero_le _⟩ rfl rfl (Nat.le_of_ble_eq_true rfl) dX12_isThere_151 (fun r10 hq => ?_)
    have hbz := hq.1
    replace hq := hq.2
    exact hp_zret E hbz ⟨hq, rfl⟩ hZ dX12_isThere_154
  replace hq := hq.2.2.2.2.2.2 ⟨c15, c16, c17, c18, c19, c20, c21, c29⟩
  refine hp_tswD E 155 dX12_isThere_1 (hp_out (fun i h1 h2 => ?_)) (by decide) ?_
  · rcases (show i = 0 ∨ i = 1 ∨ i = 2 ∨ i = 3 ∨ i = 4 ∨ i = 5 ∨ i = 6 ∨ i = 7 ∨ i = 8 ∨ i = 9 ∨ i = 10 ∨ i = 11 ∨ i = 12 ∨ i = 13 ∨ i = 14 by omega) with rfl | rfl | rfl | rfl | rfl | rfl | rfl | rfl | rfl | rfl | rfl | rfl | rfl | rfl | rfl
    · exact hp_nat c15 (by decide)
    · exact hp_nat c16 (by decide)
    · exact hp_nat c17 (by decide)
    · exact hp_nat c18 (by decide)
    · exact hp_nat c19 (by decide)
    · exact hp_nat c20 (by decide)
    · exact hp_nat c21 (by decide)
    · exact hp_nat c22 (by decide)
    · exact hp_nat c23 (by decide)
    · exact hp_nat c24 (by decide)
    · exact hp_nat c25 (by decide)
    · exact hp_nat c26 (by decide)
    · exact hp_nat c27 (by decide)
    · exact hp_nat c28 (by decide)
    · exact hp_nat c29 (by decide)
  · refine hp_aload_n E 0 dX12_isThere_155 rfl rfl ?_
    refine hp_iload_n E 2 dX12_isThere_156 rfl rfl ?_
    refine hp_callVip (rest := []) E 0 fM_0_0 vcl_12 (c_X12_isExpr l hJ hq) F_X12_isExpr m_RX12_199 ⟨rfl, rfl⟩ ⟨Nat.le_of_ble_eq_true rfl, Nat.le_of_ble_eq_true rfl⟩ ⟨Nat.zero_le _, Nat.zero_le _⟩ rfl rfl (Nat.le_of_ble_eq_true rfl) dX12_isThere_157 (fun r11 hq => ?_)
    refine hp_if_eq E 175 dX12_isThere_160 (by decide) (fun c12 => ?_) (fun c12 => ?_)
    · replace hq := hq.1 c12
      refine hp_iconst E (nI 0) dX12_isThere_175 (by decide) ?_
      exact hp_zret E (by unfold hp_bz; decide) ⟨hq, rfl⟩ hZ dX12_isThere_176
    · replace hq := hq.2 c12
      refine hp_aload_n E 0 dX12_isThere_163 rfl rfl ?_
      refine hp_iload_n E 3 dX12_isThere_164 rfl rfl ?_
      refine hp_callVip (rest := []) E 0 fM_0_0 vcl_12 (c_X12_isExpr l hJ hq) F_X12_isExpr m_RX12_199 ⟨rfl, rfl⟩ ⟨Nat.le_of_ble_eq_true rfl, Nat.le_of_ble_eq_true rfl⟩ ⟨Nat.zero_le _, Nat.zero_le _⟩ rfl rfl (Nat.le_of_ble_eq_true rfl) dX12_isThere_165 (fun r13 hq => ?_)
      refine hp_if_eq E 175 dX12_isThere_168 (by decide) (fun c14 => ?_) (fun c14 => ?_)
      · replace hq := hq.1 c14
        refine hp_iconst E (nI 0) dX12_isThere_175 (by decide) ?_
        exact hp_zret E (by unfold hp_bz; decide) ⟨hq, rfl⟩ hZ dX12_isThere_176
      · replace hq := hq.2 c14
        refine hp_iconst E (nI 1) dX12_isThere_171 (by decide) ?_
        refine hp_goto E 176 dX12_isThere_172 (by decide) ?_
        exact hp_zret E (by unfold hp_bz; decide) ⟨hq, rfl⟩ hZ dX12_isThere_176
theorem dX12_expr_0 : decode cX12_expr 0 = .ok (.iload_n 1, 1) := by decide +kernel
theorem dX12_expr_1 : decode cX12_expr 1 = .ok (.iconst 0, 1) := by decide +kernel
theorem dX12_expr_2 : decode cX12_expr 2 = .ok (.bipush 14, 2) := by decide +kernel
theorem dX12_expr_4 : decode cX12_expr 4 = .ok (.invokestatic 156, 3) := by decide +kernel
theorem dX12_expr_7 : decode cX12_expr 7 = .ok (.ifCond .ne 6, 3) := by decide +kernel
theorem dX12_expr_10 : decode cX12_expr 10 = .ok (.bipush (-3), 2) := by decide +kernel
theorem dX12_expr_12 : decode cX12_expr 12 = .ok (.ireturn, 1) := by decide +kernel
theorem dX12_expr_13 : decode cX12_expr 13 = .ok (.aload_n 0, 1) := by decide +kernel
theorem dX12_expr_14 : decode cX12_expr 14 = .ok (.iload_n 1, 1) := by decide +kernel
theorem dX12_expr_15 : decode cX12_expr 15 = .ok (.iload_n 2, 1) := by decide +kernel
theorem dX12_expr_16 : decode cX12_expr 16 = .ok (.iload_n 3, 1) := by decide +kernel
theorem dX12_expr_17 : decode cX12_expr 17 = .ok (.iload 4, 2) := by decide +kernel
theorem dX12_expr_19 : decode cX12_expr 19 = .ok (.invokevirtual 202, 3) := by decide +kernel
theorem dX12_expr_22 : decode cX12_expr 22 = .ok (.ifCond .ne 6, 3) := by decide +kernel
theorem dX12_expr_25 : decode cX12_expr 25 = .ok (.bipush (-2), 2) := by decide +kernel
theorem dX12_expr_27 : decode cX12_expr 27 = .ok (.ireturn, 1) := by decide +kernel
theorem dX12_expr_28 : decode cX12_expr 28 = .ok (.iload_n 1, 1) := by decide +kernel
theorem dX12_expr_29 : decode cX12_expr 29 = .ok (.iconst 2, 1) := by decide +kernel
theorem dX12_expr_30 : decode cX12_expr 30 = .ok (.if_icmp .ne 12, 3) := by decide +kernel
theorem dX12_expr_33 : decode cX12_expr 33 = .ok (.iload_n 2, 1) := by decide +kernel
theorem dX12_expr_34 : decode cX12_expr 34 = .ok (.iconst 0, 1) := by decide +kernel
theorem dX12_expr_35 : decode cX12_expr 35 = .ok (.iconst 2, 1) := by decide +kernel
theorem dX12_expr_36 : decode cX12_expr 36 = .ok (.invokestatic 156, 3) := by decide +kernel
theorem dX12_expr_39 : decode cX12_expr 39 = .ok (.ifCond .eq 18, 3) := by decide +kernel
theorem dX12_expr_42 : decode cX12_expr 42 = .ok (.iload_n 1, 1) := by decide +kernel
theorem dX12_expr_43 : decode cX12_expr 43 = .ok (.iconst 4, 1) := by decide +kernel
theorem dX12_expr_44 : decode cX12_expr 44 = .ok (.if_icmp .ne 16, 3) := by decide +kernel
theorem dX12_expr_47 : decode cX12_expr 47 = .ok (.iload_n 3, 1) := by decide +kernel
theorem dX12_expr_48 : decode cX12_expr 48 = .ok (.iconst 0, 1) := by decide +kernel
theorem dX12_expr_49 : decode cX12_expr 49 = .ok (.bipush 9, 2) := by decide +kernel
theorem dX12_expr_51 : decode cX12_expr 51 = .ok (.invokestatic 156, 3) := by decide +kernel
theorem dX12_expr_54 : decode cX12_expr 54 = .ok (.ifCond .ne 6, 3) := by decide +kernel
theorem dX12_expr_57 : decode cX12_expr 57 = .ok (.bipush (-3), 2) := by decide +kernel
theorem dX12_expr_59 : decode cX12_expr 59 = .ok (.ireturn, 1) := by decide +kernel
theorem dX12_expr_60 : decode cX12_expr 60 = .ok (.aload_n 0, 1) := by decide +kernel
theorem dX12_expr_61 : decode cX12_expr 61 = .ok (.getfield 193, 3) := by decide +kernel
theorem dX12_expr_64 : decode cX12_expr 64 = .ok (.bipush 80, 2) := by decide +kernel
theorem dX12_expr_66 : decode cX12_expr 66 = .ok (.if_icmp .ne 6, 3) := by decide +kernel
theorem dX12_expr_69 : decode cX12_expr 69 = .ok (.bipush (-6), 2) := by decide +kernel
theorem dX12_expr_71 : decode cX12_expr 71 = .ok (.ireturn, 1) := by decide +kernel
theorem dX12_expr_72 : decode cX12_expr 72 = .ok (.aload_n 0, 1) := by decide +kernel
theorem dX12_expr_73 : decode cX12_expr 73 = .ok (.invokevirtual 180, 3) := by decide +kernel
theorem dX12_expr_76 : decode cX12_expr 76 = .ok (.aload_n 0, 1) := by decide +kernel
theorem dX12_expr_77 : decode cX12_expr 77 = .ok (.getfield 47, 3) := by decide +kernel
theorem dX12_expr_80 : decode cX12_expr 80 = .ok (.aload_n 0, 1) := by decide +kernel
theorem dX12_expr_81 : decode cX12_expr 81 = .ok (.getfield 193, 3) := by decide +kernel
theorem dX12_expr_84 : decode cX12_expr 84 = .ok (.iload_n 1, 1) := by decide +kernel
theorem dX12_expr_85 : decode cX12_expr 85 = .ok (.iastore, 1) := by decide +kernel
theorem dX12_expr_86 : decode cX12_expr 86 = .ok (.aload_n 0, 1) := by decide +kernel
theorem dX12_expr_87 : decode cX12_expr 87 = .ok (.getfield 50, 3) := by decide +kernel
theorem dX12_expr_90 : decode cX12_expr 90 = .ok (.aload_n 0, 1) := by decide +kernel
theorem dX12_expr_91 : decode cX12_expr 91 = .ok (.getfield 193, 3) := by decide +kernel
theorem dX12_expr_94 : decode cX12_expr 94 = .ok (.iload_n 2, 1) := by decide +kernel
theorem dX12_expr_95 : decode cX12_expr 95 = .ok (.iastore, 1) := by decide +kernel
theorem dX12_expr_96 : decode cX12_expr 96 = .ok (.aload_n 0, 1) := by decide +kernel
theorem dX12_expr_97 : decode cX12_expr 97 = .ok (.getfield 53, 3) := by decide +kernel
theorem dX12_expr_100 : decode cX12_expr 100 = .ok (.aload_n 0, 1) := by decide +kernel
theorem dX12_expr_101 : decode cX12_expr 101 = .ok (.getfield 193, 3) := by decide +kernel
theorem dX12_expr_104 : decode cX12_expr 104 = .ok (.iload_n 3, 1) := by decide +kernel
theorem dX12_expr_105 : decode cX12_expr 105 = .ok (.iastore, 1) := by decide +kernel
theorem dX12_expr_106 : decode cX12_expr 106 = .ok (.aload_n 0, 1) := by decide +kernel
theorem dX12_expr_107 : decode cX12_expr 107 = .ok (.getfield 56, 3) := by decide +kernel
theorem dX12_expr_110 : decode cX12_expr 110 = .ok (.aload_n 0, 1) := by decide +kernel
theorem dX12_expr_111 : decode cX12_expr 111 = .ok (.getfield 193, 3) := by decide +kernel
theorem dX12_expr_114 : decode cX12_expr 114 = .ok (.iload 4, 2) := by decide +kernel
theorem dX12_expr_116 : decode cX12_expr 116 = .ok (.iastore, 1) := by decide +kernel
theorem dX12_expr_117 : decode cX12_expr 117 = .ok (.aload_n 0, 1) := by decide +kernel
theorem dX12_expr_118 : decode cX12_expr 118 = .ok (.getfield 59, 3) := by decide +kernel
theorem dX12_expr_121 : decode cX12_expr 121 = .ok (.aload_n 0, 1) := by decide +kernel
theorem dX12_expr_122 : decode cX12_expr 122 = .ok (.getfield 193, 3) := by decide +kernel
theorem dX12_expr_125 : decode cX12_expr 125 = .ok (.iload_n 1, 1) := by decide +kernel
theorem dX12_expr_126 : decode cX12_expr 126 = .ok (.iconst 2, 1) := by decide +kernel
theorem dX12_expr_127 : decode cX12_expr 127 = .ok (.if_icmp .eq 44, 3) := by decide +kernel
theorem dX12_expr_130 : decode cX12_expr 130 = .ok (.iload_n 1, 1) := by decide +kernel
theorem dX12_expr_131 : decode cX12_expr 131 = .ok (.iconst 3, 1) := by decide +kernel
theorem dX12_expr_132 : decode cX12_expr 132 = .ok (.if_icmp .eq 39, 3) := by decide +kernel
theorem dX12_expr_135 : decode cX12_expr 135 = .ok (.iload_n 1, 1) := by decide +kernel
theorem dX12_expr_136 : decode cX12_expr 136 = .ok (.bipush 6, 2) := by decide +kernel
theorem dX12_expr_138 : decode cX12_expr 138 = .ok (.if_icmp .le 12, 3) := by decide +kernel
theorem dX12_expr_141 : decode cX12_expr 141 = .ok (.aload_n 0, 1) := by decide +kernel
theorem dX12_expr_142 : decode cX12_expr 142 = .ok (.getfield 59, 3) := by decide +kernel
theorem dX12_expr_145 : decode cX12_expr 145 = .ok (.iload_n 2, 1) := by decide +kernel
theorem dX12_expr_146 : decode cX12_expr 146 = .ok (.baload, 1) := by decide +kernel
theorem dX12_expr_147 : decode cX12_expr 147 = .ok (.ifCond .ne 24, 3) := by decide +kernel
theorem dX12_expr_150 : decode cX12_expr 150 = .ok (.iload_n 1, 1) := by decide +kernel
theorem dX12_expr_151 : decode cX12_expr 151 = .ok (.bipush 6, 2) := by decide +kernel
theorem dX12_expr_153 : decode cX12_expr 153 = .ok (.if_icmp .le 22, 3) := by decide +kernel
theorem dX12_expr_156 : decode cX12_expr 156 = .ok (.iload_n 1, 1) := by decide +kernel
theorem dX12_expr_157 : decode cX12_expr 157 = .ok (.bipush 14, 2) := by decide +kernel
theorem dX12_expr_159 : decode cX12_expr 159 = .ok (.if_icmp .ge 16, 3) := by decide +kernel
theorem dX12_expr_162 : decode cX12_expr 162 = .ok (.aload_n 0, 1) := by decide +kernel
theorem dX12_expr_163 : decode cX12_expr 163 = .ok (.getfield 59, 3) := by decide +kernel
theorem dX12_expr_166 : decode cX12_expr 166 = .ok (.iload_n 3, 1) := by decide +kernel
theorem dX12_expr_167 : decode cX12_expr 167 = .ok (.baload, 1) := by decide +kernel
theorem dX12_expr_168 : decode cX12_expr 168 = .ok (.ifCond .eq 7, 3) := by decide +kernel
theorem dX12_expr_171 : decode cX12_expr 171 = .ok (.iconst 1, 1) := by decide +kernel
theorem dX12_expr_172 : decode cX12_expr 172 = .ok (.goto 4, 3) := by decide +kernel
theorem dX12_expr_175 : decode cX12_expr 175 = .ok (.iconst 0, 1) := by decide +kernel
theorem dX12_expr_176 : decode cX12_expr 176 = .ok (.bastore, 1) := by decide +kernel
theorem dX12_expr_177 : decode cX12_expr 177 = .ok (.aload_n 0, 1) := by decide +kernel
theorem dX12_expr_178 : decode cX12_expr 178 = .ok (.dup, 1) := by decide +kernel
theorem dX12_expr_179 : decode cX12_expr 179 = .ok (.getfield 193, 3) := by decide +kernel
theorem dX12_expr_182 : decode cX12_expr 182 = .ok (.iconst 1, 1) := by decide +kernel
theorem dX12_expr_183 : decode cX12_expr 183 = .ok (.iadd, 1) := by decide +kernel
theorem dX12_expr_184 : decode cX12_expr 184 = .ok (.putfield 193, 3) := by decide +kernel
theorem dX12_expr_187 : decode cX12_expr 187 = .ok (.aload_n 0, 1) := by decide +kernel
theorem dX12_expr_188 : decode cX12_expr 188 = .ok (.getfield 193, 3) := by decide +kernel
theorem dX12_expr_191 : decode cX12_expr 191 = .ok (.iconst 1, 1) := by decide +kernel
theorem dX12_expr_192 : decode cX12_expr 192 = .ok (.isub, 1) := by decide +kernel
theorem dX12_expr_193 : decode cX12_expr 193 = .ok (.ireturn, 1) := by decide +kernel
set_option maxHeartbeats 4000000 in
set_option maxRecDepth 100000 in
theorem c_X12_expr (l : Launch) {cs : Nat → ClassId} {ad : Nat → Nat} {A : Nat → Prop} {D : va_G} (hJ : hp_J SM ad A)   {h : hp_H} {a1 a2 a3 a4 : Int32} {Q : Int32 → hp_H → Prop} (hq : q_X12_expr h a1 a2 a3 a4 Q) : hp_Mi l yX12_expr cX12_expr 5 (some .int) rm_X12_expr [.ref (ad 0), .int a1, .int a2, .int a3, .int a4] SM cs ad A D h Q := by
  refine hp_met (own := RX12) rfl (by decide) (Nat.le_of_ble_eq_true rfl) rfl (fun p e s m args below meth c Z E hZ hnm => ?_)
  refine hp_sub (lv' := [(0, .ref (ad 0)), (1, .int a1), (2, .int a2), (3, .int a3), (4, .int a4)]) [0, 1, 2, 3, 4] rfl ?_
  unfold q_X12_expr at hq
  refine hp_iload_n E 1 dX12_expr_0 rfl rfl ?_
  refine hp_iconst E (nI 0) dX12_expr_1 (by decide) ?_
  refine hp_bipush E (nI 14) dX12_expr_2 (by decide) ?_
  refine hp_callSip (rest := []) E (c_X12_in l hJ hq) F_X12_in m_RX12_156 ⟨rfl, rfl⟩ ⟨Nat.le_of_ble_eq_true rfl, Nat.le_of_ble_eq_true rfl⟩ ⟨Nat.zero_le _, Nat.zero_le _⟩ rfl rfl (Nat.le_of_ble_eq_true rfl) dX12_expr_4 (fun r1 hq => ?_)
  refine hp_if_ne E 13 dX12_expr_7 (by decide) (fun c2 => ?_) (fun c2 => ?_)
  · replace hq := hq.2 c2
    refine hp_aload_n E 0 dX12_expr_13 rfl rfl ?_
    refine hp_iload_n E 1 dX12_expr_14 rfl rfl ?_
    refine hp_iload_n E 2 dX12_expr_15 rfl rfl ?_
    refine hp_iload_n E 3 dX12_expr_16 rfl rfl ?_
    refine hp_iload E 4 dX12_expr_17 rfl ?_
    refine hp_callVip (rest := []) E 0 fM_0_0 vcl_12 (c_X12_isThere l hJ hq) F_X12_isThere m_RX12_202 ⟨rfl, rfl⟩ ⟨Nat.le_of_ble_eq_true rfl, Nat.le_of_ble_eq_true rfl⟩ ⟨Nat.zero_le _, Nat.zero_le _⟩ rfl rfl (Nat.le_of_ble_eq_true rfl) dX12_expr_19 (fun r3 hq => ?_)
    refine hp_if_ne E 28 dX12_expr_22 (by decide) (fun c4 => ?_) (fun c4 => ?_)
    · replace hq := hq.2 c4
      refine hp_iload_n E 1 dX12_expr_28 rfl rfl ?_
      refine hp_iconst E (nI 2) dX12_expr_29 (by decide) ?_
      obtain ⟨K6, hq, hK6⟩ := hq
      have jK6 : K6 → hp_G p l e rm_X12_expr s m args below meth c SM cs ad A D 5 0 0 Z 42 [(0, .ref (ad 0)), (1, .int a1), (2, .int a2), (3, .int a3), (4, .int a4)] [] h := by
        intro  hq
        replace hq := hK6  hq
        refine hp_iload_n E 1 dX12_expr_42 rfl rfl ?_
        refine hp_iconst E (nI 4) dX12_expr_43 (by decide) ?_
        obtain ⟨K10, hq, hK10⟩ := hq
        have jK10 : K10 → hp_G p l e rm_X12_expr s m args below meth c SM cs ad A D 5 0 0 Z 60 [(0, .ref (ad 0)), (1, .int a1), (2, .int a2), (3, .int a3), (4, .int a4)] [] h := by
          intro  hq
          replace hq := hK10  hq
          refine hp_aload_n E 0 dX12_expr_60 rfl rfl ?_
          refine hp_gI E g_RX12_193 fM_0_15 dX12_expr_61 ?_
          refine hp_bipush E (nI 80) dX12_expr_64 (by decide) ?_
          refine hp_icmp_ne E 72 dX12_expr_66 (by decide) (fun c13 => ?_) (fun c13 => ?_)
          · replace hq := hq.2 c13
            refine hp_aload_n E 0 dX12_expr_72 rfl rfl ?_
            refine hp_callVv' (rest := []) E 0 fM_0_0 vcl_12 (c_X12_over l hJ hq) F_X12_over m_RX12_180 ⟨rfl, rfl⟩ ⟨Nat.le_of_ble_eq_true rfl, Nat.le_of_ble_eq_true rfl⟩ ⟨Nat.zero_le _, Nat.zero_le _⟩ rfl rfl (Nat.le_of_ble_eq_true rfl) dX12_expr_73 (fun h14 hq => ?_)
            refine hp_aload_n E 0 dX12_expr_76 rfl rfl ?_
            refine hp_gR E g_RX12_47 fM_0_16 dX12_expr_77 ?_
            refine hp_aload_n E 0 dX12_expr_80 rfl rfl ?_
            refine hp_gI E g_RX12_193 fM_0_15 dX12_expr_81 ?_
            refine hp_iload_n E 1 dX12_expr_84 rfl rfl ?_
            have hin := hq.1
            replace hq := hq.2
            refine hp_iast E 13 aM_13 zM_13 hJ hin dX12_expr_85 ?_
            refine hp_toph (fun h15 eh15 => ?_)
            replace hq := hq h15 eh15
            refine hp_aload_n E 0 dX12_expr_86 rfl rfl ?_
            refine hp_gR E g_RX12_50 fM_0_17 dX12_expr_87 ?_
            refine hp_aload_n E 0 dX12_expr_90 rfl rfl ?_
            refine hp_gI E g_RX12_193 fM_0_15 dX12_expr_91 ?_
            refine hp_iload_n E 2 dX12_expr_94 rfl rfl ?_
            have hin := hq.1
            replace hq := hq.2
            refine hp_iast E 14 aM_14 zM_14 hJ hin dX12_expr_95 ?_
            refine hp_toph (fun h16 eh16 => ?_)
            replace hq := hq h16 eh16
            refine hp_aload_n E 0 dX12_expr_96 rfl rfl ?_
            refine hp_gR E g_RX12_53 fM_0_18 dX12_expr_97 ?_
            refine hp_aload_n E 0 dX12_expr_100 rfl rfl ?_
            refine hp_gI E g_RX12_193 fM_0_15 dX12_expr_101 ?_
            refine hp_iload_n E 3 dX12_expr_104 rfl rfl ?_
            have hin := hq.1
            replace hq := hq.2
            refine hp_iast E 15 aM_15 zM_15 hJ hin dX12_expr_105 ?_
            refine hp_toph (fun h17 eh17 => ?_)
            replace hq := hq h17 eh17
            refine hp_aload_n E 0 dX12_expr_106 rfl rfl ?_
            refine hp_gR E g_RX12_56 fM_0_19 dX12_expr_107 ?_
            refine hp_aload_n E 0 dX12_expr_110 rfl rfl ?_
            refine hp_gI E g_RX12_193 fM_0_15 dX12_expr_111 ?_
            refine hp_iload E 4 dX12_expr_114 rfl ?_
            have hin := hq.1
            replace hq := hq.2
            refine hp_iast E 16 aM_16 zM_16 hJ hin dX12_expr_116 ?_
            refine hp_toph (fun h18 eh18 => ?_)
            replace hq := hq h18 eh18
            refine hp_aload_n E 0 dX12_expr_117 rfl rfl ?_
            refine hp_gR E g_RX12_59 fM_0_20 dX12_expr_118 ?_
            refine hp_aload_n E 0 dX12_expr_121 rfl rfl ?_
            refine hp_gI E g_RX12_193 fM_0_15 dX12_expr_122 ?_
            refine hp_iload_n E 1 dX12_expr_125 rfl rfl ?_
            refine hp_iconst E (nI 2) dX12_expr_126 (by decide) ?_
            obtain ⟨K20, hq, hK20⟩ := hq
            have jK20 : ∀ (v21 : Int32), K20 v21 → hp_G p l e rm_X12_expr s m args below meth c SM cs ad A D 5 0 0 Z 176 [(0, .ref (ad 0))] [.int v21, .int (h18 0 15), .ref (ad 17)] h18 := by
              intro v21 hq
              replace hq := hK20 v21 hq
              have hin := hq.1
              replace hq := hq.2
              have hbz := hq.1
              replace hq := hq.2
              refine hp_zast E 17 aM_17 zM_17 hJ hin hbz dX12_expr_176 ?_
              refine hp_toph (fun h31 eh31 => ?_)
              replace hq := hq h31 eh31
              refine hp_aload_n E 0 dX12_expr_177 rfl rfl ?_
              refine hp_dup E rfl dX12_expr_178 ?_
              refine hp_gI E g_RX12_193 fM_0_15 dX12_expr_179 ?_
              refine hp_iconst E (nI 1) dX12_expr_182 (by decide) ?_
              refine hp_iadd E dX12_expr_183 ?_
              refine hp_pI E p_RX12_193 fM_0_15 (by decide) hJ dX12_expr_184 ?_
              refine hp_toph (fun h32 eh32 => ?_)
              replace hq := hq h32 eh32
              refine hp_aload_n E 0 dX12_expr_187 rfl rfl ?_
              refine hp_gI E g_RX12_193 fM_0_15 dX12_expr_188 ?_
              refine hp_iconst E (nI 1) dX12_expr_191 (by decide) ?_
              refine hp_isub E dX12_expr_192 ?_
              exact hp_iret E hq hZ dX12_expr_193
            obtain ⟨K22, hq, hK22⟩ := hq
            have jK22 : K22 → hp_G p l e rm_X12_expr s m args below meth c SM cs ad A D 5 0 0 Z 171 [(0, .ref (ad 0))] [.int (h18 0 15), .ref (ad 17)] h18 := by
              intro  hq
              replace hq := hK22  hq
              refine hp_iconst E (nI 1) dX12_expr_171 (by decide) ?_
              refine hp_goto E 176 dX12_expr_172 (by decide) ?_
              exact jK20 _ hq
            refine hp_icmp_eq E 171 dX12_expr_127 (by decide) (fun c19 => ?_) (fun c19 => ?_)
            · replace hq := hq.1 c19
              refine hp_sub (lv' := [(0, .ref (ad 0))]) [0] rfl ?_
              exact jK22  hq
            · replace hq := hq.2 c19
              refine hp_iload_n E 1 dX12_expr_130 rfl rfl ?_
              refine hp_iconst E (nI 3) dX12_expr_131 (by decide) ?_
              refine hp_icmp_eq E 171 dX12_expr_132 (by decide) (fun c23 => ?_) (fun c23 => ?_)
              · replace hq := hq.1 c23
                refine hp_sub (lv' := [(0, .ref (ad 0))]) [0] rfl ?_
                exact jK22  hq
              · replace hq := hq.2 c23
                refine hp_iload_n E 1 dX12_expr_135 rfl rfl ?_
                refine hp_bipush E (nI 6) dX12_expr_136 (by decide) ?_
                obtain ⟨K25, hq, hK25⟩ := hq
                have jK25 : K25 → hp_G p l e rm_X12_expr s m args below meth c SM cs ad A D 5 0 0 Z 150 [(0, .ref (ad 0)), (1, .int a1), (3, .int a3)] [.int (h18 0 15), .ref (ad 17)] h18 := by
                  intro  hq
                  replace hq := hK25  hq
                  refine hp_iload_n E 1 dX12_expr_150 rfl rfl ?_
                  refine hp_bipush E (nI 6) dX12_expr_151 (by decide) ?_
                  obtain ⟨K28, hq, hK28⟩ := hq
                  have jK28 : K28 → hp_G p l e rm_X12_expr s m args below meth c SM cs ad A D 5 0 0 Z 175 [(0, .ref (ad 0))] [.int (h18 0 15), .ref (ad 17)] h18 := by
                    intro  hq
                    replace hq := hK28  hq
                    refine hp_iconst E (nI 0) dX12_expr_175 (by decide) ?_
                    exact jK20 _ hq
                  refine hp_icmp_le E 175 dX12_expr_153 (by decide) (fun c27 => ?_) (fun c27 => ?_)
                  · replace hq := hq.1 c27
                    refine hp_sub (lv' := [(0, .ref (ad 0))]) [0] rfl ?_
                    exact jK28  hq
                  · replace hq := hq.2 c27
                    refine hp_iload_n E 1 dX12_expr_156 rfl rfl ?_
                    refine hp_bipush E (nI 14) dX12_expr_157 (by decide) ?_
                    refine hp_icmp_ge E 175 dX12_expr_159 (by decide) (fun c29 => ?_) (fun c29 => ?_)
                    · replace hq := hq.1 c29
                      refine hp_sub (lv' := [(0, .ref (ad 0))]) [0] rfl ?_
                      exact jK28  hq
                    · replace hq := hq.2 c29
                      refine hp_aload_n E 0 dX12_expr_162 rfl rfl ?_
                      refine hp_gR E g_RX12_59 fM_0_20 dX12_expr_163 ?_
                      refine hp_iload_n E 2 dX12_expr_166 rfl rfl ?_
                      refine hp_zald E 17 aM_17 hq.1 dX12_expr_167 ?_
                      replace hq := hq.2
                      refine hp_if_eq E 175 dX12_expr_168 (by decide) (fun c30 => ?_) (fun c30 => ?_)
                      · replace hq := hq.1 c30
                        refine hp_sub (lv' := [(0, .ref (ad 0))]) [0] rfl ?_
                        exact jK28  hq
                      · replace hq := hq.2 c30
                        refine hp_sub (lv' := [(0, .ref (ad 0))]) [0] rfl ?_
                        exact jK22  hq
                refine hp_icmp_le E 150 dX12_expr_138 (by decide) (fun c24 => ?_) (fun c24 => ?_)
                · replace hq := hq.1 c24
                  refine hp_sub (lv' := [(0, .ref (ad 0)), (1, .int a1), (3, .int a3)]) [0, 1, 3] rfl ?_
                  exact jK25  hq
                · replace hq := hq.2 c24
                  refine hp_aload_n E 0 dX12_expr_141 rfl rfl ?_
                  refine hp_gR E g_RX12_59 fM_0_20 dX12_expr_142 ?_
                  refine hp_iload_n E 2 dX12_expr_145 rfl rfl ?_
                  refine hp_zald E 17 aM_17 hq.1 dX12_expr_146 ?_
                  replace hq := hq.2
                  refine hp_if_ne E 171 dX12_expr_147 (by decide) (fun c26 => ?_) (fun c26 => ?_)
                  · replace hq := hq.2 c26
                    refine hp_sub (lv' := [(0, .ref (ad 0))]) [0] rfl ?_
                    exact jK22  hq
                  · replace hq := hq.1 c26
                    refine hp_sub (lv' := [(0, .ref (ad 0)), (1, .int a1), (3, .int a3)]) [0, 1, 3] rfl ?_
                    exact jK25  hq
          · replace hq := hq.1 c13
            refine hp_bipush E (-6) dX12_expr_69 (by decide) ?_
            exact hp_iret E hq hZ dX12_expr_71
        refine hp_icmp_ne E 60 dX12_expr_44 (by decide) (fun c9 => ?_) (fun c9 => ?_)
        · replace hq := hq.2 c9
          exact jK10  hq
        · replace hq := hq.1 c9
          refine hp_iload_n E 3 dX12_expr_47 rfl rfl ?_
          refine hp_iconst E (nI 0) dX12_expr_48 (by decide) ?_
          refine hp_bipush E (nI 9) dX12_expr_49 (by decide) ?_
          refine hp_callSip (rest := []) E (c_X12_in l hJ hq) F_X12_in m_RX12_156 ⟨rfl, rfl⟩ ⟨Nat.le_of_ble_eq_true rfl, Nat.le_of_ble_eq_true rfl⟩ ⟨Nat.zero_le _, Nat.zero_le _⟩ rfl rfl (Nat.le_of_ble_eq_true rfl) dX12_expr_51 (fun r11 hq => ?_)
          refine hp_if_ne E 60 dX12_expr_54 (by decide) (fun c12 => ?_) (fun c12 => ?_)
          · replace hq := hq.2 c12
            exact jK10  hq
          · replace hq := hq.1 c12
            refine hp_bipush E (-3) dX12_expr_57 (by decide) ?_
            exact hp_iret E hq hZ dX12_expr_59
      refine hp_icmp_ne E 42 dX12_expr_30 (by decide) (fun c5 => ?_) (fun c5 => ?_)
      · replace hq := hq.2 c5
        exact jK6  hq
      · replace hq := hq.1 c5
        refine hp_iload_n E 2 dX12_expr_33 rfl rfl ?_
        refine hp_iconst E (nI 0) dX12_expr_34 (by decide) ?_
        refine hp_iconst E (nI 2) dX12_expr_35 (by decide) ?_
        refine hp_callSip (rest := []) E (c_X12_in l hJ hq) F_X12_in m_RX12_156 ⟨rfl, rfl⟩ ⟨Nat.le_of_ble_eq_true rfl, Nat.le_of_ble_eq_true rfl⟩ ⟨Nat.zero_le _, Nat.zero_le _⟩ rfl rfl (Nat.le_of_ble_eq_true rfl) dX12_expr_36 (fun r7 hq => ?_)
        refine hp_if_eq E 57 dX12_expr_39 (by decide) (fun c8 => ?_) (fun c8 => ?_)
        · replace hq := hq.1 c8
          refine hp_bipush E (-3) dX12_expr_57 (by decide) ?_
          exact hp_iret E hq hZ dX12_expr_59
        · replace hq := hq.2 c8
          exact jK6  hq
    · replace hq := hq.1 c4
      refine hp_bipush E (-2) dX12_expr_25 (by decide) ?_
      exact hp_iret E hq hZ dX12_expr_27
  · replace hq := hq.1 c2
    refine hp_bipush E (-3) dX12_expr_10 (by decide) ?_
    exact hp_iret E hq hZ dX12_expr_12
theorem dX12_step_0 : decode cX12_step 0 = .ok (.aload_n 0, 1) := by decide +kernel
theorem dX12_step_1 : decode cX12_step 1 = .ok (.iload_n 1, 1) := by decide +kernel
theorem dX12_step_2 : decode cX12_step 2 = .ok (.invokevirtual 186, 3) := by decide +kernel
theorem dX12_step_5 : decode cX12_step 5 = .ok (.ifCond .eq 18, 3) := by decide +kernel
theorem dX12_step_8 : decode cX12_step 8 = .ok (.iload 4, 2) := by decide +kernel
theorem dX12_step_10 : decode cX12_step 10 = .ok (.iconst (-1), 1) := by decide +kernel
theorem dX12_step_11 : decode cX12_step 11 = .ok (.if_icmp .eq 15, 3) := by decide +kernel
theorem dX12_step_14 : decode cX12_step 14 = .ok (.aload_n 0, 1) := by decide +kernel
theorem dX12_step_15 : decode cX12_step 15 = .ok (.iload 4, 2) := by decide +kernel
theorem dX12_step_17 : decode cX12_step 17 = .ok (.invokevirtual 199, 3) := by decide +kernel
theorem dX12_step_20 : decode cX12_step 20 = .ok (.ifCond .ne 6, 3) := by decide +kernel
theorem dX12_step_23 : decode cX12_step 23 = .ok (.bipush (-2), 2) := by decide +kernel
theorem dX12_step_25 : decode cX12_step 25 = .ok (.ireturn, 1) := by decide +kernel
theorem dX12_step_26 : decode cX12_step 26 = .ok (.iload_n 2, 1) := by decide +kernel
theorem dX12_step_27 : decode cX12_step 27 = .ok (.iconst 0, 1) := by decide +kernel
theorem dX12_step_28 : decode cX12_step 28 = .ok (.bipush 9, 2) := by decide +kernel
theorem dX12_step_30 : decode cX12_step 30 = .ok (.invokestatic 156, 3) := by decide +kernel
theorem dX12_step_33 : decode cX12_step 33 = .ok (.ifCond .eq 13, 3) := by decide +kernel
theorem dX12_step_36 : decode cX12_step 36 = .ok (.iload_n 3, 1) := by decide +kernel
theorem dX12_step_37 : decode cX12_step 37 = .ok (.iconst 0, 1) := by decide +kernel
theorem dX12_step_38 : decode cX12_step 38 = .ok (.bipush 9, 2) := by decide +kernel
theorem dX12_step_40 : decode cX12_step 40 = .ok (.invokestatic 156, 3) := by decide +kernel
theorem dX12_step_43 : decode cX12_step 43 = .ok (.ifCond .ne 6, 3) := by decide +kernel
theorem dX12_step_46 : decode cX12_step 46 = .ok (.bipush (-3), 2) := by decide +kernel
theorem dX12_step_48 : decode cX12_step 48 = .ok (.ireturn, 1) := by decide +kernel
theorem dX12_step_49 : decode cX12_step 49 = .ok (.aload_n 0, 1) := by decide +kernel
theorem dX12_step_50 : decode cX12_step 50 = .ok (.getfield 206, 3) := by decide +kernel
theorem dX12_step_53 : decode cX12_step 53 = .ok (.bipush 24, 2) := by decide +kernel
theorem dX12_step_55 : decode cX12_step 55 = .ok (.if_icmp .ne 6, 3) := by decide +kernel
theorem dX12_step_58 : decode cX12_step 58 = .ok (.bipush (-6), 2) := by decide +kernel
theorem dX12_step_60 : decode cX12_step 60 = .ok (.ireturn, 1) := by decide +kernel
theorem dX12_step_61 : decode cX12_step 61 = .ok (.aload_n 0, 1) := by decide +kernel
theorem dX12_step_62 : decode cX12_step 62 = .ok (.invokevirtual 180, 3) := by decide +kernel
theorem dX12_step_65 : decode cX12_step 65 = .ok (.aload_n 0, 1) := by decide +kernel
theorem dX12_step_66 : decode cX12_step 66 = .ok (.getfield 62, 3) := by decide +kernel
theorem dX12_step_69 : decode cX12_step 69 = .ok (.aload_n 0, 1) := by decide +kernel
theorem dX12_step_70 : decode cX12_step 70 = .ok (.getfield 206, 3) := by decide +kernel
theorem dX12_step_73 : decode cX12_step 73 = .ok (.iload_n 1, 1) := by decide +kernel
theorem dX12_step_74 : decode cX12_step 74 = .ok (.iastore, 1) := by decide +kernel
theorem dX12_step_75 : decode cX12_step 75 = .ok (.aload_n 0, 1) := by decide +kernel
theorem dX12_step_76 : decode cX12_step 76 = .ok (.getfield 65, 3) := by decide +kernel
theorem dX12_step_79 : decode cX12_step 79 = .ok (.aload_n 0, 1) := by decide +kernel
theorem dX12_step_80 : decode cX12_step 80 = .ok (.getfield 206, 3) := by decide +kernel
theorem dX12_step_83 : decode cX12_step 83 = .ok (.iload_n 2, 1) := by decide +kernel
theorem dX12_step_84 : decode cX12_step 84 = .ok (.iastore, 1) := by decide +kernel
theorem dX12_step_85 : decode cX12_step 85 = .ok (.aload_n 0, 1) := by decide +kernel
theorem dX12_step_86 : decode cX12_step 86 = .ok (.getfield 68, 3) := by decide +kernel
theorem dX12_step_89 : decode cX12_step 89 = .ok (.aload_n 0, 1) := by decide +kernel
theorem dX12_step_90 : decode cX12_step 90 = .ok (.getfield 206, 3) := by decide +kernel
theorem dX12_step_93 : decode cX12_step 93 = .ok (.iload_n 3, 1) := by decide +kernel
theorem dX12_step_94 : decode cX12_step 94 = .ok (.iastore, 1) := by decide +kernel
theorem dX12_step_95 : decode cX12_step 95 = .ok (.aload_n 0, 1) := by decide +kernel
theorem dX12_step_96 : decode cX12_step 96 = .ok (.getfield 71, 3) := by decide +kernel
theorem dX12_step_99 : decode cX12_step 99 = .ok (.aload_n 0, 1) := by decide +kernel
theorem dX12_step_100 : decode cX12_step 100 = .ok (.getfield 206, 3) := by decide +kernel
theorem dX12_step_103 : decode cX12_step 103 = .ok (.iload 4, 2) := by decide +kernel
theorem dX12_step_105 : decode cX12_step 105 = .ok (.iastore, 1) := by decide +kernel
theorem dX12_step_106 : decode cX12_step 106 = .ok (.aload_n 0, 1) := by decide +kernel
theorem dX12_step_107 : decode cX12_step 107 = .ok (.dup, 1) := by decide +kernel
theorem dX12_step_108 : decode cX12_step 108 = .ok (.getfield 206, 3) := by decide +kernel
theorem dX12_step_111 : decode cX12_step 111 = .ok (.iconst 1, 1) := by decide +kernel
theorem dX12_step_112 : decode cX12_step 112 = .ok (.iadd, 1) := by decide +kernel
theorem dX12_step_113 : decode cX12_step 113 = .ok (.putfield 206, 3) := by decide +kernel
theorem dX12_step_116 : decode cX12_step 116 = .ok (.aload_n 0, 1) := by decide +kernel
theorem dX12_step_117 : decode cX12_step 117 = .ok (.getfield 206, 3) := by decide +kernel
theorem dX12_step_120 : decode cX12_step 120 = .ok (.iconst 1, 1) := by decide +kernel
theorem dX12_step_121 : decode cX12_step 121 = .ok (.isub, 1) := by decide +kernel
theorem dX12_step_122 : decode cX12_step 122 = .ok (.ireturn, 1) := by decide +kernel
set_option maxHeartbeats 4000000 in
set_option maxRecDepth 100000 in
theorem c_X12_step (l : Launch) {cs : Nat → ClassId} {ad : Nat → Nat} {A : Nat → Prop} {D : va_G} (hJ : hp_J SM ad A)   {h : hp_H} {a1 a2 a3 a4 : Int32} {Q : Int32 → hp_H → Prop} (hq : q_X12_step h a1 a2 a3 a4 Q) : hp_Mi l yX12_step cX12_step 5 (some .int) rm_X12_step [.ref (ad 0), .int a1, .int a2, .int a3, .int a4] SM cs ad A D h Q := by
  refine hp_met (own := RX12) rfl (by decide) (Nat.le_of_ble_eq_true rfl) rfl (fun p e s m args below meth c Z E hZ hnm => ?_)
  refine hp_sub (lv' := [(0, .ref (ad 0)), (1, .int a1), (2, .int a2), (3, .int a3), (4, .int a4)]) [0, 1, 2, 3, 4] rfl ?_
  unfold q_X12_step at hq
  refine hp_aload_n E 0 dX12_step_0 rfl rfl ?_
  refine hp_iload_n E 1 dX12_step_1 rfl rfl ?_
  refine hp_callVip (rest := []) E 0 fM_0_0 vcl_12 (c_X12_isRole l hJ hq) F_X12_isRole m_RX12_186 ⟨rfl, rfl⟩ ⟨Nat.le_of_ble_eq_true rfl, Nat.le_of_ble_eq_true rfl⟩ ⟨Nat.zero_le _, Nat.zero_le _⟩ rfl rfl (Nat.le_of_ble_eq_true rfl) dX12_step_2 (fun r1 hq => ?_)
  refine hp_if_eq E 23 dX12_step_5 (by decide) (fun c2 => ?_) (fun c2 => ?_)
  · replace hq := hq.1 c2
    refine hp_bipush E (-2) dX12_step_23 (by decide) ?_
    exact hp_iret E hq hZ dX12_step_25
  · replace hq := hq.2 c2
    refine hp_iload E 4 dX12_step_8 rfl ?_
    refine hp_iconst E (-1) dX12_step_10 (by decide) ?_
    obtain ⟨K4, hq, hK4⟩ := hq
    have jK4 : K4 → hp_G p l e rm_X12_step s m args below meth c SM cs ad A D 5 0 0 Z 26 [(0, .ref (ad 0)), (1, .int a1), (2, .int a2), (3, .int a3), (4, .int a4)] [] h := by
      intro  hq
      replace hq := hK4  hq
      refine hp_iload_n E 2 dX12_step_26 rfl rfl ?_
      refine hp_iconst E (nI 0) dX12_step_27 (by decide) ?_
      refine hp_bipush E (nI 9) dX12_step_28 (by decide) ?_
      refine hp_callSip (rest := []) E (c_X12_in l hJ hq) F_X12_in m_RX12_156 ⟨rfl, rfl⟩ ⟨Nat.le_of_ble_eq_true rfl, Nat.le_of_ble_eq_true rfl⟩ ⟨Nat.zero_le _, Nat.zero_le _⟩ rfl rfl (Nat.le_of_ble_eq_true rfl) dX12_step_30 (fun r7 hq => ?_)
      refine hp_if_eq E 46 dX12_step_33 (by decide) (fun c8 => ?_) (fun c8 => ?_)
      · replace hq := hq.1 c8
        refine hp_bipush E (-3) dX12_step_46 (by decide) ?_
        exact hp_iret E hq hZ dX12_step_48
      · replace hq := hq.2 c8
        refine hp_iload_n E 3 dX12_step_36 rfl rfl ?_
        refine hp_iconst E (nI 0) dX12_step_37 (by decide) ?_
        refine hp_bipush E (nI 9) dX12_step_38 (by decide) ?_
        refine hp_callSip (rest := []) E (c_X12_in l hJ hq) F_X12_in m_RX12_156 ⟨rfl, rfl⟩ ⟨Nat.le_of_ble_eq_true rfl, Nat.le_of_ble_eq_true rfl⟩ ⟨Nat.zero_le _, Nat.zero_le _⟩ rfl rfl (Nat.le_of_ble_eq_true rfl) dX12_step_40 (fun r9 hq => ?_)
        refine hp_if_ne E 49 dX12_step_43 (by decide) (fun c10 => ?_) (fun c10 => ?_)
        · replace hq := hq.2 c10
          refine hp_aload_n E 0 dX12_step_49 rfl rfl ?_
          refine hp_gI E g_RX12_206 fM_0_21 dX12_step_50 ?_
          refine hp_bipush E (nI 24) dX12_step_53 (by decide) ?_
          refine hp_icmp_ne E 61 dX12_step_55 (by decide) (fun c11 => ?_) (fun c11 => ?_)
          · replace hq := hq.2 c11
            refine hp_aload_n E 0 dX12_step_61 rfl rfl ?_
            refine hp_callVv' (rest := []) E 0 fM_0_0 vcl_12 (c_X12_over l hJ hq) F_X12_over m_RX12_180 ⟨rfl, rfl⟩ ⟨Nat.le_of_ble_eq_true rfl, Nat.le_of_ble_eq_true rfl⟩ ⟨Nat.zero_le _, Nat.zero_le _⟩ rfl rfl (Nat.le_of_ble_eq_true rfl) dX12_step_62 (fun h12 hq => ?_)
            refine hp_aload_n E 0 dX12_step_65 rfl rfl ?_
            refine hp_gR E g_RX12_62 fM_0_22 dX12_step_66 ?_
            refine hp_aload_n E 0 dX12_step_69 rfl rfl ?_
            refine hp_gI E g_RX12_206 fM_0_21 dX12_step_70 ?_
            refine hp_iload_n E 1 dX12_step_73 rfl rfl ?_
            have hin := hq.1
            replace hq := hq.2
            refine hp_iast E 18 aM_18 zM_18 hJ hin dX12_step_74 ?_
            refine hp_toph (fun h13 eh13 => ?_)
            replace hq := hq h13 eh13
            refine hp_aload_n E 0 dX12_step_75 rfl rfl ?_
            refine hp_gR E g_RX12_65 fM_0_23 dX12_step_76 ?_
            refine hp_aload_n E 0 dX12_step_79 rfl rfl ?_
            refine hp_gI E g_RX12_206 fM_0_21 dX12_step_80 ?_
            refine hp_iload_n E 2 dX12_step_83 rfl rfl ?_
            have hin := hq.1
            replace hq := hq.2
            refine hp_iast E 19 aM_19 zM_19 hJ hin dX12_step_84 ?_
            refine hp_toph (fun h14 eh14 => ?_)
            replace hq := hq h14 eh14
            refine hp_aload_n E 0 dX12_step_85 rfl rfl ?_
            refine hp_gR E g_RX12_68 fM_0_24 dX12_step_86 ?_
            refine hp_aload_n E 0 dX12_step_89 rfl rfl ?_
            refine hp_gI E g_RX12_206 fM_0_21 dX12_step_90 ?_
            refine hp_iload_n E 3 dX12_step_93 rfl rfl ?_
            have hin := hq.1
            replace hq := hq.2
            refine hp_iast E 20 aM_20 zM_20 hJ hin dX12_step_94 ?_
            refine hp_toph (fun h15 eh15 => ?_)
            replace hq := hq h15 eh15
            refine hp_aload_n E 0 dX12_step_95 rfl rfl ?_
            refine hp_gR E g_RX12_71 fM_0_25 dX12_step_96 ?_
            refine hp_aload_n E 0 dX12_step_99 rfl rfl ?_
            refine hp_gI E g_RX12_206 fM_0_21 dX12_step_100 ?_
            refine hp_iload E 4 dX12_step_103 rfl ?_
            have hin := hq.1
            replace hq := hq.2
            refine hp_iast E 21 aM_21 zM_21 hJ hin dX12_step_105 ?_
            refine hp_toph (fun h16 eh16 => ?_)
            replace hq := hq h16 eh16
            refine hp_aload_n E 0 dX12_step_106 rfl rfl ?_
            refine hp_dup E rfl dX12_step_107 ?_
            refine hp_gI E g_RX12_206 fM_0_21 dX12_step_108 ?_
            refine hp_iconst E (nI 1) dX12_step_111 (by decide) ?_
            refine hp_iadd E dX12_step_112 ?_
            refine hp_pI E p_RX12_206 fM_0_21 (by decide) hJ dX12_step_113 ?_
            refine hp_toph (fun h17 eh17 => ?_)
            replace hq := hq h17 eh17
            refine hp_aload_n E 0 dX12_step_116 rfl rfl ?_
            refine hp_gI E g_RX12_206 fM_0_21 dX12_step_117 ?_
            refine hp_iconst E (nI 1) dX12_step_120 (by decide) ?_
            refine hp_isub E dX12_step_121 ?_
            exact hp_iret E hq hZ dX12_step_122
          · replace hq := hq.1 c11
            refine hp_bipush E (-6) dX12_step_58 (by decide) ?_
            exact hp_iret E hq hZ dX12_step_60
        · replace hq := hq.1 c10
          refine hp_bipush E (-3) dX12_step_46 (by decide) ?_
          exact hp_iret E hq hZ dX12_step_48
    refine hp_icmp_eq E 26 dX12_step_11 (by decide) (fun c3 => ?_) (fun c3 => ?_)
    · replace hq := hq.1 c3
      exact jK4  hq
    · replace hq := hq.2 c3
      refine hp_aload_n E 0 dX12_step_14 rfl rfl ?_
      refine hp_iload E 4 dX12_step_15 rfl ?_
      refine hp_callVip (rest := []) E 0 fM_0_0 vcl_12 (c_X12_isExpr l hJ hq) F_X12_isExpr m_RX12_199 ⟨rfl, rfl⟩ ⟨Nat.le_of_ble_eq_true rfl, Nat.le_of_ble_eq_true rfl⟩ ⟨Nat.zero_le _, Nat.zero_le _⟩ rfl rfl (Nat.le_of_ble_eq_true rfl) dX12_step_17 (fun r5 hq => ?_)
      refine hp_if_ne E 26 dX12_step_20 (by decide) (fun c6 => ?_) (fun c6 => ?_)
      · replace hq := hq.2 c6
        exact jK4  hq
      · replace hq := hq.1 c6
        refine hp_bipush E (-2) dX12_step_23 (by decide) ?_
        exact hp_iret E hq hZ dX12_step_25
theorem dX12_act_0 : decode cX12_act 0 = .ok (.iload_n 2, 1) := by decide +kernel
theorem dX12_act_1 : decode cX12_act 1 = .ok (.iconst 0, 1) := by decide +kernel
theorem dX12_act_2 : decode cX12_act 2 = .ok (.iconst 3, 1) := by decide +kernel
theorem dX12_act_3 : decode cX12_act 3 = .ok (.invokestatic 156, 3) := by decide +kernel
theorem dX12_act_6 : decode cX12_act 6 = .ok (.ifCond .ne 6, 3) := by decide +kernel
theorem dX12_act_9 : decode cX12_act 9 = .ok (.bipush (-3), 2) := by decide +kernel
theorem dX12_act_11 : decode cX12_act 11 = .ok (.ireturn, 1) := by decide +kernel
theorem dX12_act_12 : decode cX12_act 12 = .ok (.iload_n 1, 1) := by decide +kernel
theorem dX12_act_13 : decode cX12_act 13 = .ok (.iconst 0, 1) := by decide +kernel
theorem dX12_act_14 : decode cX12_act 14 = .ok (.aload_n 0, 1) := by decide +kernel
theorem dX12_act_15 : decode cX12_act 15 = .ok (.getfield 206, 3) := by decide +kernel
theorem dX12_act_18 : decode cX12_act 18 = .ok (.iconst 1, 1) := by decide +kernel
theorem dX12_act_19 : decode cX12_act 19 = .ok (.isub, 1) := by decide +kernel
theorem dX12_act_20 : decode cX12_act 20 = .ok (.invokestatic 156, 3) := by decide +kernel
theorem dX12_act_23 : decode cX12_act 23 = .ok (.ifCond .ne 6, 3) := by decide +kernel
theorem dX12_act_26 : decode cX12_act 26 = .ok (.bipush (-2), 2) := by decide +kernel
theorem dX12_act_28 : decode cX12_act 28 = .ok (.ireturn, 1) := by decide +kernel
theorem dX12_act_29 : decode cX12_act 29 = .ok (.aload_n 0, 1) := by decide +kernel
theorem dX12_act_30 : decode cX12_act 30 = .ok (.getfield 22, 3) := by decide +kernel
theorem dX12_act_33 : decode cX12_act 33 = .ok (.aload_n 0, 1) := by decide +kernel
theorem dX12_act_34 : decode cX12_act 34 = .ok (.getfield 62, 3) := by decide +kernel
theorem dX12_act_37 : decode cX12_act 37 = .ok (.iload_n 1, 1) := by decide +kernel
theorem dX12_act_38 : decode cX12_act 38 = .ok (.iaload, 1) := by decide +kernel
theorem dX12_act_39 : decode cX12_act 39 = .ok (.iaload, 1) := by decide +kernel
theorem dX12_act_40 : decode cX12_act 40 = .ok (.istore 5, 2) := by decide +kernel
theorem dX12_act_42 : decode cX12_act 42 = .ok (.iload_n 2, 1) := by decide +kernel
theorem dX12_act_43 : decode cX12_act 43 = .ok (.ifCond .ne 34, 3) := by decide +kernel
theorem dX12_act_46 : decode cX12_act 46 = .ok (.iload_n 3, 1) := by decide +kernel
theorem dX12_act_47 : decode cX12_act 47 = .ok (.iconst 0, 1) := by decide +kernel
theorem dX12_act_48 : decode cX12_act 48 = .ok (.aload_n 0, 1) := by decide +kernel
theorem dX12_act_49 : decode cX12_act 49 = .ok (.getfield 177, 3) := by decide +kernel
theorem dX12_act_52 : decode cX12_act 52 = .ok (.iconst 1, 1) := by decide +kernel
theorem dX12_act_53 : decode cX12_act 53 = .ok (.isub, 1) := by decide +kernel
theorem dX12_act_54 : decode cX12_act 54 = .ok (.invokestatic 156, 3) := by decide +kernel
theorem dX12_act_57 : decode cX12_act 57 = .ok (.ifCond .eq 16, 3) := by decide +kernel
theorem dX12_act_60 : decode cX12_act 60 = .ok (.aload_n 0, 1) := by decide +kernel
theorem dX12_act_61 : decode cX12_act 61 = .ok (.iload 4, 2) := by decide +kernel
theorem dX12_act_63 : decode cX12_act 63 = .ok (.invokevirtual 199, 3) := by decide +kernel
theorem dX12_act_66 : decode cX12_act 66 = .ok (.ifCond .eq 7, 3) := by decide +kernel
theorem dX12_act_69 : decode cX12_act 69 = .ok (.iconst 1, 1) := by decide +kernel
theorem dX12_act_70 : decode cX12_act 70 = .ok (.goto 97, 3) := by decide +kernel
theorem dX12_act_73 : decode cX12_act 73 = .ok (.iconst 0, 1) := by decide +kernel
theorem dX12_act_74 : decode cX12_act 74 = .ok (.goto 93, 3) := by decide +kernel
theorem dX12_act_77 : decode cX12_act 77 = .ok (.iload_n 2, 1) := by decide +kernel
theorem dX12_act_78 : decode cX12_act 78 = .ok (.iconst 1, 1) := by decide +kernel
theorem dX12_act_79 : decode cX12_act 79 = .ok (.if_icmp .ne 32, 3) := by decide +kernel
theorem dX12_act_82 : decode cX12_act 82 = .ok (.iload_n 3, 1) := by decide +kernel
theorem dX12_act_83 : decode cX12_act 83 = .ok (.iconst 0, 1) := by decide +kernel
theorem dX12_act_84 : decode cX12_act 84 = .ok (.iload 5, 2) := by decide +kernel
theorem dX12_act_86 : decode cX12_act 86 = .ok (.iconst 1, 1) := by decide +kernel
theorem dX12_act_87 : decode cX12_act 87 = .ok (.isub, 1) := by decide +kernel
theorem dX12_act_88 : decode cX12_act 88 = .ok (.invokestatic 156, 3) := by decide +kernel
theorem dX12_act_91 : decode cX12_act 91 = .ok (.ifCond .eq 16, 3) := by decide +kernel
theorem dX12_act_94 : decode cX12_act 94 = .ok (.aload_n 0, 1) := by decide +kernel
theorem dX12_act_95 : decode cX12_act 95 = .ok (.iload 4, 2) := by decide +kernel
theorem dX12_act_97 : decode cX12_act 97 = .ok (.invokevirtual 199, 3) := by decide +kernel
theorem dX12_act_100 : decode cX12_act 100 = .ok (.ifCond .eq 7, 3) := by decide +kernel
theorem dX12_act_103 : decode cX12_act 103 = .ok (.iconst 1, 1) := by decide +kernel
theorem dX12_act_104 : decode cX12_act 104 = .ok (.goto 63, 3) := by decide +kernel
theorem dX12_act_107 : decode cX12_act 107 = .ok (.iconst 0, 1) := by decide +kernel
theorem dX12_act_108 : decode cX12_act 108 = .ok (.goto 59, 3) := by decide +kernel
theorem dX12_act_111 : decode cX12_act 111 = .ok (.iload_n 2, 1) := by decide +kernel
theorem dX12_act_112 : decode cX12_act 112 = .ok (.iconst 2, 1) := by decide +kernel
theorem dX12_act_113 : decode cX12_act 113 = .ok (.if_icmp .ne 28, 3) := by decide +kernel
theorem dX12_act_116 : decode cX12_act 116 = .ok (.aload_n 0, 1) := by decide +kernel
theorem dX12_act_117 : decode cX12_act 117 = .ok (.iload_n 3, 1) := by decide +kernel
theorem dX12_act_118 : decode cX12_act 118 = .ok (.invokevirtual 196, 3) := by decide +kernel
theorem dX12_act_121 : decode cX12_act 121 = .ok (.ifCond .eq 16, 3) := by decide +kernel
theorem dX12_act_124 : decode cX12_act 124 = .ok (.aload_n 0, 1) := by decide +kernel
theorem dX12_act_125 : decode cX12_act 125 = .ok (.iload 4, 2) := by decide +kernel
theorem dX12_act_127 : decode cX12_act 127 = .ok (.invokevirtual 199, 3) := by decide +kernel
theorem dX12_act_130 : decode cX12_act 130 = .ok (.ifCond .eq 7, 3) := by decide +kernel
theorem dX12_act_133 : decode cX12_act 133 = .ok (.iconst 1, 1) := by decide +kernel
theorem dX12_act_134 : decode cX12_act 134 = .ok (.goto 33, 3) := by decide +kernel
theorem dX12_act_137 : decode cX12_act 137 = .ok (.iconst 0, 1) := by decide +kernel
theorem dX12_act_138 : decode cX12_act 138 = .ok (.goto 29, 3) := by decide +kernel
theorem dX12_act_141 : decode cX12_act 141 = .ok (.aload_n 0, 1) := by decide +kernel
theorem dX12_act_142 : decode cX12_act 142 = .ok (.iload_n 3, 1) := by decide +kernel
theorem dX12_act_143 : decode cX12_act 143 = .ok (.invokevirtual 196, 3) := by decide +kernel
theorem dX12_act_146 : decode cX12_act 146 = .ok (.ifCond .eq 20, 3) := by decide +kernel
theorem dX12_act_149 : decode cX12_act 149 = .ok (.iload 4, 2) := by decide +kernel
theorem dX12_act_151 : decode cX12_act 151 = .ok (.iconst 0, 1) := by decide +kernel
theorem dX12_act_152 : decode cX12_act 152 = .ok (.iload 5, 2) := by decide +kernel
theorem dX12_act_154 : decode cX12_act 154 = .ok (.iconst 1, 1) := by decide +kernel
theorem dX12_act_155 : decode cX12_act 155 = .ok (.isub, 1) := by decide +kernel
theorem dX12_act_156 : decode cX12_act 156 = .ok (.invokestatic 156, 3) := by decide +kernel
theorem dX12_act_159 : decode cX12_act 159 = .ok (.ifCond .eq 7, 3) := by decide +kernel
theorem dX12_act_162 : decode cX12_act 162 = .ok (.iconst 1, 1) := by decide +kernel
theorem dX12_act_163 : decode cX12_act 163 = .ok (.goto 4, 3) := by decide +kernel
theorem dX12_act_166 : decode cX12_act 166 = .ok (.iconst 0, 1) := by decide +kernel
theorem dX12_act_167 : decode cX12_act 167 = .ok (.istore 6, 2) := by decide +kernel
theorem dX12_act_169 : decode cX12_act 169 = .ok (.iload 6, 2) := by decide +kernel
theorem dX12_act_171 : decode cX12_act 171 = .ok (.ifCond .ne 6, 3) := by decide +kernel
theorem dX12_act_174 : decode cX12_act 174 = .ok (.bipush (-2), 2) := by decide +kernel
theorem dX12_act_176 : decode cX12_act 176 = .ok (.ireturn, 1) := by decide +kernel
theorem dX12_act_177 : decode cX12_act 177 = .ok (.iconst 0, 1) := by decide +kernel
theorem dX12_act_178 : decode cX12_act 178 = .ok (.istore 7, 2) := by decide +kernel
theorem dX12_act_180 : decode cX12_act 180 = .ok (.iload 7, 2) := by decide +kernel
theorem dX12_act_182 : decode cX12_act 182 = .ok (.aload_n 0, 1) := by decide +kernel
theorem dX12_act_183 : decode cX12_act 183 = .ok (.getfield 74, 3) := by decide +kernel
theorem dX12_act_186 : decode cX12_act 186 = .ok (.iload_n 1, 1) := by decide +kernel
theorem dX12_act_187 : decode cX12_act 187 = .ok (.iaload, 1) := by decide +kernel
theorem dX12_act_188 : decode cX12_act 188 = .ok (.if_icmp .ge 47, 3) := by decide +kernel
theorem dX12_act_191 : decode cX12_act 191 = .ok (.iload_n 2, 1) := by decide +kernel
theorem dX12_act_192 : decode cX12_act 192 = .ok (.iconst 1, 1) := by decide +kernel
theorem dX12_act_193 : decode cX12_act 193 = .ok (.if_icmp .le 42, 3) := by decide +kernel
theorem dX12_act_196 : decode cX12_act 196 = .ok (.aload_n 0, 1) := by decide +kernel
theorem dX12_act_197 : decode cX12_act 197 = .ok (.getfield 77, 3) := by decide +kernel
theorem dX12_act_200 : decode cX12_act 200 = .ok (.iconst 4, 1) := by decide +kernel
theorem dX12_act_201 : decode cX12_act 201 = .ok (.iload_n 1, 1) := by decide +kernel
theorem dX12_act_202 : decode cX12_act 202 = .ok (.imul, 1) := by decide +kernel
theorem dX12_act_203 : decode cX12_act 203 = .ok (.iload 7, 2) := by decide +kernel
theorem dX12_act_205 : decode cX12_act 205 = .ok (.iadd, 1) := by decide +kernel
theorem dX12_act_206 : decode cX12_act 206 = .ok (.iaload, 1) := by decide +kernel
theorem dX12_act_207 : decode cX12_act 207 = .ok (.iload_n 2, 1) := by decide +kernel
theorem dX12_act_208 : decode cX12_act 208 = .ok (.if_icmp .ne 21, 3) := by decide +kernel
theorem dX12_act_211 : decode cX12_act 211 = .ok (.aload_n 0, 1) := by decide +kernel
theorem dX12_act_212 : decode cX12_act 212 = .ok (.getfield 80, 3) := by decide +kernel
theorem dX12_act_215 : decode cX12_act 215 = .ok (.iconst 4, 1) := by decide +kernel
theorem dX12_act_216 : decode cX12_act 216 = .ok (.iload_n 1, 1) := by decide +kernel
theorem dX12_act_217 : decode cX12_act 217 = .ok (.imul, 1) := by decide +kernel
theorem dX12_act_218 : decode cX12_act 218 = .ok (.iload 7, 2) := by decide +kernel
theorem dX12_act_220 : decode cX12_act 220 = .ok (.iadd, 1) := by decide +kernel
theorem dX12_act_221 : decode cX12_act 221 = .ok (.iaload, 1) := by decide +kernel
theorem dX12_act_222 : decode cX12_act 222 = .ok (.iload_n 3, 1) := by decide +kernel
theorem dX12_act_223 : decode cX12_act 223 = .ok (.if_icmp .ne 6, 3) := by decide +kernel
theorem dX12_act_226 : decode cX12_act 226 = .ok (.bipush (-3), 2) := by decide +kernel
theorem dX12_act_228 : decode cX12_act 228 = .ok (.ireturn, 1) := by decide +kernel
theorem dX12_act_229 : decode cX12_act 229 = .ok (.iinc 7 1, 3) := by decide +kernel
theorem dX12_act_232 : decode cX12_act 232 = .ok (.goto (-52), 3) := by decide +kernel
theorem dX12_act_235 : decode cX12_act 235 = .ok (.aload_n 0, 1) := by decide +kernel
theorem dX12_act_236 : decode cX12_act 236 = .ok (.getfield 74, 3) := by decide +kernel
theorem dX12_act_239 : decode cX12_act 239 = .ok (.iload_n 1, 1) := by decide +kernel
theorem dX12_act_240 : decode cX12_act 240 = .ok (.iaload, 1) := by decide +kernel
theorem dX12_act_241 : decode cX12_act 241 = .ok (.iconst 4, 1) := by decide +kernel
theorem dX12_act_242 : decode cX12_act 242 = .ok (.if_icmp .ne 6, 3) := by decide +kernel
theorem dX12_act_245 : decode cX12_act 245 = .ok (.bipush (-6), 2) := by decide +kernel
theorem dX12_act_247 : decode cX12_act 247 = .ok (.ireturn, 1) := by decide +kernel
theorem dX12_act_248 : decode cX12_act 248 = .ok (.aload_n 0, 1) := by decide +kernel
theorem dX12_act_249 : decode cX12_act 249 = .ok (.invokevirtual 180, 3) := by decide +kernel
theorem dX12_act_252 : decode cX12_act 252 = .ok (.iconst 4, 1) := by decide +kernel
theorem dX12_act_253 : decode cX12_act 253 = .ok (.iload_n 1, 1) := by decide +kernel
theorem dX12_act_254 : decode cX12_act 254 = .ok (.imul, 1) := by decide +kernel
theorem dX12_act_255 : decode cX12_act 255 = .ok (.aload_n 0, 1) := by decide +kernel
theorem dX12_act_256 : decode cX12_act 256 = .ok (.getfield 74, 3) := by decide +kernel
theorem dX12_act_259 : decode cX12_act 259 = .ok (.iload_n 1, 1) := by decide +kernel
theorem dX12_act_260 : decode cX12_act 260 = .ok (.iaload, 1) := by decide +kernel
theorem dX12_act_261 : decode cX12_act 261 = .ok (.iadd, 1) := by decide +kernel
theorem dX12_act_262 : decode cX12_act 262 = .ok (.istore 7, 2) := by decide +kernel
theorem dX12_act_264 : decode cX12_act 264 = .ok (.aload_n 0, 1) := by decide +kernel
theorem dX12_act_265 : decode cX12_act 265 = .ok (.getfield 77, 3) := by decide +kernel
theorem dX12_act_268 : decode cX12_act 268 = .ok (.iload 7, 2) := by decide +kernel
theorem dX12_act_270 : decode cX12_act 270 = .ok (.iload_n 2, 1) := by decide +kernel
theorem dX12_act_271 : decode cX12_act 271 = .ok (.iastore, 1) := by decide +kernel
theorem dX12_act_272 : decode cX12_act 272 = .ok (.aload_n 0, 1) := by decide +kernel
theorem dX12_act_273 : decode cX12_act 273 = .ok (.getfield 80, 3) := by decide +kernel
theorem dX12_act_276 : decode cX12_act 276 = .ok (.iload 7, 2) := by decide +kernel
theorem dX12_act_278 : decode cX12_act 278 = .ok (.iload_n 3, 1) := by decide +kernel
theorem dX12_act_279 : decode cX12_act 279 = .ok (.iastore, 1) := by decide +kernel
theorem dX12_act_280 : decode cX12_act 280 = .ok (.aload_n 0, 1) := by decide +kernel
theorem dX12_act_281 : decode cX12_act 281 = .ok (.getfield 83, 3) := by decide +kernel
theorem dX12_act_284 : decode cX12_act 284 = .ok (.iload 7, 2) := by decide +kernel
theorem dX12_act_286 : decode cX12_act 286 = .ok (.iload 4, 2) := by decide +kernel
theorem dX12_act_288 : decode cX12_act 288 = .ok (.iastore, 1) := by decide +kernel
theorem dX12_act_289 : decode cX12_act 289 = .ok (.aload_n 0, 1) := by decide +kernel
theorem dX12_act_290 : decode cX12_act 290 = .ok (.getfield 74, 3) := by decide +kernel
theorem dX12_act_293 : decode cX12_act 293 = .ok (.iload_n 1, 1) := by decide +kernel
theorem dX12_act_294 : decode cX12_act 294 = .ok (.dup2, 1) := by decide +kernel
theorem dX12_act_295 : decode cX12_act 295 = .ok (.iaload, 1) := by decide +kernel
theorem dX12_act_296 : decode cX12_act 296 = .ok (.iconst 1, 1) := by decide +kernel
theorem dX12_act_297 : decode cX12_act 297 = .ok (.iadd, 1) := by decide +kernel
theorem dX12_act_298 : decode cX12_act 298 = .ok (.iastore, 1) := by decide +kernel
theorem dX12_act_299 : decode cX12_act 299 = .ok (.aload_n 0, 1) := by decide +kernel
theorem dX12_act_300 : decode cX12_act 300 = .ok (.getfield 74, 3) := by decide +kernel
theorem dX12_act_303 : decode cX12_act 303 = .ok (.iload_n 1, 1) := by decide +kernel
theorem dX12_act_304 : decode cX12_act 304 = .ok (.iaload, 1) := by decide +kernel
theorem dX12_act_305 : decode cX12_act 305 = .ok (.ireturn, 1) := by decide +kernel
set_option maxHeartbeats 4000000 in
set_option maxRecDepth 100000 in
theorem c_X12_act (l : Launch) {cs : Nat → ClassId} {ad : Nat → Nat} {A : Nat → Prop} {D : va_G} (hJ : hp_J SM ad A)   {h : hp_H} {a1 a2 a3 a4 : Int32} {Q : Int32 → hp_H → Prop} (hq : q_X12_act h a1 a2 a3 a4 Q) : hp_Mi l yX12_act cX12_act 8 (some .int) rm_X12_act [.ref (ad 0), .int a1, .int a2, .int a3, .int a4] SM cs ad A D h Q := by
  refine hp_met (own := RX12) rfl (by decide) (Nat.le_of_ble_eq_true rfl) rfl (fun p e s m args below meth c Z E hZ hnm => ?_)
  refine hp_sub (lv' := [(0, .ref (ad 0)), (1, .int a1), (2, .int a2), (3, .int a3), (4, .int a4)]) [0, 1, 2, 3, 4] rfl ?_
  unfold q_X12_act at hq
  refine hp_iload_n E 2 dX12_act_0 rfl rfl ?_
  refine hp_iconst E (nI 0) dX12_act_1 (by decide) ?_
  refine hp_iconst E (nI 3) dX12_act_2 (by decide) ?_
  refine hp_callSip (rest := []) E (c_X12_in l hJ hq) F_X12_in m_RX12_156 ⟨rfl, rfl⟩ ⟨Nat.le_of_ble_eq_true rfl, Nat.le_of_ble_eq_true rfl⟩ ⟨Nat.zero_le _, Nat.zero_le _⟩ rfl rfl (Nat.le_of_ble_eq_true rfl) dX12_act_3 (fun r1 hq => ?_)
  refine hp_if_ne E 12 dX12_act_6 (by decide) (fun c2 => ?_) (fun c2 => ?_)
  · replace hq := hq.2 c2
    refine hp_iload_n E 1 dX12_act_12 rfl rfl ?_
    refine hp_iconst E (nI 0) dX12_act_13 (by decide) ?_
    refine hp_aload_n E 0 dX12_act_14 rfl rfl ?_
    refine hp_gI E g_RX12_206 fM_0_21 dX12_act_15 ?_
    refine hp_iconst E (nI 1) dX12_act_18 (by decide) ?_
    refine hp_isub E dX12_act_19 ?_
    refine hp_callSip (rest := []) E (c_X12_in l hJ hq) F_X12_in m_RX12_156 ⟨rfl, rfl⟩ ⟨Nat.le_of_ble_eq_true rfl, Nat.le_of_ble_eq_true rfl⟩ ⟨Nat.zero_le _, Nat.zero_le _⟩ rfl rfl (Nat.le_of_ble_eq_true rfl) dX12_act_20 (fun r3 hq => ?_)
    refine hp_if_ne E 29 dX12_act_23 (by decide) (fun c4 => ?_) (fun c4 => ?_)
    · replace hq := hq.2 c4
      refine hp_aload_n E 0 dX12_act_29 rfl rfl ?_
      refine hp_gR E g_RX12_22 fM_0_6 dX12_act_30 ?_
      refine hp_aload_n E 0 dX12_act_33 rfl rfl ?_
      refine hp_gR E g_RX12_62 fM_0_22 dX12_act_34 ?_
      refine hp_iload_n E 1 dX12_act_37 rfl rfl ?_
      refine hp_iald E 18 aM_18 hq.1 dX12_act_38 ?_
      replace hq := hq.2
      refine hp_iald E 5 aM_5 hq.1 dX12_act_39 ?_
      replace hq := hq.2
      refine hp_topi (fun v5 ev5 => ?_)
      replace hq := hq v5 ev5
      refine hp_istore (lv' := [(0, .ref (ad 0)), (1, .int a1), (2, .int a2), (3, .int a3), (4, .int a4), (5, .int v5)]) E dX12_act_40 (by decide) rfl rfl ?_
      refine hp_iload_n E 2 dX12_act_42 rfl rfl ?_
      obtain ⟨K7, hq, hK7⟩ := hq
      have jK7 : ∀ (v8 : Int32), K7 v8 → hp_G p l e rm_X12_act s m args below meth c SM cs ad A D 8 0 0 Z 167 [(0, .ref (ad 0)), (1, .int a1), (2, .int a2), (3, .int a3), (4, .int a4)] [.int v8] h := by
        intro v8 hq
        replace hq := hK7 v8 hq
        refine hp_istore (lv' := [(0, .ref (ad 0)), (1, .int a1), (2, .int a2), (3, .int a3), (4, .int a4), (6, .int v8)]) E dX12_act_167 (by decide) rfl rfl ?_
        refine hp_iload E 5 dX12_act_169 rfl ?_
        refine hp_if_ne E 177 dX12_act_171 (by decide) (fun c31 => ?_) (fun c31 => ?_)
        · replace hq := hq.2 c31
          refine hp_iconst E (nI 0) dX12_act_177 (by decide) ?_
          refine hp_istore (lv' := [(0, .ref (ad 0)), (1, .int a1), (2, .int a2), (3, .int a3), (4, .int a4), (6, .int v8), (7, .int (nI 0))]) E dX12_act_178 (by decide) rfl rfl ?_
          refine hp_sub (lv' := [(0, .ref (ad 0)), (1, .int a1), (2, .int a2), (3, .int a3), (4, .int a4), (7, .int (nI 0))]) [0, 1, 2, 3, 4, 6] rfl ?_
          refine hq (fun v33 => hp_G p l e rm_X12_act s m args below meth c SM cs ad A D 8 0 0 Z 180 [(0, .ref (ad 0)), (1, .int a1), (2, .int a2), (3, .int a3), (4, .int a4), (7, .int v33)] [] h) (fun v33 hB => ?_)
          obtain ⟨B32, hq, hB32⟩ := hB
          refine hp_iload E 5 dX12_act_180 rfl ?_
          refine hp_aload_n E 0 dX12_act_182 rfl rfl ?_
          refine hp_gR E g_RX12_74 fM_0_26 dX12_act_183 ?_
          refine hp_iload_n E 1 dX12_act_186 rfl rfl ?_
          refine hp_iald E 22 aM_22 hq.1 dX12_act_187 ?_
          replace hq := hq.2
          obtain ⟨K35, hq, hK35⟩ := hq
          have jK35 : K35 → hp_G p l e rm_X12_act s m args below meth c SM cs ad A D 8 0 0 Z 235 [(0, .ref (ad 0)), (1, .int a1), (2, .int a2), (3, .int a3), (4, .int a4)] [] h := by
            intro  hq
            replace hq := hK35  hq
            refine hp_aload_n E 0 dX12_act_235 rfl rfl ?_
            refine hp_gR E g_RX12_74 fM_0_26 dX12_act_236 ?_
            refine hp_iload_n E 1 dX12_act_239 rfl rfl ?_
            refine hp_iald E 22 aM_22 hq.1 dX12_act_240 ?_
            replace hq := hq.2
            refine hp_iconst E (nI 4) dX12_act_241 (by decide) ?_
            refine hp_icmp_ne E 248 dX12_act_242 (by decide) (fun c41 => ?_) (fun c41 => ?_)
            · replace hq := hq.2 c41
              refine hp_aload_n E 0 dX12_act_248 rfl rfl ?_
              refine hp_callVv' (rest := []) E 0 fM_0_0 vcl_12 (c_X12_over l hJ hq) F_X12_over m_RX12_180 ⟨rfl, rfl⟩ ⟨Nat.le_of_ble_eq_true rfl, Nat.le_of_ble_eq_true rfl⟩ ⟨Nat.zero_le _, Nat.zero_le _⟩ rfl rfl (Nat.le_of_ble_eq_true rfl) dX12_act_249 (fun h42 hq => ?_)
              refine hp_iconst E (nI 4) dX12_act_252 (by decide) ?_
              refine hp_iload_n E 1 dX12_act_253 rfl rfl ?_
              refine hp_imul E dX12_act_254 ?_
              refine hp_aload_n E 0 dX12_act_255 rfl rfl ?_
              refine hp_gR E g_RX12_74 fM_0_26 dX12_act_256 ?_
              refine hp_iload_n E 1 dX12_act_259 rfl rfl ?_
              refine hp_iald E 22 aM_22 hq.1 dX12_act_260 ?_
              replace hq := hq.2
              refine hp_iadd E dX12_act_261 ?_
              refine hp_topi (fun v43 ev43 => ?_)
              replace hq := hq v43 ev43
              refine hp_istore (lv' := [(0, .ref (ad 0)), (1, .int a1), (2, .int a2), (3, .int a3), (4, .int a4), (7, .int v43)]) E dX12_act_262 (by decide) rfl rfl ?_
              refine hp_aload_n E 0 dX12_act_264 rfl rfl ?_
              refine hp_gR E g_RX12_77 fM_0_27 dX12_act_265 ?_
              refine hp_iload E 5 dX12_act_268 rfl ?_
              refine hp_iload_n E 2 dX12_act_270 rfl rfl ?_
              have hin := hq.1
              replace hq := hq.2
              refine hp_iast E 23 aM_23 zM_23 hJ hin dX12_act_271 ?_
              refine hp_toph (fun h44 eh44 => ?_)
              replace hq := hq h44 eh44
              refine hp_aload_n E 0 dX12_act_272 rfl rfl ?_
              refine hp_gR E g_RX12_80 fM_0_28 dX12_act_273 ?_
              refine hp_iload E 5 dX12_act_276 rfl ?_
              refine hp_iload_n E 3 dX12_act_278 rfl rfl ?_
              have hin := hq.1
              replace hq := hq.2
              refine hp_iast E 24 aM_24 zM_24 hJ hin dX12_act_279 ?_
              refine hp_toph (fun h45 eh45 => ?_)
              replace hq := hq h45 eh45
              refine hp_aload_n E 0 dX12_act_280 rfl rfl ?_
              refine hp_gR E g_RX12_83 fM_0_29 dX12_act_281 ?_
              refine hp_iload E 5 dX12_act_284 rfl ?_
              refine hp_iload E 4 dX12_act_286 rfl ?_
              have hin := hq.1
              replace hq := hq.2
              refine hp_iast E 25 aM_25 zM_25 hJ hin dX12_act_288 ?_
              refine hp_toph (fun h46 eh46 => ?_)
              replace hq := hq h46 eh46
              refine hp_aload_n E 0 dX12_act_289 rfl rfl ?_
              refine hp_gR E g_RX12_74 fM_0_26 dX12_act_290 ?_
              refine hp_iload_n E 1 dX12_act_293 rfl rfl ?_
              refine hp_dup2 E rfl rfl dX12_act_294 ?_
              refine hp_iald E 22 aM_22 hq.1 dX12_act_295 ?_
              replace hq := hq.2
              refine hp_iconst E (nI 1) dX12_act_296 (by decide) ?_
              refine hp_iadd E dX12_act_297 ?_
              have hin := hq.1
              replace hq := hq.2
              refine hp_iast E 22 aM_22 zM_22 hJ hin dX12_act_298 ?_
              refine hp_toph (fun h47 eh47 => ?_)
              replace hq := hq h47 eh47
              refine hp_aload_n E 0 dX12_act_299 rfl rfl ?_
              refine hp_gR E g_RX12_74 fM_0_26 dX12_act_300 ?_
              refine hp_iload_n E 1 dX12_act_303 rfl rfl ?_
              refine hp_iald E 22 aM_22 hq.1 dX12_act_304 ?_
              replace hq := hq.2
              exact hp_iret E hq hZ dX12_act_305
            · replace hq := hq.1 c41
              refine hp_bipush E (-6) dX12_act_245 (by decide) ?_
              exact hp_iret E hq hZ dX12_act_247
          refine hp_icmp_ge E 235 dX12_act_188 (by decide) (fun c34 => ?_) (fun c34 => ?_)
          · replace hq := hq.1 c34
            refine hp_sub (lv' := [(0, .ref (ad 0)), (1, .int a1), (2, .int a2), (3, .int a3), (4, .int a4)]) [0, 1, 2, 3, 4] rfl ?_
            exact jK35  hq
          · replace hq := hq.2 c34
            refine hp_iload_n E 2 dX12_act_191 rfl rfl ?_
            refine hp_iconst E (nI 1) dX12_act_192 (by decide) ?_
            refine hp_icmp_le E 235 dX12_act_193 (by decide) (fun c36 => ?_) (fun c36 => ?_)
            · replace hq := hq.1 c36
              refine hp_sub (lv' := [(0, .ref (ad 0)), (1, .int a1), (2, .int a2), (3, .int a3), (4, .int a4)]) [0, 1, 2, 3, 4] rfl ?_
              exact jK35  hq
            · replace hq := hq.2 c36
              refine hp_aload_n E 0 dX12_act_196 rfl rfl ?_
              refine hp_gR E g_RX12_77 fM_0_27 dX12_act_197 ?_
              refine hp_iconst E (nI 4) dX12_act_200 (by decide) ?_
              refine hp_iload_n E 1 dX12_act_201 rfl rfl ?_
              refine hp_imul E dX12_act_202 ?_
              refine hp_iload E 5 dX12_act_203 rfl ?_
              refine hp_iadd E dX12_act_205 ?_
              refine hp_iald E 23 aM_23 hq.1 dX12_act_206 ?_
              replace hq := hq.2
              refine hp_iload_n E 2 dX12_act_207 rfl rfl ?_
              obtain ⟨K38, hq, hK38⟩ := hq
              have jK38 : K38 → hp_G p l e rm_X12_act s m args below meth c SM cs ad A D 8 0 0 Z 229 [(0, .ref (ad 0)), (1, .int a1), (2, .int a2), (3, .int a3), (4, .int a4), (7, .int v33)] [] h := by
                intro  hq
                replace hq := hK38  hq
                obtain ⟨v40, ev40⟩ : ∃ z : Int32, z = v33 + (nI 1) := ⟨_, rfl⟩
                replace hq := hq v40 ev40
                refine hp_iinc (lv' := [(0, .ref (ad 0)), (1, .int a1), (2, .int a2), (3, .int a3), (4, .int a4), (7, .int v40)]) E 5 v40 dX12_act_229 rfl (by rw [ev40]; rfl) (by decide) rfl rfl ?_
                refine hp_goto E 180 dX12_act_232 (by decide) ?_
                exact hB32 _ hq
              refine hp_icmp_ne E 229 dX12_act_208 (by decide) (fun c37 => ?_) (fun c37 => ?_)
              · replace hq := hq.2 c37
                exact jK38  hq
              · replace hq := hq.1 c37
                refine hp_aload_n E 0 dX12_act_211 rfl rfl ?_
                refine hp_gR E g_RX12_80 fM_0_28 dX12_act_212 ?_
                refine hp_iconst E (nI 4) dX12_act_215 (by decide) ?_
                refine hp_iload_n E 1 dX12_act_216 rfl rfl ?_
                refine hp_imul E dX12_act_217 ?_
                refine hp_iload E 5 dX12_act_218 rfl ?_
                refine hp_iadd E dX12_act_220 ?_
                refine hp_iald E 24 aM_24 hq.1 dX12_act_221 ?_
                replace hq := hq.2
                refine hp_iload_n E 3 dX12_act_222 rfl rfl ?_
                refine hp_icmp_ne E 229 dX12_act_223 (by decide) (fun c39 => ?_) (fun c39 => ?_)
                · replace hq := hq.2 c39
                  exact jK38  hq
                · replace hq := hq.1 c39
                  refine hp_bipush E (-3) dX12_act_226 (by decide) ?_
                  exact hp_iret E hq hZ dX12_act_228
        · replace hq := hq.1 c31
          refine hp_bipush E (-2) dX12_act_174 (by decide) ?_
          exact hp_iret E hq hZ dX12_act_176
      refine hp_if_ne E 77 dX12_act_43 (by decide) (fun c6 => ?_) (fun c6 => ?_)
      · replace hq := hq.2 c6
        refine hp_iload_n E 2 dX12_act_77 rfl rfl ?_
        refine hp_iconst E (nI 1) dX12_act_78 (by decide) ?_
        refine hp_icmp_ne E 111 dX12_act_79 (by decide) (fun c9 => ?_) (fun c9 => ?_)
        · replace hq := hq.2 c9
          refine hp_iload_n E 2 dX12_act_111 rfl rfl ?_
          refine hp_iconst E (nI 2) dX12_act_112 (by decide) ?_
          refine hp_icmp_ne E 141 dX12_act_113 (by decide) (fun c10 => ?_) (fun c10 => ?_)
          · replace hq := hq.2 c10
            refine hp_aload_n E 0 dX12_act_141 rfl rfl ?_
            refine hp_iload_n E 3 dX12_act_142 rfl rfl ?_
            refine hp_callVip (rest := []) E 0 fM_0_0 vcl_12 (c_X12_isChannel l hJ hq) F_X12_isChannel m_RX12_196 ⟨rfl, rfl⟩ ⟨Nat.le_of_ble_eq_true rfl, Nat.le_of_ble_eq_true rfl⟩ ⟨Nat.zero_le _, Nat.zero_le _⟩ rfl rfl (Nat.le_of_ble_eq_true rfl) dX12_act_143 (fun r11 hq => ?_)
            obtain ⟨K13, hq, hK13⟩ := hq
            have jK13 : K13 → hp_G p l e rm_X12_act s m args below meth c SM cs ad A D 8 0 0 Z 166 [(0, .ref (ad 0)), (1, .int a1), (2, .int a2), (3, .int a3), (4, .int a4)] [] h := by
              intro  hq
              replace hq := hK13  hq
              refine hp_iconst E (nI 0) dX12_act_166 (by decide) ?_
              exact jK7 _ hq
            refine hp_if_eq E 166 dX12_act_146 (by decide) (fun c12 => ?_) (fun c12 => ?_)
            · replace hq := hq.1 c12
              refine hp_sub (lv' := [(0, .ref (ad 0)), (1, .int a1), (2, .int a2), (3, .int a3), (4, .int a4)]) [0, 1, 2, 3, 4] rfl ?_
              exact jK13  hq
            · replace hq := hq.2 c12
              refine hp_iload E 4 dX12_act_149 rfl ?_
              refine hp_iconst E (nI 0) dX12_act_151 (by decide) ?_
              refine hp_iload E 5 dX12_act_152 rfl ?_
              refine hp_iconst E (nI 1) dX12_act_154 (by decide) ?_
              refine hp_isub E dX12_act_155 ?_
              refine hp_callSip (rest := []) E (c_X12_in l hJ hq) F_X12_in m_RX12_156 ⟨rfl, rfl⟩ ⟨Nat.le_of_ble_eq_true rfl, Nat.le_of_ble_eq_true rfl⟩ ⟨Nat.zero_le _, Nat.zero_le _⟩ rfl rfl (Nat.le_of_ble_eq_true rfl) dX12_act_156 (fun r14 hq => ?_)
              refine hp_if_eq E 166 dX12_act_159 (by decide) (fun c15 => ?_) (fun c15 => ?_)
              · replace hq := hq.1 c15
                refine hp_sub (lv' := [(0, .ref (ad 0)), (1, .int a1), (2, .int a2), (3, .int a3), (4, .int a4)]) [0, 1, 2, 3, 4] rfl ?_
                exact jK13  hq
              · replace hq := hq.2 c15
                refine hp_iconst E (nI 1) dX12_act_162 (by decide) ?_
                refine hp_goto E 167 dX12_act_163 (by decide) ?_
                refine hp_sub (lv' := [(0, .ref (ad 0)), (1, .int a1), (2, .int a2), (3, .int a3), (4, .int a4)]) [0, 1, 2, 3, 4] rfl ?_
                exact jK7 _ hq
          · replace hq := hq.1 c10
            refine hp_aload_n E 0 dX12_act_116 rfl rfl ?_
            refine hp_iload_n E 3 dX12_act_117 rfl rfl ?_
            refine hp_callVip (rest := []) E 0 fM_0_0 vcl_12 (c_X12_isChannel l hJ hq) F_X12_isChannel m_RX12_196 ⟨rfl, rfl⟩ ⟨Nat.le_of_ble_eq_true rfl, Nat.le_of_ble_eq_true rfl⟩ ⟨Nat.zero_le _, Nat.zero_le _⟩ rfl rfl (Nat.le_of_ble_eq_true rfl) dX12_act_118 (fun r16 hq => ?_)
            obtain ⟨K18, hq, hK18⟩ := hq
            have jK18 : K18 → hp_G p l e rm_X12_act s m args below meth c SM cs ad A D 8 0 0 Z 137 [(0, .ref (ad 0)), (1, .int a1), (2, .int a2), (3, .int a3), (4, .int a4)] [] h := by
              intro  hq
              replace hq := hK18  hq
              refine hp_iconst E (nI 0) dX12_act_137 (by decide) ?_
              refine hp_goto E 167 dX12_act_138 (by decide) ?_
              exact jK7 _ hq
            refine hp_if_eq E 137 dX12_act_121 (by decide) (fun c17 => ?_) (fun c17 => ?_)
            · replace hq := hq.1 c17
              refine hp_sub (lv' := [(0, .ref (ad 0)), (1, .int a1), (2, .int a2), (3, .int a3), (4, .int a4)]) [0, 1, 2, 3, 4] rfl ?_
              exact jK18  hq
            · replace hq := hq.2 c17
              refine hp_aload_n E 0 dX12_act_124 rfl rfl ?_
              refine hp_iload E 4 dX12_act_125 rfl ?_
              refine hp_callVip (rest := []) E 0 fM_0_0 vcl_12 (c_X12_isExpr l hJ hq) F_X12_isExpr m_RX12_199 ⟨rfl, rfl⟩ ⟨Nat.le_of_ble_eq_true rfl, Nat.le_of_ble_eq_true rfl⟩ ⟨Nat.zero_le _, Nat.zero_le _⟩ rfl rfl (Nat.le_of_ble_eq_true rfl) dX12_act_127 (fun r19 hq => ?_)
              refine hp_if_eq E 137 dX12_act_130 (by decide) (fun c20 => ?_) (fun c20 => ?_)
              · replace hq := hq.1 c20
                refine hp_sub (lv' := [(0, .ref (ad 0)), (1, .int a1), (2, .int a2), (3, .int a3), (4, .int a4)]) [0, 1, 2, 3, 4] rfl ?_
                exact jK18  hq
              · replace hq := hq.2 c20
                refine hp_iconst E (nI 1) dX12_act_133 (by decide) ?_
                refine hp_goto E 167 dX12_act_134 (by decide) ?_
                refine hp_sub (lv' := [(0, .ref (ad 0)), (1, .int a1), (2, .int a2), (3, .int a3), (4, .int a4)]) [0, 1, 2, 3, 4] rfl ?_
                exact jK7 _ hq
        · replace hq := hq.1 c9
          refine hp_iload_n E 3 dX12_act_82 rfl rfl ?_
          refine hp_iconst E (nI 0) dX12_act_83 (by decide) ?_
          refine hp_iload E 5 dX12_act_84 rfl ?_
          refine hp_iconst E (nI 1) dX12_act_86 (by decide) ?_
          refine hp_isub E dX12_act_87 ?_
          refine hp_callSip (rest := []) E (c_X12_in l hJ hq) F_X12_in m_RX12_156 ⟨rfl, rfl⟩ ⟨Nat.le_of_ble_eq_true rfl, Nat.le_of_ble_eq_true rfl⟩ ⟨Nat.zero_le _, Nat.zero_le _⟩ rfl rfl (Nat.le_of_ble_eq_true rfl) dX12_act_88 (fun r21 hq => ?_)
          obtain ⟨K23, hq, hK23⟩ := hq
          have jK23 : K23 → hp_G p l e rm_X12_act s m args below meth c SM cs ad A D 8 0 0 Z 107 [(0, .ref (ad 0)), (1, .int a1), (2, .int a2), (3, .int a3), (4, .int a4)] [] h := by
            intro  hq
            replace hq := hK23  hq
            refine hp_iconst E (nI 0) dX12_act_107 (by decide) ?_
            refine hp_goto E 167 dX12_act_108 (by decide) ?_
            exact jK7 _ hq
          refine hp_if_eq E 107 dX12_act_91 (by decide) (fun c22 => ?_) (fun c22 => ?_)
          · replace hq := hq.1 c22
            refine hp_sub (lv' := [(0, .ref (ad 0)), (1, .int a1), (2, .int a2), (3, .int a3), (4, .int a4)]) [0, 1, 2, 3, 4] rfl ?_
            exact jK23  hq
          · replace hq := hq.2 c22
            refine hp_aload_n E 0 dX12_act_94 rfl rfl ?_
            refine hp_iload E 4 dX12_act_95 rfl ?_
            refine hp_callVip (rest := []) E 0 fM_0_0 vcl_12 (c_X12_isExpr l hJ hq) F_X12_isExpr m_RX12_199 ⟨rfl, rfl⟩ ⟨Nat.le_of_ble_eq_true rfl, Nat.le_of_ble_eq_true rfl⟩ ⟨Nat.zero_le _, Nat.zero_le _⟩ rfl rfl (Nat.le_of_ble_eq_true rfl) dX12_act_97 (fun r24 hq => ?_)
            refine hp_if_eq E 107 dX12_act_100 (by decide) (fun c25 => ?_) (fun c25 => ?_)
            · replace hq := hq.1 c25
              refine hp_sub (lv' := [(0, .ref (ad 0)), (1, .int a1), (2, .int a2), (3, .int a3), (4, .int a4)]) [0, 1, 2, 3, 4] rfl ?_
              exact jK23  hq
            · replace hq := hq.2 c25
              refine hp_iconst E (nI 1) dX12_act_103 (by decide) ?_
              refine hp_goto E 167 dX12_act_104 (by decide) ?_
              refine hp_sub (lv' := [(0, .ref (ad 0)), (1, .int a1), (2, .int a2), (3, .int a3), (4, .int a4)]) [0, 1, 2, 3, 4] rfl ?_
              exact jK7 _ hq
      · replace hq := hq.1 c6
        refine hp_iload_n E 3 dX12_act_46 rfl rfl ?_
        refine hp_iconst E (nI 0) dX12_act_47 (by decide) ?_
        refine hp_aload_n E 0 dX12_act_48 rfl rfl ?_
        refine hp_gI E g_RX12_177 fM_0_0 dX12_act_49 ?_
        refine hp_iconst E (nI 1) dX12_act_52 (by decide) ?_
        refine hp_isub E dX12_act_53 ?_
        refine hp_callSip (rest := []) E (c_X12_in l hJ hq) F_X12_in m_RX12_156 ⟨rfl, rfl⟩ ⟨Nat.le_of_ble_eq_true rfl, Nat.le_of_ble_eq_true rfl⟩ ⟨Nat.zero_le _, Nat.zero_le _⟩ rfl rfl (Nat.le_of_ble_eq_true rfl) dX12_act_54 (fun r26 hq => ?_)
        obtain ⟨K28, hq, hK28⟩ := hq
        have jK28 : K28 → hp_G p l e rm_X12_act s m args below meth c SM cs ad A D 8 0 0 Z 73 [(0, .ref (ad 0)), (1, .int a1), (2, .int a2), (3, .int a3), (4, .int a4)] [] h := by
          intro  hq
          replace hq := hK28  hq
          refine hp_iconst E (nI 0) dX12_act_73 (by decide) ?_
          refine hp_goto E 167 dX12_act_74 (by decide) ?_
          exact jK7 _ hq
        refine hp_if_eq E 73 dX12_act_57 (by decide) (fun c27 => ?_) (fun c27 => ?_)
        · replace hq := hq.1 c27
          refine hp_sub (lv' := [(0, .ref (ad 0)), (1, .int a1), (2, .int a2), (3, .int a3), (4, .int a4)]) [0, 1, 2, 3, 4] rfl ?_
          exact jK28  hq
        · replace hq := hq.2 c27
          refine hp_aload_n E 0 dX12_act_60 rfl rfl ?_
          refine hp_iload E 4 dX12_act_61 rfl ?_
          refine hp_callVip (rest := []) E 0 fM_0_0 vcl_12 (c_X12_isExpr l hJ hq) F_X12_isExpr m_RX12_199 ⟨rfl, rfl⟩ ⟨Nat.le_of_ble_eq_true rfl, Nat.le_of_ble_eq_true rfl⟩ ⟨Nat.zero_le _, Nat.zero_le _⟩ rfl rfl (Nat.le_of_ble_eq_true rfl) dX12_act_63 (fun r29 hq => ?_)
          refine hp_if_eq E 73 dX12_act_66 (by decide) (fun c30 => ?_) (fun c30 => ?_)
          · replace hq := hq.1 c30
            refine hp_sub (lv' := [(0, .ref (ad 0)), (1, .int a1), (2, .int a2), (3, .int a3), (4, .int a4)]) [0, 1, 2, 3, 4] rfl ?_
            exact jK28  hq
          · replace hq := hq.2 c30
            refine hp_iconst E (nI 1) dX12_act_69 (by decide) ?_
            refine hp_goto E 167 dX12_act_70 (by decide) ?_
            refine hp_sub (lv' := [(0, .ref (ad 0)), (1, .int a1), (2, .int a2), (3, .int a3), (4, .int a4)]) [0, 1, 2, 3, 4] rfl ?_
            exact jK7 _ hq
    · replace hq := hq.1 c4
      refine hp_bipush E (-2) dX12_act_26 (by decide) ?_
      exact hp_iret E hq hZ dX12_act_28
  · replace hq := hq.1 c2
    refine hp_bipush E (-3) dX12_act_9 (by decide) ?_
    exact hp_iret E hq hZ dX12_act_11
