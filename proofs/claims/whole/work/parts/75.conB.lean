theorem dX11_step_0 : decode cX11_step 0 = .ok (.aload_n 0, 1) := by decide +kernel
theorem dX11_step_1 : decode cX11_step 1 = .ok (.getfield 12, 3) := by decide +kernel
theorem dX11_step_4 : decode cX11_step 4 = .ok (.getfield 78, 3) := by decide +kernel
theorem dX11_step_7 : decode cX11_step 7 = .ok (.iload_n 1, 1) := by decide +kernel
theorem dX11_step_8 : decode cX11_step 8 = .ok (.invokevirtual 91, 3) := by decide +kernel
theorem dX11_step_11 : decode cX11_step 11 = .ok (.ifCond .eq 24, 3) := by decide +kernel
theorem dX11_step_14 : decode cX11_step 14 = .ok (.iload 4, 2) := by decide +kernel
theorem dX11_step_16 : decode cX11_step 16 = .ok (.iconst (-1), 1) := by decide +kernel
theorem dX11_step_17 : decode cX11_step 17 = .ok (.if_icmp .eq 21, 3) := by decide +kernel
theorem dX11_step_20 : decode cX11_step 20 = .ok (.aload_n 0, 1) := by decide +kernel
theorem dX11_step_21 : decode cX11_step 21 = .ok (.getfield 12, 3) := by decide +kernel
theorem dX11_step_24 : decode cX11_step 24 = .ok (.getfield 123, 3) := by decide +kernel
theorem dX11_step_27 : decode cX11_step 27 = .ok (.iload 4, 2) := by decide +kernel
theorem dX11_step_29 : decode cX11_step 29 = .ok (.invokevirtual 131, 3) := by decide +kernel
theorem dX11_step_32 : decode cX11_step 32 = .ok (.ifCond .ne 6, 3) := by decide +kernel
theorem dX11_step_35 : decode cX11_step 35 = .ok (.bipush (-2), 2) := by decide +kernel
theorem dX11_step_37 : decode cX11_step 37 = .ok (.ireturn, 1) := by decide +kernel
theorem dX11_step_38 : decode cX11_step 38 = .ok (.iload_n 2, 1) := by decide +kernel
theorem dX11_step_39 : decode cX11_step 39 = .ok (.invokestatic 97, 3) := by decide +kernel
theorem dX11_step_42 : decode cX11_step 42 = .ok (.ifCond .eq 10, 3) := by decide +kernel
theorem dX11_step_45 : decode cX11_step 45 = .ok (.iload_n 3, 1) := by decide +kernel
theorem dX11_step_46 : decode cX11_step 46 = .ok (.invokestatic 97, 3) := by decide +kernel
theorem dX11_step_49 : decode cX11_step 49 = .ok (.ifCond .ne 6, 3) := by decide +kernel
theorem dX11_step_52 : decode cX11_step 52 = .ok (.bipush (-3), 2) := by decide +kernel
theorem dX11_step_54 : decode cX11_step 54 = .ok (.ireturn, 1) := by decide +kernel
theorem dX11_step_55 : decode cX11_step 55 = .ok (.aload_n 0, 1) := by decide +kernel
theorem dX11_step_56 : decode cX11_step 56 = .ok (.getfield 12, 3) := by decide +kernel
theorem dX11_step_59 : decode cX11_step 59 = .ok (.getfield 132, 3) := by decide +kernel
theorem dX11_step_62 : decode cX11_step 62 = .ok (.getfield 136, 3) := by decide +kernel
theorem dX11_step_65 : decode cX11_step 65 = .ok (.bipush 24, 2) := by decide +kernel
theorem dX11_step_67 : decode cX11_step 67 = .ok (.if_icmp .ne 6, 3) := by decide +kernel
theorem dX11_step_70 : decode cX11_step 70 = .ok (.bipush (-6), 2) := by decide +kernel
theorem dX11_step_72 : decode cX11_step 72 = .ok (.ireturn, 1) := by decide +kernel
theorem dX11_step_73 : decode cX11_step 73 = .ok (.aload_n 0, 1) := by decide +kernel
theorem dX11_step_74 : decode cX11_step 74 = .ok (.invokevirtual 71, 3) := by decide +kernel
theorem dX11_step_77 : decode cX11_step 77 = .ok (.aload_n 0, 1) := by decide +kernel
theorem dX11_step_78 : decode cX11_step 78 = .ok (.getfield 12, 3) := by decide +kernel
theorem dX11_step_81 : decode cX11_step 81 = .ok (.getfield 132, 3) := by decide +kernel
theorem dX11_step_84 : decode cX11_step 84 = .ok (.iload_n 1, 1) := by decide +kernel
theorem dX11_step_85 : decode cX11_step 85 = .ok (.iload_n 2, 1) := by decide +kernel
theorem dX11_step_86 : decode cX11_step 86 = .ok (.iload_n 3, 1) := by decide +kernel
theorem dX11_step_87 : decode cX11_step 87 = .ok (.iload 4, 2) := by decide +kernel
theorem dX11_step_89 : decode cX11_step 89 = .ok (.invokevirtual 139, 3) := by decide +kernel
theorem dX11_step_92 : decode cX11_step 92 = .ok (.ireturn, 1) := by decide +kernel
set_option maxHeartbeats 4000000 in
set_option maxRecDepth 100000 in
theorem c_X11_step (l : Launch) {cs : Nat → ClassId} {ad : Nat → Nat} {A : Nat → Prop} {D : va_G} (hJ : hp_J SB ad A)   {h : hp_H} {a1 a2 a3 a4 : Int32} {Q : Int32 → hp_H → Prop} (hq : q_X11_step h a1 a2 a3 a4 Q) : hp_Mi l yX11_step cX11_step 5 (some .int) rm_X11_step [.ref (ad 0), .int a1, .int a2, .int a3, .int a4] SB cs ad A D h Q := by
  refine hp_met (own := RX11) rfl (by decide) (Nat.le_of_ble_eq_true rfl) rfl (fun p e s m args below meth c Z E hZ hnm => ?_)
  refine hp_sub (lv' := [(0, .ref (ad 0)), (1, .int a1), (2, .int a2), (3, .int a3), (4, .int a4)]) [0, 1, 2, 3, 4] rfl ?_
  unfold q_X11_step at hq
  refine hp_aload_n E 0 dX11_step_0 rfl rfl ?_
  refine hp_gR E g_RX11_12 fB_0_0 dX11_step_1 ?_
  refine hp_gR E g_RX11_78 fB_1_2 dX11_step_4 ?_
  refine hp_iload_n E 1 dX11_step_7 rfl rfl ?_
  refine hp_callVip (rest := []) E 12 fB_12_0 vcl_6 (c_X6_has l hJ hq) F_X6_has m_RX11_91 ⟨rfl, rfl⟩ ⟨Nat.le_of_ble_eq_true rfl, Nat.le_of_ble_eq_true rfl⟩ ⟨Nat.zero_le _, Nat.zero_le _⟩ rfl rfl (Nat.le_of_ble_eq_true rfl) dX11_step_8 (fun r1 hq => ?_)
  refine hp_if_eq E 35 dX11_step_11 (by decide) (fun c2 => ?_) (fun c2 => ?_)
  · replace hq := hq.1 c2
    refine hp_bipush E (-2) dX11_step_35 (by decide) ?_
    exact hp_iret E hq hZ dX11_step_37
  · replace hq := hq.2 c2
    refine hp_iload E 4 dX11_step_14 rfl ?_
    refine hp_iconst E (-1) dX11_step_16 (by decide) ?_
    obtain ⟨K4, hq, hK4⟩ := hq
    have jK4 : K4 → hp_G p l e rm_X11_step s m args below meth c SB cs ad A D 5 0 0 Z 38 [(0, .ref (ad 0)), (1, .int a1), (2, .int a2), (3, .int a3), (4, .int a4)] [] h := by
      intro  hq
      replace hq := hK4  hq
      refine hp_iload_n E 2 dX11_step_38 rfl rfl ?_
      refine hp_callSip (rest := []) E (c_X11_isDigit l hJ hq) F_X11_isDigit m_RX11_97 ⟨rfl, rfl⟩ ⟨Nat.le_of_ble_eq_true rfl, Nat.le_of_ble_eq_true rfl⟩ ⟨Nat.zero_le _, Nat.zero_le _⟩ rfl rfl (Nat.le_of_ble_eq_true rfl) dX11_step_39 (fun r7 hq => ?_)
      refine hp_if_eq E 52 dX11_step_42 (by decide) (fun c8 => ?_) (fun c8 => ?_)
      · replace hq := hq.1 c8
        refine hp_bipush E (-3) dX11_step_52 (by decide) ?_
        exact hp_iret E hq hZ dX11_step_54
      · replace hq := hq.2 c8
        refine hp_iload_n E 3 dX11_step_45 rfl rfl ?_
        refine hp_callSip (rest := []) E (c_X11_isDigit l hJ hq) F_X11_isDigit m_RX11_97 ⟨rfl, rfl⟩ ⟨Nat.le_of_ble_eq_true rfl, Nat.le_of_ble_eq_true rfl⟩ ⟨Nat.zero_le _, Nat.zero_le _⟩ rfl rfl (Nat.le_of_ble_eq_true rfl) dX11_step_46 (fun r9 hq => ?_)
        refine hp_if_ne E 55 dX11_step_49 (by decide) (fun c10 => ?_) (fun c10 => ?_)
        · replace hq := hq.2 c10
          refine hp_aload_n E 0 dX11_step_55 rfl rfl ?_
          refine hp_gR E g_RX11_12 fB_0_0 dX11_step_56 ?_
          refine hp_gR E g_RX11_132 fB_1_4 dX11_step_59 ?_
          refine hp_gI E g_RX11_136 fB_23_8 dX11_step_62 ?_
          refine hp_bipush E (nI 24) dX11_step_65 (by decide) ?_
          refine hp_icmp_ne E 73 dX11_step_67 (by decide) (fun c11 => ?_) (fun c11 => ?_)
          · replace hq := hq.2 c11
            refine hp_aload_n E 0 dX11_step_73 rfl rfl ?_
            refine hp_callVv' (rest := []) E 0 fB_0_0 vcl_11 (c_X11_endSearch l hJ hq) F_X11_endSearch m_RX11_71 ⟨rfl, rfl⟩ ⟨Nat.le_of_ble_eq_true rfl, Nat.le_of_ble_eq_true rfl⟩ ⟨Nat.zero_le _, Nat.zero_le _⟩ rfl rfl (Nat.le_of_ble_eq_true rfl) dX11_step_74 (fun h12 hq => ?_)
            refine hp_aload_n E 0 dX11_step_77 rfl rfl ?_
            refine hp_gR E g_RX11_12 fB_0_0 dX11_step_78 ?_
            refine hp_gR E g_RX11_132 fB_1_4 dX11_step_81 ?_
            refine hp_iload_n E 1 dX11_step_84 rfl rfl ?_
            refine hp_iload_n E 2 dX11_step_85 rfl rfl ?_
            refine hp_iload_n E 3 dX11_step_86 rfl rfl ?_
            refine hp_iload E 4 dX11_step_87 rfl ?_
            refine hp_callVi' (rest := []) E 23 fB_23_0 vcl_9 (c_X9_add l hJ hq) F_X9_add m_RX11_139 ⟨rfl, rfl⟩ ⟨Nat.le_of_ble_eq_true rfl, Nat.le_of_ble_eq_true rfl⟩ ⟨Nat.zero_le _, Nat.zero_le _⟩ rfl rfl (Nat.le_of_ble_eq_true rfl) dX11_step_89 (fun r13 h14 hq => ?_)
            exact hp_iret E hq hZ dX11_step_92
          · replace hq := hq.1 c11
            refine hp_bipush E (-6) dX11_step_70 (by decide) ?_
            exact hp_iret E hq hZ dX11_step_72
        · replace hq := hq.1 c10
          refine hp_bipush E (-3) dX11_step_52 (by decide) ?_
          exact hp_iret E hq hZ dX11_step_54
    refine hp_icmp_eq E 38 dX11_step_17 (by decide) (fun c3 => ?_) (fun c3 => ?_)
    · replace hq := hq.1 c3
      exact jK4  hq
    · replace hq := hq.2 c3
      refine hp_aload_n E 0 dX11_step_20 rfl rfl ?_
      refine hp_gR E g_RX11_12 fB_0_0 dX11_step_21 ?_
      refine hp_gR E g_RX11_123 fB_1_3 dX11_step_24 ?_
      refine hp_iload E 4 dX11_step_27 rfl ?_
      refine hp_callVip (rest := []) E 15 fB_15_0 vcl_1 (c_X1_has l hJ hq) F_X1_has m_RX11_131 ⟨rfl, rfl⟩ ⟨Nat.le_of_ble_eq_true rfl, Nat.le_of_ble_eq_true rfl⟩ ⟨Nat.zero_le _, Nat.zero_le _⟩ rfl rfl (Nat.le_of_ble_eq_true rfl) dX11_step_29 (fun r5 hq => ?_)
      refine hp_if_ne E 38 dX11_step_32 (by decide) (fun c6 => ?_) (fun c6 => ?_)
      · replace hq := hq.2 c6
        exact jK4  hq
      · replace hq := hq.1 c6
        refine hp_bipush E (-2) dX11_step_35 (by decide) ?_
        exact hp_iret E hq hZ dX11_step_37
theorem dX11_act_0 : decode cX11_act 0 = .ok (.iload_n 2, 1) := by decide +kernel
theorem dX11_act_1 : decode cX11_act 1 = .ok (.ifCond .lt 8, 3) := by decide +kernel
theorem dX11_act_4 : decode cX11_act 4 = .ok (.iload_n 2, 1) := by decide +kernel
theorem dX11_act_5 : decode cX11_act 5 = .ok (.iconst 3, 1) := by decide +kernel
theorem dX11_act_6 : decode cX11_act 6 = .ok (.if_icmp .le 6, 3) := by decide +kernel
theorem dX11_act_9 : decode cX11_act 9 = .ok (.bipush (-3), 2) := by decide +kernel
theorem dX11_act_11 : decode cX11_act 11 = .ok (.ireturn, 1) := by decide +kernel
theorem dX11_act_12 : decode cX11_act 12 = .ok (.aload_n 0, 1) := by decide +kernel
theorem dX11_act_13 : decode cX11_act 13 = .ok (.getfield 12, 3) := by decide +kernel
theorem dX11_act_16 : decode cX11_act 16 = .ok (.getfield 132, 3) := by decide +kernel
theorem dX11_act_19 : decode cX11_act 19 = .ok (.iload_n 1, 1) := by decide +kernel
theorem dX11_act_20 : decode cX11_act 20 = .ok (.invokevirtual 140, 3) := by decide +kernel
theorem dX11_act_23 : decode cX11_act 23 = .ok (.ifCond .eq 18, 3) := by decide +kernel
theorem dX11_act_26 : decode cX11_act 26 = .ok (.aload_n 0, 1) := by decide +kernel
theorem dX11_act_27 : decode cX11_act 27 = .ok (.getfield 12, 3) := by decide +kernel
theorem dX11_act_30 : decode cX11_act 30 = .ok (.iload_n 1, 1) := by decide +kernel
theorem dX11_act_31 : decode cX11_act 31 = .ok (.iload_n 2, 1) := by decide +kernel
theorem dX11_act_32 : decode cX11_act 32 = .ok (.iload_n 3, 1) := by decide +kernel
theorem dX11_act_33 : decode cX11_act 33 = .ok (.iload 4, 2) := by decide +kernel
theorem dX11_act_35 : decode cX11_act 35 = .ok (.invokevirtual 141, 3) := by decide +kernel
theorem dX11_act_38 : decode cX11_act 38 = .ok (.ifCond .ne 6, 3) := by decide +kernel
theorem dX11_act_41 : decode cX11_act 41 = .ok (.bipush (-2), 2) := by decide +kernel
theorem dX11_act_43 : decode cX11_act 43 = .ok (.ireturn, 1) := by decide +kernel
theorem dX11_act_44 : decode cX11_act 44 = .ok (.aload_n 0, 1) := by decide +kernel
theorem dX11_act_45 : decode cX11_act 45 = .ok (.getfield 12, 3) := by decide +kernel
theorem dX11_act_48 : decode cX11_act 48 = .ok (.getfield 132, 3) := by decide +kernel
theorem dX11_act_51 : decode cX11_act 51 = .ok (.iload_n 1, 1) := by decide +kernel
theorem dX11_act_52 : decode cX11_act 52 = .ok (.iload_n 2, 1) := by decide +kernel
theorem dX11_act_53 : decode cX11_act 53 = .ok (.iload_n 3, 1) := by decide +kernel
theorem dX11_act_54 : decode cX11_act 54 = .ok (.invokevirtual 144, 3) := by decide +kernel
theorem dX11_act_57 : decode cX11_act 57 = .ok (.ifCond .eq 6, 3) := by decide +kernel
theorem dX11_act_60 : decode cX11_act 60 = .ok (.bipush (-3), 2) := by decide +kernel
theorem dX11_act_62 : decode cX11_act 62 = .ok (.ireturn, 1) := by decide +kernel
theorem dX11_act_63 : decode cX11_act 63 = .ok (.aload_n 0, 1) := by decide +kernel
theorem dX11_act_64 : decode cX11_act 64 = .ok (.getfield 12, 3) := by decide +kernel
theorem dX11_act_67 : decode cX11_act 67 = .ok (.getfield 132, 3) := by decide +kernel
theorem dX11_act_70 : decode cX11_act 70 = .ok (.getfield 147, 3) := by decide +kernel
theorem dX11_act_73 : decode cX11_act 73 = .ok (.iload_n 1, 1) := by decide +kernel
theorem dX11_act_74 : decode cX11_act 74 = .ok (.iaload, 1) := by decide +kernel
theorem dX11_act_75 : decode cX11_act 75 = .ok (.iconst 4, 1) := by decide +kernel
theorem dX11_act_76 : decode cX11_act 76 = .ok (.if_icmp .ne 6, 3) := by decide +kernel
theorem dX11_act_79 : decode cX11_act 79 = .ok (.bipush (-6), 2) := by decide +kernel
theorem dX11_act_81 : decode cX11_act 81 = .ok (.ireturn, 1) := by decide +kernel
theorem dX11_act_82 : decode cX11_act 82 = .ok (.aload_n 0, 1) := by decide +kernel
theorem dX11_act_83 : decode cX11_act 83 = .ok (.invokevirtual 71, 3) := by decide +kernel
theorem dX11_act_86 : decode cX11_act 86 = .ok (.aload_n 0, 1) := by decide +kernel
theorem dX11_act_87 : decode cX11_act 87 = .ok (.getfield 12, 3) := by decide +kernel
theorem dX11_act_90 : decode cX11_act 90 = .ok (.getfield 132, 3) := by decide +kernel
theorem dX11_act_93 : decode cX11_act 93 = .ok (.iload_n 1, 1) := by decide +kernel
theorem dX11_act_94 : decode cX11_act 94 = .ok (.iload_n 2, 1) := by decide +kernel
theorem dX11_act_95 : decode cX11_act 95 = .ok (.iload_n 3, 1) := by decide +kernel
theorem dX11_act_96 : decode cX11_act 96 = .ok (.iload 4, 2) := by decide +kernel
theorem dX11_act_98 : decode cX11_act 98 = .ok (.invokevirtual 151, 3) := by decide +kernel
theorem dX11_act_101 : decode cX11_act 101 = .ok (.ireturn, 1) := by decide +kernel
set_option maxHeartbeats 4000000 in
set_option maxRecDepth 100000 in
theorem c_X11_act (l : Launch) {cs : Nat → ClassId} {ad : Nat → Nat} {A : Nat → Prop} {D : va_G} (hJ : hp_J SB ad A)   {h : hp_H} {a1 a2 a3 a4 : Int32} {Q : Int32 → hp_H → Prop} (hq : q_X11_act h a1 a2 a3 a4 Q) : hp_Mi l yX11_act cX11_act 5 (some .int) rm_X11_act [.ref (ad 0), .int a1, .int a2, .int a3, .int a4] SB cs ad A D h Q := by
  refine hp_met (own := RX11) rfl (by decide) (Nat.le_of_ble_eq_true rfl) rfl (fun p e s m args below meth c Z E hZ hnm => ?_)
  refine hp_sub (lv' := [(0, .ref (ad 0)), (1, .int a1), (2, .int a2), (3, .int a3), (4, .int a4)]) [0, 1, 2, 3, 4] rfl ?_
  unfold q_X11_act at hq
  refine hp_iload_n E 2 dX11_act_0 rfl rfl ?_
  refine hp_if_lt E 9 dX11_act_1 (by decide) (fun c1 => ?_) (fun c1 => ?_)
  · replace hq := hq.1 c1
    refine hp_bipush E (-3) dX11_act_9 (by decide) ?_
    exact hp_iret E hq hZ dX11_act_11
  · replace hq := hq.2 c1
    refine hp_iload_n E 2 dX11_act_4 rfl rfl ?_
    refine hp_iconst E (nI 3) dX11_act_5 (by decide) ?_
    refine hp_icmp_le E 12 dX11_act_6 (by decide) (fun c2 => ?_) (fun c2 => ?_)
    · replace hq := hq.1 c2
      refine hp_aload_n E 0 dX11_act_12 rfl rfl ?_
      refine hp_gR E g_RX11_12 fB_0_0 dX11_act_13 ?_
      refine hp_gR E g_RX11_132 fB_1_4 dX11_act_16 ?_
      refine hp_iload_n E 1 dX11_act_19 rfl rfl ?_
      refine hp_callVip (rest := []) E 23 fB_23_0 vcl_9 (c_X9_has l hJ hq) F_X9_has m_RX11_140 ⟨rfl, rfl⟩ ⟨Nat.le_of_ble_eq_true rfl, Nat.le_of_ble_eq_true rfl⟩ ⟨Nat.zero_le _, Nat.zero_le _⟩ rfl rfl (Nat.le_of_ble_eq_true rfl) dX11_act_20 (fun r3 hq => ?_)
      refine hp_if_eq E 41 dX11_act_23 (by decide) (fun c4 => ?_) (fun c4 => ?_)
      · replace hq := hq.1 c4
        refine hp_bipush E (-2) dX11_act_41 (by decide) ?_
        exact hp_iret E hq hZ dX11_act_43
      · replace hq := hq.2 c4
        refine hp_aload_n E 0 dX11_act_26 rfl rfl ?_
        refine hp_gR E g_RX11_12 fB_0_0 dX11_act_27 ?_
        refine hp_iload_n E 1 dX11_act_30 rfl rfl ?_
        refine hp_iload_n E 2 dX11_act_31 rfl rfl ?_
        refine hp_iload_n E 3 dX11_act_32 rfl rfl ?_
        refine hp_iload E 4 dX11_act_33 rfl ?_
        refine hp_callVip (rest := []) E 1 fB_1_0 vcl_4 (c_X4_knowsAct l hJ hq) F_X4_knowsAct m_RX11_141 ⟨rfl, rfl⟩ ⟨Nat.le_of_ble_eq_true rfl, Nat.le_of_ble_eq_true rfl⟩ ⟨Nat.zero_le _, Nat.zero_le _⟩ rfl rfl (Nat.le_of_ble_eq_true rfl) dX11_act_35 (fun r5 hq => ?_)
        refine hp_if_ne E 44 dX11_act_38 (by decide) (fun c6 => ?_) (fun c6 => ?_)
        · replace hq := hq.2 c6
          refine hp_aload_n E 0 dX11_act_44 rfl rfl ?_
          refine hp_gR E g_RX11_12 fB_0_0 dX11_act_45 ?_
          refine hp_gR E g_RX11_132 fB_1_4 dX11_act_48 ?_
          refine hp_iload_n E 1 dX11_act_51 rfl rfl ?_
          refine hp_iload_n E 2 dX11_act_52 rfl rfl ?_
          refine hp_iload_n E 3 dX11_act_53 rfl rfl ?_
          refine hp_callVip (rest := []) E 23 fB_23_0 vcl_9 (c_X9_hasLetterAct l hJ hq) F_X9_hasLetterAct m_RX11_144 ⟨rfl, rfl⟩ ⟨Nat.le_of_ble_eq_true rfl, Nat.le_of_ble_eq_true rfl⟩ ⟨Nat.zero_le _, Nat.zero_le _⟩ rfl rfl (Nat.le_of_ble_eq_true rfl) dX11_act_54 (fun r7 hq => ?_)
          refine hp_if_eq E 63 dX11_act_57 (by decide) (fun c8 => ?_) (fun c8 => ?_)
          · replace hq := hq.1 c8
            refine hp_aload_n E 0 dX11_act_63 rfl rfl ?_
            refine hp_gR E g_RX11_12 fB_0_0 dX11_act_64 ?_
            refine hp_gR E g_RX11_132 fB_1_4 dX11_act_67 ?_
            refine hp_gR E g_RX11_147 fB_23_4 dX11_act_70 ?_
            refine hp_iload_n E 1 dX11_act_73 rfl rfl ?_
            refine hp_iald E 28 aB_28 hq.1 dX11_act_74 ?_
            replace hq := hq.2
            refine hp_iconst E (nI 4) dX11_act_75 (by decide) ?_
            refine hp_icmp_ne E 82 dX11_act_76 (by decide) (fun c9 => ?_) (fun c9 => ?_)
            · replace hq := hq.2 c9
              refine hp_aload_n E 0 dX11_act_82 rfl rfl ?_
              refine hp_callVv' (rest := []) E 0 fB_0_0 vcl_11 (c_X11_endSearch l hJ hq) F_X11_endSearch m_RX11_71 ⟨rfl, rfl⟩ ⟨Nat.le_of_ble_eq_true rfl, Nat.le_of_ble_eq_true rfl⟩ ⟨Nat.zero_le _, Nat.zero_le _⟩ rfl rfl (Nat.le_of_ble_eq_true rfl) dX11_act_83 (fun h10 hq => ?_)
              refine hp_aload_n E 0 dX11_act_86 rfl rfl ?_
              refine hp_gR E g_RX11_12 fB_0_0 dX11_act_87 ?_
              refine hp_gR E g_RX11_132 fB_1_4 dX11_act_90 ?_
              refine hp_iload_n E 1 dX11_act_93 rfl rfl ?_
              refine hp_iload_n E 2 dX11_act_94 rfl rfl ?_
              refine hp_iload_n E 3 dX11_act_95 rfl rfl ?_
              refine hp_iload E 4 dX11_act_96 rfl ?_
              refine hp_callVi' (rest := []) E 23 fB_23_0 vcl_9 (c_X9_addAct l hJ hq) F_X9_addAct m_RX11_151 ⟨rfl, rfl⟩ ⟨Nat.le_of_ble_eq_true rfl, Nat.le_of_ble_eq_true rfl⟩ ⟨Nat.zero_le _, Nat.zero_le _⟩ rfl rfl (Nat.le_of_ble_eq_true rfl) dX11_act_98 (fun r11 h12 hq => ?_)
              exact hp_iret E hq hZ dX11_act_101
            · replace hq := hq.1 c9
              refine hp_bipush E (-6) dX11_act_79 (by decide) ?_
              exact hp_iret E hq hZ dX11_act_81
          · replace hq := hq.2 c8
            refine hp_bipush E (-3) dX11_act_60 (by decide) ?_
            exact hp_iret E hq hZ dX11_act_62
        · replace hq := hq.1 c6
          refine hp_bipush E (-2) dX11_act_41 (by decide) ?_
          exact hp_iret E hq hZ dX11_act_43
    · replace hq := hq.2 c2
      refine hp_bipush E (-3) dX11_act_9 (by decide) ?_
      exact hp_iret E hq hZ dX11_act_11
theorem dX11_alike_0 : decode cX11_alike 0 = .ok (.aload_n 0, 1) := by decide +kernel
theorem dX11_alike_1 : decode cX11_alike 1 = .ok (.invokevirtual 71, 3) := by decide +kernel
theorem dX11_alike_4 : decode cX11_alike 4 = .ok (.aload_n 0, 1) := by decide +kernel
theorem dX11_alike_5 : decode cX11_alike 5 = .ok (.getfield 12, 3) := by decide +kernel
theorem dX11_alike_8 : decode cX11_alike 8 = .ok (.getfield 154, 3) := by decide +kernel
theorem dX11_alike_11 : decode cX11_alike 11 = .ok (.invokestatic 104, 3) := by decide +kernel
theorem dX11_alike_14 : decode cX11_alike 14 = .ok (.istore_n 2, 1) := by decide +kernel
theorem dX11_alike_15 : decode cX11_alike 15 = .ok (.aload_n 0, 1) := by decide +kernel
theorem dX11_alike_16 : decode cX11_alike 16 = .ok (.getfield 12, 3) := by decide +kernel
theorem dX11_alike_19 : decode cX11_alike 19 = .ok (.iload_n 1, 1) := by decide +kernel
theorem dX11_alike_20 : decode cX11_alike 20 = .ok (.putfield 154, 3) := by decide +kernel
theorem dX11_alike_23 : decode cX11_alike 23 = .ok (.iload_n 2, 1) := by decide +kernel
theorem dX11_alike_24 : decode cX11_alike 24 = .ok (.ireturn, 1) := by decide +kernel
set_option maxHeartbeats 4000000 in
set_option maxRecDepth 100000 in
theorem c_X11_alike (l : Launch) {cs : Nat → ClassId} {ad : Nat → Nat} {A : Nat → Prop} {D : va_G} (hJ : hp_J SB ad A)   {h : hp_H} {a1 : Int32} {Q : Int32 → hp_H → Prop} (hq : q_X11_alike h a1 Q) : hp_Mi l yX11_alike cX11_alike 3 (some .int) rm_X11_alike [.ref (ad 0), .int a1] SB cs ad A D h Q := by
  refine hp_met (own := RX11) rfl (by decide) (Nat.le_of_ble_eq_true rfl) rfl (fun p e s m args below meth c Z E hZ hnm => ?_)
  refine hp_sub (lv' := [(0, .ref (ad 0)), (1, .int a1)]) [0, 1] rfl ?_
  unfold q_X11_alike at hq
  refine hp_aload_n E 0 dX11_alike_0 rfl rfl ?_
  refine hp_callVv' (rest := []) E 0 fB_0_0 vcl_11 (c_X11_endSearch l hJ hq) F_X11_endSearch m_RX11_71 ⟨rfl, rfl⟩ ⟨Nat.le_of_ble_eq_true rfl, Nat.le_of_ble_eq_true rfl⟩ ⟨Nat.zero_le _, Nat.zero_le _⟩ rfl rfl (Nat.le_of_ble_eq_true rfl) dX11_alike_1 (fun h1 hq => ?_)
  refine hp_aload_n E 0 dX11_alike_4 rfl rfl ?_
  refine hp_gR E g_RX11_12 fB_0_0 dX11_alike_5 ?_
  refine hp_gI E g_RX11_154 fB_1_9 dX11_alike_8 ?_
  refine hp_callSip (rest := []) E (c_X11_asNumber l hJ hq) F_X11_asNumber m_RX11_104 ⟨rfl, rfl⟩ ⟨Nat.le_of_ble_eq_true rfl, Nat.le_of_ble_eq_true rfl⟩ ⟨Nat.zero_le _, Nat.zero_le _⟩ rfl rfl (Nat.le_of_ble_eq_true rfl) dX11_alike_11 (fun r2 hq => ?_)
  refine hp_istore_n (lv' := [(0, .ref (ad 0)), (1, .int a1), (2, .int r2)]) E dX11_alike_14 rfl (by decide) rfl rfl ?_
  refine hp_aload_n E 0 dX11_alike_15 rfl rfl ?_
  refine hp_gR E g_RX11_12 fB_0_0 dX11_alike_16 ?_
  refine hp_iload_n E 1 dX11_alike_19 rfl rfl ?_
  have hbz := hq.1
  replace hq := hq.2
  refine hp_pZ E p_RX11_154 fB_1_9 (by decide) hJ hbz dX11_alike_20 ?_
  refine hp_toph (fun h3 eh3 => ?_)
  replace hq := hq h3 eh3
  refine hp_iload_n E 2 dX11_alike_23 rfl rfl ?_
  exact hp_iret E hq hZ dX11_alike_24
theorem dX11_search_0 : decode cX11_search 0 = .ok (.aload_n 0, 1) := by decide +kernel
theorem dX11_search_1 : decode cX11_search 1 = .ok (.getfield 12, 3) := by decide +kernel
theorem dX11_search_4 : decode cX11_search 4 = .ok (.invokevirtual 158, 3) := by decide +kernel
theorem dX11_search_7 : decode cX11_search 7 = .ok (.ifCond .ne 6, 3) := by decide +kernel
theorem dX11_search_10 : decode cX11_search 10 = .ok (.bipush (-5), 2) := by decide +kernel
theorem dX11_search_12 : decode cX11_search 12 = .ok (.ireturn, 1) := by decide +kernel
theorem dX11_search_13 : decode cX11_search 13 = .ok (.aload_n 0, 1) := by decide +kernel
theorem dX11_search_14 : decode cX11_search 14 = .ok (.getfield 19, 3) := by decide +kernel
theorem dX11_search_17 : decode cX11_search 17 = .ok (.getfield 162, 3) := by decide +kernel
theorem dX11_search_20 : decode cX11_search 20 = .ok (.ifCond .ne 54, 3) := by decide +kernel
theorem dX11_search_23 : decode cX11_search 23 = .ok (.aload_n 0, 1) := by decide +kernel
theorem dX11_search_24 : decode cX11_search 24 = .ok (.getfield 28, 3) := by decide +kernel
theorem dX11_search_27 : decode cX11_search 27 = .ok (.invokevirtual 165, 3) := by decide +kernel
theorem dX11_search_30 : decode cX11_search 30 = .ok (.iconst 0, 1) := by decide +kernel
theorem dX11_search_31 : decode cX11_search 31 = .ok (.istore_n 1, 1) := by decide +kernel
theorem dX11_search_32 : decode cX11_search 32 = .ok (.iload_n 1, 1) := by decide +kernel
theorem dX11_search_33 : decode cX11_search 33 = .ok (.sipush 400, 3) := by decide +kernel
theorem dX11_search_36 : decode cX11_search 36 = .ok (.if_icmp .ge 38, 3) := by decide +kernel
theorem dX11_search_39 : decode cX11_search 39 = .ok (.iload_n 1, 1) := by decide +kernel
theorem dX11_search_40 : decode cX11_search 40 = .ok (.aload_n 0, 1) := by decide +kernel
theorem dX11_search_41 : decode cX11_search 41 = .ok (.getfield 19, 3) := by decide +kernel
theorem dX11_search_44 : decode cX11_search 44 = .ok (.getfield 168, 3) := by decide +kernel
theorem dX11_search_47 : decode cX11_search 47 = .ok (.if_icmp .ge 27, 3) := by decide +kernel
theorem dX11_search_50 : decode cX11_search 50 = .ok (.aload_n 0, 1) := by decide +kernel
theorem dX11_search_51 : decode cX11_search 51 = .ok (.getfield 19, 3) := by decide +kernel
theorem dX11_search_54 : decode cX11_search 54 = .ok (.getfield 171, 3) := by decide +kernel
theorem dX11_search_57 : decode cX11_search 57 = .ok (.ifCond .ne 17, 3) := by decide +kernel
theorem dX11_search_60 : decode cX11_search 60 = .ok (.aload_n 0, 1) := by decide +kernel
theorem dX11_search_61 : decode cX11_search 61 = .ok (.getfield 28, 3) := by decide +kernel
theorem dX11_search_64 : decode cX11_search 64 = .ok (.iload_n 1, 1) := by decide +kernel
theorem dX11_search_65 : decode cX11_search 65 = .ok (.invokevirtual 174, 3) := by decide +kernel
theorem dX11_search_68 : decode cX11_search 68 = .ok (.iinc 1 1, 3) := by decide +kernel
theorem dX11_search_71 : decode cX11_search 71 = .ok (.goto (-39), 3) := by decide +kernel
theorem dX11_search_74 : decode cX11_search 74 = .ok (.aload_n 0, 1) := by decide +kernel
theorem dX11_search_75 : decode cX11_search 75 = .ok (.getfield 19, 3) := by decide +kernel
theorem dX11_search_78 : decode cX11_search 78 = .ok (.getfield 171, 3) := by decide +kernel
theorem dX11_search_81 : decode cX11_search 81 = .ok (.ifCond .eq 8, 3) := by decide +kernel
theorem dX11_search_84 : decode cX11_search 84 = .ok (.bipush (-7), 2) := by decide +kernel
theorem dX11_search_86 : decode cX11_search 86 = .ok (.goto 10, 3) := by decide +kernel
theorem dX11_search_89 : decode cX11_search 89 = .ok (.aload_n 0, 1) := by decide +kernel
theorem dX11_search_90 : decode cX11_search 90 = .ok (.getfield 19, 3) := by decide +kernel
theorem dX11_search_93 : decode cX11_search 93 = .ok (.getfield 168, 3) := by decide +kernel
theorem dX11_search_96 : decode cX11_search 96 = .ok (.ireturn, 1) := by decide +kernel
set_option maxHeartbeats 4000000 in
set_option maxRecDepth 100000 in
theorem c_X11_search (l : Launch) {cs : Nat → ClassId} {ad : Nat → Nat} {A : Nat → Prop} {D : va_G} (hJ : hp_J SB ad A)   {h : hp_H} {Q : Int32 → hp_H → Prop} (hq : q_X11_search h Q) : hp_Mi l yX11_search cX11_search 2 (some .int) rm_X11_search [.ref (ad 0)] SB cs ad A D h Q := by
  refine hp_met (own := RX11) rfl (by decide) (Nat.le_of_ble_eq_true rfl) rfl (fun p e s m args below meth c Z E hZ hnm => ?_)
  refine hp_sub (lv' := [(0, .ref (ad 0))]) [0] rfl ?_
  unfold q_X11_search at hq
  refine hp_aload_n E 0 dX11_search_0 rfl rfl ?_
  refine hp_gR E g_RX11_12 fB_0_0 dX11_search_1 ?_
  refine hp_callVi' (rest := []) E 1 fB_1_0 vcl_4 (c_X4_isSearchable l hJ hq) F_X4_isSearchable m_RX11_158 ⟨rfl, rfl⟩ ⟨Nat.le_of_ble_eq_true rfl, Nat.le_of_ble_eq_true rfl⟩ ⟨Nat.zero_le _, Nat.zero_le _⟩ rfl rfl (Nat.le_of_ble_eq_true rfl) dX11_search_4 (fun r1 h2 hq => ?_)
  refine hp_if_ne E 13 dX11_search_7 (by decide) (fun c3 => ?_) (fun c3 => ?_)
  · replace hq := hq.2 c3
    refine hp_aload_n E 0 dX11_search_13 rfl rfl ?_
    refine hp_gR E g_RX11_19 fB_0_1 dX11_search_14 ?_
    refine hp_gI E g_RX11_162 fB_35_0 dX11_search_17 ?_
    obtain ⟨K5, hq, hK5⟩ := hq
    have jK5 : ∀  (h6 : hp_H), K5 h6 → hp_G p l e rm_X11_search s m args below meth c SB cs ad A D 2 0 0 Z 74 [(0, .ref (ad 0))] [] h6 := by
      intro h6 hq
      replace hq := hK5 h6 hq
      refine hp_aload_n E 0 dX11_search_74 rfl rfl ?_
      refine hp_gR E g_RX11_19 fB_0_1 dX11_search_75 ?_
      refine hp_gI E g_RX11_171 fB_35_1 dX11_search_78 ?_
      refine hp_if_eq E 89 dX11_search_81 (by decide) (fun c16 => ?_) (fun c16 => ?_)
      · replace hq := hq.1 c16
        refine hp_aload_n E 0 dX11_search_89 rfl rfl ?_
        refine hp_gR E g_RX11_19 fB_0_1 dX11_search_90 ?_
        refine hp_gI E g_RX11_168 fB_35_2 dX11_search_93 ?_
        exact hp_iret E hq hZ dX11_search_96
      · replace hq := hq.2 c16
        refine hp_bipush E (-7) dX11_search_84 (by decide) ?_
        refine hp_goto E 96 dX11_search_86 (by decide) ?_
        exact hp_iret E hq hZ dX11_search_96
    refine hp_if_ne E 74 dX11_search_20 (by decide) (fun c4 => ?_) (fun c4 => ?_)
    · replace hq := hq.2 c4
      exact jK5 _ hq
    · replace hq := hq.1 c4
      refine hp_aload_n E 0 dX11_search_23 rfl rfl ?_
      refine hp_gR E g_RX11_28 fB_0_2 dX11_search_24 ?_
      refine hp_callVv' (rest := []) E 44 fB_44_0 vcl_8 (c_X8_start l hJ hq) F_X8_start m_RX11_165 ⟨rfl, rfl⟩ ⟨Nat.le_of_ble_eq_true rfl, Nat.le_of_ble_eq_true rfl⟩ ⟨Nat.zero_le _, Nat.zero_le _⟩ rfl rfl (Nat.le_of_ble_eq_true rfl) dX11_search_27 (fun h7 hq => ?_)
      refine hp_iconst E (nI 0) dX11_search_30 (by decide) ?_
      refine hp_istore_n (lv' := [(0, .ref (ad 0)), (1, .int (nI 0))]) E dX11_search_31 rfl (by decide) rfl rfl ?_
      refine hq (fun v9 h10 => hp_G p l e rm_X11_search s m args below meth c SB cs ad A D 2 0 0 Z 32 [(0, .ref (ad 0)), (1, .int v9)] [] h10) (fun v9 h10 hB => ?_)
      obtain ⟨B8, hq, hB8⟩ := hB
      refine hp_iload_n E 1 dX11_search_32 rfl rfl ?_
      refine hp_sipush E (nI 400) dX11_search_33 (by decide) ?_
      refine hp_icmp_ge E 74 dX11_search_36 (by decide) (fun c11 => ?_) (fun c11 => ?_)
      · replace hq := hq.1 c11
        refine hp_sub (lv' := [(0, .ref (ad 0))]) [0] rfl ?_
        exact jK5 _ hq
      · replace hq := hq.2 c11
        refine hp_iload_n E 1 dX11_search_39 rfl rfl ?_
        refine hp_aload_n E 0 dX11_search_40 rfl rfl ?_
        refine hp_gR E g_RX11_19 fB_0_1 dX11_search_41 ?_
        refine hp_gI E g_RX11_168 fB_35_2 dX11_search_44 ?_
        refine hp_icmp_ge E 74 dX11_search_47 (by decide) (fun c12 => ?_) (fun c12 => ?_)
        · replace hq := hq.1 c12
          refine hp_sub (lv' := [(0, .ref (ad 0))]) [0] rfl ?_
          exact jK5 _ hq
        · replace hq := hq.2 c12
          refine hp_aload_n E 0 dX11_search_50 rfl rfl ?_
          refine hp_gR E g_RX11_19 fB_0_1 dX11_search_51 ?_
          refine hp_gI E g_RX11_171 fB_35_1 dX11_search_54 ?_
          refine hp_if_ne E 74 dX11_search_57 (by decide) (fun c13 => ?_) (fun c13 => ?_)
          · replace hq := hq.2 c13
            refine hp_sub (lv' := [(0, .ref (ad 0))]) [0] rfl ?_
            exact jK5 _ hq
          · replace hq := hq.1 c13
            refine hp_aload_n E 0 dX11_search_60 rfl rfl ?_
            refine hp_gR E g_RX11_28 fB_0_2 dX11_search_61 ?_
            refine hp_iload_n E 1 dX11_search_64 rfl rfl ?_
            refine hp_callVv' (rest := []) E 44 fB_44_0 vcl_8 (c_X8_goThrough l hJ hq) F_X8_goThrough m_RX11_174 ⟨rfl, rfl⟩ ⟨Nat.le_of_ble_eq_true rfl, Nat.le_of_ble_eq_true rfl⟩ ⟨Nat.zero_le _, Nat.zero_le _⟩ rfl rfl (Nat.le_of_ble_eq_true rfl) dX11_search_65 (fun h14 hq => ?_)
            obtain ⟨v15, ev15⟩ : ∃ z : Int32, z = v9 + (nI 1) := ⟨_, rfl⟩
            replace hq := hq v15 ev15
            refine hp_iinc (lv' := [(0, .ref (ad 0)), (1, .int v15)]) E 1 v15 dX11_search_68 rfl (by rw [ev15]; rfl) (by decide) rfl rfl ?_
            refine hp_goto E 32 dX11_search_71 (by decide) ?_
            exact hB8 _ _ hq
  · replace hq := hq.1 c3
    refine hp_bipush E (-5) dX11_search_10 (by decide) ?_
    exact hp_iret E hq hZ dX11_search_12
theorem dX11_tells_0 : decode cX11_tells 0 = .ok (.aload_n 0, 1) := by decide +kernel
theorem dX11_tells_1 : decode cX11_tells 1 = .ok (.getfield 19, 3) := by decide +kernel
theorem dX11_tells_4 : decode cX11_tells 4 = .ok (.iload_n 1, 1) := by decide +kernel
theorem dX11_tells_5 : decode cX11_tells 5 = .ok (.invokevirtual 178, 3) := by decide +kernel
theorem dX11_tells_8 : decode cX11_tells 8 = .ok (.ifCond .eq 31, 3) := by decide +kernel
theorem dX11_tells_11 : decode cX11_tells 11 = .ok (.aload_n 0, 1) := by decide +kernel
theorem dX11_tells_12 : decode cX11_tells 12 = .ok (.getfield 12, 3) := by decide +kernel
theorem dX11_tells_15 : decode cX11_tells 15 = .ok (.getfield 123, 3) := by decide +kernel
theorem dX11_tells_18 : decode cX11_tells 18 = .ok (.iload_n 2, 1) := by decide +kernel
theorem dX11_tells_19 : decode cX11_tells 19 = .ok (.invokevirtual 131, 3) := by decide +kernel
theorem dX11_tells_22 : decode cX11_tells 22 = .ok (.ifCond .eq 17, 3) := by decide +kernel
theorem dX11_tells_25 : decode cX11_tells 25 = .ok (.aload_n 0, 1) := by decide +kernel
theorem dX11_tells_26 : decode cX11_tells 26 = .ok (.getfield 12, 3) := by decide +kernel
theorem dX11_tells_29 : decode cX11_tells 29 = .ok (.getfield 123, 3) := by decide +kernel
theorem dX11_tells_32 : decode cX11_tells 32 = .ok (.iload_n 2, 1) := by decide +kernel
theorem dX11_tells_33 : decode cX11_tells 33 = .ok (.invokevirtual 179, 3) := by decide +kernel
theorem dX11_tells_36 : decode cX11_tells 36 = .ok (.ifCond .eq 6, 3) := by decide +kernel
theorem dX11_tells_39 : decode cX11_tells 39 = .ok (.ldc 182, 2) := by decide +kernel
theorem dX11_tells_41 : decode cX11_tells 41 = .ok (.ireturn, 1) := by decide +kernel
theorem dX11_tells_42 : decode cX11_tells 42 = .ok (.aload_n 0, 1) := by decide +kernel
theorem dX11_tells_43 : decode cX11_tells 43 = .ok (.getfield 35, 3) := by decide +kernel
theorem dX11_tells_46 : decode cX11_tells 46 = .ok (.iload_n 2, 1) := by decide +kernel
theorem dX11_tells_47 : decode cX11_tells 47 = .ok (.invokevirtual 183, 3) := by decide +kernel
theorem dX11_tells_50 : decode cX11_tells 50 = .ok (.aload_n 0, 1) := by decide +kernel
theorem dX11_tells_51 : decode cX11_tells 51 = .ok (.getfield 35, 3) := by decide +kernel
theorem dX11_tells_54 : decode cX11_tells 54 = .ok (.iload_n 1, 1) := by decide +kernel
theorem dX11_tells_55 : decode cX11_tells 55 = .ok (.invokevirtual 186, 3) := by decide +kernel
theorem dX11_tells_58 : decode cX11_tells 58 = .ok (.aload_n 0, 1) := by decide +kernel
theorem dX11_tells_59 : decode cX11_tells 59 = .ok (.getfield 35, 3) := by decide +kernel
theorem dX11_tells_62 : decode cX11_tells 62 = .ok (.iload_n 2, 1) := by decide +kernel
theorem dX11_tells_63 : decode cX11_tells 63 = .ok (.invokevirtual 189, 3) := by decide +kernel
theorem dX11_tells_66 : decode cX11_tells 66 = .ok (.ireturn, 1) := by decide +kernel
set_option maxHeartbeats 4000000 in
set_option maxRecDepth 100000 in
theorem c_X11_tells (l : Launch) {cs : Nat → ClassId} {ad : Nat → Nat} {A : Nat → Prop} {D : va_G} (hJ : hp_J SB ad A)   {h : hp_H} {a1 a2 : Int32} {Q : Int32 → hp_H → Prop} (hq : q_X11_tells h a1 a2 Q) : hp_Mi l yX11_tells cX11_tells 3 (some .int) rm_X11_tells [.ref (ad 0), .int a1, .int a2] SB cs ad A D h Q := by
  refine hp_met (own := RX11) rfl (by decide) (Nat.le_of_ble_eq_true rfl) rfl (fun p e s m args below meth c Z E hZ hnm => ?_)
  refine hp_sub (lv' := [(0, .ref (ad 0)), (1, .int a1), (2, .int a2)]) [0, 1, 2] rfl ?_
  unfold q_X11_tells at hq
  refine hp_aload_n E 0 dX11_tells_0 rfl rfl ?_
  refine hp_gR E g_RX11_19 fB_0_1 dX11_tells_1 ?_
  refine hp_iload_n E 1 dX11_tells_4 rfl rfl ?_
  refine hp_callVip (rest := []) E 35 fB_35_0 vcl_2 (c_X2_has l hJ hq) F_X2_has m_RX11_178 ⟨rfl, rfl⟩ ⟨Nat.le_of_ble_eq_true rfl, Nat.le_of_ble_eq_true rfl⟩ ⟨Nat.zero_le _, Nat.zero_le _⟩ rfl rfl (Nat.le_of_ble_eq_true rfl) dX11_tells_5 (fun r1 hq => ?_)
  refine hp_if_eq E 39 dX11_tells_8 (by decide) (fun c2 => ?_) (fun c2 => ?_)
  · replace hq := hq.1 c2
    refine hp_ldc E (-2147483648) m_RX11_182 dX11_tells_39 ?_
    exact hp_iret E hq hZ dX11_tells_41
  · replace hq := hq.2 c2
    refine hp_aload_n E 0 dX11_tells_11 rfl rfl ?_
    refine hp_gR E g_RX11_12 fB_0_0 dX11_tells_12 ?_
    refine hp_gR E g_RX11_123 fB_1_3 dX11_tells_15 ?_
    refine hp_iload_n E 2 dX11_tells_18 rfl rfl ?_
    refine hp_callVip (rest := []) E 15 fB_15_0 vcl_1 (c_X1_has l hJ hq) F_X1_has m_RX11_131 ⟨rfl, rfl⟩ ⟨Nat.le_of_ble_eq_true rfl, Nat.le_of_ble_eq_true rfl⟩ ⟨Nat.zero_le _, Nat.zero_le _⟩ rfl rfl (Nat.le_of_ble_eq_true rfl) dX11_tells_19 (fun r3 hq => ?_)
    refine hp_if_eq E 39 dX11_tells_22 (by decide) (fun c4 => ?_) (fun c4 => ?_)
    · replace hq := hq.1 c4
      refine hp_ldc E (-2147483648) m_RX11_182 dX11_tells_39 ?_
      exact hp_iret E hq hZ dX11_tells_41
    · replace hq := hq.2 c4
      refine hp_aload_n E 0 dX11_tells_25 rfl rfl ?_
      refine hp_gR E g_RX11_12 fB_0_0 dX11_tells_26 ?_
      refine hp_gR E g_RX11_123 fB_1_3 dX11_tells_29 ?_
      refine hp_iload_n E 2 dX11_tells_32 rfl rfl ?_
      refine hp_callVip (rest := []) E 15 fB_15_0 vcl_1 (c_X1_isOwned l hJ hq) F_X1_isOwned m_RX11_179 ⟨rfl, rfl⟩ ⟨Nat.le_of_ble_eq_true rfl, Nat.le_of_ble_eq_true rfl⟩ ⟨Nat.zero_le _, Nat.zero_le _⟩ rfl rfl (Nat.le_of_ble_eq_true rfl) dX11_tells_33 (fun r5 hq => ?_)
      refine hp_if_eq E 42 dX11_tells_36 (by decide) (fun c6 => ?_) (fun c6 => ?_)
      · replace hq := hq.1 c6
        refine hp_aload_n E 0 dX11_tells_42 rfl rfl ?_
        refine hp_gR E g_RX11_35 fB_0_3 dX11_tells_43 ?_
        refine hp_iload_n E 2 dX11_tells_46 rfl rfl ?_
        refine hp_callVv' (rest := []) E 50 fB_50_0 vcl_5 (c_X5_ask l hJ hq) F_X5_ask m_RX11_183 ⟨rfl, rfl⟩ ⟨Nat.le_of_ble_eq_true rfl, Nat.le_of_ble_eq_true rfl⟩ ⟨Nat.zero_le _, Nat.zero_le _⟩ rfl rfl (Nat.le_of_ble_eq_true rfl) dX11_tells_47 (fun h7 hq => ?_)
        refine hp_aload_n E 0 dX11_tells_50 rfl rfl ?_
        refine hp_gR E g_RX11_35 fB_0_3 dX11_tells_51 ?_
        refine hp_iload_n E 1 dX11_tells_54 rfl rfl ?_
        refine hp_callVv' (rest := []) E 50 fB_50_0 vcl_5 (c_X5_lookAt l hJ hq) F_X5_lookAt m_RX11_186 ⟨rfl, rfl⟩ ⟨Nat.le_of_ble_eq_true rfl, Nat.le_of_ble_eq_true rfl⟩ ⟨Nat.zero_le _, Nat.zero_le _⟩ rfl rfl (Nat.le_of_ble_eq_true rfl) dX11_tells_55 (fun h8 hq => ?_)
        refine hp_aload_n E 0 dX11_tells_58 rfl rfl ?_
        refine hp_gR E g_RX11_35 fB_0_3 dX11_tells_59 ?_
        refine hp_iload_n E 2 dX11_tells_62 rfl rfl ?_
        refine hp_callVip (rest := []) E 50 fB_50_0 vcl_5 (c_X5_answer l hJ hq) F_X5_answer m_RX11_189 ⟨rfl, rfl⟩ ⟨Nat.le_of_ble_eq_true rfl, Nat.le_of_ble_eq_true rfl⟩ ⟨Nat.zero_le _, Nat.zero_le _⟩ rfl rfl (Nat.le_of_ble_eq_true rfl) dX11_tells_63 (fun r9 hq => ?_)
        exact hp_iret E hq hZ dX11_tells_66
      · replace hq := hq.2 c6
        refine hp_ldc E (-2147483648) m_RX11_182 dX11_tells_39 ?_
        exact hp_iret E hq hZ dX11_tells_41
theorem dX11_place_0 : decode cX11_place 0 = .ok (.aload_n 0, 1) := by decide +kernel
theorem dX11_place_1 : decode cX11_place 1 = .ok (.getfield 19, 3) := by decide +kernel
theorem dX11_place_4 : decode cX11_place 4 = .ok (.invokevirtual 192, 3) := by decide +kernel
theorem dX11_place_7 : decode cX11_place 7 = .ok (.ifCond .ne 6, 3) := by decide +kernel
theorem dX11_place_10 : decode cX11_place 10 = .ok (.bipush (-5), 2) := by decide +kernel
theorem dX11_place_12 : decode cX11_place 12 = .ok (.ireturn, 1) := by decide +kernel
theorem dX11_place_13 : decode cX11_place 13 = .ok (.aload_n 0, 1) := by decide +kernel
theorem dX11_place_14 : decode cX11_place 14 = .ok (.getfield 19, 3) := by decide +kernel
theorem dX11_place_17 : decode cX11_place 17 = .ok (.iload_n 1, 1) := by decide +kernel
theorem dX11_place_18 : decode cX11_place 18 = .ok (.invokevirtual 178, 3) := by decide +kernel
theorem dX11_place_21 : decode cX11_place 21 = .ok (.ifCond .eq 18, 3) := by decide +kernel
theorem dX11_place_24 : decode cX11_place 24 = .ok (.aload_n 0, 1) := by decide +kernel
theorem dX11_place_25 : decode cX11_place 25 = .ok (.getfield 12, 3) := by decide +kernel
theorem dX11_place_28 : decode cX11_place 28 = .ok (.getfield 78, 3) := by decide +kernel
theorem dX11_place_31 : decode cX11_place 31 = .ok (.iload_n 2, 1) := by decide +kernel
theorem dX11_place_32 : decode cX11_place 32 = .ok (.iload_n 3, 1) := by decide +kernel
theorem dX11_place_33 : decode cX11_place 33 = .ok (.invokevirtual 195, 3) := by decide +kernel
theorem dX11_place_36 : decode cX11_place 36 = .ok (.ifCond .ne 6, 3) := by decide +kernel
theorem dX11_place_39 : decode cX11_place 39 = .ok (.bipush (-2), 2) := by decide +kernel
theorem dX11_place_41 : decode cX11_place 41 = .ok (.ireturn, 1) := by decide +kernel
theorem dX11_place_42 : decode cX11_place 42 = .ok (.aload_n 0, 1) := by decide +kernel
theorem dX11_place_43 : decode cX11_place 43 = .ok (.getfield 35, 3) := by decide +kernel
theorem dX11_place_46 : decode cX11_place 46 = .ok (.iload_n 1, 1) := by decide +kernel
theorem dX11_place_47 : decode cX11_place 47 = .ok (.invokevirtual 198, 3) := by decide +kernel
theorem dX11_place_50 : decode cX11_place 50 = .ok (.iload_n 2, 1) := by decide +kernel
theorem dX11_place_51 : decode cX11_place 51 = .ok (.iload_n 3, 1) := by decide +kernel
theorem dX11_place_52 : decode cX11_place 52 = .ok (.invokevirtual 202, 3) := by decide +kernel
theorem dX11_place_55 : decode cX11_place 55 = .ok (.ireturn, 1) := by decide +kernel
set_option maxHeartbeats 4000000 in
set_option maxRecDepth 100000 in
theorem c_X11_place (l : Launch) {cs : Nat → ClassId} {ad : Nat → Nat} {A : Nat → Prop} {D : va_G} (hJ : hp_J SB ad A)   {h : hp_H} {a1 a2 a3 : Int32} {Q : Int32 → hp_H → Prop} (hq : q_X11_place h a1 a2 a3 Q) : hp_Mi l yX11_place cX11_place 4 (some .int) rm_X11_place [.ref (ad 0), .int a1, .int a2, .int a3] SB cs ad A D h Q := by
  refine hp_met (own := RX11) rfl (by decide) (Nat.le_of_ble_eq_true rfl) rfl (fun p e s m args below meth c Z E hZ hnm => ?_)
  refine hp_sub (lv' := [(0, .ref (ad 0)), (1, .int a1), (2, .int a2), (3, .int a3)]) [0, 1, 2, 3] rfl ?_
  unfold q_X11_place at hq
  refine hp_aload_n E 0 dX11_place_0 rfl rfl ?_
  refine hp_gR E g_RX11_19 fB_0_1 dX11_place_1 ?_
  refine hp_callVip (rest := []) E 35 fB_35_0 vcl_2 (c_X2_isUsable l hJ hq) F_X2_isUsable m_RX11_192 ⟨rfl, rfl⟩ ⟨Nat.le_of_ble_eq_true rfl, Nat.le_of_ble_eq_true rfl⟩ ⟨Nat.zero_le _, Nat.zero_le _⟩ rfl rfl (Nat.le_of_ble_eq_true rfl) dX11_place_4 (fun r1 hq => ?_)
  refine hp_if_ne E 13 dX11_place_7 (by decide) (fun c2 => ?_) (fun c2 => ?_)
  · replace hq := hq.2 c2
    refine hp_aload_n E 0 dX11_place_13 rfl rfl ?_
    refine hp_gR E g_RX11_19 fB_0_1 dX11_place_14 ?_
    refine hp_iload_n E 1 dX11_place_17 rfl rfl ?_
    refine hp_callVip (rest := []) E 35 fB_35_0 vcl_2 (c_X2_has l hJ hq) F_X2_has m_RX11_178 ⟨rfl, rfl⟩ ⟨Nat.le_of_ble_eq_true rfl, Nat.le_of_ble_eq_true rfl⟩ ⟨Nat.zero_le _, Nat.zero_le _⟩ rfl rfl (Nat.le_of_ble_eq_true rfl) dX11_place_18 (fun r3 hq => ?_)
    refine hp_if_eq E 39 dX11_place_21 (by decide) (fun c4 => ?_) (fun c4 => ?_)
    · replace hq := hq.1 c4
      refine hp_bipush E (-2) dX11_place_39 (by decide) ?_
      exact hp_iret E hq hZ dX11_place_41
    · replace hq := hq.2 c4
      refine hp_aload_n E 0 dX11_place_24 rfl rfl ?_
      refine hp_gR E g_RX11_12 fB_0_0 dX11_place_25 ?_
      refine hp_gR E g_RX11_78 fB_1_2 dX11_place_28 ?_
      refine hp_iload_n E 2 dX11_place_31 rfl rfl ?_
      refine hp_iload_n E 3 dX11_place_32 rfl rfl ?_
      refine hp_callVip (rest := []) E 12 fB_12_0 vcl_6 (c_X6_hasMember l hJ hq) F_X6_hasMember m_RX11_195 ⟨rfl, rfl⟩ ⟨Nat.le_of_ble_eq_true rfl, Nat.le_of_ble_eq_true rfl⟩ ⟨Nat.zero_le _, Nat.zero_le _⟩ rfl rfl (Nat.le_of_ble_eq_true rfl) dX11_place_33 (fun r5 hq => ?_)
      refine hp_if_ne E 42 dX11_place_36 (by decide) (fun c6 => ?_) (fun c6 => ?_)
      · replace hq := hq.2 c6
        refine hp_aload_n E 0 dX11_place_42 rfl rfl ?_
        refine hp_gR E g_RX11_35 fB_0_3 dX11_place_43 ?_
        refine hp_iload_n E 1 dX11_place_46 rfl rfl ?_
        refine hp_callVr' (rest := []) E 50 fB_50_0 vcl_5 (c_X5_rowOf l hJ hq) F_X5_rowOf m_RX11_198 ⟨rfl, rfl⟩ ⟨Nat.le_of_ble_eq_true rfl, Nat.le_of_ble_eq_true rfl⟩ ⟨Nat.zero_le _, Nat.zero_le _⟩ rfl rfl (Nat.le_of_ble_eq_true rfl) dX11_place_47 (fun h7 hq => ?_)
        refine hp_iload_n E 2 dX11_place_50 rfl rfl ?_
        refine hp_iload_n E 3 dX11_place_51 rfl rfl ?_
        refine hp_callVip (rest := []) E 51 fB_51_0 vcl_7 (c_X7_placeOf l hJ fB_51_0 aB_52 zB_52 hq) F_X7_placeOf m_RX11_202 ⟨rfl, rfl⟩ ⟨Nat.le_of_ble_eq_true rfl, Nat.le_of_ble_eq_true rfl⟩ ⟨Nat.zero_le _, Nat.zero_le _⟩ rfl rfl (Nat.le_of_ble_eq_true rfl) dX11_place_52 (fun r8 hq => ?_)
        exact hp_iret E hq hZ dX11_place_55
      · replace hq := hq.1 c6
        refine hp_bipush E (-2) dX11_place_39 (by decide) ?_
        exact hp_iret E hq hZ dX11_place_41
  · replace hq := hq.1 c2
    refine hp_bipush E (-5) dX11_place_10 (by decide) ?_
    exact hp_iret E hq hZ dX11_place_12
theorem dX11_owned_0 : decode cX11_owned 0 = .ok (.aload_n 0, 1) := by decide +kernel
theorem dX11_owned_1 : decode cX11_owned 1 = .ok (.getfield 19, 3) := by decide +kernel
theorem dX11_owned_4 : decode cX11_owned 4 = .ok (.invokevirtual 192, 3) := by decide +kernel
theorem dX11_owned_7 : decode cX11_owned 7 = .ok (.ifCond .ne 6, 3) := by decide +kernel
theorem dX11_owned_10 : decode cX11_owned 10 = .ok (.bipush (-5), 2) := by decide +kernel
theorem dX11_owned_12 : decode cX11_owned 12 = .ok (.ireturn, 1) := by decide +kernel
theorem dX11_owned_13 : decode cX11_owned 13 = .ok (.aload_n 0, 1) := by decide +kernel
theorem dX11_owned_14 : decode cX11_owned 14 = .ok (.getfield 19, 3) := by decide +kernel
theorem dX11_owned_17 : decode cX11_owned 17 = .ok (.iload_n 1, 1) := by decide +kernel
theorem dX11_owned_18 : decode cX11_owned 18 = .ok (.invokevirtual 178, 3) := by decide +kernel
theorem dX11_owned_21 : decode cX11_owned 21 = .ok (.ifCond .eq 34, 3) := by decide +kernel
theorem dX11_owned_24 : decode cX11_owned 24 = .ok (.aload_n 0, 1) := by decide +kernel
theorem dX11_owned_25 : decode cX11_owned 25 = .ok (.getfield 12, 3) := by decide +kernel
theorem dX11_owned_28 : decode cX11_owned 28 = .ok (.getfield 78, 3) := by decide +kernel
theorem dX11_owned_31 : decode cX11_owned 31 = .ok (.iload_n 2, 1) := by decide +kernel
theorem dX11_owned_32 : decode cX11_owned 32 = .ok (.iload_n 3, 1) := by decide +kernel
theorem dX11_owned_33 : decode cX11_owned 33 = .ok (.invokevirtual 195, 3) := by decide +kernel
theorem dX11_owned_36 : decode cX11_owned 36 = .ok (.ifCond .eq 19, 3) := by decide +kernel
theorem dX11_owned_39 : decode cX11_owned 39 = .ok (.aload_n 0, 1) := by decide +kernel
theorem dX11_owned_40 : decode cX11_owned 40 = .ok (.getfield 12, 3) := by decide +kernel
theorem dX11_owned_43 : decode cX11_owned 43 = .ok (.getfield 94, 3) := by decide +kernel
theorem dX11_owned_46 : decode cX11_owned 46 = .ok (.iload_n 2, 1) := by decide +kernel
theorem dX11_owned_47 : decode cX11_owned 47 = .ok (.iload 4, 2) := by decide +kernel
theorem dX11_owned_49 : decode cX11_owned 49 = .ok (.invokevirtual 208, 3) := by decide +kernel
theorem dX11_owned_52 : decode cX11_owned 52 = .ok (.ifCond .ne 6, 3) := by decide +kernel
theorem dX11_owned_55 : decode cX11_owned 55 = .ok (.bipush (-2), 2) := by decide +kernel
theorem dX11_owned_57 : decode cX11_owned 57 = .ok (.ireturn, 1) := by decide +kernel
theorem dX11_owned_58 : decode cX11_owned 58 = .ok (.aload_n 0, 1) := by decide +kernel
theorem dX11_owned_59 : decode cX11_owned 59 = .ok (.getfield 35, 3) := by decide +kernel
theorem dX11_owned_62 : decode cX11_owned 62 = .ok (.iload_n 1, 1) := by decide +kernel
theorem dX11_owned_63 : decode cX11_owned 63 = .ok (.invokevirtual 198, 3) := by decide +kernel
theorem dX11_owned_66 : decode cX11_owned 66 = .ok (.iload_n 2, 1) := by decide +kernel
theorem dX11_owned_67 : decode cX11_owned 67 = .ok (.iload_n 3, 1) := by decide +kernel
theorem dX11_owned_68 : decode cX11_owned 68 = .ok (.iload 4, 2) := by decide +kernel
theorem dX11_owned_70 : decode cX11_owned 70 = .ok (.invokevirtual 210, 3) := by decide +kernel
theorem dX11_owned_73 : decode cX11_owned 73 = .ok (.ireturn, 1) := by decide +kernel
set_option maxHeartbeats 4000000 in
set_option maxRecDepth 100000 in
theorem c_X11_owned (l : Launch) {cs : Nat → ClassId} {ad : Nat → Nat} {A : Nat → Prop} {D : va_G} (hJ : hp_J SB ad A)   {h : hp_H} {a1 a2 a3 a4 : Int32} {Q : Int32 → hp_H → Prop} (hq : q_X11_owned h a1 a2 a3 a4 Q) : hp_Mi l yX11_owned cX11_owned 5 (some .int) rm_X11_owned [.ref (ad 0), .int a1, .int a2, .int a3, .int a4] SB cs ad A D h Q := by
  refine hp_met (own := RX11) rfl (by decide) (Nat.le_of_ble_eq_true rfl) rfl (fun p e s m args below meth c Z E hZ hnm => ?_)
  refine hp_sub (lv' := [(0, .ref (ad 0)), (1, .int a1), (2, .int a2), (3, .int a3), (4, .int a4)]) [0, 1, 2, 3, 4] rfl ?_
  unfold q_X11_owned at hq
  refine hp_aload_n E 0 dX11_owned_0 rfl rfl ?_
  refine hp_gR E g_RX11_19 fB_0_1 dX11_owned_1 ?_
  refine hp_callVip (rest := []) E 35 fB_35_0 vcl_2 (c_X2_isUsable l hJ hq) F_X2_isUsable m_RX11_192 ⟨rfl, rfl⟩ ⟨Nat.le_of_ble_eq_true rfl, Nat.le_of_ble_eq_true rfl⟩ ⟨Nat.zero_le _, Nat.zero_le _⟩ rfl rfl (Nat.le_of_ble_eq_true rfl) dX11_owned_4 (fun r1 hq => ?_)
  refine hp_if_ne E 13 dX11_owned_7 (by decide) (fun c2 => ?_) (fun c2 => ?_)
  · replace hq := hq.2 c2
    refine hp_aload_n E 0 dX11_owned_13 rfl rfl ?_
    refine hp_gR E g_RX11_19 fB_0_1 dX11_owned_14 ?_
    refine hp_iload_n E 1 dX11_owned_17 rfl rfl ?_
    refine hp_callVip (rest := []) E 35 fB_35_0 vcl_2 (c_X2_has l hJ hq) F_X2_has m_RX11_178 ⟨rfl, rfl⟩ ⟨Nat.le_of_ble_eq_true rfl, Nat.le_of_ble_eq_true rfl⟩ ⟨Nat.zero_le _, Nat.zero_le _⟩ rfl rfl (Nat.le_of_ble_eq_true rfl) dX11_owned_18 (fun r3 hq => ?_)
    refine hp_if_eq E 55 dX11_owned_21 (by decide) (fun c4 => ?_) (fun c4 => ?_)
    · replace hq := hq.1 c4
      refine hp_bipush E (-2) dX11_owned_55 (by decide) ?_
      exact hp_iret E hq hZ dX11_owned_57
    · replace hq := hq.2 c4
      refine hp_aload_n E 0 dX11_owned_24 rfl rfl ?_
      refine hp_gR E g_RX11_12 fB_0_0 dX11_owned_25 ?_
      refine hp_gR E g_RX11_78 fB_1_2 dX11_owned_28 ?_
      refine hp_iload_n E 2 dX11_owned_31 rfl rfl ?_
      refine hp_iload_n E 3 dX11_owned_32 rfl rfl ?_
      refine hp_callVip (rest := []) E 12 fB_12_0 vcl_6 (c_X6_hasMember l hJ hq) F_X6_hasMember m_RX11_195 ⟨rfl, rfl⟩ ⟨Nat.le_of_ble_eq_true rfl, Nat.le_of_ble_eq_true rfl⟩ ⟨Nat.zero_le _, Nat.zero_le _⟩ rfl rfl (Nat.le_of_ble_eq_true rfl) dX11_owned_33 (fun r5 hq => ?_)
      refine hp_if_eq E 55 dX11_owned_36 (by decide) (fun c6 => ?_) (fun c6 => ?_)
      · replace hq := hq.1 c6
        refine hp_bipush E (-2) dX11_owned_55 (by decide) ?_
        exact hp_iret E hq hZ dX11_owned_57
      · replace hq := hq.2 c6
        refine hp_aload_n E 0 dX11_owned_39 rfl rfl ?_
        refine hp_gR E g_RX11_12 fB_0_0 dX11_owned_40 ?_
        refine hp_gR E g_RX11_94 fB_1_1 dX11_owned_43 ?_
        refine hp_iload_n E 2 dX11_owned_46 rfl rfl ?_
        refine hp_iload E 4 dX11_owned_47 rfl ?_
        refine hp_callVip (rest := []) E 7 fB_7_0 vcl_10 (c_X10_has l hJ fB_7_0 fB_7_1 fB_7_2 fB_7_3 fB_7_4 aB_8 aB_9 aB_10 aB_11 zB_8 zB_9 zB_10 zB_11 hq) F_X10_has m_RX11_208 ⟨rfl, rfl⟩ ⟨Nat.le_of_ble_eq_true rfl, Nat.le_of_ble_eq_true rfl⟩ ⟨Nat.zero_le _, Nat.zero_le _⟩ rfl rfl (Nat.le_of_ble_eq_true rfl) dX11_owned_49 (fun r7 hq => ?_)
        refine hp_if_ne E 58 dX11_owned_52 (by decide) (fun c8 => ?_) (fun c8 => ?_)
        · replace hq := hq.2 c8
          refine hp_aload_n E 0 dX11_owned_58 rfl rfl ?_
          refine hp_gR E g_RX11_35 fB_0_3 dX11_owned_59 ?_
          refine hp_iload_n E 1 dX11_owned_62 rfl rfl ?_
          refine hp_callVr' (rest := []) E 50 fB_50_0 vcl_5 (c_X5_rowOf l hJ hq) F_X5_rowOf m_RX11_198 ⟨rfl, rfl⟩ ⟨Nat.le_of_ble_eq_true rfl, Nat.le_of_ble_eq_true rfl⟩ ⟨Nat.zero_le _, Nat.zero_le _⟩ rfl rfl (Nat.le_of_ble_eq_true rfl) dX11_owned_63 (fun h9 hq => ?_)
          refine hp_iload_n E 2 dX11_owned_66 rfl rfl ?_
          refine hp_iload_n E 3 dX11_owned_67 rfl rfl ?_
          refine hp_iload E 4 dX11_owned_68 rfl ?_
          refine hp_callVip (rest := []) E 51 fB_51_0 vcl_7 (c_X7_ownValue l hJ fB_51_0 aB_52 zB_52 hq) F_X7_ownValue m_RX11_210 ⟨rfl, rfl⟩ ⟨Nat.le_of_ble_eq_true rfl, Nat.le_of_ble_eq_true rfl⟩ ⟨Nat.zero_le _, Nat.zero_le _⟩ rfl rfl (Nat.le_of_ble_eq_true rfl) dX11_owned_70 (fun r10 hq => ?_)
          exact hp_iret E hq hZ dX11_owned_73
        · replace hq := hq.1 c8
          refine hp_bipush E (-2) dX11_owned_55 (by decide) ?_
          exact hp_iret E hq hZ dX11_owned_57
  · replace hq := hq.1 c2
    refine hp_bipush E (-5) dX11_owned_10 (by decide) ?_
    exact hp_iret E hq hZ dX11_owned_12
theorem dX11_letter_0 : decode cX11_letter 0 = .ok (.aload_n 0, 1) := by decide +kernel
theorem dX11_letter_1 : decode cX11_letter 1 = .ok (.getfield 19, 3) := by decide +kernel
theorem dX11_letter_4 : decode cX11_letter 4 = .ok (.invokevirtual 192, 3) := by decide +kernel
theorem dX11_letter_7 : decode cX11_letter 7 = .ok (.ifCond .ne 6, 3) := by decide +kernel
theorem dX11_letter_10 : decode cX11_letter 10 = .ok (.bipush (-5), 2) := by decide +kernel
theorem dX11_letter_12 : decode cX11_letter 12 = .ok (.ireturn, 1) := by decide +kernel
theorem dX11_letter_13 : decode cX11_letter 13 = .ok (.aload_n 0, 1) := by decide +kernel
theorem dX11_letter_14 : decode cX11_letter 14 = .ok (.getfield 19, 3) := by decide +kernel
theorem dX11_letter_17 : decode cX11_letter 17 = .ok (.iload_n 1, 1) := by decide +kernel
theorem dX11_letter_18 : decode cX11_letter 18 = .ok (.invokevirtual 178, 3) := by decide +kernel
theorem dX11_letter_21 : decode cX11_letter 21 = .ok (.ifCond .eq 14, 3) := by decide +kernel
theorem dX11_letter_24 : decode cX11_letter 24 = .ok (.aload_n 0, 1) := by decide +kernel
theorem dX11_letter_25 : decode cX11_letter 25 = .ok (.getfield 12, 3) := by decide +kernel
theorem dX11_letter_28 : decode cX11_letter 28 = .ok (.iload_n 2, 1) := by decide +kernel
theorem dX11_letter_29 : decode cX11_letter 29 = .ok (.invokevirtual 214, 3) := by decide +kernel
theorem dX11_letter_32 : decode cX11_letter 32 = .ok (.ifCond .ne 6, 3) := by decide +kernel
theorem dX11_letter_35 : decode cX11_letter 35 = .ok (.bipush (-2), 2) := by decide +kernel
theorem dX11_letter_37 : decode cX11_letter 37 = .ok (.ireturn, 1) := by decide +kernel
theorem dX11_letter_38 : decode cX11_letter 38 = .ok (.aload_n 0, 1) := by decide +kernel
theorem dX11_letter_39 : decode cX11_letter 39 = .ok (.getfield 35, 3) := by decide +kernel
theorem dX11_letter_42 : decode cX11_letter 42 = .ok (.iload_n 1, 1) := by decide +kernel
theorem dX11_letter_43 : decode cX11_letter 43 = .ok (.invokevirtual 198, 3) := by decide +kernel
theorem dX11_letter_46 : decode cX11_letter 46 = .ok (.astore 4, 2) := by decide +kernel
theorem dX11_letter_48 : decode cX11_letter 48 = .ok (.iload_n 3, 1) := by decide +kernel
theorem dX11_letter_49 : decode cX11_letter 49 = .ok (.ifCond .lt 23, 3) := by decide +kernel
theorem dX11_letter_52 : decode cX11_letter 52 = .ok (.iload_n 3, 1) := by decide +kernel
theorem dX11_letter_53 : decode cX11_letter 53 = .ok (.aload 4, 2) := by decide +kernel
theorem dX11_letter_55 : decode cX11_letter 55 = .ok (.iload_n 2, 1) := by decide +kernel
theorem dX11_letter_56 : decode cX11_letter 56 = .ok (.invokevirtual 217, 3) := by decide +kernel
theorem dX11_letter_59 : decode cX11_letter 59 = .ok (.if_icmp .ge 13, 3) := by decide +kernel
theorem dX11_letter_62 : decode cX11_letter 62 = .ok (.aload 4, 2) := by decide +kernel
theorem dX11_letter_64 : decode cX11_letter 64 = .ok (.iload_n 2, 1) := by decide +kernel
theorem dX11_letter_65 : decode cX11_letter 65 = .ok (.iload_n 3, 1) := by decide +kernel
theorem dX11_letter_66 : decode cX11_letter 66 = .ok (.invokevirtual 220, 3) := by decide +kernel
theorem dX11_letter_69 : decode cX11_letter 69 = .ok (.goto 4, 3) := by decide +kernel
theorem dX11_letter_72 : decode cX11_letter 72 = .ok (.iconst (-1), 1) := by decide +kernel
theorem dX11_letter_73 : decode cX11_letter 73 = .ok (.ireturn, 1) := by decide +kernel
set_option maxHeartbeats 4000000 in
set_option maxRecDepth 100000 in
theorem c_X11_letter (l : Launch) {cs : Nat → ClassId} {ad : Nat → Nat} {A : Nat → Prop} {D : va_G} (hJ : hp_J SB ad A)   {h : hp_H} {a1 a2 a3 : Int32} {Q : Int32 → hp_H → Prop} (hq : q_X11_letter h a1 a2 a3 Q) : hp_Mi l yX11_letter cX11_letter 5 (some .int) rm_X11_letter [.ref (ad 0), .int a1, .int a2, .int a3] SB cs ad A D h Q := by
  refine hp_met (own := RX11) rfl (by decide) (Nat.le_of_ble_eq_true rfl) rfl (fun p e s m args below meth c Z E hZ hnm => ?_)
  refine hp_sub (lv' := [(0, .ref (ad 0)), (1, .int a1), (2, .int a2), (3, .int a3)]) [0, 1, 2, 3] rfl ?_
  unfold q_X11_letter at hq
  refine hp_aload_n E 0 dX11_letter_0 rfl rfl ?_
  refine hp_gR E g_RX11_19 fB_0_1 dX11_letter_1 ?_
  refine hp_callVip (rest := []) E 35 fB_35_0 vcl_2 (c_X2_isUsable l hJ hq) F_X2_isUsable m_RX11_192 ⟨rfl, rfl⟩ ⟨Nat.le_of_ble_eq_true rfl, Nat.le_of_ble_eq_true rfl⟩ ⟨Nat.zero_le _, Nat.zero_le _⟩ rfl rfl (Nat.le_of_ble_eq_true rfl) dX11_letter_4 (fun r1 hq => ?_)
  refine hp_if_ne E 13 dX11_letter_7 (by decide) (fun c2 => ?_) (fun c2 => ?_)
  · replace hq := hq.2 c2
    refine hp_aload_n E 0 dX11_letter_13 rfl rfl ?_
    refine hp_gR E g_RX11_19 fB_0_1 dX11_letter_14 ?_
    refine hp_iload_n E 1 dX11_letter_17 rfl rfl ?_
    refine hp_callVip (rest := []) E 35 fB_35_0 vcl_2 (c_X2_has l hJ hq) F_X2_has m_RX11_178 ⟨rfl, rfl⟩ ⟨Nat.le_of_ble_eq_true rfl, Nat.le_of_ble_eq_true rfl⟩ ⟨Nat.zero_le _, Nat.zero_le _⟩ rfl rfl (Nat.le_of_ble_eq_true rfl) dX11_letter_18 (fun r3 hq => ?_)
    refine hp_if_eq E 35 dX11_letter_21 (by decide) (fun c4 => ?_) (fun c4 => ?_)
    · replace hq := hq.1 c4
      refine hp_bipush E (-2) dX11_letter_35 (by decide) ?_
      exact hp_iret E hq hZ dX11_letter_37
    · replace hq := hq.2 c4
      refine hp_aload_n E 0 dX11_letter_24 rfl rfl ?_
      refine hp_gR E g_RX11_12 fB_0_0 dX11_letter_25 ?_
      refine hp_iload_n E 2 dX11_letter_28 rfl rfl ?_
      refine hp_callVip (rest := []) E 1 fB_1_0 vcl_4 (c_X4_hasChannel l hJ hq) F_X4_hasChannel m_RX11_214 ⟨rfl, rfl⟩ ⟨Nat.le_of_ble_eq_true rfl, Nat.le_of_ble_eq_true rfl⟩ ⟨Nat.zero_le _, Nat.zero_le _⟩ rfl rfl (Nat.le_of_ble_eq_true rfl) dX11_letter_29 (fun r5 hq => ?_)
      refine hp_if_ne E 38 dX11_letter_32 (by decide) (fun c6 => ?_) (fun c6 => ?_)
      · replace hq := hq.2 c6
        refine hp_aload_n E 0 dX11_letter_38 rfl rfl ?_
        refine hp_gR E g_RX11_35 fB_0_3 dX11_letter_39 ?_
        refine hp_iload_n E 1 dX11_letter_42 rfl rfl ?_
        refine hp_callVr' (rest := []) E 50 fB_50_0 vcl_5 (c_X5_rowOf l hJ hq) F_X5_rowOf m_RX11_198 ⟨rfl, rfl⟩ ⟨Nat.le_of_ble_eq_true rfl, Nat.le_of_ble_eq_true rfl⟩ ⟨Nat.zero_le _, Nat.zero_le _⟩ rfl rfl (Nat.le_of_ble_eq_true rfl) dX11_letter_43 (fun h7 hq => ?_)
        refine hp_astore (lv' := [(0, .ref (ad 0)), (1, .int a1), (2, .int a2), (3, .int a3), (4, .ref (ad 51))]) E dX11_letter_46 (by decide) rfl rfl ?_
        refine hp_iload_n E 3 dX11_letter_48 rfl rfl ?_
        refine hp_if_lt E 72 dX11_letter_49 (by decide) (fun c8 => ?_) (fun c8 => ?_)
        · replace hq := hq.1 c8
          refine hp_iconst E (-1) dX11_letter_72 (by decide) ?_
          exact hp_iret E hq hZ dX11_letter_73
        · replace hq := hq.2 c8
          refine hp_iload_n E 3 dX11_letter_52 rfl rfl ?_
          refine hp_aload E 4 dX11_letter_53 rfl ?_
          refine hp_iload_n E 2 dX11_letter_55 rfl rfl ?_
          refine hp_callVip (rest := [.int a3]) E 51 fB_51_0 vcl_7 (c_X7_held l hJ fB_51_0 aB_52 zB_52 hq) F_X7_held m_RX11_217 ⟨rfl, rfl⟩ ⟨Nat.le_of_ble_eq_true rfl, Nat.le_of_ble_eq_true rfl⟩ ⟨Nat.zero_le _, Nat.zero_le _⟩ rfl rfl (Nat.le_of_ble_eq_true rfl) dX11_letter_56 (fun r9 hq => ?_)
          refine hp_icmp_ge E 72 dX11_letter_59 (by decide) (fun c10 => ?_) (fun c10 => ?_)
          · replace hq := hq.1 c10
            refine hp_iconst E (-1) dX11_letter_72 (by decide) ?_
            exact hp_iret E hq hZ dX11_letter_73
          · replace hq := hq.2 c10
            refine hp_aload E 4 dX11_letter_62 rfl ?_
            refine hp_iload_n E 2 dX11_letter_64 rfl rfl ?_
            refine hp_iload_n E 3 dX11_letter_65 rfl rfl ?_
            refine hp_callVip (rest := []) E 51 fB_51_0 vcl_7 (c_X7_letterAt l hJ fB_51_0 aB_52 zB_52 hq) F_X7_letterAt m_RX11_220 ⟨rfl, rfl⟩ ⟨Nat.le_of_ble_eq_true rfl, Nat.le_of_ble_eq_true rfl⟩ ⟨Nat.zero_le _, Nat.zero_le _⟩ rfl rfl (Nat.le_of_ble_eq_true rfl) dX11_letter_66 (fun r11 hq => ?_)
            refine hp_goto E 73 dX11_letter_69 (by decide) ?_
            exact hp_iret E hq hZ dX11_letter_73
      · replace hq := hq.1 c6
        refine hp_bipush E (-2) dX11_letter_35 (by decide) ?_
        exact hp_iret E hq hZ dX11_letter_37
  · replace hq := hq.1 c2
    refine hp_bipush E (-5) dX11_letter_10 (by decide) ?_
    exact hp_iret E hq hZ dX11_letter_12
theorem dX11_moves_0 : decode cX11_moves 0 = .ok (.aload_n 0, 1) := by decide +kernel
theorem dX11_moves_1 : decode cX11_moves 1 = .ok (.getfield 19, 3) := by decide +kernel
theorem dX11_moves_4 : decode cX11_moves 4 = .ok (.invokevirtual 192, 3) := by decide +kernel
theorem dX11_moves_7 : decode cX11_moves 7 = .ok (.ifCond .ne 6, 3) := by decide +kernel
theorem dX11_moves_10 : decode cX11_moves 10 = .ok (.bipush (-5), 2) := by decide +kernel
theorem dX11_moves_12 : decode cX11_moves 12 = .ok (.ireturn, 1) := by decide +kernel
theorem dX11_moves_13 : decode cX11_moves 13 = .ok (.aload_n 0, 1) := by decide +kernel
theorem dX11_moves_14 : decode cX11_moves 14 = .ok (.getfield 19, 3) := by decide +kernel
theorem dX11_moves_17 : decode cX11_moves 17 = .ok (.iload_n 1, 1) := by decide +kernel
theorem dX11_moves_18 : decode cX11_moves 18 = .ok (.invokevirtual 178, 3) := by decide +kernel
theorem dX11_moves_21 : decode cX11_moves 21 = .ok (.ifCond .eq 14, 3) := by decide +kernel
theorem dX11_moves_24 : decode cX11_moves 24 = .ok (.aload_n 0, 1) := by decide +kernel
theorem dX11_moves_25 : decode cX11_moves 25 = .ok (.getfield 19, 3) := by decide +kernel
theorem dX11_moves_28 : decode cX11_moves 28 = .ok (.iload_n 1, 1) := by decide +kernel
theorem dX11_moves_29 : decode cX11_moves 29 = .ok (.invokevirtual 223, 3) := by decide +kernel
theorem dX11_moves_32 : decode cX11_moves 32 = .ok (.goto 5, 3) := by decide +kernel
theorem dX11_moves_35 : decode cX11_moves 35 = .ok (.bipush (-2), 2) := by decide +kernel
theorem dX11_moves_37 : decode cX11_moves 37 = .ok (.ireturn, 1) := by decide +kernel
set_option maxHeartbeats 4000000 in
set_option maxRecDepth 100000 in
theorem c_X11_moves (l : Launch) {cs : Nat → ClassId} {ad : Nat → Nat} {A : Nat → Prop} {D : va_G} (hJ : hp_J SB ad A)   {h : hp_H} {a1 : Int32} {Q : Int32 → Prop} (hq : q_X11_moves h a1 Q) : hp_Mi l yX11_moves cX11_moves 2 (some .int) rm_X11_moves [.ref (ad 0), .int a1] SB cs ad A D h (fun r h' => Q r ∧ h' = h) := by
  refine hp_met (own := RX11) rfl (by decide) (Nat.le_of_ble_eq_true rfl) rfl (fun p e s m args below meth c Z E hZ hnm => ?_)
  refine hp_sub (lv' := [(0, .ref (ad 0)), (1, .int a1)]) [0, 1] rfl ?_
  unfold q_X11_moves at hq
  refine hp_aload_n E 0 dX11_moves_0 rfl rfl ?_
  refine hp_gR E g_RX11_19 fB_0_1 dX11_moves_1 ?_
  refine hp_callVip (rest := []) E 35 fB_35_0 vcl_2 (c_X2_isUsable l hJ hq) F_X2_isUsable m_RX11_192 ⟨rfl, rfl⟩ ⟨Nat.le_of_ble_eq_true rfl, Nat.le_of_ble_eq_true rfl⟩ ⟨Nat.zero_le _, Nat.zero_le _⟩ rfl rfl (Nat.le_of_ble_eq_true rfl) dX11_moves_4 (fun r1 hq => ?_)
  refine hp_if_ne E 13 dX11_moves_7 (by decide) (fun c2 => ?_) (fun c2 => ?_)
  · replace hq := hq.2 c2
    refine hp_aload_n E 0 dX11_moves_13 rfl rfl ?_
    refine hp_gR E g_RX11_19 fB_0_1 dX11_moves_14 ?_
    refine hp_iload_n E 1 dX11_moves_17 rfl rfl ?_
    refine hp_callVip (rest := []) E 35 fB_35_0 vcl_2 (c_X2_has l hJ hq) F_X2_has m_RX11_178 ⟨rfl, rfl⟩ ⟨Nat.le_of_ble_eq_true rfl, Nat.le_of_ble_eq_true rfl⟩ ⟨Nat.zero_le _, Nat.zero_le _⟩ rfl rfl (Nat.le_of_ble_eq_true rfl) dX11_moves_18 (fun r3 hq => ?_)
    refine hp_if_eq E 35 dX11_moves_21 (by decide) (fun c4 => ?_) (fun c4 => ?_)
    · replace hq := hq.1 c4
      refine hp_bipush E (-2) dX11_moves_35 (by decide) ?_
      exact hp_iret E ⟨hq, rfl⟩ hZ dX11_moves_37
    · replace hq := hq.2 c4
      refine hp_aload_n E 0 dX11_moves_24 rfl rfl ?_
      refine hp_gR E g_RX11_19 fB_0_1 dX11_moves_25 ?_
      refine hp_iload_n E 1 dX11_moves_28 rfl rfl ?_
      refine hp_callVip (rest := []) E 35 fB_35_0 vcl_2 (c_X2_movesFrom l hJ hq) F_X2_movesFrom m_RX11_223 ⟨rfl, rfl⟩ ⟨Nat.le_of_ble_eq_true rfl, Nat.le_of_ble_eq_true rfl⟩ ⟨Nat.zero_le _, Nat.zero_le _⟩ rfl rfl (Nat.le_of_ble_eq_true rfl) dX11_moves_29 (fun r5 hq => ?_)
      refine hp_goto E 37 dX11_moves_32 (by decide) ?_
      exact hp_iret E ⟨hq, rfl⟩ hZ dX11_moves_37
  · replace hq := hq.1 c2
    refine hp_bipush E (-5) dX11_moves_10 (by decide) ?_
    exact hp_iret E ⟨hq, rfl⟩ hZ dX11_moves_12
theorem dX11_move_0 : decode cX11_move 0 = .ok (.aload_n 0, 1) := by decide +kernel
theorem dX11_move_1 : decode cX11_move 1 = .ok (.getfield 19, 3) := by decide +kernel
theorem dX11_move_4 : decode cX11_move 4 = .ok (.invokevirtual 192, 3) := by decide +kernel
theorem dX11_move_7 : decode cX11_move 7 = .ok (.ifCond .ne 6, 3) := by decide +kernel
theorem dX11_move_10 : decode cX11_move 10 = .ok (.bipush (-5), 2) := by decide +kernel
theorem dX11_move_12 : decode cX11_move 12 = .ok (.ireturn, 1) := by decide +kernel
theorem dX11_move_13 : decode cX11_move 13 = .ok (.aload_n 0, 1) := by decide +kernel
theorem dX11_move_14 : decode cX11_move 14 = .ok (.getfield 19, 3) := by decide +kernel
theorem dX11_move_17 : decode cX11_move 17 = .ok (.iload_n 1, 1) := by decide +kernel
theorem dX11_move_18 : decode cX11_move 18 = .ok (.invokevirtual 178, 3) := by decide +kernel
theorem dX11_move_21 : decode cX11_move 21 = .ok (.ifCond .eq 19, 3) := by decide +kernel
theorem dX11_move_24 : decode cX11_move 24 = .ok (.iload_n 2, 1) := by decide +kernel
theorem dX11_move_25 : decode cX11_move 25 = .ok (.ifCond .lt 15, 3) := by decide +kernel
theorem dX11_move_28 : decode cX11_move 28 = .ok (.iload_n 2, 1) := by decide +kernel
theorem dX11_move_29 : decode cX11_move 29 = .ok (.aload_n 0, 1) := by decide +kernel
theorem dX11_move_30 : decode cX11_move 30 = .ok (.getfield 19, 3) := by decide +kernel
theorem dX11_move_33 : decode cX11_move 33 = .ok (.iload_n 1, 1) := by decide +kernel
theorem dX11_move_34 : decode cX11_move 34 = .ok (.invokevirtual 223, 3) := by decide +kernel
theorem dX11_move_37 : decode cX11_move 37 = .ok (.if_icmp .lt 6, 3) := by decide +kernel
theorem dX11_move_40 : decode cX11_move 40 = .ok (.bipush (-2), 2) := by decide +kernel
theorem dX11_move_42 : decode cX11_move 42 = .ok (.ireturn, 1) := by decide +kernel
theorem dX11_move_43 : decode cX11_move 43 = .ok (.aload_n 0, 1) := by decide +kernel
theorem dX11_move_44 : decode cX11_move 44 = .ok (.getfield 19, 3) := by decide +kernel
theorem dX11_move_47 : decode cX11_move 47 = .ok (.getfield 226, 3) := by decide +kernel
theorem dX11_move_50 : decode cX11_move 50 = .ok (.iload_n 1, 1) := by decide +kernel
theorem dX11_move_51 : decode cX11_move 51 = .ok (.iaload, 1) := by decide +kernel
theorem dX11_move_52 : decode cX11_move 52 = .ok (.iload_n 2, 1) := by decide +kernel
theorem dX11_move_53 : decode cX11_move 53 = .ok (.iadd, 1) := by decide +kernel
theorem dX11_move_54 : decode cX11_move 54 = .ok (.istore 4, 2) := by decide +kernel
theorem dX11_move_56 : decode cX11_move 56 = .ok (.iload_n 3, 1) := by decide +kernel
theorem dX11_move_57 : decode cX11_move 57 = .ok (.tableswitch 72 0 3 #[31, 42, 52, 62], 31) := by decide +kernel
theorem dX11_move_88 : decode cX11_move 88 = .ok (.aload_n 0, 1) := by decide +kernel
theorem dX11_move_89 : decode cX11_move 89 = .ok (.getfield 19, 3) := by decide +kernel
theorem dX11_move_92 : decode cX11_move 92 = .ok (.getfield 229, 3) := by decide +kernel
theorem dX11_move_95 : decode cX11_move 95 = .ok (.iload 4, 2) := by decide +kernel
theorem dX11_move_97 : decode cX11_move 97 = .ok (.iaload, 1) := by decide +kernel
theorem dX11_move_98 : decode cX11_move 98 = .ok (.ireturn, 1) := by decide +kernel
theorem dX11_move_99 : decode cX11_move 99 = .ok (.aload_n 0, 1) := by decide +kernel
theorem dX11_move_100 : decode cX11_move 100 = .ok (.getfield 19, 3) := by decide +kernel
theorem dX11_move_103 : decode cX11_move 103 = .ok (.iload 4, 2) := by decide +kernel
theorem dX11_move_105 : decode cX11_move 105 = .ok (.invokevirtual 232, 3) := by decide +kernel
theorem dX11_move_108 : decode cX11_move 108 = .ok (.ireturn, 1) := by decide +kernel
theorem dX11_move_109 : decode cX11_move 109 = .ok (.aload_n 0, 1) := by decide +kernel
theorem dX11_move_110 : decode cX11_move 110 = .ok (.getfield 19, 3) := by decide +kernel
theorem dX11_move_113 : decode cX11_move 113 = .ok (.iload 4, 2) := by decide +kernel
theorem dX11_move_115 : decode cX11_move 115 = .ok (.invokevirtual 235, 3) := by decide +kernel
theorem dX11_move_118 : decode cX11_move 118 = .ok (.ireturn, 1) := by decide +kernel
theorem dX11_move_119 : decode cX11_move 119 = .ok (.aload_n 0, 1) := by decide +kernel
theorem dX11_move_120 : decode cX11_move 120 = .ok (.getfield 19, 3) := by decide +kernel
theorem dX11_move_123 : decode cX11_move 123 = .ok (.iload 4, 2) := by decide +kernel
theorem dX11_move_125 : decode cX11_move 125 = .ok (.invokevirtual 238, 3) := by decide +kernel
theorem dX11_move_128 : decode cX11_move 128 = .ok (.ireturn, 1) := by decide +kernel
theorem dX11_move_129 : decode cX11_move 129 = .ok (.bipush (-3), 2) := by decide +kernel
theorem dX11_move_131 : decode cX11_move 131 = .ok (.ireturn, 1) := by decide +kernel
set_option maxHeartbeats 4000000 in
set_option maxRecDepth 100000 in
theorem c_X11_move (l : Launch) {cs : Nat → ClassId} {ad : Nat → Nat} {A : Nat → Prop} {D : va_G} (hJ : hp_J SB ad A)   {h : hp_H} {a1 a2 a3 : Int32} {Q : Int32 → Prop} (hq : q_X11_move h a1 a2 a3 Q) : hp_Mi l yX11_move cX11_move 5 (some .int) rm_X11_move [.ref (ad 0), .int a1, .int a2, .int a3] SB cs ad A D h (fun r h' => Q r ∧ h' = h) := by
  refine hp_met (own := RX11) rfl (by decide) (Nat.le_of_ble_eq_true rfl) rfl (fun p e s m args below meth c Z E hZ hnm => ?_)
  refine hp_sub (lv' := [(0, .ref (ad 0)), (1, .int a1), (2, .int a2), (3, .int a3)]) [0, 1, 2, 3] rfl ?_
  unfold q_X11_move at hq
  refine hp_aload_n E 0 dX11_move_0 rfl rfl ?_
  refine hp_gR E g_RX11_19 fB_0_1 dX11_move_1 ?_
  refine hp_callVip (rest := []) E 35 fB_35_0 vcl_2 (c_X2_isUsable l hJ hq) F_X2_isUsable m_RX11_192 ⟨rfl, rfl⟩ ⟨Nat.le_of_ble_eq_true rfl, Nat.le_of_ble_eq_true rfl⟩ ⟨Nat.zero_le _, Nat.zero_le _⟩ rfl rfl (Nat.le_of_ble_eq_true rfl) dX11_move_4 (fun r1 hq => ?_)
  refine hp_if_ne E 13 dX11_move_7 (by decide) (fun c2 => ?_) (fun c2 => ?_)
  · replace hq := hq.2 c2
    refine hp_aload_n E 0 dX11_move_13 rfl rfl ?_
    refine hp_gR E g_RX11_19 fB_0_1 dX11_move_14 ?_
    refine hp_iload_n E 1 dX11_move_17 rfl rfl ?_
    refine hp_callVip (rest := []) E 35 fB_35_0 vcl_2 (c_X2_has l hJ hq) F_X2_has m_RX11_178 ⟨rfl, rfl⟩ ⟨Nat.le_of_ble_eq_true rfl, Nat.le_of_ble_eq_true rfl⟩ ⟨Nat.zero_le _, Nat.zero_le _⟩ rfl rfl (Nat.le_of_ble_eq_true rfl) dX11_move_18 (fun r3 hq => ?_)
    refine hp_if_eq E 40 dX11_move_21 (by decide) (fun c4 => ?_) (fun c4 => ?_)
    · replace hq := hq.1 c4
      refine hp_bipush E (-2) dX11_move_40 (by decide) ?_
      exact hp_iret E ⟨hq, rfl⟩ hZ dX11_move_42
    · replace hq := hq.2 c4
      refine hp_iload_n E 2 dX11_move_24 rfl rfl ?_
      refine hp_if_lt E 40 dX11_move_25 (by decide) (fun c5 => ?_) (fun c5 => ?_)
      · replace hq := hq.1 c5
        refine hp_bipush E (-2) dX11_move_40 (by decide) ?_
        exact hp_iret E ⟨hq, rfl⟩ hZ dX11_move_42
      · replace hq := hq.2 c5
        refine hp_iload_n E 2 dX11_move_28 rfl rfl ?_
        refine hp_aload_n E 0 dX11_move_29 rfl rfl ?_
        refine hp_gR E g_RX11_19 fB_0_1 dX11_move_30 ?_
        refine hp_iload_n E 1 dX11_move_33 rfl rfl ?_
        refine hp_callVip (rest := [.int a2]) E 35 fB_35_0 vcl_2 (c_X2_movesFrom l hJ hq) F_X2_movesFrom m_RX11_223 ⟨rfl, rfl⟩ ⟨Nat.le_of_ble_eq_true rfl, Nat.le_of_ble_eq_true rfl⟩ ⟨Nat.zero_le _, Nat.zero_le _⟩ rfl rfl (Nat.le_of_ble_eq_true rfl) dX11_move_34 (fun r6 hq => ?_)
        refine hp_icmp_lt E 43 dX11_move_37 (by decide) (fun c7 => ?_) (fun c7 => ?_)
        · replace hq := hq.1 c7
          refine hp_aload_n E 0 dX11_move_43 rfl rfl ?_
          refine hp_gR E g_RX11_19 fB_0_1 dX11_move_44 ?_
          refine hp_gR E g_RX11_226 fB_35_8 dX11_move_47 ?_
          refine hp_iload_n E 1 dX11_move_50 rfl rfl ?_
          refine hp_iald E 36 aB_36 hq.1 dX11_move_51 ?_
          replace hq := hq.2
          refine hp_iload_n E 2 dX11_move_52 rfl rfl ?_
          refine hp_iadd E dX11_move_53 ?_
          refine hp_topi (fun v8 ev8 => ?_)
          replace hq := hq v8 ev8
          refine hp_istore (lv' := [(0, .ref (ad 0)), (1, .int a1), (2, .int a2), (3, .int a3), (4, .int v8)]) E dX11_move_54 (by decide) rfl rfl ?_
          refine hp_iload_n E 3 dX11_move_56 rfl rfl ?_
          by_cases c12 : a3 = (nI 0)
          · replace hq := hq.1 (c12)
            refine hp_tswV (off := 31) E (nI 0) 88 dX11_move_57 c12 (by decide) (by decide) (by decide) (by decide) ?_
            refine hp_aload_n E 0 dX11_move_88 rfl rfl ?_
            refine hp_gR E g_RX11_19 fB_0_1 dX11_move_89 ?_
            refine hp_gR E g_RX11_229 fB_35_9 dX11_move_92 ?_
            refine hp_iload E 4 dX11_move_95 rfl ?_
            refine hp_iald E 37 aB_37 hq.1 dX11_move_97 ?_
            replace hq := hq.2
            exact hp_iret E ⟨hq, rfl⟩ hZ dX11_move_98
          by_cases c13 : a3 = (nI 1)
          · replace hq := hq.2.1 (c13)
            refine hp_tswV (off := 42) E (nI 1) 99 dX11_move_57 c13 (by decide) (by decide) (by decide) (by decide) ?_
            refine hp_aload_n E 0 dX11_move_99 rfl rfl ?_
            refine hp_gR E g_RX11_19 fB_0_1 dX11_move_100 ?_
            refine hp_iload E 4 dX11_move_103 rfl ?_
            refine hp_callVip (rest := []) E 35 fB_35_0 vcl_2 (c_X2_roleOfMove l hJ hq) F_X2_roleOfMove m_RX11_232 ⟨rfl, rfl⟩ ⟨Nat.le_of_ble_eq_true rfl, Nat.le_of_ble_eq_true rfl⟩ ⟨Nat.zero_le _, Nat.zero_le _⟩ rfl rfl (Nat.le_of_ble_eq_true rfl) dX11_move_105 (fun r9 hq => ?_)
            exact hp_iret E ⟨hq, rfl⟩ hZ dX11_move_108
          by_cases c14 : a3 = (nI 2)
          · replace hq := hq.2.2.1 (c14)
            refine hp_tswV (off := 52) E (nI 2) 109 dX11_move_57 c14 (by decide) (by decide) (by decide) (by decide) ?_
            refine hp_aload_n E 0 dX11_move_109 rfl rfl ?_
            refine hp_gR E g_RX11_19 fB_0_1 dX11_move_110 ?_
            refine hp_iload E 4 dX11_move_113 rfl ?_
            refine hp_callVip (rest := []) E 35 fB_35_0 vcl_2 (c_X2_memberOfMove l hJ hq) F_X2_memberOfMove m_RX11_235 ⟨rfl, rfl⟩ ⟨Nat.le_of_ble_eq_true rfl, Nat.le_of_ble_eq_true rfl⟩ ⟨Nat.zero_le _, Nat.zero_le _⟩ rfl rfl (Nat.le_of_ble_eq_true rfl) dX11_move_115 (fun r10 hq => ?_)
            exact hp_iret E ⟨hq, rfl⟩ hZ dX11_move_118
          by_cases c15 : a3 = (nI 3)
          · replace hq := hq.2.2.2.1 (c15)
            refine hp_tswV (off := 62) E (nI 3) 119 dX11_move_57 c15 (by decide) (by decide) (by decide) (by decide) ?_
            refine hp_aload_n E 0 dX11_move_119 rfl rfl ?_
            refine hp_gR E g_RX11_19 fB_0_1 dX11_move_120 ?_
            refine hp_iload E 4 dX11_move_123 rfl ?_
            refine hp_callVip (rest := []) E 35 fB_35_0 vcl_2 (c_X2_stepOfMove l hJ hq) F_X2_stepOfMove m_RX11_238 ⟨rfl, rfl⟩ ⟨Nat.le_of_ble_eq_true rfl, Nat.le_of_ble_eq_true rfl⟩ ⟨Nat.zero_le _, Nat.zero_le _⟩ rfl rfl (Nat.le_of_ble_eq_true rfl) dX11_move_125 (fun r11 hq => ?_)
            exact hp_iret E ⟨hq, rfl⟩ hZ dX11_move_128
          replace hq := hq.2.2.2.2 ⟨c12, c13, c14, c15⟩
          refine hp_tswD E 129 dX11_move_57 (hp_out (fun i h1 h2 => ?_)) (by decide) ?_
          · rcases (show i = 0 ∨ i = 1 ∨ i = 2 ∨ i = 3 by omega) with rfl | rfl | rfl | rfl
            · exact hp_nat c12 (by decide)
            · exact hp_nat c13 (by decide)
            · exact hp_nat c14 (by decide)
            · exact hp_nat c15 (by decide)
          · refine hp_bipush E (-3) dX11_move_129 (by decide) ?_
            exact hp_iret E ⟨hq, rfl⟩ hZ dX11_move_131
        · replace hq := hq.2 c7
          refine hp_bipush E (-2) dX11_move_40 (by decide) ?_
          exact hp_iret E ⟨hq, rfl⟩ hZ dX11_move_42
  · replace hq := hq.1 c2
    refine hp_bipush E (-5) dX11_move_10 (by decide) ?_
    exact hp_iret E ⟨hq, rfl⟩ hZ dX11_move_12
theorem dX11_depth_0 : decode cX11_depth 0 = .ok (.aload_n 0, 1) := by decide +kernel
theorem dX11_depth_1 : decode cX11_depth 1 = .ok (.getfield 19, 3) := by decide +kernel
theorem dX11_depth_4 : decode cX11_depth 4 = .ok (.invokevirtual 192, 3) := by decide +kernel
theorem dX11_depth_7 : decode cX11_depth 7 = .ok (.ifCond .ne 6, 3) := by decide +kernel
theorem dX11_depth_10 : decode cX11_depth 10 = .ok (.bipush (-5), 2) := by decide +kernel
theorem dX11_depth_12 : decode cX11_depth 12 = .ok (.ireturn, 1) := by decide +kernel
theorem dX11_depth_13 : decode cX11_depth 13 = .ok (.aload_n 0, 1) := by decide +kernel
theorem dX11_depth_14 : decode cX11_depth 14 = .ok (.getfield 19, 3) := by decide +kernel
theorem dX11_depth_17 : decode cX11_depth 17 = .ok (.iload_n 1, 1) := by decide +kernel
theorem dX11_depth_18 : decode cX11_depth 18 = .ok (.invokevirtual 178, 3) := by decide +kernel
theorem dX11_depth_21 : decode cX11_depth 21 = .ok (.ifCond .eq 15, 3) := by decide +kernel
theorem dX11_depth_24 : decode cX11_depth 24 = .ok (.aload_n 0, 1) := by decide +kernel
theorem dX11_depth_25 : decode cX11_depth 25 = .ok (.getfield 19, 3) := by decide +kernel
theorem dX11_depth_28 : decode cX11_depth 28 = .ok (.getfield 241, 3) := by decide +kernel
theorem dX11_depth_31 : decode cX11_depth 31 = .ok (.iload_n 1, 1) := by decide +kernel
theorem dX11_depth_32 : decode cX11_depth 32 = .ok (.iaload, 1) := by decide +kernel
theorem dX11_depth_33 : decode cX11_depth 33 = .ok (.goto 5, 3) := by decide +kernel
theorem dX11_depth_36 : decode cX11_depth 36 = .ok (.bipush (-2), 2) := by decide +kernel
theorem dX11_depth_38 : decode cX11_depth 38 = .ok (.ireturn, 1) := by decide +kernel
set_option maxHeartbeats 4000000 in
set_option maxRecDepth 100000 in
theorem c_X11_depth (l : Launch) {cs : Nat → ClassId} {ad : Nat → Nat} {A : Nat → Prop} {D : va_G} (hJ : hp_J SB ad A)   {h : hp_H} {a1 : Int32} {Q : Int32 → Prop} (hq : q_X11_depth h a1 Q) : hp_Mi l yX11_depth cX11_depth 2 (some .int) rm_X11_depth [.ref (ad 0), .int a1] SB cs ad A D h (fun r h' => Q r ∧ h' = h) := by
  refine hp_met (own := RX11) rfl (by decide) (Nat.le_of_ble_eq_true rfl) rfl (fun p e s m args below meth c Z E hZ hnm => ?_)
  refine hp_sub (lv' := [(0, .ref (ad 0)), (1, .int a1)]) [0, 1] rfl ?_
  unfold q_X11_depth at hq
  refine hp_aload_n E 0 dX11_depth_0 rfl rfl ?_
  refine hp_gR E g_RX11_19 fB_0_1 dX11_depth_1 ?_
  refine hp_callVip (rest := []) E 35 fB_35_0 vcl_2 (c_X2_isUsable l hJ hq) F_X2_isUsable m_RX11_192 ⟨rfl, rfl⟩ ⟨Nat.le_of_ble_eq_true rfl, Nat.le_of_ble_eq_true rfl⟩ ⟨Nat.zero_le _, Nat.zero_le _⟩ rfl rfl (Nat.le_of_ble_eq_true rfl) dX11_depth_4 (fun r1 hq => ?_)
  refine hp_if_ne E 13 dX11_depth_7 (by decide) (fun c2 => ?_) (fun c2 => ?_)
  · replace hq := hq.2 c2
    refine hp_aload_n E 0 dX11_depth_13 rfl rfl ?_
    refine hp_gR E g_RX11_19 fB_0_1 dX11_depth_14 ?_
    refine hp_iload_n E 1 dX11_depth_17 rfl rfl ?_
    refine hp_callVip (rest := []) E 35 fB_35_0 vcl_2 (c_X2_has l hJ hq) F_X2_has m_RX11_178 ⟨rfl, rfl⟩ ⟨Nat.le_of_ble_eq_true rfl, Nat.le_of_ble_eq_true rfl⟩ ⟨Nat.zero_le _, Nat.zero_le _⟩ rfl rfl (Nat.le_of_ble_eq_true rfl) dX11_depth_18 (fun r3 hq => ?_)
    refine hp_if_eq E 36 dX11_depth_21 (by decide) (fun c4 => ?_) (fun c4 => ?_)
    · replace hq := hq.1 c4
      refine hp_bipush E (-2) dX11_depth_36 (by decide) ?_
      exact hp_iret E ⟨hq, rfl⟩ hZ dX11_depth_38
    · replace hq := hq.2 c4
      refine hp_aload_n E 0 dX11_depth_24 rfl rfl ?_
      refine hp_gR E g_RX11_19 fB_0_1 dX11_depth_25 ?_
      refine hp_gR E g_RX11_241 fB_35_10 dX11_depth_28 ?_
      refine hp_iload_n E 1 dX11_depth_31 rfl rfl ?_
      refine hp_iald E 38 aB_38 hq.1 dX11_depth_32 ?_
      replace hq := hq.2
      refine hp_goto E 38 dX11_depth_33 (by decide) ?_
      exact hp_iret E ⟨hq, rfl⟩ hZ dX11_depth_38
  · replace hq := hq.1 c2
    refine hp_bipush E (-5) dX11_depth_10 (by decide) ?_
    exact hp_iret E ⟨hq, rfl⟩ hZ dX11_depth_12
theorem dX11_came_0 : decode cX11_came 0 = .ok (.aload_n 0, 1) := by decide +kernel
theorem dX11_came_1 : decode cX11_came 1 = .ok (.getfield 19, 3) := by decide +kernel
theorem dX11_came_4 : decode cX11_came 4 = .ok (.invokevirtual 192, 3) := by decide +kernel
theorem dX11_came_7 : decode cX11_came 7 = .ok (.ifCond .ne 6, 3) := by decide +kernel
theorem dX11_came_10 : decode cX11_came 10 = .ok (.bipush (-5), 2) := by decide +kernel
theorem dX11_came_12 : decode cX11_came 12 = .ok (.ireturn, 1) := by decide +kernel
theorem dX11_came_13 : decode cX11_came 13 = .ok (.aload_n 0, 1) := by decide +kernel
theorem dX11_came_14 : decode cX11_came 14 = .ok (.getfield 19, 3) := by decide +kernel
theorem dX11_came_17 : decode cX11_came 17 = .ok (.iload_n 1, 1) := by decide +kernel
theorem dX11_came_18 : decode cX11_came 18 = .ok (.invokevirtual 178, 3) := by decide +kernel
theorem dX11_came_21 : decode cX11_came 21 = .ok (.ifCond .ne 6, 3) := by decide +kernel
theorem dX11_came_24 : decode cX11_came 24 = .ok (.bipush (-2), 2) := by decide +kernel
theorem dX11_came_26 : decode cX11_came 26 = .ok (.ireturn, 1) := by decide +kernel
theorem dX11_came_27 : decode cX11_came 27 = .ok (.iload_n 2, 1) := by decide +kernel
theorem dX11_came_28 : decode cX11_came 28 = .ok (.lookupswitch 48 #[(0, 28), (1, 38)], 28) := by decide +kernel
theorem dX11_came_56 : decode cX11_came 56 = .ok (.aload_n 0, 1) := by decide +kernel
theorem dX11_came_57 : decode cX11_came 57 = .ok (.getfield 19, 3) := by decide +kernel
theorem dX11_came_60 : decode cX11_came 60 = .ok (.getfield 244, 3) := by decide +kernel
theorem dX11_came_63 : decode cX11_came 63 = .ok (.iload_n 1, 1) := by decide +kernel
theorem dX11_came_64 : decode cX11_came 64 = .ok (.iaload, 1) := by decide +kernel
theorem dX11_came_65 : decode cX11_came 65 = .ok (.ireturn, 1) := by decide +kernel
theorem dX11_came_66 : decode cX11_came 66 = .ok (.aload_n 0, 1) := by decide +kernel
theorem dX11_came_67 : decode cX11_came 67 = .ok (.getfield 19, 3) := by decide +kernel
theorem dX11_came_70 : decode cX11_came 70 = .ok (.getfield 247, 3) := by decide +kernel
theorem dX11_came_73 : decode cX11_came 73 = .ok (.iload_n 1, 1) := by decide +kernel
theorem dX11_came_74 : decode cX11_came 74 = .ok (.iaload, 1) := by decide +kernel
theorem dX11_came_75 : decode cX11_came 75 = .ok (.ireturn, 1) := by decide +kernel
theorem dX11_came_76 : decode cX11_came 76 = .ok (.bipush (-3), 2) := by decide +kernel
theorem dX11_came_78 : decode cX11_came 78 = .ok (.ireturn, 1) := by decide +kernel
set_option maxHeartbeats 4000000 in
set_option maxRecDepth 100000 in
theorem c_X11_came (l : Launch) {cs : Nat → ClassId} {ad : Nat → Nat} {A : Nat → Prop} {D : va_G} (hJ : hp_J SB ad A)   {h : hp_H} {a1 a2 : Int32} {Q : Int32 → Prop} (hq : q_X11_came h a1 a2 Q) : hp_Mi l yX11_came cX11_came 3 (some .int) rm_X11_came [.ref (ad 0), .int a1, .int a2] SB cs ad A D h (fun r h' => Q r ∧ h' = h) := by
  refine hp_met (own := RX11) rfl (by decide) (Nat.le_of_ble_eq_true rfl) rfl (fun p e s m args below meth c Z E hZ hnm => ?_)
  refine hp_sub (lv' := [(0, .ref (ad 0)), (1, .int a1), (2, .int a2)]) [0, 1, 2] rfl ?_
  unfold q_X11_came at hq
  refine hp_aload_n E 0 dX11_came_0 rfl rfl ?_
  refine hp_gR E g_RX11_19 fB_0_1 dX11_came_1 ?_
  refine hp_callVip (rest := []) E 35 fB_35_0 vcl_2 (c_X2_isUsable l hJ hq) F_X2_isUsable m_RX11_192 ⟨rfl, rfl⟩ ⟨Nat.le_of_ble_eq_true rfl, Nat.le_of_ble_eq_true rfl⟩ ⟨Nat.zero_le _, Nat.zero_le _⟩ rfl rfl (Nat.le_of_ble_eq_true rfl) dX11_came_4 (fun r1 hq => ?_)
  refine hp_if_ne E 13 dX11_came_7 (by decide) (fun c2 => ?_) (fun c2 => ?_)
  · replace hq := hq.2 c2
    refine hp_aload_n E 0 dX11_came_13 rfl rfl ?_
    refine hp_gR E g_RX11_19 fB_0_1 dX11_came_14 ?_
    refine hp_iload_n E 1 dX11_came_17 rfl rfl ?_
    refine hp_callVip (rest := []) E 35 fB_35_0 vcl_2 (c_X2_has l hJ hq) F_X2_has m_RX11_178 ⟨rfl, rfl⟩ ⟨Nat.le_of_ble_eq_true rfl, Nat.le_of_ble_eq_true rfl⟩ ⟨Nat.zero_le _, Nat.zero_le _⟩ rfl rfl (Nat.le_of_ble_eq_true rfl) dX11_came_18 (fun r3 hq => ?_)
    refine hp_if_ne E 27 dX11_came_21 (by decide) (fun c4 => ?_) (fun c4 => ?_)
    · replace hq := hq.2 c4
      refine hp_iload_n E 2 dX11_came_27 rfl rfl ?_
      by_cases c5 : a2 = (nI 0)
      · replace hq := hq.1 (c5)
        refine hp_lsw (off := 28) E 56 dX11_came_28 (by decide) (by rw [c5]; decide) (by decide) ?_
        refine hp_aload_n E 0 dX11_came_56 rfl rfl ?_
        refine hp_gR E g_RX11_19 fB_0_1 dX11_came_57 ?_
        refine hp_gR E g_RX11_244 fB_35_11 dX11_came_60 ?_
        refine hp_iload_n E 1 dX11_came_63 rfl rfl ?_
        refine hp_iald E 39 aB_39 hq.1 dX11_came_64 ?_
        replace hq := hq.2
        exact hp_iret E ⟨hq, rfl⟩ hZ dX11_came_65
      by_cases c6 : a2 = (nI 1)
      · replace hq := hq.2.1 (c6)
        refine hp_lsw (off := 38) E 66 dX11_came_28 (by decide) (by rw [c6]; decide) (by decide) ?_
        refine hp_aload_n E 0 dX11_came_66 rfl rfl ?_
        refine hp_gR E g_RX11_19 fB_0_1 dX11_came_67 ?_
        refine hp_gR E g_RX11_247 fB_35_12 dX11_came_70 ?_
        refine hp_iload_n E 1 dX11_came_73 rfl rfl ?_
        refine hp_iald E 40 aB_40 hq.1 dX11_came_74 ?_
        replace hq := hq.2
        exact hp_iret E ⟨hq, rfl⟩ hZ dX11_came_75
      replace hq := hq.2.2 ⟨c5, c6⟩
      refine hp_lsw (off := 48) E 76 dX11_came_28 (by decide) (by rw [lv_osw c5 (by decide)]; rw [lv_osw c6 (by decide)]; rfl) (by decide) ?_
      refine hp_bipush E (-3) dX11_came_76 (by decide) ?_
      exact hp_iret E ⟨hq, rfl⟩ hZ dX11_came_78
    · replace hq := hq.1 c4
      refine hp_bipush E (-2) dX11_came_24 (by decide) ?_
      exact hp_iret E ⟨hq, rfl⟩ hZ dX11_came_26
  · replace hq := hq.1 c2
    refine hp_bipush E (-5) dX11_came_10 (by decide) ?_
    exact hp_iret E ⟨hq, rfl⟩ hZ dX11_came_12
theorem dX11_stuck_0 : decode cX11_stuck 0 = .ok (.aload_n 0, 1) := by decide +kernel
theorem dX11_stuck_1 : decode cX11_stuck 1 = .ok (.getfield 19, 3) := by decide +kernel
theorem dX11_stuck_4 : decode cX11_stuck 4 = .ok (.invokevirtual 192, 3) := by decide +kernel
theorem dX11_stuck_7 : decode cX11_stuck 7 = .ok (.ifCond .ne 6, 3) := by decide +kernel
theorem dX11_stuck_10 : decode cX11_stuck 10 = .ok (.bipush (-5), 2) := by decide +kernel
theorem dX11_stuck_12 : decode cX11_stuck 12 = .ok (.ireturn, 1) := by decide +kernel
theorem dX11_stuck_13 : decode cX11_stuck 13 = .ok (.iconst 0, 1) := by decide +kernel
theorem dX11_stuck_14 : decode cX11_stuck 14 = .ok (.istore_n 1, 1) := by decide +kernel
theorem dX11_stuck_15 : decode cX11_stuck 15 = .ok (.iload_n 1, 1) := by decide +kernel
theorem dX11_stuck_16 : decode cX11_stuck 16 = .ok (.aload_n 0, 1) := by decide +kernel
theorem dX11_stuck_17 : decode cX11_stuck 17 = .ok (.getfield 19, 3) := by decide +kernel
theorem dX11_stuck_20 : decode cX11_stuck 20 = .ok (.getfield 168, 3) := by decide +kernel
theorem dX11_stuck_23 : decode cX11_stuck 23 = .ok (.if_icmp .ge 40, 3) := by decide +kernel
theorem dX11_stuck_26 : decode cX11_stuck 26 = .ok (.aload_n 0, 1) := by decide +kernel
theorem dX11_stuck_27 : decode cX11_stuck 27 = .ok (.getfield 19, 3) := by decide +kernel
theorem dX11_stuck_30 : decode cX11_stuck 30 = .ok (.iload_n 1, 1) := by decide +kernel
theorem dX11_stuck_31 : decode cX11_stuck 31 = .ok (.invokevirtual 250, 3) := by decide +kernel
theorem dX11_stuck_34 : decode cX11_stuck 34 = .ok (.ifCond .ne 23, 3) := by decide +kernel
theorem dX11_stuck_37 : decode cX11_stuck 37 = .ok (.aload_n 0, 1) := by decide +kernel
theorem dX11_stuck_38 : decode cX11_stuck 38 = .ok (.getfield 12, 3) := by decide +kernel
theorem dX11_stuck_41 : decode cX11_stuck 41 = .ok (.aload_n 0, 1) := by decide +kernel
theorem dX11_stuck_42 : decode cX11_stuck 42 = .ok (.getfield 35, 3) := by decide +kernel
theorem dX11_stuck_45 : decode cX11_stuck 45 = .ok (.iload_n 1, 1) := by decide +kernel
theorem dX11_stuck_46 : decode cX11_stuck 46 = .ok (.invokevirtual 198, 3) := by decide +kernel
theorem dX11_stuck_49 : decode cX11_stuck 49 = .ok (.invokevirtual 253, 3) := by decide +kernel
theorem dX11_stuck_52 : decode cX11_stuck 52 = .ok (.ifCond .eq 5, 3) := by decide +kernel
theorem dX11_stuck_55 : decode cX11_stuck 55 = .ok (.iload_n 1, 1) := by decide +kernel
theorem dX11_stuck_56 : decode cX11_stuck 56 = .ok (.ireturn, 1) := by decide +kernel
theorem dX11_stuck_57 : decode cX11_stuck 57 = .ok (.iinc 1 1, 3) := by decide +kernel
theorem dX11_stuck_60 : decode cX11_stuck 60 = .ok (.goto (-45), 3) := by decide +kernel
theorem dX11_stuck_63 : decode cX11_stuck 63 = .ok (.iconst (-1), 1) := by decide +kernel
theorem dX11_stuck_64 : decode cX11_stuck 64 = .ok (.ireturn, 1) := by decide +kernel
set_option maxHeartbeats 4000000 in
set_option maxRecDepth 100000 in
theorem c_X11_stuck (l : Launch) {cs : Nat → ClassId} {ad : Nat → Nat} {A : Nat → Prop} {D : va_G} (hJ : hp_J SB ad A)   {h : hp_H} {Q : Int32 → hp_H → Prop} (hq : q_X11_stuck h Q) : hp_Mi l yX11_stuck cX11_stuck 2 (some .int) rm_X11_stuck [.ref (ad 0)] SB cs ad A D h Q := by
  refine hp_met (own := RX11) rfl (by decide) (Nat.le_of_ble_eq_true rfl) rfl (fun p e s m args below meth c Z E hZ hnm => ?_)
  refine hp_sub (lv' := [(0, .ref (ad 0))]) [0] rfl ?_
  unfold q_X11_stuck at hq
  refine hp_aload_n E 0 dX11_stuck_0 rfl rfl ?_
  refine hp_gR E g_RX11_19 fB_0_1 dX11_stuck_1 ?_
  refine hp_callVip (rest := []) E 35 fB_35_0 vcl_2 (c_X2_isUsable l hJ hq) F_X2_isUsable m_RX11_192 ⟨rfl, rfl⟩ ⟨Nat.le_of_ble_eq_true rfl, Nat.le_of_ble_eq_true rfl⟩ ⟨Nat.zero_le _, Nat.zero_le _⟩ rfl rfl (Nat.le_of_ble_eq_true rfl) dX11_stuck_4 (fun r1 hq => ?_)
  refine hp_if_ne E 13 dX11_stuck_7 (by decide) (fun c2 => ?_) (fun c2 => ?_)
  · replace hq := hq.2 c2
    refine hp_iconst E (nI 0) dX11_stuck_13 (by decide) ?_
    refine hp_istore_n (lv' := [(0, .ref (ad 0)), (1, .int (nI 0))]) E dX11_stuck_14 rfl (by decide) rfl rfl ?_
    refine hq (fun v4 h5 => hp_G p l e rm_X11_stuck s m args below meth c SB cs ad A D 2 0 0 Z 15 [(0, .ref (ad 0)), (1, .int v4)] [] h5) (fun v4 h5 hB => ?_)
    obtain ⟨B3, hq, hB3⟩ := hB
    refine hp_iload_n E 1 dX11_stuck_15 rfl rfl ?_
    refine hp_aload_n E 0 dX11_stuck_16 rfl rfl ?_
    refine hp_gR E g_RX11_19 fB_0_1 dX11_stuck_17 ?_
    refine hp_gI E g_RX11_168 fB_35_2 dX11_stuck_20 ?_
    refine hp_icmp_ge E 63 dX11_stuck_23 (by decide) (fun c6 => ?_) (fun c6 => ?_)
    · replace hq := hq.1 c6
      refine hp_iconst E (-1) dX11_stuck_63 (by decide) ?_
      exact hp_iret E hq hZ dX11_stuck_64
    · replace hq := hq.2 c6
      refine hp_aload_n E 0 dX11_stuck_26 rfl rfl ?_
      refine hp_gR E g_RX11_19 fB_0_1 dX11_stuck_27 ?_
      refine hp_iload_n E 1 dX11_stuck_30 rfl rfl ?_
      refine hp_callVip (rest := []) E 35 fB_35_0 vcl_2 (c_X2_hasMemberMove l hJ hq) F_X2_hasMemberMove m_RX11_250 ⟨rfl, rfl⟩ ⟨Nat.le_of_ble_eq_true rfl, Nat.le_of_ble_eq_true rfl⟩ ⟨Nat.zero_le _, Nat.zero_le _⟩ rfl rfl (Nat.le_of_ble_eq_true rfl) dX11_stuck_31 (fun r7 hq => ?_)
      obtain ⟨K9, hq, hK9⟩ := hq
      have jK9 : ∀  (h10 : hp_H), K9 h10 → hp_G p l e rm_X11_stuck s m args below meth c SB cs ad A D 2 0 0 Z 57 [(0, .ref (ad 0)), (1, .int v4)] [] h10 := by
        intro h10 hq
        replace hq := hK9 h10 hq
        obtain ⟨v14, ev14⟩ : ∃ z : Int32, z = v4 + (nI 1) := ⟨_, rfl⟩
        replace hq := hq v14 ev14
        refine hp_iinc (lv' := [(0, .ref (ad 0)), (1, .int v14)]) E 1 v14 dX11_stuck_57 rfl (by rw [ev14]; rfl) (by decide) rfl rfl ?_
        refine hp_goto E 15 dX11_stuck_60 (by decide) ?_
        exact hB3 _ _ hq
      refine hp_if_ne E 57 dX11_stuck_34 (by decide) (fun c8 => ?_) (fun c8 => ?_)
      · replace hq := hq.2 c8
        exact jK9 _ hq
      · replace hq := hq.1 c8
        refine hp_aload_n E 0 dX11_stuck_37 rfl rfl ?_
        refine hp_gR E g_RX11_12 fB_0_0 dX11_stuck_38 ?_
        refine hp_aload_n E 0 dX11_stuck_41 rfl rfl ?_
        refine hp_gR E g_RX11_35 fB_0_3 dX11_stuck_42 ?_
        refine hp_iload_n E 1 dX11_stuck_45 rfl rfl ?_
        refine hp_callVr' (rest := [.ref (ad 1)]) E 50 fB_50_0 vcl_5 (c_X5_rowOf l hJ hq) F_X5_rowOf m_RX11_198 ⟨rfl, rfl⟩ ⟨Nat.le_of_ble_eq_true rfl, Nat.le_of_ble_eq_true rfl⟩ ⟨Nat.zero_le _, Nat.zero_le _⟩ rfl rfl (Nat.le_of_ble_eq_true rfl) dX11_stuck_46 (fun h11 hq => ?_)
        refine hp_callVip (rest := []) E 1 fB_1_0 vcl_4 (c_X4_someAtNoEnd l hJ hq) F_X4_someAtNoEnd m_RX11_253 ⟨rfl, rfl⟩ ⟨Nat.le_of_ble_eq_true rfl, Nat.le_of_ble_eq_true rfl⟩ ⟨Nat.zero_le _, Nat.zero_le _⟩ rfl rfl (Nat.le_of_ble_eq_true rfl) dX11_stuck_49 (fun r12 hq => ?_)
        refine hp_if_eq E 57 dX11_stuck_52 (by decide) (fun c13 => ?_) (fun c13 => ?_)
        · replace hq := hq.1 c13
          exact jK9 _ hq
        · replace hq := hq.2 c13
          refine hp_iload_n E 1 dX11_stuck_55 rfl rfl ?_
          exact hp_iret E hq hZ dX11_stuck_56
  · replace hq := hq.1 c2
    refine hp_bipush E (-5) dX11_stuck_10 (by decide) ?_
    exact hp_iret E hq hZ dX11_stuck_12
theorem dX11_fault_0 : decode cX11_fault 0 = .ok (.iload_n 1, 1) := by decide +kernel
theorem dX11_fault_1 : decode cX11_fault 1 = .ok (.ifCond .lt 8, 3) := by decide +kernel
theorem dX11_fault_4 : decode cX11_fault 4 = .ok (.iload_n 1, 1) := by decide +kernel
theorem dX11_fault_5 : decode cX11_fault 5 = .ok (.iconst 3, 1) := by decide +kernel
theorem dX11_fault_6 : decode cX11_fault 6 = .ok (.if_icmp .le 6, 3) := by decide +kernel
theorem dX11_fault_9 : decode cX11_fault 9 = .ok (.bipush (-3), 2) := by decide +kernel
theorem dX11_fault_11 : decode cX11_fault 11 = .ok (.ireturn, 1) := by decide +kernel
theorem dX11_fault_12 : decode cX11_fault 12 = .ok (.aload_n 0, 1) := by decide +kernel
theorem dX11_fault_13 : decode cX11_fault 13 = .ok (.getfield 19, 3) := by decide +kernel
theorem dX11_fault_16 : decode cX11_fault 16 = .ok (.invokevirtual 192, 3) := by decide +kernel
theorem dX11_fault_19 : decode cX11_fault 19 = .ok (.ifCond .ne 6, 3) := by decide +kernel
theorem dX11_fault_22 : decode cX11_fault 22 = .ok (.bipush (-5), 2) := by decide +kernel
theorem dX11_fault_24 : decode cX11_fault 24 = .ok (.ireturn, 1) := by decide +kernel
theorem dX11_fault_25 : decode cX11_fault 25 = .ok (.iload_n 1, 1) := by decide +kernel
theorem dX11_fault_26 : decode cX11_fault 26 = .ok (.tableswitch 50 0 2 #[26, 34, 42], 26) := by decide +kernel
theorem dX11_fault_52 : decode cX11_fault 52 = .ok (.aload_n 0, 1) := by decide +kernel
theorem dX11_fault_53 : decode cX11_fault 53 = .ok (.getfield 19, 3) := by decide +kernel
theorem dX11_fault_56 : decode cX11_fault 56 = .ok (.getfield 257, 3) := by decide +kernel
theorem dX11_fault_59 : decode cX11_fault 59 = .ok (.ireturn, 1) := by decide +kernel
theorem dX11_fault_60 : decode cX11_fault 60 = .ok (.aload_n 0, 1) := by decide +kernel
theorem dX11_fault_61 : decode cX11_fault 61 = .ok (.getfield 19, 3) := by decide +kernel
theorem dX11_fault_64 : decode cX11_fault 64 = .ok (.getfield 260, 3) := by decide +kernel
theorem dX11_fault_67 : decode cX11_fault 67 = .ok (.ireturn, 1) := by decide +kernel
theorem dX11_fault_68 : decode cX11_fault 68 = .ok (.aload_n 0, 1) := by decide +kernel
theorem dX11_fault_69 : decode cX11_fault 69 = .ok (.getfield 19, 3) := by decide +kernel
theorem dX11_fault_72 : decode cX11_fault 72 = .ok (.getfield 263, 3) := by decide +kernel
theorem dX11_fault_75 : decode cX11_fault 75 = .ok (.ireturn, 1) := by decide +kernel
theorem dX11_fault_76 : decode cX11_fault 76 = .ok (.aload_n 0, 1) := by decide +kernel
theorem dX11_fault_77 : decode cX11_fault 77 = .ok (.getfield 19, 3) := by decide +kernel
theorem dX11_fault_80 : decode cX11_fault 80 = .ok (.getfield 266, 3) := by decide +kernel
theorem dX11_fault_83 : decode cX11_fault 83 = .ok (.ireturn, 1) := by decide +kernel
set_option maxHeartbeats 4000000 in
set_option maxRecDepth 100000 in
theorem c_X11_fault (l : Launch) {cs : Nat → ClassId} {ad : Nat → Nat} {A : Nat → Prop} {D : va_G} (hJ : hp_J SB ad A)   {h : hp_H} {a1 : Int32} {Q : Int32 → Prop} (hq : q_X11_fault h a1 Q) : hp_Mi l yX11_fault cX11_fault 2 (some .int) rm_X11_fault [.ref (ad 0), .int a1] SB cs ad A D h (fun r h' => Q r ∧ h' = h) := by
  refine hp_met (own := RX11) rfl (by decide) (Nat.le_of_ble_eq_true rfl) rfl (fun p e s m args below meth c Z E hZ hnm => ?_)
  refine hp_sub (lv' := [(0, .ref (ad 0)), (1, .int a1)]) [0, 1] rfl ?_
  unfold q_X11_fault at hq
  refine hp_iload_n E 1 dX11_fault_0 rfl rfl ?_
  refine hp_if_lt E 9 dX11_fault_1 (by decide) (fun c1 => ?_) (fun c1 => ?_)
  · replace hq := hq.1 c1
    refine hp_bipush E (-3) dX11_fault_9 (by decide) ?_
    exact hp_iret E ⟨hq, rfl⟩ hZ dX11_fault_11
  · replace hq := hq.2 c1
    refine hp_iload_n E 1 dX11_fault_4 rfl rfl ?_
    refine hp_iconst E (nI 3) dX11_fault_5 (by decide) ?_
    refine hp_icmp_le E 12 dX11_fault_6 (by decide) (fun c2 => ?_) (fun c2 => ?_)
    · replace hq := hq.1 c2
      refine hp_aload_n E 0 dX11_fault_12 rfl rfl ?_
      refine hp_gR E g_RX11_19 fB_0_1 dX11_fault_13 ?_
      refine hp_callVip (rest := []) E 35 fB_35_0 vcl_2 (c_X2_isUsable l hJ hq) F_X2_isUsable m_RX11_192 ⟨rfl, rfl⟩ ⟨Nat.le_of_ble_eq_true rfl, Nat.le_of_ble_eq_true rfl⟩ ⟨Nat.zero_le _, Nat.zero_le _⟩ rfl rfl (Nat.le_of_ble_eq_true rfl) dX11_fault_16 (fun r3 hq => ?_)
      refine hp_if_ne E 25 dX11_fault_19 (by decide) (fun c4 => ?_) (fun c4 => ?_)
      · replace hq := hq.2 c4
        refine hp_iload_n E 1 dX11_fault_25 rfl rfl ?_
        by_cases c5 : a1 = (nI 0)
        · replace hq := hq.1 (c5)
          refine hp_tswV (off := 26) E (nI 0) 52 dX11_fault_26 c5 (by decide) (by decide) (by decide) (by decide) ?_
          refine hp_aload_n E 0 dX11_fault_52 rfl rfl ?_
          refine hp_gR E g_RX11_19 fB_0_1 dX11_fault_53 ?_
          refine hp_gI E g_RX11_257 fB_35_4 dX11_fault_56 ?_
          exact hp_iret E ⟨hq, rfl⟩ hZ dX11_fault_59
        by_cases c6 : a1 = (nI 1)
        · replace hq := hq.2.1 (c6)
          refine hp_tswV (off := 34) E (nI 1) 60 dX11_fault_26 c6 (by decide) (by decide) (by decide) (by decide) ?_
          refine hp_aload_n E 0 dX11_fault_60 rfl rfl ?_
          refine hp_gR E g_RX11_19 fB_0_1 dX11_fault_61 ?_
          refine hp_gI E g_RX11_260 fB_35_5 dX11_fault_64 ?_
          exact hp_iret E ⟨hq, rfl⟩ hZ dX11_fault_67
        by_cases c7 : a1 = (nI 2)
        · replace hq := hq.2.2.1 (c7)
          refine hp_tswV (off := 42) E (nI 2) 68 dX11_fault_26 c7 (by decide) (by decide) (by decide) (by decide) ?_
          refine hp_aload_n E 0 dX11_fault_68 rfl rfl ?_
          refine hp_gR E g_RX11_19 fB_0_1 dX11_fault_69 ?_
          refine hp_gI E g_RX11_263 fB_35_6 dX11_fault_72 ?_
          exact hp_iret E ⟨hq, rfl⟩ hZ dX11_fault_75
        replace hq := hq.2.2.2 ⟨c5, c6, c7⟩
        refine hp_tswD E 76 dX11_fault_26 (hp_out (fun i h1 h2 => ?_)) (by decide) ?_
        · rcases (show i = 0 ∨ i = 1 ∨ i = 2 by omega) with rfl | rfl | rfl
          · exact hp_nat c5 (by decide)
          · exact hp_nat c6 (by decide)
          · exact hp_nat c7 (by decide)
        · refine hp_aload_n E 0 dX11_fault_76 rfl rfl ?_
          refine hp_gR E g_RX11_19 fB_0_1 dX11_fault_77 ?_
          refine hp_gI E g_RX11_266 fB_35_7 dX11_fault_80 ?_
          exact hp_iret E ⟨hq, rfl⟩ hZ dX11_fault_83
      · replace hq := hq.1 c4
        refine hp_bipush E (-5) dX11_fault_22 (by decide) ?_
        exact hp_iret E ⟨hq, rfl⟩ hZ dX11_fault_24
    · replace hq := hq.2 c2
      refine hp_bipush E (-3) dX11_fault_9 (by decide) ?_
      exact hp_iret E ⟨hq, rfl⟩ hZ dX11_fault_11
theorem dX11_refusalOfPlain_0 : decode cX11_refusalOfPlain 0 = .ok (.aload_n 0, 1) := by decide +kernel
theorem dX11_refusalOfPlain_1 : decode cX11_refusalOfPlain 1 = .ok (.getfield 12, 3) := by decide +kernel
theorem dX11_refusalOfPlain_4 : decode cX11_refusalOfPlain 4 = .ok (.getfield 123, 3) := by decide +kernel
theorem dX11_refusalOfPlain_7 : decode cX11_refusalOfPlain 7 = .ok (.iload_n 1, 1) := by decide +kernel
theorem dX11_refusalOfPlain_8 : decode cX11_refusalOfPlain 8 = .ok (.invokevirtual 131, 3) := by decide +kernel
theorem dX11_refusalOfPlain_11 : decode cX11_refusalOfPlain 11 = .ok (.ifCond .ne 6, 3) := by decide +kernel
theorem dX11_refusalOfPlain_14 : decode cX11_refusalOfPlain 14 = .ok (.bipush (-2), 2) := by decide +kernel
theorem dX11_refusalOfPlain_16 : decode cX11_refusalOfPlain 16 = .ok (.ireturn, 1) := by decide +kernel
theorem dX11_refusalOfPlain_17 : decode cX11_refusalOfPlain 17 = .ok (.aload_n 0, 1) := by decide +kernel
theorem dX11_refusalOfPlain_18 : decode cX11_refusalOfPlain 18 = .ok (.getfield 12, 3) := by decide +kernel
theorem dX11_refusalOfPlain_21 : decode cX11_refusalOfPlain 21 = .ok (.getfield 123, 3) := by decide +kernel
theorem dX11_refusalOfPlain_24 : decode cX11_refusalOfPlain 24 = .ok (.iload_n 1, 1) := by decide +kernel
theorem dX11_refusalOfPlain_25 : decode cX11_refusalOfPlain 25 = .ok (.invokevirtual 179, 3) := by decide +kernel
theorem dX11_refusalOfPlain_28 : decode cX11_refusalOfPlain 28 = .ok (.ifCond .eq 8, 3) := by decide +kernel
theorem dX11_refusalOfPlain_31 : decode cX11_refusalOfPlain 31 = .ok (.bipush (-4), 2) := by decide +kernel
theorem dX11_refusalOfPlain_33 : decode cX11_refusalOfPlain 33 = .ok (.goto 4, 3) := by decide +kernel
theorem dX11_refusalOfPlain_36 : decode cX11_refusalOfPlain 36 = .ok (.iconst 0, 1) := by decide +kernel
theorem dX11_refusalOfPlain_37 : decode cX11_refusalOfPlain 37 = .ok (.ireturn, 1) := by decide +kernel
set_option maxHeartbeats 4000000 in
set_option maxRecDepth 100000 in
theorem c_X11_refusalOfPlain (l : Launch) {cs : Nat → ClassId} {ad : Nat → Nat} {A : Nat → Prop} {D : va_G} (hJ : hp_J SB ad A)   {h : hp_H} {a1 : Int32} {Q : Int32 → Prop} (hq : q_X11_refusalOfPlain h a1 Q) : hp_Mi l yX11_refusalOfPlain cX11_refusalOfPlain 2 (some .int) rm_X11_refusalOfPlain [.ref (ad 0), .int a1] SB cs ad A D h (fun r h' => Q r ∧ h' = h) := by
  refine hp_met (own := RX11) rfl (by decide) (Nat.le_of_ble_eq_true rfl) rfl (fun p e s m args below meth c Z E hZ hnm => ?_)
  refine hp_sub (lv' := [(0, .ref (ad 0)), (1, .int a1)]) [0, 1] rfl ?_
  unfold q_X11_refusalOfPlain at hq
  refine hp_aload_n E 0 dX11_refusalOfPlain_0 rfl rfl ?_
  refine hp_gR E g_RX11_12 fB_0_0 dX11_refusalOfPlain_1 ?_
  refine hp_gR E g_RX11_123 fB_1_3 dX11_refusalOfPlain_4 ?_
  refine hp_iload_n E 1 dX11_refusalOfPlain_7 rfl rfl ?_
  refine hp_callVip (rest := []) E 15 fB_15_0 vcl_1 (c_X1_has l hJ hq) F_X1_has m_RX11_131 ⟨rfl, rfl⟩ ⟨Nat.le_of_ble_eq_true rfl, Nat.le_of_ble_eq_true rfl⟩ ⟨Nat.zero_le _, Nat.zero_le _⟩ rfl rfl (Nat.le_of_ble_eq_true rfl) dX11_refusalOfPlain_8 (fun r1 hq => ?_)
  refine hp_if_ne E 17 dX11_refusalOfPlain_11 (by decide) (fun c2 => ?_) (fun c2 => ?_)
  · replace hq := hq.2 c2
    refine hp_aload_n E 0 dX11_refusalOfPlain_17 rfl rfl ?_
    refine hp_gR E g_RX11_12 fB_0_0 dX11_refusalOfPlain_18 ?_
    refine hp_gR E g_RX11_123 fB_1_3 dX11_refusalOfPlain_21 ?_
    refine hp_iload_n E 1 dX11_refusalOfPlain_24 rfl rfl ?_
    refine hp_callVip (rest := []) E 15 fB_15_0 vcl_1 (c_X1_isOwned l hJ hq) F_X1_isOwned m_RX11_179 ⟨rfl, rfl⟩ ⟨Nat.le_of_ble_eq_true rfl, Nat.le_of_ble_eq_true rfl⟩ ⟨Nat.zero_le _, Nat.zero_le _⟩ rfl rfl (Nat.le_of_ble_eq_true rfl) dX11_refusalOfPlain_25 (fun r3 hq => ?_)
    refine hp_if_eq E 36 dX11_refusalOfPlain_28 (by decide) (fun c4 => ?_) (fun c4 => ?_)
    · replace hq := hq.1 c4
      refine hp_iconst E (nI 0) dX11_refusalOfPlain_36 (by decide) ?_
      exact hp_iret E ⟨hq, rfl⟩ hZ dX11_refusalOfPlain_37
    · replace hq := hq.2 c4
      refine hp_bipush E (-4) dX11_refusalOfPlain_31 (by decide) ?_
      refine hp_goto E 37 dX11_refusalOfPlain_33 (by decide) ?_
      exact hp_iret E ⟨hq, rfl⟩ hZ dX11_refusalOfPlain_37
  · replace hq := hq.1 c2
    refine hp_bipush E (-2) dX11_refusalOfPlain_14 (by decide) ?_
    exact hp_iret E ⟨hq, rfl⟩ hZ dX11_refusalOfPlain_16
theorem dX11_always_0 : decode cX11_always 0 = .ok (.aload_n 0, 1) := by decide +kernel
theorem dX11_always_1 : decode cX11_always 1 = .ok (.iload_n 1, 1) := by decide +kernel
theorem dX11_always_2 : decode cX11_always 2 = .ok (.invokevirtual 269, 3) := by decide +kernel
theorem dX11_always_5 : decode cX11_always 5 = .ok (.istore_n 2, 1) := by decide +kernel
theorem dX11_always_6 : decode cX11_always 6 = .ok (.iload_n 2, 1) := by decide +kernel
theorem dX11_always_7 : decode cX11_always 7 = .ok (.ifCond .eq 5, 3) := by decide +kernel
theorem dX11_always_10 : decode cX11_always 10 = .ok (.iload_n 2, 1) := by decide +kernel
theorem dX11_always_11 : decode cX11_always 11 = .ok (.ireturn, 1) := by decide +kernel
theorem dX11_always_12 : decode cX11_always 12 = .ok (.aload_n 0, 1) := by decide +kernel
theorem dX11_always_13 : decode cX11_always 13 = .ok (.getfield 19, 3) := by decide +kernel
theorem dX11_always_16 : decode cX11_always 16 = .ok (.invokevirtual 192, 3) := by decide +kernel
theorem dX11_always_19 : decode cX11_always 19 = .ok (.ifCond .ne 6, 3) := by decide +kernel
theorem dX11_always_22 : decode cX11_always 22 = .ok (.bipush (-5), 2) := by decide +kernel
theorem dX11_always_24 : decode cX11_always 24 = .ok (.ireturn, 1) := by decide +kernel
theorem dX11_always_25 : decode cX11_always 25 = .ok (.aload_n 0, 1) := by decide +kernel
theorem dX11_always_26 : decode cX11_always 26 = .ok (.getfield 35, 3) := by decide +kernel
theorem dX11_always_29 : decode cX11_always 29 = .ok (.iload_n 1, 1) := by decide +kernel
theorem dX11_always_30 : decode cX11_always 30 = .ok (.invokevirtual 183, 3) := by decide +kernel
theorem dX11_always_33 : decode cX11_always 33 = .ok (.iconst 0, 1) := by decide +kernel
theorem dX11_always_34 : decode cX11_always 34 = .ok (.istore_n 3, 1) := by decide +kernel
theorem dX11_always_35 : decode cX11_always 35 = .ok (.iload_n 3, 1) := by decide +kernel
theorem dX11_always_36 : decode cX11_always 36 = .ok (.aload_n 0, 1) := by decide +kernel
theorem dX11_always_37 : decode cX11_always 37 = .ok (.getfield 19, 3) := by decide +kernel
theorem dX11_always_40 : decode cX11_always 40 = .ok (.getfield 168, 3) := by decide +kernel
theorem dX11_always_43 : decode cX11_always 43 = .ok (.if_icmp .ge 30, 3) := by decide +kernel
theorem dX11_always_46 : decode cX11_always 46 = .ok (.aload_n 0, 1) := by decide +kernel
theorem dX11_always_47 : decode cX11_always 47 = .ok (.getfield 35, 3) := by decide +kernel
theorem dX11_always_50 : decode cX11_always 50 = .ok (.iload_n 3, 1) := by decide +kernel
theorem dX11_always_51 : decode cX11_always 51 = .ok (.invokevirtual 186, 3) := by decide +kernel
theorem dX11_always_54 : decode cX11_always 54 = .ok (.aload_n 0, 1) := by decide +kernel
theorem dX11_always_55 : decode cX11_always 55 = .ok (.getfield 35, 3) := by decide +kernel
theorem dX11_always_58 : decode cX11_always 58 = .ok (.iload_n 1, 1) := by decide +kernel
theorem dX11_always_59 : decode cX11_always 59 = .ok (.invokevirtual 189, 3) := by decide +kernel
theorem dX11_always_62 : decode cX11_always 62 = .ok (.ifCond .ne 5, 3) := by decide +kernel
theorem dX11_always_65 : decode cX11_always 65 = .ok (.iload_n 3, 1) := by decide +kernel
theorem dX11_always_66 : decode cX11_always 66 = .ok (.ireturn, 1) := by decide +kernel
theorem dX11_always_67 : decode cX11_always 67 = .ok (.iinc 3 1, 3) := by decide +kernel
theorem dX11_always_70 : decode cX11_always 70 = .ok (.goto (-35), 3) := by decide +kernel
theorem dX11_always_73 : decode cX11_always 73 = .ok (.iconst (-1), 1) := by decide +kernel
theorem dX11_always_74 : decode cX11_always 74 = .ok (.ireturn, 1) := by decide +kernel
set_option maxHeartbeats 4000000 in
set_option maxRecDepth 100000 in
theorem c_X11_always (l : Launch) {cs : Nat → ClassId} {ad : Nat → Nat} {A : Nat → Prop} {D : va_G} (hJ : hp_J SB ad A)   {h : hp_H} {a1 : Int32} {Q : Int32 → hp_H → Prop} (hq : q_X11_always h a1 Q) : hp_Mi l yX11_always cX11_always 4 (some .int) rm_X11_always [.ref (ad 0), .int a1] SB cs ad A D h Q := by
  refine hp_met (own := RX11) rfl (by decide) (Nat.le_of_ble_eq_true rfl) rfl (fun p e s m args below meth c Z E hZ hnm => ?_)
  refine hp_sub (lv' := [(0, .ref (ad 0)), (1, .int a1)]) [0, 1] rfl ?_
  unfold q_X11_always at hq
  refine hp_aload_n E 0 dX11_always_0 rfl rfl ?_
  refine hp_iload_n E 1 dX11_always_1 rfl rfl ?_
  refine hp_callVip (rest := []) E 0 fB_0_0 vcl_11 (c_X11_refusalOfPlain l hJ hq) F_X11_refusalOfPlain m_RX11_269 ⟨rfl, rfl⟩ ⟨Nat.le_of_ble_eq_true rfl, Nat.le_of_ble_eq_true rfl⟩ ⟨Nat.zero_le _, Nat.zero_le _⟩ rfl rfl (Nat.le_of_ble_eq_true rfl) dX11_always_2 (fun r1 hq => ?_)
  refine hp_istore_n (lv' := [(0, .ref (ad 0)), (1, .int a1), (2, .int r1)]) E dX11_always_5 rfl (by decide) rfl rfl ?_
  refine hp_iload_n E 2 dX11_always_6 rfl rfl ?_
  refine hp_if_eq E 12 dX11_always_7 (by decide) (fun c2 => ?_) (fun c2 => ?_)
  · replace hq := hq.1 c2
    refine hp_aload_n E 0 dX11_always_12 rfl rfl ?_
    refine hp_gR E g_RX11_19 fB_0_1 dX11_always_13 ?_
    refine hp_callVip (rest := []) E 35 fB_35_0 vcl_2 (c_X2_isUsable l hJ hq) F_X2_isUsable m_RX11_192 ⟨rfl, rfl⟩ ⟨Nat.le_of_ble_eq_true rfl, Nat.le_of_ble_eq_true rfl⟩ ⟨Nat.zero_le _, Nat.zero_le _⟩ rfl rfl (Nat.le_of_ble_eq_true rfl) dX11_always_16 (fun r3 hq => ?_)
    refine hp_if_ne E 25 dX11_always_19 (by decide) (fun c4 => ?_) (fun c4 => ?_)
    · replace hq := hq.2 c4
      refine hp_aload_n E 0 dX11_always_25 rfl rfl ?_
      refine hp_gR E g_RX11_35 fB_0_3 dX11_always_26 ?_
      refine hp_iload_n E 1 dX11_always_29 rfl rfl ?_
      refine hp_callVv' (rest := []) E 50 fB_50_0 vcl_5 (c_X5_ask l hJ hq) F_X5_ask m_RX11_183 ⟨rfl, rfl⟩ ⟨Nat.le_of_ble_eq_true rfl, Nat.le_of_ble_eq_true rfl⟩ ⟨Nat.zero_le _, Nat.zero_le _⟩ rfl rfl (Nat.le_of_ble_eq_true rfl) dX11_always_30 (fun h5 hq => ?_)
      refine hp_iconst E (nI 0) dX11_always_33 (by decide) ?_
      refine hp_istore_n (lv' := [(0, .ref (ad 0)), (1, .int a1), (2, .int r1), (3, .int (nI 0))]) E dX11_always_34 rfl (by decide) rfl rfl ?_
      refine hp_sub (lv' := [(0, .ref (ad 0)), (1, .int a1), (3, .int (nI 0))]) [0, 1, 3] rfl ?_
      refine hq (fun v7 h8 => hp_G p l e rm_X11_always s m args below meth c SB cs ad A D 4 0 0 Z 35 [(0, .ref (ad 0)), (1, .int a1), (3, .int v7)] [] h8) (fun v7 h8 hB => ?_)
      obtain ⟨B6, hq, hB6⟩ := hB
      refine hp_iload_n E 2 dX11_always_35 rfl rfl ?_
      refine hp_aload_n E 0 dX11_always_36 rfl rfl ?_
      refine hp_gR E g_RX11_19 fB_0_1 dX11_always_37 ?_
      refine hp_gI E g_RX11_168 fB_35_2 dX11_always_40 ?_
      refine hp_icmp_ge E 73 dX11_always_43 (by decide) (fun c9 => ?_) (fun c9 => ?_)
      · replace hq := hq.1 c9
        refine hp_iconst E (-1) dX11_always_73 (by decide) ?_
        exact hp_iret E hq hZ dX11_always_74
      · replace hq := hq.2 c9
        refine hp_aload_n E 0 dX11_always_46 rfl rfl ?_
        refine hp_gR E g_RX11_35 fB_0_3 dX11_always_47 ?_
        refine hp_iload_n E 2 dX11_always_50 rfl rfl ?_
        refine hp_callVv' (rest := []) E 50 fB_50_0 vcl_5 (c_X5_lookAt l hJ hq) F_X5_lookAt m_RX11_186 ⟨rfl, rfl⟩ ⟨Nat.le_of_ble_eq_true rfl, Nat.le_of_ble_eq_true rfl⟩ ⟨Nat.zero_le _, Nat.zero_le _⟩ rfl rfl (Nat.le_of_ble_eq_true rfl) dX11_always_51 (fun h10 hq => ?_)
        refine hp_aload_n E 0 dX11_always_54 rfl rfl ?_
        refine hp_gR E g_RX11_35 fB_0_3 dX11_always_55 ?_
        refine hp_iload_n E 1 dX11_always_58 rfl rfl ?_
        refine hp_callVip (rest := []) E 50 fB_50_0 vcl_5 (c_X5_answer l hJ hq) F_X5_answer m_RX11_189 ⟨rfl, rfl⟩ ⟨Nat.le_of_ble_eq_true rfl, Nat.le_of_ble_eq_true rfl⟩ ⟨Nat.zero_le _, Nat.zero_le _⟩ rfl rfl (Nat.le_of_ble_eq_true rfl) dX11_always_59 (fun r11 hq => ?_)
        refine hp_if_ne E 67 dX11_always_62 (by decide) (fun c12 => ?_) (fun c12 => ?_)
        · replace hq := hq.2 c12
          obtain ⟨v13, ev13⟩ : ∃ z : Int32, z = v7 + (nI 1) := ⟨_, rfl⟩
          replace hq := hq v13 ev13
          refine hp_iinc (lv' := [(0, .ref (ad 0)), (1, .int a1), (3, .int v13)]) E 2 v13 dX11_always_67 rfl (by rw [ev13]; rfl) (by decide) rfl rfl ?_
          refine hp_goto E 35 dX11_always_70 (by decide) ?_
          exact hB6 _ _ hq
        · replace hq := hq.1 c12
          refine hp_iload_n E 2 dX11_always_65 rfl rfl ?_
          exact hp_iret E hq hZ dX11_always_66
    · replace hq := hq.1 c4
      refine hp_bipush E (-5) dX11_always_22 (by decide) ?_
      exact hp_iret E hq hZ dX11_always_24
  · replace hq := hq.2 c2
    refine hp_iload_n E 2 dX11_always_10 rfl rfl ?_
    exact hp_iret E hq hZ dX11_always_11
theorem dX11_again_0 : decode cX11_again 0 = .ok (.aload_n 0, 1) := by decide +kernel
theorem dX11_again_1 : decode cX11_again 1 = .ok (.iload_n 1, 1) := by decide +kernel
theorem dX11_again_2 : decode cX11_again 2 = .ok (.invokevirtual 269, 3) := by decide +kernel
theorem dX11_again_5 : decode cX11_again 5 = .ok (.istore_n 3, 1) := by decide +kernel
theorem dX11_again_6 : decode cX11_again 6 = .ok (.iload_n 3, 1) := by decide +kernel
theorem dX11_again_7 : decode cX11_again 7 = .ok (.ifCond .eq 5, 3) := by decide +kernel
theorem dX11_again_10 : decode cX11_again 10 = .ok (.iload_n 3, 1) := by decide +kernel
theorem dX11_again_11 : decode cX11_again 11 = .ok (.ireturn, 1) := by decide +kernel
theorem dX11_again_12 : decode cX11_again 12 = .ok (.aload_n 0, 1) := by decide +kernel
theorem dX11_again_13 : decode cX11_again 13 = .ok (.getfield 19, 3) := by decide +kernel
theorem dX11_again_16 : decode cX11_again 16 = .ok (.invokevirtual 192, 3) := by decide +kernel
theorem dX11_again_19 : decode cX11_again 19 = .ok (.ifCond .eq 17, 3) := by decide +kernel
theorem dX11_again_22 : decode cX11_again 22 = .ok (.iload_n 2, 1) := by decide +kernel
theorem dX11_again_23 : decode cX11_again 23 = .ok (.ifCond .eq 16, 3) := by decide +kernel
theorem dX11_again_26 : decode cX11_again 26 = .ok (.aload_n 0, 1) := by decide +kernel
theorem dX11_again_27 : decode cX11_again 27 = .ok (.getfield 12, 3) := by decide +kernel
theorem dX11_again_30 : decode cX11_again 30 = .ok (.getfield 154, 3) := by decide +kernel
theorem dX11_again_33 : decode cX11_again 33 = .ok (.ifCond .eq 6, 3) := by decide +kernel
theorem dX11_again_36 : decode cX11_again 36 = .ok (.bipush (-5), 2) := by decide +kernel
theorem dX11_again_38 : decode cX11_again 38 = .ok (.ireturn, 1) := by decide +kernel
theorem dX11_again_39 : decode cX11_again 39 = .ok (.aload_n 0, 1) := by decide +kernel
theorem dX11_again_40 : decode cX11_again 40 = .ok (.getfield 44, 3) := by decide +kernel
theorem dX11_again_43 : decode cX11_again 43 = .ok (.iload_n 1, 1) := by decide +kernel
theorem dX11_again_44 : decode cX11_again 44 = .ok (.iload_n 2, 1) := by decide +kernel
theorem dX11_again_45 : decode cX11_again 45 = .ok (.invokevirtual 272, 3) := by decide +kernel
theorem dX11_again_48 : decode cX11_again 48 = .ok (.ireturn, 1) := by decide +kernel
set_option maxHeartbeats 4000000 in
set_option maxRecDepth 100000 in
theorem c_X11_again (l : Launch) {cs : Nat → ClassId} {ad : Nat → Nat} {A : Nat → Prop} {D : va_G} (hJ : hp_J SB ad A)   {h : hp_H} {a1 a2 : Int32} {Q : Int32 → hp_H → Prop} (hq : q_X11_again h a1 a2 Q) : hp_Mi l yX11_again cX11_again 4 (some .int) rm_X11_again [.ref (ad 0), .int a1, .int a2] SB cs ad A D h Q := by
  refine hp_met (own := RX11) rfl (by decide) (Nat.le_of_ble_eq_true rfl) rfl (fun p e s m args below meth c Z E hZ hnm => ?_)
  refine hp_sub (lv' := [(0, .ref (ad 0)), (1, .int a1), (2, .int a2)]) [0, 1, 2] rfl ?_
  unfold q_X11_again at hq
  refine hp_aload_n E 0 dX11_again_0 rfl rfl ?_
  refine hp_iload_n E 1 dX11_again_1 rfl rfl ?_
  refine hp_callVip (rest := []) E 0 fB_0_0 vcl_11 (c_X11_refusalOfPlain l hJ hq) F_X11_refusalOfPlain m_RX11_269 ⟨rfl, rfl⟩ ⟨Nat.le_of_ble_eq_true rfl, Nat.le_of_ble_eq_true rfl⟩ ⟨Nat.zero_le _, Nat.zero_le _⟩ rfl rfl (Nat.le_of_ble_eq_true rfl) dX11_again_2 (fun r1 hq => ?_)
  refine hp_istore_n (lv' := [(0, .ref (ad 0)), (1, .int a1), (2, .int a2), (3, .int r1)]) E dX11_again_5 rfl (by decide) rfl rfl ?_
  refine hp_iload_n E 3 dX11_again_6 rfl rfl ?_
  refine hp_if_eq E 12 dX11_again_7 (by decide) (fun c2 => ?_) (fun c2 => ?_)
  · replace hq := hq.1 c2
    refine hp_aload_n E 0 dX11_again_12 rfl rfl ?_
    refine hp_gR E g_RX11_19 fB_0_1 dX11_again_13 ?_
    refine hp_callVip (rest := []) E 35 fB_35_0 vcl_2 (c_X2_isUsable l hJ hq) F_X2_isUsable m_RX11_192 ⟨rfl, rfl⟩ ⟨Nat.le_of_ble_eq_true rfl, Nat.le_of_ble_eq_true rfl⟩ ⟨Nat.zero_le _, Nat.zero_le _⟩ rfl rfl (Nat.le_of_ble_eq_true rfl) dX11_again_16 (fun r3 hq => ?_)
    refine hp_if_eq E 36 dX11_again_19 (by decide) (fun c4 => ?_) (fun c4 => ?_)
    · replace hq := hq.1 c4
      refine hp_bipush E (-5) dX11_again_36 (by decide) ?_
      exact hp_iret E hq hZ dX11_again_38
    · replace hq := hq.2 c4
      refine hp_iload_n E 2 dX11_again_22 rfl rfl ?_
      obtain ⟨K6, hq, hK6⟩ := hq
      have jK6 : K6 → hp_G p l e rm_X11_again s m args below meth c SB cs ad A D 4 0 0 Z 39 [(0, .ref (ad 0)), (1, .int a1), (2, .int a2)] [] h := by
        intro  hq
        replace hq := hK6  hq
        refine hp_aload_n E 0 dX11_again_39 rfl rfl ?_
        refine hp_gR E g_RX11_44 fB_0_4 dX11_again_40 ?_
        refine hp_iload_n E 1 dX11_again_43 rfl rfl ?_
        refine hp_iload_n E 2 dX11_again_44 rfl rfl ?_
        refine hp_callVi' (rest := []) E 53 fB_53_0 vcl_3 (c_X3_breakerOfAgain l hJ hq) F_X3_breakerOfAgain m_RX11_272 ⟨rfl, rfl⟩ ⟨Nat.le_of_ble_eq_true rfl, Nat.le_of_ble_eq_true rfl⟩ ⟨Nat.zero_le _, Nat.zero_le _⟩ rfl rfl (Nat.le_of_ble_eq_true rfl) dX11_again_45 (fun r8 h9 hq => ?_)
        exact hp_iret E hq hZ dX11_again_48
      refine hp_if_eq E 39 dX11_again_23 (by decide) (fun c5 => ?_) (fun c5 => ?_)
      · replace hq := hq.1 c5
        refine hp_sub (lv' := [(0, .ref (ad 0)), (1, .int a1), (2, .int a2)]) [0, 1, 2] rfl ?_
        exact jK6  hq
      · replace hq := hq.2 c5
        refine hp_aload_n E 0 dX11_again_26 rfl rfl ?_
        refine hp_gR E g_RX11_12 fB_0_0 dX11_again_27 ?_
        refine hp_gI E g_RX11_154 fB_1_9 dX11_again_30 ?_
        refine hp_if_eq E 39 dX11_again_33 (by decide) (fun c7 => ?_) (fun c7 => ?_)
        · replace hq := hq.1 c7
          refine hp_sub (lv' := [(0, .ref (ad 0)), (1, .int a1), (2, .int a2)]) [0, 1, 2] rfl ?_
          exact jK6  hq
        · replace hq := hq.2 c7
          refine hp_bipush E (-5) dX11_again_36 (by decide) ?_
          exact hp_iret E hq hZ dX11_again_38
  · replace hq := hq.2 c2
    refine hp_iload_n E 3 dX11_again_10 rfl rfl ?_
    exact hp_iret E hq hZ dX11_again_11
theorem dX11_fromTo_0 : decode cX11_fromTo 0 = .ok (.aload_n 0, 1) := by decide +kernel
theorem dX11_fromTo_1 : decode cX11_fromTo 1 = .ok (.getfield 12, 3) := by decide +kernel
theorem dX11_fromTo_4 : decode cX11_fromTo 4 = .ok (.getfield 123, 3) := by decide +kernel
theorem dX11_fromTo_7 : decode cX11_fromTo 7 = .ok (.iload_n 1, 1) := by decide +kernel
theorem dX11_fromTo_8 : decode cX11_fromTo 8 = .ok (.invokevirtual 131, 3) := by decide +kernel
theorem dX11_fromTo_11 : decode cX11_fromTo 11 = .ok (.ifCond .eq 17, 3) := by decide +kernel
theorem dX11_fromTo_14 : decode cX11_fromTo 14 = .ok (.aload_n 0, 1) := by decide +kernel
theorem dX11_fromTo_15 : decode cX11_fromTo 15 = .ok (.getfield 12, 3) := by decide +kernel
theorem dX11_fromTo_18 : decode cX11_fromTo 18 = .ok (.getfield 123, 3) := by decide +kernel
theorem dX11_fromTo_21 : decode cX11_fromTo 21 = .ok (.iload_n 2, 1) := by decide +kernel
theorem dX11_fromTo_22 : decode cX11_fromTo 22 = .ok (.invokevirtual 131, 3) := by decide +kernel
theorem dX11_fromTo_25 : decode cX11_fromTo 25 = .ok (.ifCond .ne 6, 3) := by decide +kernel
theorem dX11_fromTo_28 : decode cX11_fromTo 28 = .ok (.bipush (-2), 2) := by decide +kernel
theorem dX11_fromTo_30 : decode cX11_fromTo 30 = .ok (.ireturn, 1) := by decide +kernel
theorem dX11_fromTo_31 : decode cX11_fromTo 31 = .ok (.aload_n 0, 1) := by decide +kernel
theorem dX11_fromTo_32 : decode cX11_fromTo 32 = .ok (.getfield 12, 3) := by decide +kernel
theorem dX11_fromTo_35 : decode cX11_fromTo 35 = .ok (.getfield 123, 3) := by decide +kernel
theorem dX11_fromTo_38 : decode cX11_fromTo 38 = .ok (.iload_n 1, 1) := by decide +kernel
theorem dX11_fromTo_39 : decode cX11_fromTo 39 = .ok (.invokevirtual 179, 3) := by decide +kernel
theorem dX11_fromTo_42 : decode cX11_fromTo 42 = .ok (.ifCond .ne 17, 3) := by decide +kernel
theorem dX11_fromTo_45 : decode cX11_fromTo 45 = .ok (.aload_n 0, 1) := by decide +kernel
theorem dX11_fromTo_46 : decode cX11_fromTo 46 = .ok (.getfield 12, 3) := by decide +kernel
theorem dX11_fromTo_49 : decode cX11_fromTo 49 = .ok (.getfield 123, 3) := by decide +kernel
theorem dX11_fromTo_52 : decode cX11_fromTo 52 = .ok (.iload_n 2, 1) := by decide +kernel
theorem dX11_fromTo_53 : decode cX11_fromTo 53 = .ok (.invokevirtual 179, 3) := by decide +kernel
theorem dX11_fromTo_56 : decode cX11_fromTo 56 = .ok (.ifCond .eq 6, 3) := by decide +kernel
theorem dX11_fromTo_59 : decode cX11_fromTo 59 = .ok (.bipush (-4), 2) := by decide +kernel
theorem dX11_fromTo_61 : decode cX11_fromTo 61 = .ok (.ireturn, 1) := by decide +kernel
theorem dX11_fromTo_62 : decode cX11_fromTo 62 = .ok (.aload_n 0, 1) := by decide +kernel
theorem dX11_fromTo_63 : decode cX11_fromTo 63 = .ok (.getfield 19, 3) := by decide +kernel
theorem dX11_fromTo_66 : decode cX11_fromTo 66 = .ok (.invokevirtual 192, 3) := by decide +kernel
theorem dX11_fromTo_69 : decode cX11_fromTo 69 = .ok (.ifCond .eq 17, 3) := by decide +kernel
theorem dX11_fromTo_72 : decode cX11_fromTo 72 = .ok (.iload_n 3, 1) := by decide +kernel
theorem dX11_fromTo_73 : decode cX11_fromTo 73 = .ok (.ifCond .eq 16, 3) := by decide +kernel
theorem dX11_fromTo_76 : decode cX11_fromTo 76 = .ok (.aload_n 0, 1) := by decide +kernel
theorem dX11_fromTo_77 : decode cX11_fromTo 77 = .ok (.getfield 12, 3) := by decide +kernel
theorem dX11_fromTo_80 : decode cX11_fromTo 80 = .ok (.getfield 154, 3) := by decide +kernel
theorem dX11_fromTo_83 : decode cX11_fromTo 83 = .ok (.ifCond .eq 6, 3) := by decide +kernel
theorem dX11_fromTo_86 : decode cX11_fromTo 86 = .ok (.bipush (-5), 2) := by decide +kernel
theorem dX11_fromTo_88 : decode cX11_fromTo 88 = .ok (.ireturn, 1) := by decide +kernel
theorem dX11_fromTo_89 : decode cX11_fromTo 89 = .ok (.aload_n 0, 1) := by decide +kernel
theorem dX11_fromTo_90 : decode cX11_fromTo 90 = .ok (.getfield 44, 3) := by decide +kernel
theorem dX11_fromTo_93 : decode cX11_fromTo 93 = .ok (.iload_n 1, 1) := by decide +kernel
theorem dX11_fromTo_94 : decode cX11_fromTo 94 = .ok (.iload_n 2, 1) := by decide +kernel
theorem dX11_fromTo_95 : decode cX11_fromTo 95 = .ok (.iload_n 3, 1) := by decide +kernel
theorem dX11_fromTo_96 : decode cX11_fromTo 96 = .ok (.invokevirtual 276, 3) := by decide +kernel
theorem dX11_fromTo_99 : decode cX11_fromTo 99 = .ok (.ireturn, 1) := by decide +kernel
set_option maxHeartbeats 4000000 in
set_option maxRecDepth 100000 in
theorem c_X11_fromTo (l : Launch) {cs : Nat → ClassId} {ad : Nat → Nat} {A : Nat → Prop} {D : va_G} (hJ : hp_J SB ad A)   {h : hp_H} {a1 a2 a3 : Int32} {Q : Int32 → hp_H → Prop} (hq : q_X11_fromTo h a1 a2 a3 Q) : hp_Mi l yX11_fromTo cX11_fromTo 4 (some .int) rm_X11_fromTo [.ref (ad 0), .int a1, .int a2, .int a3] SB cs ad A D h Q := by
  refine hp_met (own := RX11) rfl (by decide) (Nat.le_of_ble_eq_true rfl) rfl (fun p e s m args below meth c Z E hZ hnm => ?_)
  refine hp_sub (lv' := [(0, .ref (ad 0)), (1, .int a1), (2, .int a2), (3, .int a3)]) [0, 1, 2, 3] rfl ?_
  unfold q_X11_fromTo at hq
  refine hp_aload_n E 0 dX11_fromTo_0 rfl rfl ?_
  refine hp_gR E g_RX11_12 fB_0_0 dX11_fromTo_1 ?_
  refine hp_gR E g_RX11_123 fB_1_3 dX11_fromTo_4 ?_
  refine hp_iload_n E 1 dX11_fromTo_7 rfl rfl ?_
  refine hp_callVip (rest := []) E 15 fB_15_0 vcl_1 (c_X1_has l hJ hq) F_X1_has m_RX11_131 ⟨rfl, rfl⟩ ⟨Nat.le_of_ble_eq_true rfl, Nat.le_of_ble_eq_true rfl⟩ ⟨Nat.zero_le _, Nat.zero_le _⟩ rfl rfl (Nat.le_of_ble_eq_true rfl) dX11_fromTo_8 (fun r1 hq => ?_)
  refine hp_if_eq E 28 dX11_fromTo_11 (by decide) (fun c2 => ?_) (fun c2 => ?_)
  · replace hq := hq.1 c2
    refine hp_bipush E (-2) dX11_fromTo_28 (by decide) ?_
    exact hp_iret E hq hZ dX11_fromTo_30
  · replace hq := hq.2 c2
    refine hp_aload_n E 0 dX11_fromTo_14 rfl rfl ?_
    refine hp_gR E g_RX11_12 fB_0_0 dX11_fromTo_15 ?_
    refine hp_gR E g_RX11_123 fB_1_3 dX11_fromTo_18 ?_
    refine hp_iload_n E 2 dX11_fromTo_21 rfl rfl ?_
    refine hp_callVip (rest := []) E 15 fB_15_0 vcl_1 (c_X1_has l hJ hq) F_X1_has m_RX11_131 ⟨rfl, rfl⟩ ⟨Nat.le_of_ble_eq_true rfl, Nat.le_of_ble_eq_true rfl⟩ ⟨Nat.zero_le _, Nat.zero_le _⟩ rfl rfl (Nat.le_of_ble_eq_true rfl) dX11_fromTo_22 (fun r3 hq => ?_)
    refine hp_if_ne E 31 dX11_fromTo_25 (by decide) (fun c4 => ?_) (fun c4 => ?_)
    · replace hq := hq.2 c4
      refine hp_aload_n E 0 dX11_fromTo_31 rfl rfl ?_
      refine hp_gR E g_RX11_12 fB_0_0 dX11_fromTo_32 ?_
      refine hp_gR E g_RX11_123 fB_1_3 dX11_fromTo_35 ?_
      refine hp_iload_n E 1 dX11_fromTo_38 rfl rfl ?_
      refine hp_callVip (rest := []) E 15 fB_15_0 vcl_1 (c_X1_isOwned l hJ hq) F_X1_isOwned m_RX11_179 ⟨rfl, rfl⟩ ⟨Nat.le_of_ble_eq_true rfl, Nat.le_of_ble_eq_true rfl⟩ ⟨Nat.zero_le _, Nat.zero_le _⟩ rfl rfl (Nat.le_of_ble_eq_true rfl) dX11_fromTo_39 (fun r5 hq => ?_)
      refine hp_if_ne E 59 dX11_fromTo_42 (by decide) (fun c6 => ?_) (fun c6 => ?_)
      · replace hq := hq.2 c6
        refine hp_bipush E (-4) dX11_fromTo_59 (by decide) ?_
        exact hp_iret E hq hZ dX11_fromTo_61
      · replace hq := hq.1 c6
        refine hp_aload_n E 0 dX11_fromTo_45 rfl rfl ?_
        refine hp_gR E g_RX11_12 fB_0_0 dX11_fromTo_46 ?_
        refine hp_gR E g_RX11_123 fB_1_3 dX11_fromTo_49 ?_
        refine hp_iload_n E 2 dX11_fromTo_52 rfl rfl ?_
        refine hp_callVip (rest := []) E 15 fB_15_0 vcl_1 (c_X1_isOwned l hJ hq) F_X1_isOwned m_RX11_179 ⟨rfl, rfl⟩ ⟨Nat.le_of_ble_eq_true rfl, Nat.le_of_ble_eq_true rfl⟩ ⟨Nat.zero_le _, Nat.zero_le _⟩ rfl rfl (Nat.le_of_ble_eq_true rfl) dX11_fromTo_53 (fun r7 hq => ?_)
        refine hp_if_eq E 62 dX11_fromTo_56 (by decide) (fun c8 => ?_) (fun c8 => ?_)
        · replace hq := hq.1 c8
          refine hp_aload_n E 0 dX11_fromTo_62 rfl rfl ?_
          refine hp_gR E g_RX11_19 fB_0_1 dX11_fromTo_63 ?_
          refine hp_callVip (rest := []) E 35 fB_35_0 vcl_2 (c_X2_isUsable l hJ hq) F_X2_isUsable m_RX11_192 ⟨rfl, rfl⟩ ⟨Nat.le_of_ble_eq_true rfl, Nat.le_of_ble_eq_true rfl⟩ ⟨Nat.zero_le _, Nat.zero_le _⟩ rfl rfl (Nat.le_of_ble_eq_true rfl) dX11_fromTo_66 (fun r9 hq => ?_)
          refine hp_if_eq E 86 dX11_fromTo_69 (by decide) (fun c10 => ?_) (fun c10 => ?_)
          · replace hq := hq.1 c10
            refine hp_bipush E (-5) dX11_fromTo_86 (by decide) ?_
            exact hp_iret E hq hZ dX11_fromTo_88
          · replace hq := hq.2 c10
            refine hp_iload_n E 3 dX11_fromTo_72 rfl rfl ?_
            obtain ⟨K12, hq, hK12⟩ := hq
            have jK12 : K12 → hp_G p l e rm_X11_fromTo s m args below meth c SB cs ad A D 4 0 0 Z 89 [(0, .ref (ad 0)), (1, .int a1), (2, .int a2), (3, .int a3)] [] h := by
              intro  hq
              replace hq := hK12  hq
              refine hp_aload_n E 0 dX11_fromTo_89 rfl rfl ?_
              refine hp_gR E g_RX11_44 fB_0_4 dX11_fromTo_90 ?_
              refine hp_iload_n E 1 dX11_fromTo_93 rfl rfl ?_
              refine hp_iload_n E 2 dX11_fromTo_94 rfl rfl ?_
              refine hp_iload_n E 3 dX11_fromTo_95 rfl rfl ?_
              refine hp_callVi' (rest := []) E 53 fB_53_0 vcl_3 (c_X3_breakerOfFromTo l hJ hq) F_X3_breakerOfFromTo m_RX11_276 ⟨rfl, rfl⟩ ⟨Nat.le_of_ble_eq_true rfl, Nat.le_of_ble_eq_true rfl⟩ ⟨Nat.zero_le _, Nat.zero_le _⟩ rfl rfl (Nat.le_of_ble_eq_true rfl) dX11_fromTo_96 (fun r14 h15 hq => ?_)
              exact hp_iret E hq hZ dX11_fromTo_99
            refine hp_if_eq E 89 dX11_fromTo_73 (by decide) (fun c11 => ?_) (fun c11 => ?_)
            · replace hq := hq.1 c11
              exact jK12  hq
            · replace hq := hq.2 c11
              refine hp_aload_n E 0 dX11_fromTo_76 rfl rfl ?_
              refine hp_gR E g_RX11_12 fB_0_0 dX11_fromTo_77 ?_
              refine hp_gI E g_RX11_154 fB_1_9 dX11_fromTo_80 ?_
              refine hp_if_eq E 89 dX11_fromTo_83 (by decide) (fun c13 => ?_) (fun c13 => ?_)
              · replace hq := hq.1 c13
                exact jK12  hq
              · replace hq := hq.2 c13
                refine hp_bipush E (-5) dX11_fromTo_86 (by decide) ?_
                exact hp_iret E hq hZ dX11_fromTo_88
        · replace hq := hq.2 c8
          refine hp_bipush E (-4) dX11_fromTo_59 (by decide) ?_
          exact hp_iret E hq hZ dX11_fromTo_61
    · replace hq := hq.1 c4
      refine hp_bipush E (-2) dX11_fromTo_28 (by decide) ?_
      exact hp_iret E hq hZ dX11_fromTo_30
theorem dX11_observe_0 : decode cX11_observe 0 = .ok (.aload_n 0, 1) := by decide +kernel
theorem dX11_observe_1 : decode cX11_observe 1 = .ok (.iload_n 1, 1) := by decide +kernel
theorem dX11_observe_2 : decode cX11_observe 2 = .ok (.invokevirtual 269, 3) := by decide +kernel
theorem dX11_observe_5 : decode cX11_observe 5 = .ok (.istore_n 2, 1) := by decide +kernel
theorem dX11_observe_6 : decode cX11_observe 6 = .ok (.iload_n 2, 1) := by decide +kernel
theorem dX11_observe_7 : decode cX11_observe 7 = .ok (.ifCond .eq 5, 3) := by decide +kernel
theorem dX11_observe_10 : decode cX11_observe 10 = .ok (.iload_n 2, 1) := by decide +kernel
theorem dX11_observe_11 : decode cX11_observe 11 = .ok (.ireturn, 1) := by decide +kernel
theorem dX11_observe_12 : decode cX11_observe 12 = .ok (.aload_n 0, 1) := by decide +kernel
theorem dX11_observe_13 : decode cX11_observe 13 = .ok (.getfield 53, 3) := by decide +kernel
theorem dX11_observe_16 : decode cX11_observe 16 = .ok (.iload_n 1, 1) := by decide +kernel
theorem dX11_observe_17 : decode cX11_observe 17 = .ok (.invokevirtual 280, 3) := by decide +kernel
theorem dX11_observe_20 : decode cX11_observe 20 = .ok (.ifCond .eq 6, 3) := by decide +kernel
theorem dX11_observe_23 : decode cX11_observe 23 = .ok (.bipush (-3), 2) := by decide +kernel
theorem dX11_observe_25 : decode cX11_observe 25 = .ok (.ireturn, 1) := by decide +kernel
theorem dX11_observe_26 : decode cX11_observe 26 = .ok (.aload_n 0, 1) := by decide +kernel
theorem dX11_observe_27 : decode cX11_observe 27 = .ok (.getfield 53, 3) := by decide +kernel
theorem dX11_observe_30 : decode cX11_observe 30 = .ok (.getfield 283, 3) := by decide +kernel
theorem dX11_observe_33 : decode cX11_observe 33 = .ok (.bipush 8, 2) := by decide +kernel
theorem dX11_observe_35 : decode cX11_observe 35 = .ok (.if_icmp .ne 6, 3) := by decide +kernel
theorem dX11_observe_38 : decode cX11_observe 38 = .ok (.bipush (-6), 2) := by decide +kernel
theorem dX11_observe_40 : decode cX11_observe 40 = .ok (.ireturn, 1) := by decide +kernel
theorem dX11_observe_41 : decode cX11_observe 41 = .ok (.aload_n 0, 1) := by decide +kernel
theorem dX11_observe_42 : decode cX11_observe 42 = .ok (.getfield 53, 3) := by decide +kernel
theorem dX11_observe_45 : decode cX11_observe 45 = .ok (.iload_n 1, 1) := by decide +kernel
theorem dX11_observe_46 : decode cX11_observe 46 = .ok (.invokevirtual 286, 3) := by decide +kernel
theorem dX11_observe_49 : decode cX11_observe 49 = .ok (.ireturn, 1) := by decide +kernel
set_option maxHeartbeats 4000000 in
set_option maxRecDepth 100000 in
theorem c_X11_observe (l : Launch) {cs : Nat → ClassId} {ad : Nat → Nat} {A : Nat → Prop} {D : va_G} (hJ : hp_J SB ad A)   {h : hp_H} {a1 : Int32} {Q : Int32 → hp_H → Prop} (hq : q_X11_observe h a1 Q) : hp_Mi l yX11_observe cX11_observe 3 (some .int) rm_X11_observe [.ref (ad 0), .int a1] SB cs ad A D h Q := by
  refine hp_met (own := RX11) rfl (by decide) (Nat.le_of_ble_eq_true rfl) rfl (fun p e s m args below meth c Z E hZ hnm => ?_)
  refine hp_sub (lv' := [(0, .ref (ad 0)), (1, .int a1)]) [0, 1] rfl ?_
  unfold q_X11_observe at hq
  refine hp_aload_n E 0 dX11_observe_0 rfl rfl ?_
  refine hp_iload_n E 1 dX11_observe_1 rfl rfl ?_
  refine hp_callVip (rest := []) E 0 fB_0_0 vcl_11 (c_X11_refusalOfPlain l hJ hq) F_X11_refusalOfPlain m_RX11_269 ⟨rfl, rfl⟩ ⟨Nat.le_of_ble_eq_true rfl, Nat.le_of_ble_eq_true rfl⟩ ⟨Nat.zero_le _, Nat.zero_le _⟩ rfl rfl (Nat.le_of_ble_eq_true rfl) dX11_observe_2 (fun r1 hq => ?_)
  refine hp_istore_n (lv' := [(0, .ref (ad 0)), (1, .int a1), (2, .int r1)]) E dX11_observe_5 rfl (by decide) rfl rfl ?_
  refine hp_iload_n E 2 dX11_observe_6 rfl rfl ?_
  refine hp_if_eq E 12 dX11_observe_7 (by decide) (fun c2 => ?_) (fun c2 => ?_)
  · replace hq := hq.1 c2
    refine hp_aload_n E 0 dX11_observe_12 rfl rfl ?_
    refine hp_gR E g_RX11_53 fB_0_5 dX11_observe_13 ?_
    refine hp_iload_n E 1 dX11_observe_16 rfl rfl ?_
    refine hp_callVip (rest := []) E 64 fB_64_0 vcl_0 (c_X0_observes l hJ hq) F_X0_observes m_RX11_280 ⟨rfl, rfl⟩ ⟨Nat.le_of_ble_eq_true rfl, Nat.le_of_ble_eq_true rfl⟩ ⟨Nat.zero_le _, Nat.zero_le _⟩ rfl rfl (Nat.le_of_ble_eq_true rfl) dX11_observe_17 (fun r3 hq => ?_)
    refine hp_if_eq E 26 dX11_observe_20 (by decide) (fun c4 => ?_) (fun c4 => ?_)
    · replace hq := hq.1 c4
      refine hp_aload_n E 0 dX11_observe_26 rfl rfl ?_
      refine hp_gR E g_RX11_53 fB_0_5 dX11_observe_27 ?_
      refine hp_gI E g_RX11_283 fB_64_0 dX11_observe_30 ?_
      refine hp_bipush E (nI 8) dX11_observe_33 (by decide) ?_
      refine hp_icmp_ne E 41 dX11_observe_35 (by decide) (fun c5 => ?_) (fun c5 => ?_)
      · replace hq := hq.2 c5
        refine hp_aload_n E 0 dX11_observe_41 rfl rfl ?_
        refine hp_gR E g_RX11_53 fB_0_5 dX11_observe_42 ?_
        refine hp_iload_n E 1 dX11_observe_45 rfl rfl ?_
        refine hp_callVi' (rest := []) E 64 fB_64_0 vcl_0 (c_X0_addObserved l hJ hq) F_X0_addObserved m_RX11_286 ⟨rfl, rfl⟩ ⟨Nat.le_of_ble_eq_true rfl, Nat.le_of_ble_eq_true rfl⟩ ⟨Nat.zero_le _, Nat.zero_le _⟩ rfl rfl (Nat.le_of_ble_eq_true rfl) dX11_observe_46 (fun r6 h7 hq => ?_)
        exact hp_iret E hq hZ dX11_observe_49
      · replace hq := hq.1 c5
        refine hp_bipush E (-6) dX11_observe_38 (by decide) ?_
        exact hp_iret E hq hZ dX11_observe_40
    · replace hq := hq.2 c4
      refine hp_bipush E (-3) dX11_observe_23 (by decide) ?_
      exact hp_iret E hq hZ dX11_observe_25
  · replace hq := hq.2 c2
    refine hp_iload_n E 2 dX11_observe_10 rfl rfl ?_
    exact hp_iret E hq hZ dX11_observe_11
theorem dX11_classes_0 : decode cX11_classes 0 = .ok (.aload_n 0, 1) := by decide +kernel
theorem dX11_classes_1 : decode cX11_classes 1 = .ok (.getfield 19, 3) := by decide +kernel
theorem dX11_classes_4 : decode cX11_classes 4 = .ok (.invokevirtual 192, 3) := by decide +kernel
theorem dX11_classes_7 : decode cX11_classes 7 = .ok (.ifCond .ne 6, 3) := by decide +kernel
theorem dX11_classes_10 : decode cX11_classes 10 = .ok (.bipush (-5), 2) := by decide +kernel
theorem dX11_classes_12 : decode cX11_classes 12 = .ok (.ireturn, 1) := by decide +kernel
theorem dX11_classes_13 : decode cX11_classes 13 = .ok (.aload_n 0, 1) := by decide +kernel
theorem dX11_classes_14 : decode cX11_classes 14 = .ok (.getfield 53, 3) := by decide +kernel
theorem dX11_classes_17 : decode cX11_classes 17 = .ok (.invokevirtual 289, 3) := by decide +kernel
theorem dX11_classes_20 : decode cX11_classes 20 = .ok (.aload_n 0, 1) := by decide +kernel
theorem dX11_classes_21 : decode cX11_classes 21 = .ok (.getfield 53, 3) := by decide +kernel
theorem dX11_classes_24 : decode cX11_classes 24 = .ok (.getfield 292, 3) := by decide +kernel
theorem dX11_classes_27 : decode cX11_classes 27 = .ok (.ireturn, 1) := by decide +kernel
set_option maxHeartbeats 4000000 in
set_option maxRecDepth 100000 in
theorem c_X11_classes (l : Launch) {cs : Nat → ClassId} {ad : Nat → Nat} {A : Nat → Prop} {D : va_G} (hJ : hp_J SB ad A)   {h : hp_H} {Q : Int32 → hp_H → Prop} (hq : q_X11_classes h Q) : hp_Mi l yX11_classes cX11_classes 1 (some .int) rm_X11_classes [.ref (ad 0)] SB cs ad A D h Q := by
  refine hp_met (own := RX11) rfl (by decide) (Nat.le_of_ble_eq_true rfl) rfl (fun p e s m args below meth c Z E hZ hnm => ?_)
  refine hp_sub (lv' := [(0, .ref (ad 0))]) [0] rfl ?_
  unfold q_X11_classes at hq
  refine hp_aload_n E 0 dX11_classes_0 rfl rfl ?_
  refine hp_gR E g_RX11_19 fB_0_1 dX11_classes_1 ?_
  refine hp_callVip (rest := []) E 35 fB_35_0 vcl_2 (c_X2_isUsable l hJ hq) F_X2_isUsable m_RX11_192 ⟨rfl, rfl⟩ ⟨Nat.le_of_ble_eq_true rfl, Nat.le_of_ble_eq_true rfl⟩ ⟨Nat.zero_le _, Nat.zero_le _⟩ rfl rfl (Nat.le_of_ble_eq_true rfl) dX11_classes_4 (fun r1 hq => ?_)
  refine hp_if_ne E 13 dX11_classes_7 (by decide) (fun c2 => ?_) (fun c2 => ?_)
  · replace hq := hq.2 c2
    refine hp_aload_n E 0 dX11_classes_13 rfl rfl ?_
    refine hp_gR E g_RX11_53 fB_0_5 dX11_classes_14 ?_
    refine hp_callVv' (rest := []) E 64 fB_64_0 vcl_0 (c_X0_makeSure l hJ hq) F_X0_makeSure m_RX11_289 ⟨rfl, rfl⟩ ⟨Nat.le_of_ble_eq_true rfl, Nat.le_of_ble_eq_true rfl⟩ ⟨Nat.zero_le _, Nat.zero_le _⟩ rfl rfl (Nat.le_of_ble_eq_true rfl) dX11_classes_17 (fun h3 hq => ?_)
    refine hp_aload_n E 0 dX11_classes_20 rfl rfl ?_
    refine hp_gR E g_RX11_53 fB_0_5 dX11_classes_21 ?_
    refine hp_gI E g_RX11_292 fB_64_1 dX11_classes_24 ?_
    exact hp_iret E hq hZ dX11_classes_27
  · replace hq := hq.1 c2
    refine hp_bipush E (-5) dX11_classes_10 (by decide) ?_
    exact hp_iret E hq hZ dX11_classes_12
theorem dX11_classOf_0 : decode cX11_classOf 0 = .ok (.aload_n 0, 1) := by decide +kernel
theorem dX11_classOf_1 : decode cX11_classOf 1 = .ok (.getfield 19, 3) := by decide +kernel
theorem dX11_classOf_4 : decode cX11_classOf 4 = .ok (.invokevirtual 192, 3) := by decide +kernel
theorem dX11_classOf_7 : decode cX11_classOf 7 = .ok (.ifCond .ne 6, 3) := by decide +kernel
theorem dX11_classOf_10 : decode cX11_classOf 10 = .ok (.bipush (-5), 2) := by decide +kernel
theorem dX11_classOf_12 : decode cX11_classOf 12 = .ok (.ireturn, 1) := by decide +kernel
theorem dX11_classOf_13 : decode cX11_classOf 13 = .ok (.aload_n 0, 1) := by decide +kernel
theorem dX11_classOf_14 : decode cX11_classOf 14 = .ok (.getfield 19, 3) := by decide +kernel
theorem dX11_classOf_17 : decode cX11_classOf 17 = .ok (.iload_n 1, 1) := by decide +kernel
theorem dX11_classOf_18 : decode cX11_classOf 18 = .ok (.invokevirtual 178, 3) := by decide +kernel
theorem dX11_classOf_21 : decode cX11_classOf 21 = .ok (.ifCond .ne 6, 3) := by decide +kernel
theorem dX11_classOf_24 : decode cX11_classOf 24 = .ok (.bipush (-2), 2) := by decide +kernel
theorem dX11_classOf_26 : decode cX11_classOf 26 = .ok (.ireturn, 1) := by decide +kernel
theorem dX11_classOf_27 : decode cX11_classOf 27 = .ok (.aload_n 0, 1) := by decide +kernel
theorem dX11_classOf_28 : decode cX11_classOf 28 = .ok (.getfield 53, 3) := by decide +kernel
theorem dX11_classOf_31 : decode cX11_classOf 31 = .ok (.invokevirtual 289, 3) := by decide +kernel
theorem dX11_classOf_34 : decode cX11_classOf 34 = .ok (.aload_n 0, 1) := by decide +kernel
theorem dX11_classOf_35 : decode cX11_classOf 35 = .ok (.getfield 53, 3) := by decide +kernel
theorem dX11_classOf_38 : decode cX11_classOf 38 = .ok (.getfield 295, 3) := by decide +kernel
theorem dX11_classOf_41 : decode cX11_classOf 41 = .ok (.iload_n 1, 1) := by decide +kernel
theorem dX11_classOf_42 : decode cX11_classOf 42 = .ok (.iaload, 1) := by decide +kernel
theorem dX11_classOf_43 : decode cX11_classOf 43 = .ok (.ireturn, 1) := by decide +kernel
set_option maxHeartbeats 4000000 in
set_option maxRecDepth 100000 in
theorem c_X11_classOf (l : Launch) {cs : Nat → ClassId} {ad : Nat → Nat} {A : Nat → Prop} {D : va_G} (hJ : hp_J SB ad A)   {h : hp_H} {a1 : Int32} {Q : Int32 → hp_H → Prop} (hq : q_X11_classOf h a1 Q) : hp_Mi l yX11_classOf cX11_classOf 2 (some .int) rm_X11_classOf [.ref (ad 0), .int a1] SB cs ad A D h Q := by
  refine hp_met (own := RX11) rfl (by decide) (Nat.le_of_ble_eq_true rfl) rfl (fun p e s m args below meth c Z E hZ hnm => ?_)
  refine hp_sub (lv' := [(0, .ref (ad 0)), (1, .int a1)]) [0, 1] rfl ?_
  unfold q_X11_classOf at hq
  refine hp_aload_n E 0 dX11_classOf_0 rfl rfl ?_
  refine hp_gR E g_RX11_19 fB_0_1 dX11_classOf_1 ?_
  refine hp_callVip (rest := []) E 35 fB_35_0 vcl_2 (c_X2_isUsable l hJ hq) F_X2_isUsable m_RX11_192 ⟨rfl, rfl⟩ ⟨Nat.le_of_ble_eq_true rfl, Nat.le_of_ble_eq_true rfl⟩ ⟨Nat.zero_le _, Nat.zero_le _⟩ rfl rfl (Nat.le_of_ble_eq_true rfl) dX11_classOf_4 (fun r1 hq => ?_)
  refine hp_if_ne E 13 dX11_classOf_7 (by decide) (fun c2 => ?_) (fun c2 => ?_)
  · replace hq := hq.2 c2
    refine hp_aload_n E 0 dX11_classOf_13 rfl rfl ?_
    refine hp_gR E g_RX11_19 fB_0_1 dX11_classOf_14 ?_
    refine hp_iload_n E 1 dX11_classOf_17 rfl rfl ?_
    refine hp_callVip (rest := []) E 35 fB_35_0 vcl_2 (c_X2_has l hJ hq) F_X2_has m_RX11_178 ⟨rfl, rfl⟩ ⟨Nat.le_of_ble_eq_true rfl, Nat.le_of_ble_eq_true rfl⟩ ⟨Nat.zero_le _, Nat.zero_le _⟩ rfl rfl (Nat.le_of_ble_eq_true rfl) dX11_classOf_18 (fun r3 hq => ?_)
    refine hp_if_ne E 27 dX11_classOf_21 (by decide) (fun c4 => ?_) (fun c4 => ?_)
    · replace hq := hq.2 c4
      refine hp_aload_n E 0 dX11_classOf_27 rfl rfl ?_
      refine hp_gR E g_RX11_53 fB_0_5 dX11_classOf_28 ?_
      refine hp_callVv' (rest := []) E 64 fB_64_0 vcl_0 (c_X0_makeSure l hJ hq) F_X0_makeSure m_RX11_289 ⟨rfl, rfl⟩ ⟨Nat.le_of_ble_eq_true rfl, Nat.le_of_ble_eq_true rfl⟩ ⟨Nat.zero_le _, Nat.zero_le _⟩ rfl rfl (Nat.le_of_ble_eq_true rfl) dX11_classOf_31 (fun h5 hq => ?_)
      refine hp_aload_n E 0 dX11_classOf_34 rfl rfl ?_
      refine hp_gR E g_RX11_53 fB_0_5 dX11_classOf_35 ?_
      refine hp_gM E g_RX11_295 fB_64_2 dX11_classOf_38 ?_
      refine hp_topw (fun w6 ew6 => ?_)
      replace hq := hq w6 ew6
      have ow6 := hq.1
      replace hq := hq.2
      refine hp_iload_n E 1 dX11_classOf_41 rfl rfl ?_
      refine hp_iald E w6 (pw_a ow6) hq.1 dX11_classOf_42 ?_
      replace hq := hq.2
      exact hp_iret E hq hZ dX11_classOf_43
    · replace hq := hq.1 c4
      refine hp_bipush E (-2) dX11_classOf_24 (by decide) ?_
      exact hp_iret E hq hZ dX11_classOf_26
  · replace hq := hq.1 c2
    refine hp_bipush E (-5) dX11_classOf_10 (by decide) ?_
    exact hp_iret E hq hZ dX11_classOf_12
theorem dX11_count_0 : decode cX11_count 0 = .ok (.iload_n 1, 1) := by decide +kernel
theorem dX11_count_1 : decode cX11_count 1 = .ok (.tableswitch 128 0 7 #[47, 60, 71, 79, 90, 101, 109, 117], 47) := by decide +kernel
theorem dX11_count_48 : decode cX11_count 48 = .ok (.aload_n 0, 1) := by decide +kernel
theorem dX11_count_49 : decode cX11_count 49 = .ok (.getfield 12, 3) := by decide +kernel
theorem dX11_count_52 : decode cX11_count 52 = .ok (.getfield 63, 3) := by decide +kernel
theorem dX11_count_55 : decode cX11_count 55 = .ok (.getfield 298, 3) := by decide +kernel
theorem dX11_count_58 : decode cX11_count 58 = .ok (.iconst 0, 1) := by decide +kernel
theorem dX11_count_59 : decode cX11_count 59 = .ok (.iaload, 1) := by decide +kernel
theorem dX11_count_60 : decode cX11_count 60 = .ok (.ireturn, 1) := by decide +kernel
theorem dX11_count_61 : decode cX11_count 61 = .ok (.aload_n 0, 1) := by decide +kernel
theorem dX11_count_62 : decode cX11_count 62 = .ok (.getfield 12, 3) := by decide +kernel
theorem dX11_count_65 : decode cX11_count 65 = .ok (.getfield 78, 3) := by decide +kernel
theorem dX11_count_68 : decode cX11_count 68 = .ok (.getfield 82, 3) := by decide +kernel
theorem dX11_count_71 : decode cX11_count 71 = .ok (.ireturn, 1) := by decide +kernel
theorem dX11_count_72 : decode cX11_count 72 = .ok (.aload_n 0, 1) := by decide +kernel
theorem dX11_count_73 : decode cX11_count 73 = .ok (.getfield 12, 3) := by decide +kernel
theorem dX11_count_76 : decode cX11_count 76 = .ok (.getfield 112, 3) := by decide +kernel
theorem dX11_count_79 : decode cX11_count 79 = .ok (.ireturn, 1) := by decide +kernel
theorem dX11_count_80 : decode cX11_count 80 = .ok (.aload_n 0, 1) := by decide +kernel
theorem dX11_count_81 : decode cX11_count 81 = .ok (.getfield 12, 3) := by decide +kernel
theorem dX11_count_84 : decode cX11_count 84 = .ok (.getfield 123, 3) := by decide +kernel
theorem dX11_count_87 : decode cX11_count 87 = .ok (.getfield 127, 3) := by decide +kernel
theorem dX11_count_90 : decode cX11_count 90 = .ok (.ireturn, 1) := by decide +kernel
theorem dX11_count_91 : decode cX11_count 91 = .ok (.aload_n 0, 1) := by decide +kernel
theorem dX11_count_92 : decode cX11_count 92 = .ok (.getfield 12, 3) := by decide +kernel
theorem dX11_count_95 : decode cX11_count 95 = .ok (.getfield 132, 3) := by decide +kernel
theorem dX11_count_98 : decode cX11_count 98 = .ok (.getfield 136, 3) := by decide +kernel
theorem dX11_count_101 : decode cX11_count 101 = .ok (.ireturn, 1) := by decide +kernel
theorem dX11_count_102 : decode cX11_count 102 = .ok (.aload_n 0, 1) := by decide +kernel
theorem dX11_count_103 : decode cX11_count 103 = .ok (.getfield 53, 3) := by decide +kernel
theorem dX11_count_106 : decode cX11_count 106 = .ok (.getfield 283, 3) := by decide +kernel
theorem dX11_count_109 : decode cX11_count 109 = .ok (.ireturn, 1) := by decide +kernel
theorem dX11_count_110 : decode cX11_count 110 = .ok (.aload_n 0, 1) := by decide +kernel
theorem dX11_count_111 : decode cX11_count 111 = .ok (.getfield 19, 3) := by decide +kernel
theorem dX11_count_114 : decode cX11_count 114 = .ok (.getfield 168, 3) := by decide +kernel
theorem dX11_count_117 : decode cX11_count 117 = .ok (.ireturn, 1) := by decide +kernel
theorem dX11_count_118 : decode cX11_count 118 = .ok (.aload_n 0, 1) := by decide +kernel
theorem dX11_count_119 : decode cX11_count 119 = .ok (.getfield 19, 3) := by decide +kernel
theorem dX11_count_122 : decode cX11_count 122 = .ok (.getfield 171, 3) := by decide +kernel
theorem dX11_count_125 : decode cX11_count 125 = .ok (.invokestatic 104, 3) := by decide +kernel
theorem dX11_count_128 : decode cX11_count 128 = .ok (.ireturn, 1) := by decide +kernel
theorem dX11_count_129 : decode cX11_count 129 = .ok (.bipush (-3), 2) := by decide +kernel
theorem dX11_count_131 : decode cX11_count 131 = .ok (.ireturn, 1) := by decide +kernel
set_option maxHeartbeats 4000000 in
set_option maxRecDepth 100000 in
theorem c_X11_count (l : Launch) {cs : Nat → ClassId} {ad : Nat → Nat} {A : Nat → Prop} {D : va_G} (hJ : hp_J SB ad A)   {h : hp_H} {a1 : Int32} {Q : Int32 → Prop} (hq : q_X11_count h a1 Q) : hp_Mi l yX11_count cX11_count 2 (some .int) rm_X11_count [.ref (ad 0), .int a1] SB cs ad A D h (fun r h' => Q r ∧ h' = h) := by
  refine hp_met (own := RX11) rfl (by decide) (Nat.le_of_ble_eq_true rfl) rfl (fun p e s m args below meth c Z E hZ hnm => ?_)
  refine hp_sub (lv' := [(0, .ref (ad 0)), (1, .int a1)]) [0, 1] rfl ?_
  unfold q_X11_count at hq
  refine hp_iload_n E 1 dX11_count_0 rfl rfl ?_
  by_cases c2 : a1 = (nI 0)
  · replace hq := hq.1 (c2)
    refine hp_tswV (off := 47) E (nI 0) 48 dX11_count_1 c2 (by decide) (by decide) (by decide) (by decide) ?_
    refine hp_aload_n E 0 dX11_count_48 rfl rfl ?_
    refine hp_gR E g_RX11_12 fB_0_0 dX11_count_49 ?_
    refine hp_gR E g_RX11_63 fB_1_0 dX11_count_52 ?_
    refine hp_gR E g_RX11_298 fB_2_0 dX11_count_55 ?_
    refine hp_iconst E (nI 0) dX11_count_58 (by decide) ?_
    refine hp_iald E 3 aB_3 hq.1 dX11_count_59 ?_
    replace hq := hq.2
    exact hp_iret E ⟨hq, rfl⟩ hZ dX11_count_60
  by_cases c3 : a1 = (nI 1)
  · replace hq := hq.2.1 (c3)
    refine hp_tswV (off := 60) E (nI 1) 61 dX11_count_1 c3 (by decide) (by decide) (by decide) (by decide) ?_
    refine hp_aload_n E 0 dX11_count_61 rfl rfl ?_
    refine hp_gR E g_RX11_12 fB_0_0 dX11_count_62 ?_
    refine hp_gR E g_RX11_78 fB_1_2 dX11_count_65 ?_
    refine hp_gI E g_RX11_82 fB_12_1 dX11_count_68 ?_
    exact hp_iret E ⟨hq, rfl⟩ hZ dX11_count_71
  by_cases c4 : a1 = (nI 2)
  · replace hq := hq.2.2.1 (c4)
    refine hp_tswV (off := 71) E (nI 2) 72 dX11_count_1 c4 (by decide) (by decide) (by decide) (by decide) ?_
    refine hp_aload_n E 0 dX11_count_72 rfl rfl ?_
    refine hp_gR E g_RX11_12 fB_0_0 dX11_count_73 ?_
    refine hp_gI E g_RX11_112 fB_1_8 dX11_count_76 ?_
    exact hp_iret E ⟨hq, rfl⟩ hZ dX11_count_79
  by_cases c5 : a1 = (nI 3)
  · replace hq := hq.2.2.2.1 (c5)
    refine hp_tswV (off := 79) E (nI 3) 80 dX11_count_1 c5 (by decide) (by decide) (by decide) (by decide) ?_
    refine hp_aload_n E 0 dX11_count_80 rfl rfl ?_
    refine hp_gR E g_RX11_12 fB_0_0 dX11_count_81 ?_
    refine hp_gR E g_RX11_123 fB_1_3 dX11_count_84 ?_
    refine hp_gI E g_RX11_127 fB_15_1 dX11_count_87 ?_
    exact hp_iret E ⟨hq, rfl⟩ hZ dX11_count_90
  by_cases c6 : a1 = (nI 4)
  · replace hq := hq.2.2.2.2.1 (c6)
    refine hp_tswV (off := 90) E (nI 4) 91 dX11_count_1 c6 (by decide) (by decide) (by decide) (by decide) ?_
    refine hp_aload_n E 0 dX11_count_91 rfl rfl ?_
    refine hp_gR E g_RX11_12 fB_0_0 dX11_count_92 ?_
    refine hp_gR E g_RX11_132 fB_1_4 dX11_count_95 ?_
    refine hp_gI E g_RX11_136 fB_23_8 dX11_count_98 ?_
    exact hp_iret E ⟨hq, rfl⟩ hZ dX11_count_101
  by_cases c7 : a1 = (nI 5)
  · replace hq := hq.2.2.2.2.2.1 (c7)
    refine hp_tswV (off := 101) E (nI 5) 102 dX11_count_1 c7 (by decide) (by decide) (by decide) (by decide) ?_
    refine hp_aload_n E 0 dX11_count_102 rfl rfl ?_
    refine hp_gR E g_RX11_53 fB_0_5 dX11_count_103 ?_
    refine hp_gI E g_RX11_283 fB_64_0 dX11_count_106 ?_
    exact hp_iret E ⟨hq, rfl⟩ hZ dX11_count_109
  by_cases c8 : a1 = (nI 6)
  · replace hq := hq.2.2.2.2.2.2.1 (c8)
    refine hp_tswV (off := 109) E (nI 6) 110 dX11_count_1 c8 (by decide) (by decide) (by decide) (by decide) ?_
    refine hp_aload_n E 0 dX11_count_110 rfl rfl ?_
    refine hp_gR E g_RX11_19 fB_0_1 dX11_count_111 ?_
    refine hp_gI E g_RX11_168 fB_35_2 dX11_count_114 ?_
    exact hp_iret E ⟨hq, rfl⟩ hZ dX11_count_117
  by_cases c9 : a1 = (nI 7)
  · replace hq := hq.2.2.2.2.2.2.2.1 (c9)
    refine hp_tswV (off := 117) E (nI 7) 118 dX11_count_1 c9 (by decide) (by decide) (by decide) (by decide) ?_
    refine hp_aload_n E 0 dX11_count_118 rfl rfl ?_
    refine hp_gR E g_RX11_19 fB_0_1 dX11_count_119 ?_
    refine hp_gI E g_RX11_171 fB_35_1 dX11_count_122 ?_
    refine hp_callSip (rest := []) E (c_X11_asNumber l hJ hq) F_X11_asNumber m_RX11_104 ⟨rfl, rfl⟩ ⟨Nat.le_of_ble_eq_true rfl, Nat.le_of_ble_eq_true rfl⟩ ⟨Nat.zero_le _, Nat.zero_le _⟩ rfl rfl (Nat.le_of_ble_eq_true rfl) dX11_count_125 (fun r1 hq => ?_)
    exact hp_iret E ⟨hq, rfl⟩ hZ dX11_count_128
  replace hq := hq.2.2.2.2.2.2.2.2 ⟨c2, c3, c4, c5, c6, c7, c8, c9⟩
  refine hp_tswD E 129 dX11_count_1 (hp_out (fun i h1 h2 => ?_)) (by decide) ?_
  · rcases (show i = 0 ∨ i = 1 ∨ i = 2 ∨ i = 3 ∨ i = 4 ∨ i = 5 ∨ i = 6 ∨ i = 7 by omega) with rfl | rfl | rfl | rfl | rfl | rfl | rfl | rfl
    · exact hp_nat c2 (by decide)
    · exact hp_nat c3 (by decide)
    · exact hp_nat c4 (by decide)
    · exact hp_nat c5 (by decide)
    · exact hp_nat c6 (by decide)
    · exact hp_nat c7 (by decide)
    · exact hp_nat c8 (by decide)
    · exact hp_nat c9 (by decide)
  · refine hp_bipush E (-3) dX11_count_129 (by decide) ?_
    exact hp_iret E ⟨hq, rfl⟩ hZ dX11_count_131
