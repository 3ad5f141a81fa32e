theorem dX8_takeAlike_0 : decode cX8_takeAlike 0 = .ok (.aload_n 0, 1) := by decide +kernel
theorem dX8_takeAlike_1 : decode cX8_takeAlike 1 = .ok (.getfield 25, 3) := by decide +kernel
theorem dX8_takeAlike_4 : decode cX8_takeAlike 4 = .ok (.getfield 230, 3) := by decide +kernel
theorem dX8_takeAlike_7 : decode cX8_takeAlike 7 = .ok (.ifCond .eq 23, 3) := by decide +kernel
theorem dX8_takeAlike_10 : decode cX8_takeAlike 10 = .ok (.aload_n 0, 1) := by decide +kernel
theorem dX8_takeAlike_11 : decode cX8_takeAlike 11 = .ok (.getfield 18, 3) := by decide +kernel
theorem dX8_takeAlike_14 : decode cX8_takeAlike 14 = .ok (.iload_n 1, 1) := by decide +kernel
theorem dX8_takeAlike_15 : decode cX8_takeAlike 15 = .ok (.aload_n 0, 1) := by decide +kernel
theorem dX8_takeAlike_16 : decode cX8_takeAlike 16 = .ok (.getfield 25, 3) := by decide +kernel
theorem dX8_takeAlike_19 : decode cX8_takeAlike 19 = .ok (.getfield 55, 3) := by decide +kernel
theorem dX8_takeAlike_22 : decode cX8_takeAlike 22 = .ok (.getfield 64, 3) := by decide +kernel
theorem dX8_takeAlike_25 : decode cX8_takeAlike 25 = .ok (.iload_n 1, 1) := by decide +kernel
theorem dX8_takeAlike_26 : decode cX8_takeAlike 26 = .ok (.iaload, 1) := by decide +kernel
theorem dX8_takeAlike_27 : decode cX8_takeAlike 27 = .ok (.invokevirtual 233, 3) := by decide +kernel
theorem dX8_takeAlike_30 : decode cX8_takeAlike 30 = .ok (.return_, 1) := by decide +kernel
set_option maxHeartbeats 4000000 in
set_option maxRecDepth 100000 in
theorem c_X8_takeAlike (l : Launch) {cs : Nat → ClassId} {ad : Nat → Nat} {A : Nat → Prop} {D : va_G} (hJ : hp_J SB ad A)   {h : hp_H} {a1 : Int32} {Q : hp_H → Prop} (hq : q_X8_takeAlike h a1 Q) : hp_Mv l yX8_takeAlike cX8_takeAlike 2 none rm_X8_takeAlike [.ref (ad 44), .int a1] SB cs ad A D h Q := by
  refine hp_met (own := RX8) rfl (by decide) (Nat.le_of_ble_eq_true rfl) rfl (fun p e s m args below meth c Z E hZ hnm => ?_)
  refine hp_sub (lv' := [(0, .ref (ad 44)), (1, .int a1)]) [0, 1] rfl ?_
  unfold q_X8_takeAlike at hq
  refine hp_aload_n E 0 dX8_takeAlike_0 rfl rfl ?_
  refine hp_gR E g_RX8_25 fB_44_0 dX8_takeAlike_1 ?_
  refine hp_gI E g_RX8_230 fB_1_9 dX8_takeAlike_4 ?_
  refine hp_if_eq E 30 dX8_takeAlike_7 (by decide) (fun c1 => ?_) (fun c1 => ?_)
  · replace hq := hq.1 c1
    exact hp_vret E hq hZ dX8_takeAlike_30
  · replace hq := hq.2 c1
    refine hp_aload_n E 0 dX8_takeAlike_10 rfl rfl ?_
    refine hp_gR E g_RX8_18 fB_44_3 dX8_takeAlike_11 ?_
    refine hp_iload_n E 1 dX8_takeAlike_14 rfl rfl ?_
    refine hp_aload_n E 0 dX8_takeAlike_15 rfl rfl ?_
    refine hp_gR E g_RX8_25 fB_44_0 dX8_takeAlike_16 ?_
    refine hp_gR E g_RX8_55 fB_1_2 dX8_takeAlike_19 ?_
    refine hp_gR E g_RX8_64 fB_12_0 dX8_takeAlike_22 ?_
    refine hp_iload_n E 1 dX8_takeAlike_25 rfl rfl ?_
    refine hp_iald E 13 aB_13 hq.1 dX8_takeAlike_26 ?_
    replace hq := hq.2
    refine hp_callVv' (rest := []) E 47 fB_47_0 vcl_7 (c_X7_arrange l hJ fB_47_0 aB_48 zB_48 hq) F_X7_arrange m_RX8_233 ⟨rfl, rfl⟩ ⟨Nat.le_of_ble_eq_true rfl, Nat.le_of_ble_eq_true rfl⟩ ⟨Nat.zero_le _, Nat.zero_le _⟩ rfl rfl (Nat.le_of_ble_eq_true rfl) dX8_takeAlike_27 (fun h2 hq => ?_)
    exact hp_vret E hq hZ dX8_takeAlike_30
theorem dX8_pickNext_0 : decode cX8_pickNext 0 = .ok (.aload_n 0, 1) := by decide +kernel
theorem dX8_pickNext_1 : decode cX8_pickNext 1 = .ok (.getfield 25, 3) := by decide +kernel
theorem dX8_pickNext_4 : decode cX8_pickNext 4 = .ok (.getfield 86, 3) := by decide +kernel
theorem dX8_pickNext_7 : decode cX8_pickNext 7 = .ok (.astore_n 2, 1) := by decide +kernel
theorem dX8_pickNext_8 : decode cX8_pickNext 8 = .ok (.aload_n 2, 1) := by decide +kernel
theorem dX8_pickNext_9 : decode cX8_pickNext 9 = .ok (.getfield 126, 3) := by decide +kernel
theorem dX8_pickNext_12 : decode cX8_pickNext 12 = .ok (.iload_n 1, 1) := by decide +kernel
theorem dX8_pickNext_13 : decode cX8_pickNext 13 = .ok (.iaload, 1) := by decide +kernel
theorem dX8_pickNext_14 : decode cX8_pickNext 14 = .ok (.iconst 1, 1) := by decide +kernel
theorem dX8_pickNext_15 : decode cX8_pickNext 15 = .ok (.isub, 1) := by decide +kernel
theorem dX8_pickNext_16 : decode cX8_pickNext 16 = .ok (.istore_n 3, 1) := by decide +kernel
theorem dX8_pickNext_17 : decode cX8_pickNext 17 = .ok (.iload_n 3, 1) := by decide +kernel
theorem dX8_pickNext_18 : decode cX8_pickNext 18 = .ok (.ifCond .lt 92, 3) := by decide +kernel
theorem dX8_pickNext_21 : decode cX8_pickNext 21 = .ok (.iload_n 1, 1) := by decide +kernel
theorem dX8_pickNext_22 : decode cX8_pickNext 22 = .ok (.iconst 4, 1) := by decide +kernel
theorem dX8_pickNext_23 : decode cX8_pickNext 23 = .ok (.imul, 1) := by decide +kernel
theorem dX8_pickNext_24 : decode cX8_pickNext 24 = .ok (.iload_n 3, 1) := by decide +kernel
theorem dX8_pickNext_25 : decode cX8_pickNext 25 = .ok (.iadd, 1) := by decide +kernel
theorem dX8_pickNext_26 : decode cX8_pickNext 26 = .ok (.istore 4, 2) := by decide +kernel
theorem dX8_pickNext_28 : decode cX8_pickNext 28 = .ok (.aload_n 2, 1) := by decide +kernel
theorem dX8_pickNext_29 : decode cX8_pickNext 29 = .ok (.getfield 129, 3) := by decide +kernel
theorem dX8_pickNext_32 : decode cX8_pickNext 32 = .ok (.iload 4, 2) := by decide +kernel
theorem dX8_pickNext_34 : decode cX8_pickNext 34 = .ok (.iaload, 1) := by decide +kernel
theorem dX8_pickNext_35 : decode cX8_pickNext 35 = .ok (.istore 5, 2) := by decide +kernel
theorem dX8_pickNext_37 : decode cX8_pickNext 37 = .ok (.aload_n 2, 1) := by decide +kernel
theorem dX8_pickNext_38 : decode cX8_pickNext 38 = .ok (.getfield 132, 3) := by decide +kernel
theorem dX8_pickNext_41 : decode cX8_pickNext 41 = .ok (.iload 4, 2) := by decide +kernel
theorem dX8_pickNext_43 : decode cX8_pickNext 43 = .ok (.iaload, 1) := by decide +kernel
theorem dX8_pickNext_44 : decode cX8_pickNext 44 = .ok (.iconst 3, 1) := by decide +kernel
theorem dX8_pickNext_45 : decode cX8_pickNext 45 = .ok (.if_icmp .ne 59, 3) := by decide +kernel
theorem dX8_pickNext_48 : decode cX8_pickNext 48 = .ok (.aload_n 0, 1) := by decide +kernel
theorem dX8_pickNext_49 : decode cX8_pickNext 49 = .ok (.getfield 25, 3) := by decide +kernel
theorem dX8_pickNext_52 : decode cX8_pickNext 52 = .ok (.getfield 224, 3) := by decide +kernel
theorem dX8_pickNext_55 : decode cX8_pickNext 55 = .ok (.iload 5, 2) := by decide +kernel
theorem dX8_pickNext_57 : decode cX8_pickNext 57 = .ok (.baload, 1) := by decide +kernel
theorem dX8_pickNext_58 : decode cX8_pickNext 58 = .ok (.ifCond .ne 6, 3) := by decide +kernel
theorem dX8_pickNext_61 : decode cX8_pickNext 61 = .ok (.goto 43, 3) := by decide +kernel
theorem dX8_pickNext_64 : decode cX8_pickNext 64 = .ok (.aload_n 0, 1) := by decide +kernel
theorem dX8_pickNext_65 : decode cX8_pickNext 65 = .ok (.getfield 12, 3) := by decide +kernel
theorem dX8_pickNext_68 : decode cX8_pickNext 68 = .ok (.iload 5, 2) := by decide +kernel
theorem dX8_pickNext_70 : decode cX8_pickNext 70 = .ok (.aload_n 0, 1) := by decide +kernel
theorem dX8_pickNext_71 : decode cX8_pickNext 71 = .ok (.getfield 21, 3) := by decide +kernel
theorem dX8_pickNext_74 : decode cX8_pickNext 74 = .ok (.iload_n 3, 1) := by decide +kernel
theorem dX8_pickNext_75 : decode cX8_pickNext 75 = .ok (.iaload, 1) := by decide +kernel
theorem dX8_pickNext_76 : decode cX8_pickNext 76 = .ok (.invokevirtual 227, 3) := by decide +kernel
theorem dX8_pickNext_79 : decode cX8_pickNext 79 = .ok (.istore 6, 2) := by decide +kernel
theorem dX8_pickNext_81 : decode cX8_pickNext 81 = .ok (.iload 6, 2) := by decide +kernel
theorem dX8_pickNext_83 : decode cX8_pickNext 83 = .ok (.iconst (-1), 1) := by decide +kernel
theorem dX8_pickNext_84 : decode cX8_pickNext 84 = .ok (.if_icmp .eq 13, 3) := by decide +kernel
theorem dX8_pickNext_87 : decode cX8_pickNext 87 = .ok (.aload_n 0, 1) := by decide +kernel
theorem dX8_pickNext_88 : decode cX8_pickNext 88 = .ok (.getfield 21, 3) := by decide +kernel
theorem dX8_pickNext_91 : decode cX8_pickNext 91 = .ok (.iload_n 3, 1) := by decide +kernel
theorem dX8_pickNext_92 : decode cX8_pickNext 92 = .ok (.iload 6, 2) := by decide +kernel
theorem dX8_pickNext_94 : decode cX8_pickNext 94 = .ok (.iastore, 1) := by decide +kernel
theorem dX8_pickNext_95 : decode cX8_pickNext 95 = .ok (.iconst 1, 1) := by decide +kernel
theorem dX8_pickNext_96 : decode cX8_pickNext 96 = .ok (.ireturn, 1) := by decide +kernel
theorem dX8_pickNext_97 : decode cX8_pickNext 97 = .ok (.aload_n 0, 1) := by decide +kernel
theorem dX8_pickNext_98 : decode cX8_pickNext 98 = .ok (.getfield 21, 3) := by decide +kernel
theorem dX8_pickNext_101 : decode cX8_pickNext 101 = .ok (.iload_n 3, 1) := by decide +kernel
theorem dX8_pickNext_102 : decode cX8_pickNext 102 = .ok (.iconst 0, 1) := by decide +kernel
theorem dX8_pickNext_103 : decode cX8_pickNext 103 = .ok (.iastore, 1) := by decide +kernel
theorem dX8_pickNext_104 : decode cX8_pickNext 104 = .ok (.iinc 3 (-1), 3) := by decide +kernel
theorem dX8_pickNext_107 : decode cX8_pickNext 107 = .ok (.goto (-90), 3) := by decide +kernel
theorem dX8_pickNext_110 : decode cX8_pickNext 110 = .ok (.iconst 0, 1) := by decide +kernel
theorem dX8_pickNext_111 : decode cX8_pickNext 111 = .ok (.ireturn, 1) := by decide +kernel
set_option maxHeartbeats 4000000 in
set_option maxRecDepth 100000 in
theorem c_X8_pickNext (l : Launch) {cs : Nat → ClassId} {ad : Nat → Nat} {A : Nat → Prop} {D : va_G} (hJ : hp_J SB ad A)   {h : hp_H} {a1 : Int32} {Q : Int32 → hp_H → Prop} (hq : q_X8_pickNext h a1 Q) : hp_Mi l yX8_pickNext cX8_pickNext 7 (some .boolean) rm_X8_pickNext [.ref (ad 44), .int a1] SB cs ad A D h Q := by
  refine hp_met (own := RX8) rfl (by decide) (Nat.le_of_ble_eq_true rfl) rfl (fun p e s m args below meth c Z E hZ hnm => ?_)
  refine hp_sub (lv' := [(0, .ref (ad 44)), (1, .int a1)]) [0, 1] rfl ?_
  unfold q_X8_pickNext at hq
  refine hp_aload_n E 0 dX8_pickNext_0 rfl rfl ?_
  refine hp_gR E g_RX8_25 fB_44_0 dX8_pickNext_1 ?_
  refine hp_gR E g_RX8_86 fB_1_4 dX8_pickNext_4 ?_
  refine hp_astore_n (lv' := [(0, .ref (ad 44)), (1, .int a1), (2, .ref (ad 23))]) E dX8_pickNext_7 rfl (by decide) rfl rfl ?_
  refine hp_aload_n E 2 dX8_pickNext_8 rfl rfl ?_
  refine hp_gR E g_RX8_126 fB_23_4 dX8_pickNext_9 ?_
  refine hp_iload_n E 1 dX8_pickNext_12 rfl rfl ?_
  refine hp_iald E 28 aB_28 hq.1 dX8_pickNext_13 ?_
  replace hq := hq.2
  refine hp_iconst E (nI 1) dX8_pickNext_14 (by decide) ?_
  refine hp_isub E dX8_pickNext_15 ?_
  refine hp_topi (fun v1 ev1 => ?_)
  replace hq := hq v1 ev1
  refine hp_istore_n (lv' := [(0, .ref (ad 44)), (1, .int a1), (2, .ref (ad 23)), (3, .int v1)]) E dX8_pickNext_16 rfl (by decide) rfl rfl ?_
  refine hq (fun v3 h4 => hp_G p l e rm_X8_pickNext s m args below meth c SB cs ad A D 7 0 0 Z 17 [(0, .ref (ad 44)), (1, .int a1), (2, .ref (ad 23)), (3, .int v3)] [] h4) (fun v3 h4 hB => ?_)
  obtain ⟨B2, hq, hB2⟩ := hB
  refine hp_iload_n E 3 dX8_pickNext_17 rfl rfl ?_
  refine hp_if_lt E 110 dX8_pickNext_18 (by decide) (fun c5 => ?_) (fun c5 => ?_)
  · replace hq := hq.1 c5
    refine hp_iconst E (nI 0) dX8_pickNext_110 (by decide) ?_
    exact hp_zret E (by unfold hp_bz; decide) hq hZ dX8_pickNext_111
  · replace hq := hq.2 c5
    refine hp_iload_n E 1 dX8_pickNext_21 rfl rfl ?_
    refine hp_iconst E (nI 4) dX8_pickNext_22 (by decide) ?_
    refine hp_imul E dX8_pickNext_23 ?_
    refine hp_iload_n E 3 dX8_pickNext_24 rfl rfl ?_
    refine hp_iadd E dX8_pickNext_25 ?_
    refine hp_topi (fun v6 ev6 => ?_)
    replace hq := hq v6 ev6
    refine hp_istore (lv' := [(0, .ref (ad 44)), (1, .int a1), (2, .ref (ad 23)), (3, .int v3), (4, .int v6)]) E dX8_pickNext_26 (by decide) rfl rfl ?_
    refine hp_aload_n E 2 dX8_pickNext_28 rfl rfl ?_
    refine hp_gR E g_RX8_129 fB_23_6 dX8_pickNext_29 ?_
    refine hp_iload E 4 dX8_pickNext_32 rfl ?_
    refine hp_iald E 30 aB_30 hq.1 dX8_pickNext_34 ?_
    replace hq := hq.2
    refine hp_topi (fun v7 ev7 => ?_)
    replace hq := hq v7 ev7
    refine hp_istore (lv' := [(0, .ref (ad 44)), (1, .int a1), (2, .ref (ad 23)), (3, .int v3), (4, .int v6), (5, .int v7)]) E dX8_pickNext_35 (by decide) rfl rfl ?_
    refine hp_aload_n E 2 dX8_pickNext_37 rfl rfl ?_
    refine hp_gR E g_RX8_132 fB_23_5 dX8_pickNext_38 ?_
    refine hp_iload E 4 dX8_pickNext_41 rfl ?_
    refine hp_iald E 29 aB_29 hq.1 dX8_pickNext_43 ?_
    replace hq := hq.2
    refine hp_iconst E (nI 3) dX8_pickNext_44 (by decide) ?_
    obtain ⟨K9, hq, hK9⟩ := hq
    have jK9 : ∀  (h10 : hp_H), K9 h10 → hp_G p l e rm_X8_pickNext s m args below meth c SB cs ad A D 7 0 0 Z 104 [(0, .ref (ad 44)), (1, .int a1), (2, .ref (ad 23)), (3, .int v3)] [] h10 := by
      intro h10 hq
      replace hq := hK9 h10 hq
      obtain ⟨v16, ev16⟩ : ∃ z : Int32, z = v3 + (-1) := ⟨_, rfl⟩
      replace hq := hq v16 ev16
      refine hp_iinc (lv' := [(0, .ref (ad 44)), (1, .int a1), (2, .ref (ad 23)), (3, .int v16)]) E 3 v16 dX8_pickNext_104 rfl (by rw [ev16]; rfl) (by decide) rfl rfl ?_
      refine hp_goto E 17 dX8_pickNext_107 (by decide) ?_
      exact hB2 _ _ hq
    refine hp_icmp_ne E 104 dX8_pickNext_45 (by decide) (fun c8 => ?_) (fun c8 => ?_)
    · replace hq := hq.2 c8
      refine hp_sub (lv' := [(0, .ref (ad 44)), (1, .int a1), (2, .ref (ad 23)), (3, .int v3)]) [0, 1, 2, 3] rfl ?_
      exact jK9 _ hq
    · replace hq := hq.1 c8
      refine hp_aload_n E 0 dX8_pickNext_48 rfl rfl ?_
      refine hp_gR E g_RX8_25 fB_44_0 dX8_pickNext_49 ?_
      refine hp_gR E g_RX8_224 fB_1_6 dX8_pickNext_52 ?_
      refine hp_iload E 5 dX8_pickNext_55 rfl ?_
      refine hp_zald E 33 aB_33 hq.1 dX8_pickNext_57 ?_
      replace hq := hq.2
      refine hp_if_ne E 64 dX8_pickNext_58 (by decide) (fun c11 => ?_) (fun c11 => ?_)
      · replace hq := hq.2 c11
        refine hp_aload_n E 0 dX8_pickNext_64 rfl rfl ?_
        refine hp_gR E g_RX8_12 fB_44_2 dX8_pickNext_65 ?_
        refine hp_iload E 5 dX8_pickNext_68 rfl ?_
        refine hp_aload_n E 0 dX8_pickNext_70 rfl rfl ?_
        refine hp_gR E g_RX8_21 fB_44_4 dX8_pickNext_71 ?_
        refine hp_iload_n E 3 dX8_pickNext_74 rfl rfl ?_
        refine hp_iald E 49 aB_49 hq.1 dX8_pickNext_75 ?_
        replace hq := hq.2
        refine hp_callVip (rest := []) E 45 fB_45_0 vcl_7 (c_X7_nextUnlike l hJ fB_45_0 aB_46 zB_46 hq) F_X7_nextUnlike m_RX8_227 ⟨rfl, rfl⟩ ⟨Nat.le_of_ble_eq_true rfl, Nat.le_of_ble_eq_true rfl⟩ ⟨Nat.zero_le _, Nat.zero_le _⟩ rfl rfl (Nat.le_of_ble_eq_true rfl) dX8_pickNext_76 (fun r12 hq => ?_)
        refine hp_istore (lv' := [(0, .ref (ad 44)), (1, .int a1), (2, .ref (ad 23)), (3, .int v3), (4, .int v6), (5, .int v7), (6, .int r12)]) E dX8_pickNext_79 (by decide) rfl rfl ?_
        refine hp_iload E 6 dX8_pickNext_81 rfl ?_
        refine hp_iconst E (-1) dX8_pickNext_83 (by decide) ?_
        refine hp_icmp_eq E 97 dX8_pickNext_84 (by decide) (fun c13 => ?_) (fun c13 => ?_)
        · replace hq := hq.1 c13
          refine hp_aload_n E 0 dX8_pickNext_97 rfl rfl ?_
          refine hp_gR E g_RX8_21 fB_44_4 dX8_pickNext_98 ?_
          refine hp_iload_n E 3 dX8_pickNext_101 rfl rfl ?_
          refine hp_iconst E (nI 0) dX8_pickNext_102 (by decide) ?_
          have hin := hq.1
          replace hq := hq.2
          refine hp_iast E 49 aB_49 zB_49 hJ hin dX8_pickNext_103 ?_
          refine hp_toph (fun h14 eh14 => ?_)
          replace hq := hq h14 eh14
          refine hp_sub (lv' := [(0, .ref (ad 44)), (1, .int a1), (2, .ref (ad 23)), (3, .int v3)]) [0, 1, 2, 3] rfl ?_
          exact jK9 _ hq
        · replace hq := hq.2 c13
          refine hp_aload_n E 0 dX8_pickNext_87 rfl rfl ?_
          refine hp_gR E g_RX8_21 fB_44_4 dX8_pickNext_88 ?_
          refine hp_iload_n E 3 dX8_pickNext_91 rfl rfl ?_
          refine hp_iload E 6 dX8_pickNext_92 rfl ?_
          have hin := hq.1
          replace hq := hq.2
          refine hp_iast E 49 aB_49 zB_49 hJ hin dX8_pickNext_94 ?_
          refine hp_toph (fun h15 eh15 => ?_)
          replace hq := hq h15 eh15
          refine hp_iconst E (nI 1) dX8_pickNext_95 (by decide) ?_
          exact hp_zret E (by unfold hp_bz; decide) hq hZ dX8_pickNext_96
      · replace hq := hq.1 c11
        refine hp_goto E 104 dX8_pickNext_61 (by decide) ?_
        refine hp_sub (lv' := [(0, .ref (ad 44)), (1, .int a1), (2, .ref (ad 23)), (3, .int v3)]) [0, 1, 2, 3] rfl ?_
        exact jK9 _ hq
theorem dX8_goWays_0 : decode cX8_goWays 0 = .ok (.aload_n 0, 1) := by decide +kernel
theorem dX8_goWays_1 : decode cX8_goWays 1 = .ok (.getfield 25, 3) := by decide +kernel
theorem dX8_goWays_4 : decode cX8_goWays 4 = .ok (.getfield 86, 3) := by decide +kernel
theorem dX8_goWays_7 : decode cX8_goWays 7 = .ok (.getfield 97, 3) := by decide +kernel
theorem dX8_goWays_10 : decode cX8_goWays 10 = .ok (.iload_n 3, 1) := by decide +kernel
theorem dX8_goWays_11 : decode cX8_goWays 11 = .ok (.iaload, 1) := by decide +kernel
theorem dX8_goWays_12 : decode cX8_goWays 12 = .ok (.istore 4, 2) := by decide +kernel
theorem dX8_goWays_14 : decode cX8_goWays 14 = .ok (.aload_n 0, 1) := by decide +kernel
theorem dX8_goWays_15 : decode cX8_goWays 15 = .ok (.getfield 21, 3) := by decide +kernel
theorem dX8_goWays_18 : decode cX8_goWays 18 = .ok (.iconst 0, 1) := by decide +kernel
theorem dX8_goWays_19 : decode cX8_goWays 19 = .ok (.invokestatic 142, 3) := by decide +kernel
theorem dX8_goWays_22 : decode cX8_goWays 22 = .ok (.iconst 1, 1) := by decide +kernel
theorem dX8_goWays_23 : decode cX8_goWays 23 = .ok (.istore 5, 2) := by decide +kernel
theorem dX8_goWays_25 : decode cX8_goWays 25 = .ok (.bipush 27, 2) := by decide +kernel
theorem dX8_goWays_27 : decode cX8_goWays 27 = .ok (.istore 6, 2) := by decide +kernel
theorem dX8_goWays_29 : decode cX8_goWays 29 = .ok (.iconst 0, 1) := by decide +kernel
theorem dX8_goWays_30 : decode cX8_goWays 30 = .ok (.istore 7, 2) := by decide +kernel
theorem dX8_goWays_32 : decode cX8_goWays 32 = .ok (.iload 7, 2) := by decide +kernel
theorem dX8_goWays_34 : decode cX8_goWays 34 = .ok (.iload 6, 2) := by decide +kernel
theorem dX8_goWays_36 : decode cX8_goWays 36 = .ok (.if_icmp .ge 115, 3) := by decide +kernel
theorem dX8_goWays_39 : decode cX8_goWays 39 = .ok (.iload 5, 2) := by decide +kernel
theorem dX8_goWays_41 : decode cX8_goWays 41 = .ok (.ifCond .eq 110, 3) := by decide +kernel
theorem dX8_goWays_44 : decode cX8_goWays 44 = .ok (.aload_n 0, 1) := by decide +kernel
theorem dX8_goWays_45 : decode cX8_goWays 45 = .ok (.getfield 29, 3) := by decide +kernel
theorem dX8_goWays_48 : decode cX8_goWays 48 = .ok (.getfield 67, 3) := by decide +kernel
theorem dX8_goWays_51 : decode cX8_goWays 51 = .ok (.ifCond .ne 100, 3) := by decide +kernel
theorem dX8_goWays_54 : decode cX8_goWays 54 = .ok (.aload_n 0, 1) := by decide +kernel
theorem dX8_goWays_55 : decode cX8_goWays 55 = .ok (.getfield 18, 3) := by decide +kernel
theorem dX8_goWays_58 : decode cX8_goWays 58 = .ok (.aload_n 0, 1) := by decide +kernel
theorem dX8_goWays_59 : decode cX8_goWays 59 = .ok (.getfield 12, 3) := by decide +kernel
theorem dX8_goWays_62 : decode cX8_goWays 62 = .ok (.invokevirtual 148, 3) := by decide +kernel
theorem dX8_goWays_65 : decode cX8_goWays 65 = .ok (.aload_n 0, 1) := by decide +kernel
theorem dX8_goWays_66 : decode cX8_goWays 66 = .ok (.iload 4, 2) := by decide +kernel
theorem dX8_goWays_68 : decode cX8_goWays 68 = .ok (.iload_n 2, 1) := by decide +kernel
theorem dX8_goWays_69 : decode cX8_goWays 69 = .ok (.iload_n 3, 1) := by decide +kernel
theorem dX8_goWays_70 : decode cX8_goWays 70 = .ok (.invokevirtual 151, 3) := by decide +kernel
theorem dX8_goWays_73 : decode cX8_goWays 73 = .ok (.ifCond .eq 53, 3) := by decide +kernel
theorem dX8_goWays_76 : decode cX8_goWays 76 = .ok (.aload_n 0, 1) := by decide +kernel
theorem dX8_goWays_77 : decode cX8_goWays 77 = .ok (.getfield 18, 3) := by decide +kernel
theorem dX8_goWays_80 : decode cX8_goWays 80 = .ok (.iload 4, 2) := by decide +kernel
theorem dX8_goWays_82 : decode cX8_goWays 82 = .ok (.iload_n 2, 1) := by decide +kernel
theorem dX8_goWays_83 : decode cX8_goWays 83 = .ok (.aload_n 0, 1) := by decide +kernel
theorem dX8_goWays_84 : decode cX8_goWays 84 = .ok (.getfield 25, 3) := by decide +kernel
theorem dX8_goWays_87 : decode cX8_goWays 87 = .ok (.getfield 86, 3) := by decide +kernel
theorem dX8_goWays_90 : decode cX8_goWays 90 = .ok (.getfield 155, 3) := by decide +kernel
theorem dX8_goWays_93 : decode cX8_goWays 93 = .ok (.iload_n 3, 1) := by decide +kernel
theorem dX8_goWays_94 : decode cX8_goWays 94 = .ok (.iaload, 1) := by decide +kernel
theorem dX8_goWays_95 : decode cX8_goWays 95 = .ok (.invokevirtual 158, 3) := by decide +kernel
theorem dX8_goWays_98 : decode cX8_goWays 98 = .ok (.aload_n 0, 1) := by decide +kernel
theorem dX8_goWays_99 : decode cX8_goWays 99 = .ok (.iload 4, 2) := by decide +kernel
theorem dX8_goWays_101 : decode cX8_goWays 101 = .ok (.invokevirtual 161, 3) := by decide +kernel
theorem dX8_goWays_104 : decode cX8_goWays 104 = .ok (.aload_n 0, 1) := by decide +kernel
theorem dX8_goWays_105 : decode cX8_goWays 105 = .ok (.getfield 29, 3) := by decide +kernel
theorem dX8_goWays_108 : decode cX8_goWays 108 = .ok (.iload_n 1, 1) := by decide +kernel
theorem dX8_goWays_109 : decode cX8_goWays 109 = .ok (.aload_n 0, 1) := by decide +kernel
theorem dX8_goWays_110 : decode cX8_goWays 110 = .ok (.getfield 18, 3) := by decide +kernel
theorem dX8_goWays_113 : decode cX8_goWays 113 = .ok (.iload 4, 2) := by decide +kernel
theorem dX8_goWays_115 : decode cX8_goWays 115 = .ok (.iload_n 2, 1) := by decide +kernel
theorem dX8_goWays_116 : decode cX8_goWays 116 = .ok (.iload_n 3, 1) := by decide +kernel
theorem dX8_goWays_117 : decode cX8_goWays 117 = .ok (.invokestatic 165, 3) := by decide +kernel
theorem dX8_goWays_120 : decode cX8_goWays 120 = .ok (.invokevirtual 169, 3) := by decide +kernel
theorem dX8_goWays_123 : decode cX8_goWays 123 = .ok (.goto 15, 3) := by decide +kernel
theorem dX8_goWays_126 : decode cX8_goWays 126 = .ok (.aload_n 0, 1) := by decide +kernel
theorem dX8_goWays_127 : decode cX8_goWays 127 = .ok (.getfield 29, 3) := by decide +kernel
theorem dX8_goWays_130 : decode cX8_goWays 130 = .ok (.iload_n 1, 1) := by decide +kernel
theorem dX8_goWays_131 : decode cX8_goWays 131 = .ok (.iload 4, 2) := by decide +kernel
theorem dX8_goWays_133 : decode cX8_goWays 133 = .ok (.iload_n 2, 1) := by decide +kernel
theorem dX8_goWays_134 : decode cX8_goWays 134 = .ok (.iload_n 3, 1) := by decide +kernel
theorem dX8_goWays_135 : decode cX8_goWays 135 = .ok (.invokevirtual 173, 3) := by decide +kernel
theorem dX8_goWays_138 : decode cX8_goWays 138 = .ok (.aload_n 0, 1) := by decide +kernel
theorem dX8_goWays_139 : decode cX8_goWays 139 = .ok (.iload_n 3, 1) := by decide +kernel
theorem dX8_goWays_140 : decode cX8_goWays 140 = .ok (.invokevirtual 177, 3) := by decide +kernel
theorem dX8_goWays_143 : decode cX8_goWays 143 = .ok (.istore 5, 2) := by decide +kernel
theorem dX8_goWays_145 : decode cX8_goWays 145 = .ok (.iinc 7 1, 3) := by decide +kernel
theorem dX8_goWays_148 : decode cX8_goWays 148 = .ok (.goto (-116), 3) := by decide +kernel
theorem dX8_goWays_151 : decode cX8_goWays 151 = .ok (.return_, 1) := by decide +kernel
set_option maxHeartbeats 4000000 in
set_option maxRecDepth 100000 in
theorem c_X8_goWays (l : Launch) {cs : Nat → ClassId} {ad : Nat → Nat} {A : Nat → Prop} {D : va_G} (hJ : hp_J SB ad A)   {h : hp_H} {a1 a2 a3 : Int32} {Q : hp_H → Prop} (hq : q_X8_goWays h a1 a2 a3 Q) : hp_Mv l yX8_goWays cX8_goWays 8 none rm_X8_goWays [.ref (ad 44), .int a1, .int a2, .int a3] SB cs ad A D h Q := by
  refine hp_met (own := RX8) rfl (by decide) (Nat.le_of_ble_eq_true rfl) rfl (fun p e s m args below meth c Z E hZ hnm => ?_)
  refine hp_sub (lv' := [(0, .ref (ad 44)), (1, .int a1), (2, .int a2), (3, .int a3)]) [0, 1, 2, 3] rfl ?_
  unfold q_X8_goWays at hq
  refine hp_aload_n E 0 dX8_goWays_0 rfl rfl ?_
  refine hp_gR E g_RX8_25 fB_44_0 dX8_goWays_1 ?_
  refine hp_gR E g_RX8_86 fB_1_4 dX8_goWays_4 ?_
  refine hp_gR E g_RX8_97 fB_23_0 dX8_goWays_7 ?_
  refine hp_iload_n E 3 dX8_goWays_10 rfl rfl ?_
  refine hp_iald E 24 aB_24 hq.1 dX8_goWays_11 ?_
  replace hq := hq.2
  refine hp_topi (fun v1 ev1 => ?_)
  replace hq := hq v1 ev1
  refine hp_istore (lv' := [(0, .ref (ad 44)), (1, .int a1), (2, .int a2), (3, .int a3), (4, .int v1)]) E dX8_goWays_12 (by decide) rfl rfl ?_
  refine hp_aload_n E 0 dX8_goWays_14 rfl rfl ?_
  refine hp_gR E g_RX8_21 fB_44_4 dX8_goWays_15 ?_
  refine hp_iconst E (nI 0) dX8_goWays_18 (by decide) ?_
  refine hp_callSv (rest := []) E (c_J7_fill_53178 l hJ aB_49 zB_49 hq) F_J7_fill_53178 m_RX8_142 ⟨rfl, rfl⟩ ⟨Nat.le_of_ble_eq_true rfl, Nat.le_of_ble_eq_true rfl⟩ ⟨Nat.zero_le _, Nat.zero_le _⟩ rfl rfl (Nat.le_of_ble_eq_true rfl) dX8_goWays_19 (fun h2 hq => ?_)
  refine hp_iconst E (nI 1) dX8_goWays_22 (by decide) ?_
  refine hp_istore (lv' := [(0, .ref (ad 44)), (1, .int a1), (2, .int a2), (3, .int a3), (4, .int v1), (5, .int (nI 1))]) E dX8_goWays_23 (by decide) rfl rfl ?_
  refine hp_bipush E (nI 27) dX8_goWays_25 (by decide) ?_
  refine hp_istore (lv' := [(0, .ref (ad 44)), (1, .int a1), (2, .int a2), (3, .int a3), (4, .int v1), (5, .int (nI 1)), (6, .int (nI 27))]) E dX8_goWays_27 (by decide) rfl rfl ?_
  refine hp_iconst E (nI 0) dX8_goWays_29 (by decide) ?_
  refine hp_istore (lv' := [(0, .ref (ad 44)), (1, .int a1), (2, .int a2), (3, .int a3), (4, .int v1), (5, .int (nI 1)), (6, .int (nI 27)), (7, .int (nI 0))]) E dX8_goWays_30 (by decide) rfl rfl ?_
  refine hq (fun v4 v5 h6 => hp_G p l e rm_X8_goWays s m args below meth c SB cs ad A D 8 0 0 Z 32 [(0, .ref (ad 44)), (1, .int a1), (2, .int a2), (3, .int a3), (4, .int v1), (5, .int v4), (6, .int (nI 27)), (7, .int v5)] [] h6) (fun v4 v5 h6 hB => ?_)
  obtain ⟨B3, hq, hB3⟩ := hB
  refine hp_iload E 7 dX8_goWays_32 rfl ?_
  refine hp_iload E 6 dX8_goWays_34 rfl ?_
  refine hp_icmp_ge E 151 dX8_goWays_36 (by decide) (fun c7 => ?_) (fun c7 => ?_)
  · replace hq := hq.1 c7
    exact hp_vret E hq hZ dX8_goWays_151
  · replace hq := hq.2 c7
    refine hp_iload E 5 dX8_goWays_39 rfl ?_
    refine hp_if_eq E 151 dX8_goWays_41 (by decide) (fun c8 => ?_) (fun c8 => ?_)
    · replace hq := hq.1 c8
      exact hp_vret E hq hZ dX8_goWays_151
    · replace hq := hq.2 c8
      refine hp_aload_n E 0 dX8_goWays_44 rfl rfl ?_
      refine hp_gR E g_RX8_29 fB_44_1 dX8_goWays_45 ?_
      refine hp_gI E g_RX8_67 fB_35_1 dX8_goWays_48 ?_
      refine hp_if_ne E 151 dX8_goWays_51 (by decide) (fun c9 => ?_) (fun c9 => ?_)
      · replace hq := hq.2 c9
        exact hp_vret E hq hZ dX8_goWays_151
      · replace hq := hq.1 c9
        refine hp_aload_n E 0 dX8_goWays_54 rfl rfl ?_
        refine hp_gR E g_RX8_18 fB_44_3 dX8_goWays_55 ?_
        refine hp_aload_n E 0 dX8_goWays_58 rfl rfl ?_
        refine hp_gR E g_RX8_12 fB_44_2 dX8_goWays_59 ?_
        refine hp_callVv' (rest := []) E 47 fB_47_0 vcl_7 (c_X7_copy l hJ fB_47_0 aB_48 zB_48 fB_45_0 aB_46 zB_46 hq) F_X7_copy m_RX8_148 ⟨rfl, rfl⟩ ⟨Nat.le_of_ble_eq_true rfl, Nat.le_of_ble_eq_true rfl⟩ ⟨Nat.zero_le _, Nat.zero_le _⟩ rfl rfl (Nat.le_of_ble_eq_true rfl) dX8_goWays_62 (fun h10 hq => ?_)
        refine hp_aload_n E 0 dX8_goWays_65 rfl rfl ?_
        refine hp_iload E 4 dX8_goWays_66 rfl ?_
        refine hp_iload_n E 2 dX8_goWays_68 rfl rfl ?_
        refine hp_iload_n E 3 dX8_goWays_69 rfl rfl ?_
        refine hp_callVi' (rest := []) E 44 fB_44_0 vcl_8 (c_X8_doActs l hJ hq) F_X8_doActs m_RX8_151 ⟨rfl, rfl⟩ ⟨Nat.le_of_ble_eq_true rfl, Nat.le_of_ble_eq_true rfl⟩ ⟨Nat.zero_le _, Nat.zero_le _⟩ rfl rfl (Nat.le_of_ble_eq_true rfl) dX8_goWays_70 (fun r11 h12 hq => ?_)
        obtain ⟨K14, hq, hK14⟩ := hq
        have jK14 : ∀  (h15 : hp_H), K14 h15 → hp_G p l e rm_X8_goWays s m args below meth c SB cs ad A D 8 0 0 Z 138 [(0, .ref (ad 44)), (1, .int a1), (2, .int a2), (3, .int a3), (4, .int v1), (6, .int (nI 27)), (7, .int v5)] [] h15 := by
          intro h15 hq
          replace hq := hK14 h15 hq
          refine hp_aload_n E 0 dX8_goWays_138 rfl rfl ?_
          refine hp_iload_n E 3 dX8_goWays_139 rfl rfl ?_
          refine hp_callVi' (rest := []) E 44 fB_44_0 vcl_8 (c_X8_pickNext l hJ hq) F_X8_pickNext m_RX8_177 ⟨rfl, rfl⟩ ⟨Nat.le_of_ble_eq_true rfl, Nat.le_of_ble_eq_true rfl⟩ ⟨Nat.zero_le _, Nat.zero_le _⟩ rfl rfl (Nat.le_of_ble_eq_true rfl) dX8_goWays_140 (fun r21 h22 hq => ?_)
          refine hp_istore (lv' := [(0, .ref (ad 44)), (1, .int a1), (2, .int a2), (3, .int a3), (4, .int v1), (5, .int r21), (6, .int (nI 27)), (7, .int v5)]) E dX8_goWays_143 (by decide) rfl rfl ?_
          obtain ⟨v23, ev23⟩ : ∃ z : Int32, z = v5 + (nI 1) := ⟨_, rfl⟩
          replace hq := hq v23 ev23
          refine hp_iinc (lv' := [(0, .ref (ad 44)), (1, .int a1), (2, .int a2), (3, .int a3), (4, .int v1), (5, .int r21), (6, .int (nI 27)), (7, .int v23)]) E 7 v23 dX8_goWays_145 rfl (by rw [ev23]; rfl) (by decide) rfl rfl ?_
          refine hp_goto E 32 dX8_goWays_148 (by decide) ?_
          exact hB3 _ _ _ hq
        refine hp_if_eq E 126 dX8_goWays_73 (by decide) (fun c13 => ?_) (fun c13 => ?_)
        · replace hq := hq.1 c13
          refine hp_aload_n E 0 dX8_goWays_126 rfl rfl ?_
          refine hp_gR E g_RX8_29 fB_44_1 dX8_goWays_127 ?_
          refine hp_iload_n E 1 dX8_goWays_130 rfl rfl ?_
          refine hp_iload E 4 dX8_goWays_131 rfl ?_
          refine hp_iload_n E 2 dX8_goWays_133 rfl rfl ?_
          refine hp_iload_n E 3 dX8_goWays_134 rfl rfl ?_
          refine hp_callVv' (rest := []) E 35 fB_35_0 vcl_2 (c_X2_noteFault l hJ hq) F_X2_noteFault m_RX8_173 ⟨rfl, rfl⟩ ⟨Nat.le_of_ble_eq_true rfl, Nat.le_of_ble_eq_true rfl⟩ ⟨Nat.zero_le _, Nat.zero_le _⟩ rfl rfl (Nat.le_of_ble_eq_true rfl) dX8_goWays_135 (fun h16 hq => ?_)
          refine hp_sub (lv' := [(0, .ref (ad 44)), (1, .int a1), (2, .int a2), (3, .int a3), (4, .int v1), (6, .int (nI 27)), (7, .int v5)]) [0, 1, 2, 3, 4, 6, 7] rfl ?_
          exact jK14 _ hq
        · replace hq := hq.2 c13
          refine hp_aload_n E 0 dX8_goWays_76 rfl rfl ?_
          refine hp_gR E g_RX8_18 fB_44_3 dX8_goWays_77 ?_
          refine hp_iload E 4 dX8_goWays_80 rfl ?_
          refine hp_iload_n E 2 dX8_goWays_82 rfl rfl ?_
          refine hp_aload_n E 0 dX8_goWays_83 rfl rfl ?_
          refine hp_gR E g_RX8_25 fB_44_0 dX8_goWays_84 ?_
          refine hp_gR E g_RX8_86 fB_1_4 dX8_goWays_87 ?_
          refine hp_gR E g_RX8_155 fB_23_2 dX8_goWays_90 ?_
          refine hp_iload_n E 3 dX8_goWays_93 rfl rfl ?_
          refine hp_iald E 26 aB_26 hq.1 dX8_goWays_94 ?_
          replace hq := hq.2
          refine hp_callVv' (rest := []) E 47 fB_47_0 vcl_7 (c_X7_setPlace l hJ fB_47_0 aB_48 zB_48 hq) F_X7_setPlace m_RX8_158 ⟨rfl, rfl⟩ ⟨Nat.le_of_ble_eq_true rfl, Nat.le_of_ble_eq_true rfl⟩ ⟨Nat.zero_le _, Nat.zero_le _⟩ rfl rfl (Nat.le_of_ble_eq_true rfl) dX8_goWays_95 (fun h17 hq => ?_)
          refine hp_aload_n E 0 dX8_goWays_98 rfl rfl ?_
          refine hp_iload E 4 dX8_goWays_99 rfl ?_
          refine hp_callVv' (rest := []) E 44 fB_44_0 vcl_8 (c_X8_takeAlike l hJ hq) F_X8_takeAlike m_RX8_161 ⟨rfl, rfl⟩ ⟨Nat.le_of_ble_eq_true rfl, Nat.le_of_ble_eq_true rfl⟩ ⟨Nat.zero_le _, Nat.zero_le _⟩ rfl rfl (Nat.le_of_ble_eq_true rfl) dX8_goWays_101 (fun h18 hq => ?_)
          refine hp_aload_n E 0 dX8_goWays_104 rfl rfl ?_
          refine hp_gR E g_RX8_29 fB_44_1 dX8_goWays_105 ?_
          refine hp_iload_n E 1 dX8_goWays_108 rfl rfl ?_
          refine hp_aload_n E 0 dX8_goWays_109 rfl rfl ?_
          refine hp_gR E g_RX8_18 fB_44_3 dX8_goWays_110 ?_
          refine hp_iload E 4 dX8_goWays_113 rfl ?_
          refine hp_iload_n E 2 dX8_goWays_115 rfl rfl ?_
          refine hp_iload_n E 3 dX8_goWays_116 rfl rfl ?_
          refine hp_callSip (rest := [.ref (ad 47), .int a1, .ref (ad 35)]) E (c_X2_mover l hJ hq) F_X2_mover m_RX8_165 ⟨rfl, rfl⟩ ⟨Nat.le_of_ble_eq_true rfl, Nat.le_of_ble_eq_true rfl⟩ ⟨Nat.zero_le _, Nat.zero_le _⟩ rfl rfl (Nat.le_of_ble_eq_true rfl) dX8_goWays_117 (fun r19 hq => ?_)
          refine hp_callVv' (rest := []) E 35 fB_35_0 vcl_2 (c_X2_addMove l hJ hq) F_X2_addMove m_RX8_169 ⟨rfl, rfl⟩ ⟨Nat.le_of_ble_eq_true rfl, Nat.le_of_ble_eq_true rfl⟩ ⟨Nat.zero_le _, Nat.zero_le _⟩ rfl rfl (Nat.le_of_ble_eq_true rfl) dX8_goWays_120 (fun h20 hq => ?_)
          refine hp_goto E 138 dX8_goWays_123 (by decide) ?_
          refine hp_sub (lv' := [(0, .ref (ad 44)), (1, .int a1), (2, .int a2), (3, .int a3), (4, .int v1), (6, .int (nI 27)), (7, .int v5)]) [0, 1, 2, 3, 4, 6, 7] rfl ?_
          exact jK14 _ hq
theorem dX8_goMember_0 : decode cX8_goMember 0 = .ok (.aload_n 0, 1) := by decide +kernel
theorem dX8_goMember_1 : decode cX8_goMember 1 = .ok (.getfield 25, 3) := by decide +kernel
theorem dX8_goMember_4 : decode cX8_goMember 4 = .ok (.getfield 86, 3) := by decide +kernel
theorem dX8_goMember_7 : decode cX8_goMember 7 = .ok (.astore 4, 2) := by decide +kernel
theorem dX8_goMember_9 : decode cX8_goMember 9 = .ok (.aload_n 0, 1) := by decide +kernel
theorem dX8_goMember_10 : decode cX8_goMember 10 = .ok (.getfield 12, 3) := by decide +kernel
theorem dX8_goMember_13 : decode cX8_goMember 13 = .ok (.iload_n 2, 1) := by decide +kernel
theorem dX8_goMember_14 : decode cX8_goMember 14 = .ok (.iload_n 3, 1) := by decide +kernel
theorem dX8_goMember_15 : decode cX8_goMember 15 = .ok (.invokevirtual 90, 3) := by decide +kernel
theorem dX8_goMember_18 : decode cX8_goMember 18 = .ok (.istore 5, 2) := by decide +kernel
theorem dX8_goMember_20 : decode cX8_goMember 20 = .ok (.iconst 0, 1) := by decide +kernel
theorem dX8_goMember_21 : decode cX8_goMember 21 = .ok (.istore 6, 2) := by decide +kernel
theorem dX8_goMember_23 : decode cX8_goMember 23 = .ok (.iconst 0, 1) := by decide +kernel
theorem dX8_goMember_24 : decode cX8_goMember 24 = .ok (.istore 7, 2) := by decide +kernel
theorem dX8_goMember_26 : decode cX8_goMember 26 = .ok (.iload 7, 2) := by decide +kernel
theorem dX8_goMember_28 : decode cX8_goMember 28 = .ok (.aload 4, 2) := by decide +kernel
theorem dX8_goMember_30 : decode cX8_goMember 30 = .ok (.getfield 94, 3) := by decide +kernel
theorem dX8_goMember_33 : decode cX8_goMember 33 = .ok (.if_icmp .ge 91, 3) := by decide +kernel
theorem dX8_goMember_36 : decode cX8_goMember 36 = .ok (.aload_n 0, 1) := by decide +kernel
theorem dX8_goMember_37 : decode cX8_goMember 37 = .ok (.getfield 29, 3) := by decide +kernel
theorem dX8_goMember_40 : decode cX8_goMember 40 = .ok (.getfield 67, 3) := by decide +kernel
theorem dX8_goMember_43 : decode cX8_goMember 43 = .ok (.ifCond .ne 81, 3) := by decide +kernel
theorem dX8_goMember_46 : decode cX8_goMember 46 = .ok (.aload 4, 2) := by decide +kernel
theorem dX8_goMember_48 : decode cX8_goMember 48 = .ok (.getfield 97, 3) := by decide +kernel
theorem dX8_goMember_51 : decode cX8_goMember 51 = .ok (.iload 7, 2) := by decide +kernel
theorem dX8_goMember_53 : decode cX8_goMember 53 = .ok (.iaload, 1) := by decide +kernel
theorem dX8_goMember_54 : decode cX8_goMember 54 = .ok (.iload_n 2, 1) := by decide +kernel
theorem dX8_goMember_55 : decode cX8_goMember 55 = .ok (.if_icmp .ne 63, 3) := by decide +kernel
theorem dX8_goMember_58 : decode cX8_goMember 58 = .ok (.aload 4, 2) := by decide +kernel
theorem dX8_goMember_60 : decode cX8_goMember 60 = .ok (.getfield 100, 3) := by decide +kernel
theorem dX8_goMember_63 : decode cX8_goMember 63 = .ok (.iload 7, 2) := by decide +kernel
theorem dX8_goMember_65 : decode cX8_goMember 65 = .ok (.iaload, 1) := by decide +kernel
theorem dX8_goMember_66 : decode cX8_goMember 66 = .ok (.iload 5, 2) := by decide +kernel
theorem dX8_goMember_68 : decode cX8_goMember 68 = .ok (.if_icmp .eq 6, 3) := by decide +kernel
theorem dX8_goMember_71 : decode cX8_goMember 71 = .ok (.goto 47, 3) := by decide +kernel
theorem dX8_goMember_74 : decode cX8_goMember 74 = .ok (.iload 6, 2) := by decide +kernel
theorem dX8_goMember_76 : decode cX8_goMember 76 = .ok (.ifCond .ne 25, 3) := by decide +kernel
theorem dX8_goMember_79 : decode cX8_goMember 79 = .ok (.aload_n 0, 1) := by decide +kernel
theorem dX8_goMember_80 : decode cX8_goMember 80 = .ok (.getfield 25, 3) := by decide +kernel
theorem dX8_goMember_83 : decode cX8_goMember 83 = .ok (.getfield 103, 3) := by decide +kernel
theorem dX8_goMember_86 : decode cX8_goMember 86 = .ok (.aload_n 0, 1) := by decide +kernel
theorem dX8_goMember_87 : decode cX8_goMember 87 = .ok (.getfield 12, 3) := by decide +kernel
theorem dX8_goMember_90 : decode cX8_goMember 90 = .ok (.iload_n 2, 1) := by decide +kernel
theorem dX8_goMember_91 : decode cX8_goMember 91 = .ok (.iload_n 3, 1) := by decide +kernel
theorem dX8_goMember_92 : decode cX8_goMember 92 = .ok (.iconst 1, 1) := by decide +kernel
theorem dX8_goMember_93 : decode cX8_goMember 93 = .ok (.iload_n 2, 1) := by decide +kernel
theorem dX8_goMember_94 : decode cX8_goMember 94 = .ok (.ishl, 1) := by decide +kernel
theorem dX8_goMember_95 : decode cX8_goMember 95 = .ok (.invokevirtual 107, 3) := by decide +kernel
theorem dX8_goMember_98 : decode cX8_goMember 98 = .ok (.iconst 1, 1) := by decide +kernel
theorem dX8_goMember_99 : decode cX8_goMember 99 = .ok (.istore 6, 2) := by decide +kernel
theorem dX8_goMember_101 : decode cX8_goMember 101 = .ok (.aload_n 0, 1) := by decide +kernel
theorem dX8_goMember_102 : decode cX8_goMember 102 = .ok (.iload 7, 2) := by decide +kernel
theorem dX8_goMember_104 : decode cX8_goMember 104 = .ok (.invokevirtual 113, 3) := by decide +kernel
theorem dX8_goMember_107 : decode cX8_goMember 107 = .ok (.ifCond .eq 11, 3) := by decide +kernel
theorem dX8_goMember_110 : decode cX8_goMember 110 = .ok (.aload_n 0, 1) := by decide +kernel
theorem dX8_goMember_111 : decode cX8_goMember 111 = .ok (.iload_n 1, 1) := by decide +kernel
theorem dX8_goMember_112 : decode cX8_goMember 112 = .ok (.iload_n 3, 1) := by decide +kernel
theorem dX8_goMember_113 : decode cX8_goMember 113 = .ok (.iload 7, 2) := by decide +kernel
theorem dX8_goMember_115 : decode cX8_goMember 115 = .ok (.invokevirtual 117, 3) := by decide +kernel
theorem dX8_goMember_118 : decode cX8_goMember 118 = .ok (.iinc 7 1, 3) := by decide +kernel
theorem dX8_goMember_121 : decode cX8_goMember 121 = .ok (.goto (-95), 3) := by decide +kernel
theorem dX8_goMember_124 : decode cX8_goMember 124 = .ok (.return_, 1) := by decide +kernel
set_option maxHeartbeats 4000000 in
set_option maxRecDepth 100000 in
theorem c_X8_goMember (l : Launch) {cs : Nat → ClassId} {ad : Nat → Nat} {A : Nat → Prop} {D : va_G} (hJ : hp_J SB ad A)   {h : hp_H} {a1 a2 a3 : Int32} {Q : hp_H → Prop} (hq : q_X8_goMember h a1 a2 a3 Q) : hp_Mv l yX8_goMember cX8_goMember 8 none rm_X8_goMember [.ref (ad 44), .int a1, .int a2, .int a3] SB cs ad A D h Q := by
  refine hp_met (own := RX8) rfl (by decide) (Nat.le_of_ble_eq_true rfl) rfl (fun p e s m args below meth c Z E hZ hnm => ?_)
  refine hp_sub (lv' := [(0, .ref (ad 44)), (1, .int a1), (2, .int a2), (3, .int a3)]) [0, 1, 2, 3] rfl ?_
  unfold q_X8_goMember at hq
  refine hp_aload_n E 0 dX8_goMember_0 rfl rfl ?_
  refine hp_gR E g_RX8_25 fB_44_0 dX8_goMember_1 ?_
  refine hp_gR E g_RX8_86 fB_1_4 dX8_goMember_4 ?_
  refine hp_astore (lv' := [(0, .ref (ad 44)), (1, .int a1), (2, .int a2), (3, .int a3), (4, .ref (ad 23))]) E dX8_goMember_7 (by decide) rfl rfl ?_
  refine hp_aload_n E 0 dX8_goMember_9 rfl rfl ?_
  refine hp_gR E g_RX8_12 fB_44_2 dX8_goMember_10 ?_
  refine hp_iload_n E 2 dX8_goMember_13 rfl rfl ?_
  refine hp_iload_n E 3 dX8_goMember_14 rfl rfl ?_
  refine hp_callVip (rest := []) E 45 fB_45_0 vcl_7 (c_X7_placeOf l hJ fB_45_0 aB_46 zB_46 hq) F_X7_placeOf m_RX8_90 ⟨rfl, rfl⟩ ⟨Nat.le_of_ble_eq_true rfl, Nat.le_of_ble_eq_true rfl⟩ ⟨Nat.zero_le _, Nat.zero_le _⟩ rfl rfl (Nat.le_of_ble_eq_true rfl) dX8_goMember_15 (fun r1 hq => ?_)
  refine hp_istore (lv' := [(0, .ref (ad 44)), (1, .int a1), (2, .int a2), (3, .int a3), (4, .ref (ad 23)), (5, .int r1)]) E dX8_goMember_18 (by decide) rfl rfl ?_
  refine hp_iconst E (nI 0) dX8_goMember_20 (by decide) ?_
  refine hp_istore (lv' := [(0, .ref (ad 44)), (1, .int a1), (2, .int a2), (3, .int a3), (4, .ref (ad 23)), (5, .int r1), (6, .int (nI 0))]) E dX8_goMember_21 (by decide) rfl rfl ?_
  refine hp_iconst E (nI 0) dX8_goMember_23 (by decide) ?_
  refine hp_istore (lv' := [(0, .ref (ad 44)), (1, .int a1), (2, .int a2), (3, .int a3), (4, .ref (ad 23)), (5, .int r1), (6, .int (nI 0)), (7, .int (nI 0))]) E dX8_goMember_24 (by decide) rfl rfl ?_
  refine hq (fun v3 v4 h5 => hp_G p l e rm_X8_goMember s m args below meth c SB cs ad A D 8 0 0 Z 26 [(0, .ref (ad 44)), (1, .int a1), (2, .int a2), (3, .int a3), (4, .ref (ad 23)), (5, .int r1), (6, .int v3), (7, .int v4)] [] h5) (fun v3 v4 h5 hB => ?_)
  obtain ⟨B2, hq, hB2⟩ := hB
  refine hp_iload E 7 dX8_goMember_26 rfl ?_
  refine hp_aload E 4 dX8_goMember_28 rfl ?_
  refine hp_gI E g_RX8_94 fB_23_8 dX8_goMember_30 ?_
  refine hp_icmp_ge E 124 dX8_goMember_33 (by decide) (fun c6 => ?_) (fun c6 => ?_)
  · replace hq := hq.1 c6
    exact hp_vret E hq hZ dX8_goMember_124
  · replace hq := hq.2 c6
    refine hp_aload_n E 0 dX8_goMember_36 rfl rfl ?_
    refine hp_gR E g_RX8_29 fB_44_1 dX8_goMember_37 ?_
    refine hp_gI E g_RX8_67 fB_35_1 dX8_goMember_40 ?_
    refine hp_if_ne E 124 dX8_goMember_43 (by decide) (fun c7 => ?_) (fun c7 => ?_)
    · replace hq := hq.2 c7
      exact hp_vret E hq hZ dX8_goMember_124
    · replace hq := hq.1 c7
      refine hp_aload E 4 dX8_goMember_46 rfl ?_
      refine hp_gR E g_RX8_97 fB_23_0 dX8_goMember_48 ?_
      refine hp_iload E 7 dX8_goMember_51 rfl ?_
      refine hp_iald E 24 aB_24 hq.1 dX8_goMember_53 ?_
      replace hq := hq.2
      refine hp_iload_n E 2 dX8_goMember_54 rfl rfl ?_
      obtain ⟨K9, hq, hK9⟩ := hq
      have jK9 : ∀ (v10 : Int32) (h11 : hp_H), K9 v10 h11 → hp_G p l e rm_X8_goMember s m args below meth c SB cs ad A D 8 0 0 Z 118 [(0, .ref (ad 44)), (1, .int a1), (2, .int a2), (3, .int a3), (4, .ref (ad 23)), (5, .int r1), (6, .int v10), (7, .int v4)] [] h11 := by
        intro v10 h11 hq
        replace hq := hK9 v10 h11 hq
        obtain ⟨v21, ev21⟩ : ∃ z : Int32, z = v4 + (nI 1) := ⟨_, rfl⟩
        replace hq := hq v21 ev21
        refine hp_iinc (lv' := [(0, .ref (ad 44)), (1, .int a1), (2, .int a2), (3, .int a3), (4, .ref (ad 23)), (5, .int r1), (6, .int v10), (7, .int v21)]) E 7 v21 dX8_goMember_118 rfl (by rw [ev21]; rfl) (by decide) rfl rfl ?_
        refine hp_goto E 26 dX8_goMember_121 (by decide) ?_
        exact hB2 _ _ _ hq
      refine hp_icmp_ne E 118 dX8_goMember_55 (by decide) (fun c8 => ?_) (fun c8 => ?_)
      · replace hq := hq.2 c8
        exact jK9 _ _ hq
      · replace hq := hq.1 c8
        refine hp_aload E 4 dX8_goMember_58 rfl ?_
        refine hp_gR E g_RX8_100 fB_23_1 dX8_goMember_60 ?_
        refine hp_iload E 7 dX8_goMember_63 rfl ?_
        refine hp_iald E 25 aB_25 hq.1 dX8_goMember_65 ?_
        replace hq := hq.2
        refine hp_iload E 5 dX8_goMember_66 rfl ?_
        refine hp_icmp_eq E 74 dX8_goMember_68 (by decide) (fun c12 => ?_) (fun c12 => ?_)
        · replace hq := hq.1 c12
          refine hp_iload E 6 dX8_goMember_74 rfl ?_
          obtain ⟨K14, hq, hK14⟩ := hq
          have jK14 : ∀ (v15 : Int32) (h16 : hp_H), K14 v15 h16 → hp_G p l e rm_X8_goMember s m args below meth c SB cs ad A D 8 0 0 Z 101 [(0, .ref (ad 44)), (1, .int a1), (2, .int a2), (3, .int a3), (4, .ref (ad 23)), (5, .int r1), (6, .int v15), (7, .int v4)] [] h16 := by
            intro v15 h16 hq
            replace hq := hK14 v15 h16 hq
            refine hp_aload_n E 0 dX8_goMember_101 rfl rfl ?_
            refine hp_iload E 7 dX8_goMember_102 rfl ?_
            refine hp_callVip (rest := []) E 44 fB_44_0 vcl_8 (c_X8_canDo l hJ hq) F_X8_canDo m_RX8_113 ⟨rfl, rfl⟩ ⟨Nat.le_of_ble_eq_true rfl, Nat.le_of_ble_eq_true rfl⟩ ⟨Nat.zero_le _, Nat.zero_le _⟩ rfl rfl (Nat.le_of_ble_eq_true rfl) dX8_goMember_104 (fun r18 hq => ?_)
            refine hp_if_eq E 118 dX8_goMember_107 (by decide) (fun c19 => ?_) (fun c19 => ?_)
            · replace hq := hq.1 c19
              exact jK9 _ _ hq
            · replace hq := hq.2 c19
              refine hp_aload_n E 0 dX8_goMember_110 rfl rfl ?_
              refine hp_iload_n E 1 dX8_goMember_111 rfl rfl ?_
              refine hp_iload_n E 3 dX8_goMember_112 rfl rfl ?_
              refine hp_iload E 7 dX8_goMember_113 rfl ?_
              refine hp_callVv' (rest := []) E 44 fB_44_0 vcl_8 (c_X8_goWays l hJ hq) F_X8_goWays m_RX8_117 ⟨rfl, rfl⟩ ⟨Nat.le_of_ble_eq_true rfl, Nat.le_of_ble_eq_true rfl⟩ ⟨Nat.zero_le _, Nat.zero_le _⟩ rfl rfl (Nat.le_of_ble_eq_true rfl) dX8_goMember_115 (fun h20 hq => ?_)
              exact jK9 _ _ hq
          refine hp_if_ne E 101 dX8_goMember_76 (by decide) (fun c13 => ?_) (fun c13 => ?_)
          · replace hq := hq.2 c13
            exact jK14 _ _ hq
          · replace hq := hq.1 c13
            refine hp_aload_n E 0 dX8_goMember_79 rfl rfl ?_
            refine hp_gR E g_RX8_25 fB_44_0 dX8_goMember_80 ?_
            refine hp_gR E g_RX8_103 fB_1_3 dX8_goMember_83 ?_
            refine hp_aload_n E 0 dX8_goMember_86 rfl rfl ?_
            refine hp_gR E g_RX8_12 fB_44_2 dX8_goMember_87 ?_
            refine hp_iload_n E 2 dX8_goMember_90 rfl rfl ?_
            refine hp_iload_n E 3 dX8_goMember_91 rfl rfl ?_
            refine hp_iconst E (nI 1) dX8_goMember_92 (by decide) ?_
            refine hp_iload_n E 2 dX8_goMember_93 rfl rfl ?_
            refine hp_ishl E dX8_goMember_94 ?_
            refine hp_callVv' (rest := []) E 15 fB_15_0 vcl_1 (c_X1_reckon l hJ fB_45_0 aB_46 zB_46 hq) F_X1_reckon m_RX8_107 ⟨rfl, rfl⟩ ⟨Nat.le_of_ble_eq_true rfl, Nat.le_of_ble_eq_true rfl⟩ ⟨Nat.zero_le _, Nat.zero_le _⟩ rfl rfl (Nat.le_of_ble_eq_true rfl) dX8_goMember_95 (fun h17 hq => ?_)
            refine hp_iconst E (nI 1) dX8_goMember_98 (by decide) ?_
            refine hp_istore (lv' := [(0, .ref (ad 44)), (1, .int a1), (2, .int a2), (3, .int a3), (4, .ref (ad 23)), (5, .int r1), (6, .int (nI 1)), (7, .int v4)]) E dX8_goMember_99 (by decide) rfl rfl ?_
            exact jK14 _ _ hq
        · replace hq := hq.2 c12
          refine hp_goto E 118 dX8_goMember_71 (by decide) ?_
          exact jK9 _ _ hq
theorem dX8_lose_0 : decode cX8_lose 0 = .ok (.aload_n 0, 1) := by decide +kernel
theorem dX8_lose_1 : decode cX8_lose 1 = .ok (.getfield 12, 3) := by decide +kernel
theorem dX8_lose_4 : decode cX8_lose 4 = .ok (.iload_n 2, 1) := by decide +kernel
theorem dX8_lose_5 : decode cX8_lose 5 = .ok (.iconst (-1), 1) := by decide +kernel
theorem dX8_lose_6 : decode cX8_lose 6 = .ok (.invokevirtual 227, 3) := by decide +kernel
theorem dX8_lose_9 : decode cX8_lose 9 = .ok (.istore_n 3, 1) := by decide +kernel
theorem dX8_lose_10 : decode cX8_lose 10 = .ok (.iconst 0, 1) := by decide +kernel
theorem dX8_lose_11 : decode cX8_lose 11 = .ok (.istore 4, 2) := by decide +kernel
theorem dX8_lose_13 : decode cX8_lose 13 = .ok (.iload 4, 2) := by decide +kernel
theorem dX8_lose_15 : decode cX8_lose 15 = .ok (.iconst 3, 1) := by decide +kernel
theorem dX8_lose_16 : decode cX8_lose 16 = .ok (.if_icmp .ge 67, 3) := by decide +kernel
theorem dX8_lose_19 : decode cX8_lose 19 = .ok (.iload_n 3, 1) := by decide +kernel
theorem dX8_lose_20 : decode cX8_lose 20 = .ok (.iconst (-1), 1) := by decide +kernel
theorem dX8_lose_21 : decode cX8_lose 21 = .ok (.if_icmp .eq 62, 3) := by decide +kernel
theorem dX8_lose_24 : decode cX8_lose 24 = .ok (.aload_n 0, 1) := by decide +kernel
theorem dX8_lose_25 : decode cX8_lose 25 = .ok (.getfield 29, 3) := by decide +kernel
theorem dX8_lose_28 : decode cX8_lose 28 = .ok (.getfield 67, 3) := by decide +kernel
theorem dX8_lose_31 : decode cX8_lose 31 = .ok (.ifCond .ne 52, 3) := by decide +kernel
theorem dX8_lose_34 : decode cX8_lose 34 = .ok (.aload_n 0, 1) := by decide +kernel
theorem dX8_lose_35 : decode cX8_lose 35 = .ok (.getfield 18, 3) := by decide +kernel
theorem dX8_lose_38 : decode cX8_lose 38 = .ok (.aload_n 0, 1) := by decide +kernel
theorem dX8_lose_39 : decode cX8_lose 39 = .ok (.getfield 12, 3) := by decide +kernel
theorem dX8_lose_42 : decode cX8_lose 42 = .ok (.invokevirtual 148, 3) := by decide +kernel
theorem dX8_lose_45 : decode cX8_lose 45 = .ok (.aload_n 0, 1) := by decide +kernel
theorem dX8_lose_46 : decode cX8_lose 46 = .ok (.getfield 18, 3) := by decide +kernel
theorem dX8_lose_49 : decode cX8_lose 49 = .ok (.iload_n 2, 1) := by decide +kernel
theorem dX8_lose_50 : decode cX8_lose 50 = .ok (.iload_n 3, 1) := by decide +kernel
theorem dX8_lose_51 : decode cX8_lose 51 = .ok (.invokevirtual 194, 3) := by decide +kernel
theorem dX8_lose_54 : decode cX8_lose 54 = .ok (.aload_n 0, 1) := by decide +kernel
theorem dX8_lose_55 : decode cX8_lose 55 = .ok (.getfield 29, 3) := by decide +kernel
theorem dX8_lose_58 : decode cX8_lose 58 = .ok (.iload_n 1, 1) := by decide +kernel
theorem dX8_lose_59 : decode cX8_lose 59 = .ok (.aload_n 0, 1) := by decide +kernel
theorem dX8_lose_60 : decode cX8_lose 60 = .ok (.getfield 18, 3) := by decide +kernel
theorem dX8_lose_63 : decode cX8_lose 63 = .ok (.iconst (-1), 1) := by decide +kernel
theorem dX8_lose_64 : decode cX8_lose 64 = .ok (.invokevirtual 169, 3) := by decide +kernel
theorem dX8_lose_67 : decode cX8_lose 67 = .ok (.aload_n 0, 1) := by decide +kernel
theorem dX8_lose_68 : decode cX8_lose 68 = .ok (.getfield 12, 3) := by decide +kernel
theorem dX8_lose_71 : decode cX8_lose 71 = .ok (.iload_n 2, 1) := by decide +kernel
theorem dX8_lose_72 : decode cX8_lose 72 = .ok (.iload_n 3, 1) := by decide +kernel
theorem dX8_lose_73 : decode cX8_lose 73 = .ok (.invokevirtual 227, 3) := by decide +kernel
theorem dX8_lose_76 : decode cX8_lose 76 = .ok (.istore_n 3, 1) := by decide +kernel
theorem dX8_lose_77 : decode cX8_lose 77 = .ok (.iinc 4 1, 3) := by decide +kernel
theorem dX8_lose_80 : decode cX8_lose 80 = .ok (.goto (-67), 3) := by decide +kernel
theorem dX8_lose_83 : decode cX8_lose 83 = .ok (.return_, 1) := by decide +kernel
set_option maxHeartbeats 4000000 in
set_option maxRecDepth 100000 in
theorem c_X8_lose (l : Launch) {cs : Nat → ClassId} {ad : Nat → Nat} {A : Nat → Prop} {D : va_G} (hJ : hp_J SB ad A)   {h : hp_H} {a1 a2 : Int32} {Q : hp_H → Prop} (hq : q_X8_lose h a1 a2 Q) : hp_Mv l yX8_lose cX8_lose 5 none rm_X8_lose [.ref (ad 44), .int a1, .int a2] SB cs ad A D h Q := by
  refine hp_met (own := RX8) rfl (by decide) (Nat.le_of_ble_eq_true rfl) rfl (fun p e s m args below meth c Z E hZ hnm => ?_)
  refine hp_sub (lv' := [(0, .ref (ad 44)), (1, .int a1), (2, .int a2)]) [0, 1, 2] rfl ?_
  unfold q_X8_lose at hq
  refine hp_aload_n E 0 dX8_lose_0 rfl rfl ?_
  refine hp_gR E g_RX8_12 fB_44_2 dX8_lose_1 ?_
  refine hp_iload_n E 2 dX8_lose_4 rfl rfl ?_
  refine hp_iconst E (-1) dX8_lose_5 (by decide) ?_
  refine hp_callVip (rest := []) E 45 fB_45_0 vcl_7 (c_X7_nextUnlike l hJ fB_45_0 aB_46 zB_46 hq) F_X7_nextUnlike m_RX8_227 ⟨rfl, rfl⟩ ⟨Nat.le_of_ble_eq_true rfl, Nat.le_of_ble_eq_true rfl⟩ ⟨Nat.zero_le _, Nat.zero_le _⟩ rfl rfl (Nat.le_of_ble_eq_true rfl) dX8_lose_6 (fun r1 hq => ?_)
  refine hp_istore_n (lv' := [(0, .ref (ad 44)), (1, .int a1), (2, .int a2), (3, .int r1)]) E dX8_lose_9 rfl (by decide) rfl rfl ?_
  refine hp_iconst E (nI 0) dX8_lose_10 (by decide) ?_
  refine hp_istore (lv' := [(0, .ref (ad 44)), (1, .int a1), (2, .int a2), (3, .int r1), (4, .int (nI 0))]) E dX8_lose_11 (by decide) rfl rfl ?_
  refine hq (fun v3 v4 h5 => hp_G p l e rm_X8_lose s m args below meth c SB cs ad A D 5 0 0 Z 13 [(0, .ref (ad 44)), (1, .int a1), (2, .int a2), (3, .int v3), (4, .int v4)] [] h5) (fun v3 v4 h5 hB => ?_)
  obtain ⟨B2, hq, hB2⟩ := hB
  refine hp_iload E 4 dX8_lose_13 rfl ?_
  refine hp_iconst E (nI 3) dX8_lose_15 (by decide) ?_
  refine hp_icmp_ge E 83 dX8_lose_16 (by decide) (fun c6 => ?_) (fun c6 => ?_)
  · replace hq := hq.1 c6
    exact hp_vret E hq hZ dX8_lose_83
  · replace hq := hq.2 c6
    refine hp_iload_n E 3 dX8_lose_19 rfl rfl ?_
    refine hp_iconst E (-1) dX8_lose_20 (by decide) ?_
    refine hp_icmp_eq E 83 dX8_lose_21 (by decide) (fun c7 => ?_) (fun c7 => ?_)
    · replace hq := hq.1 c7
      exact hp_vret E hq hZ dX8_lose_83
    · replace hq := hq.2 c7
      refine hp_aload_n E 0 dX8_lose_24 rfl rfl ?_
      refine hp_gR E g_RX8_29 fB_44_1 dX8_lose_25 ?_
      refine hp_gI E g_RX8_67 fB_35_1 dX8_lose_28 ?_
      refine hp_if_ne E 83 dX8_lose_31 (by decide) (fun c8 => ?_) (fun c8 => ?_)
      · replace hq := hq.2 c8
        exact hp_vret E hq hZ dX8_lose_83
      · replace hq := hq.1 c8
        refine hp_aload_n E 0 dX8_lose_34 rfl rfl ?_
        refine hp_gR E g_RX8_18 fB_44_3 dX8_lose_35 ?_
        refine hp_aload_n E 0 dX8_lose_38 rfl rfl ?_
        refine hp_gR E g_RX8_12 fB_44_2 dX8_lose_39 ?_
        refine hp_callVv' (rest := []) E 47 fB_47_0 vcl_7 (c_X7_copy l hJ fB_47_0 aB_48 zB_48 fB_45_0 aB_46 zB_46 hq) F_X7_copy m_RX8_148 ⟨rfl, rfl⟩ ⟨Nat.le_of_ble_eq_true rfl, Nat.le_of_ble_eq_true rfl⟩ ⟨Nat.zero_le _, Nat.zero_le _⟩ rfl rfl (Nat.le_of_ble_eq_true rfl) dX8_lose_42 (fun h9 hq => ?_)
        refine hp_aload_n E 0 dX8_lose_45 rfl rfl ?_
        refine hp_gR E g_RX8_18 fB_44_3 dX8_lose_46 ?_
        refine hp_iload_n E 2 dX8_lose_49 rfl rfl ?_
        refine hp_iload_n E 3 dX8_lose_50 rfl rfl ?_
        refine hp_callVv' (rest := []) E 47 fB_47_0 vcl_7 (c_X7_take l hJ fB_47_0 aB_48 zB_48 hq) F_X7_take m_RX8_194 ⟨rfl, rfl⟩ ⟨Nat.le_of_ble_eq_true rfl, Nat.le_of_ble_eq_true rfl⟩ ⟨Nat.zero_le _, Nat.zero_le _⟩ rfl rfl (Nat.le_of_ble_eq_true rfl) dX8_lose_51 (fun h10 hq => ?_)
        refine hp_aload_n E 0 dX8_lose_54 rfl rfl ?_
        refine hp_gR E g_RX8_29 fB_44_1 dX8_lose_55 ?_
        refine hp_iload_n E 1 dX8_lose_58 rfl rfl ?_
        refine hp_aload_n E 0 dX8_lose_59 rfl rfl ?_
        refine hp_gR E g_RX8_18 fB_44_3 dX8_lose_60 ?_
        refine hp_iconst E (-1) dX8_lose_63 (by decide) ?_
        refine hp_callVv' (rest := []) E 35 fB_35_0 vcl_2 (c_X2_addMove l hJ hq) F_X2_addMove m_RX8_169 ⟨rfl, rfl⟩ ⟨Nat.le_of_ble_eq_true rfl, Nat.le_of_ble_eq_true rfl⟩ ⟨Nat.zero_le _, Nat.zero_le _⟩ rfl rfl (Nat.le_of_ble_eq_true rfl) dX8_lose_64 (fun h11 hq => ?_)
        refine hp_aload_n E 0 dX8_lose_67 rfl rfl ?_
        refine hp_gR E g_RX8_12 fB_44_2 dX8_lose_68 ?_
        refine hp_iload_n E 2 dX8_lose_71 rfl rfl ?_
        refine hp_iload_n E 3 dX8_lose_72 rfl rfl ?_
        refine hp_callVip (rest := []) E 45 fB_45_0 vcl_7 (c_X7_nextUnlike l hJ fB_45_0 aB_46 zB_46 hq) F_X7_nextUnlike m_RX8_227 ⟨rfl, rfl⟩ ⟨Nat.le_of_ble_eq_true rfl, Nat.le_of_ble_eq_true rfl⟩ ⟨Nat.zero_le _, Nat.zero_le _⟩ rfl rfl (Nat.le_of_ble_eq_true rfl) dX8_lose_73 (fun r12 hq => ?_)
        refine hp_istore_n (lv' := [(0, .ref (ad 44)), (1, .int a1), (2, .int a2), (3, .int r12), (4, .int v4)]) E dX8_lose_76 rfl (by decide) rfl rfl ?_
        obtain ⟨v13, ev13⟩ : ∃ z : Int32, z = v4 + (nI 1) := ⟨_, rfl⟩
        replace hq := hq v13 ev13
        refine hp_iinc (lv' := [(0, .ref (ad 44)), (1, .int a1), (2, .int a2), (3, .int r12), (4, .int v13)]) E 4 v13 dX8_lose_77 rfl (by rw [ev13]; rfl) (by decide) rfl rfl ?_
        refine hp_goto E 13 dX8_lose_80 (by decide) ?_
        exact hB2 _ _ _ hq
theorem dX8_goThrough_0 : decode cX8_goThrough 0 = .ok (.aload_n 0, 1) := by decide +kernel
theorem dX8_goThrough_1 : decode cX8_goThrough 1 = .ok (.getfield 29, 3) := by decide +kernel
theorem dX8_goThrough_4 : decode cX8_goThrough 4 = .ok (.iload_n 1, 1) := by decide +kernel
theorem dX8_goThrough_5 : decode cX8_goThrough 5 = .ok (.aload_n 0, 1) := by decide +kernel
theorem dX8_goThrough_6 : decode cX8_goThrough 6 = .ok (.getfield 12, 3) := by decide +kernel
theorem dX8_goThrough_9 : decode cX8_goThrough 9 = .ok (.invokevirtual 44, 3) := by decide +kernel
theorem dX8_goThrough_12 : decode cX8_goThrough 12 = .ok (.aload_n 0, 1) := by decide +kernel
theorem dX8_goThrough_13 : decode cX8_goThrough 13 = .ok (.getfield 29, 3) := by decide +kernel
theorem dX8_goThrough_16 : decode cX8_goThrough 16 = .ok (.getfield 48, 3) := by decide +kernel
theorem dX8_goThrough_19 : decode cX8_goThrough 19 = .ok (.iload_n 1, 1) := by decide +kernel
theorem dX8_goThrough_20 : decode cX8_goThrough 20 = .ok (.aload_n 0, 1) := by decide +kernel
theorem dX8_goThrough_21 : decode cX8_goThrough 21 = .ok (.getfield 29, 3) := by decide +kernel
theorem dX8_goThrough_24 : decode cX8_goThrough 24 = .ok (.getfield 51, 3) := by decide +kernel
theorem dX8_goThrough_27 : decode cX8_goThrough 27 = .ok (.iastore, 1) := by decide +kernel
theorem dX8_goThrough_28 : decode cX8_goThrough 28 = .ok (.iconst 0, 1) := by decide +kernel
theorem dX8_goThrough_29 : decode cX8_goThrough 29 = .ok (.istore_n 2, 1) := by decide +kernel
theorem dX8_goThrough_30 : decode cX8_goThrough 30 = .ok (.iload_n 2, 1) := by decide +kernel
theorem dX8_goThrough_31 : decode cX8_goThrough 31 = .ok (.aload_n 0, 1) := by decide +kernel
theorem dX8_goThrough_32 : decode cX8_goThrough 32 = .ok (.getfield 25, 3) := by decide +kernel
theorem dX8_goThrough_35 : decode cX8_goThrough 35 = .ok (.getfield 55, 3) := by decide +kernel
theorem dX8_goThrough_38 : decode cX8_goThrough 38 = .ok (.getfield 59, 3) := by decide +kernel
theorem dX8_goThrough_41 : decode cX8_goThrough 41 = .ok (.if_icmp .ge 50, 3) := by decide +kernel
theorem dX8_goThrough_44 : decode cX8_goThrough 44 = .ok (.iconst 0, 1) := by decide +kernel
theorem dX8_goThrough_45 : decode cX8_goThrough 45 = .ok (.istore_n 3, 1) := by decide +kernel
theorem dX8_goThrough_46 : decode cX8_goThrough 46 = .ok (.iload_n 3, 1) := by decide +kernel
theorem dX8_goThrough_47 : decode cX8_goThrough 47 = .ok (.aload_n 0, 1) := by decide +kernel
theorem dX8_goThrough_48 : decode cX8_goThrough 48 = .ok (.getfield 25, 3) := by decide +kernel
theorem dX8_goThrough_51 : decode cX8_goThrough 51 = .ok (.getfield 55, 3) := by decide +kernel
theorem dX8_goThrough_54 : decode cX8_goThrough 54 = .ok (.getfield 64, 3) := by decide +kernel
theorem dX8_goThrough_57 : decode cX8_goThrough 57 = .ok (.iload_n 2, 1) := by decide +kernel
theorem dX8_goThrough_58 : decode cX8_goThrough 58 = .ok (.iaload, 1) := by decide +kernel
theorem dX8_goThrough_59 : decode cX8_goThrough 59 = .ok (.if_icmp .ge 26, 3) := by decide +kernel
theorem dX8_goThrough_62 : decode cX8_goThrough 62 = .ok (.aload_n 0, 1) := by decide +kernel
theorem dX8_goThrough_63 : decode cX8_goThrough 63 = .ok (.getfield 29, 3) := by decide +kernel
theorem dX8_goThrough_66 : decode cX8_goThrough 66 = .ok (.getfield 67, 3) := by decide +kernel
theorem dX8_goThrough_69 : decode cX8_goThrough 69 = .ok (.ifCond .ne 16, 3) := by decide +kernel
theorem dX8_goThrough_72 : decode cX8_goThrough 72 = .ok (.aload_n 0, 1) := by decide +kernel
theorem dX8_goThrough_73 : decode cX8_goThrough 73 = .ok (.iload_n 1, 1) := by decide +kernel
theorem dX8_goThrough_74 : decode cX8_goThrough 74 = .ok (.iload_n 2, 1) := by decide +kernel
theorem dX8_goThrough_75 : decode cX8_goThrough 75 = .ok (.iload_n 3, 1) := by decide +kernel
theorem dX8_goThrough_76 : decode cX8_goThrough 76 = .ok (.invokevirtual 71, 3) := by decide +kernel
theorem dX8_goThrough_79 : decode cX8_goThrough 79 = .ok (.iinc 3 1, 3) := by decide +kernel
theorem dX8_goThrough_82 : decode cX8_goThrough 82 = .ok (.goto (-36), 3) := by decide +kernel
theorem dX8_goThrough_85 : decode cX8_goThrough 85 = .ok (.iinc 2 1, 3) := by decide +kernel
theorem dX8_goThrough_88 : decode cX8_goThrough 88 = .ok (.goto (-58), 3) := by decide +kernel
theorem dX8_goThrough_91 : decode cX8_goThrough 91 = .ok (.iconst 0, 1) := by decide +kernel
theorem dX8_goThrough_92 : decode cX8_goThrough 92 = .ok (.istore_n 2, 1) := by decide +kernel
theorem dX8_goThrough_93 : decode cX8_goThrough 93 = .ok (.iload_n 2, 1) := by decide +kernel
theorem dX8_goThrough_94 : decode cX8_goThrough 94 = .ok (.aload_n 0, 1) := by decide +kernel
theorem dX8_goThrough_95 : decode cX8_goThrough 95 = .ok (.getfield 25, 3) := by decide +kernel
theorem dX8_goThrough_98 : decode cX8_goThrough 98 = .ok (.getfield 75, 3) := by decide +kernel
theorem dX8_goThrough_101 : decode cX8_goThrough 101 = .ok (.if_icmp .ge 37, 3) := by decide +kernel
theorem dX8_goThrough_104 : decode cX8_goThrough 104 = .ok (.aload_n 0, 1) := by decide +kernel
theorem dX8_goThrough_105 : decode cX8_goThrough 105 = .ok (.getfield 29, 3) := by decide +kernel
theorem dX8_goThrough_108 : decode cX8_goThrough 108 = .ok (.getfield 67, 3) := by decide +kernel
theorem dX8_goThrough_111 : decode cX8_goThrough 111 = .ok (.ifCond .ne 27, 3) := by decide +kernel
theorem dX8_goThrough_114 : decode cX8_goThrough 114 = .ok (.aload_n 0, 1) := by decide +kernel
theorem dX8_goThrough_115 : decode cX8_goThrough 115 = .ok (.getfield 25, 3) := by decide +kernel
theorem dX8_goThrough_118 : decode cX8_goThrough 118 = .ok (.getfield 78, 3) := by decide +kernel
theorem dX8_goThrough_121 : decode cX8_goThrough 121 = .ok (.iload_n 2, 1) := by decide +kernel
theorem dX8_goThrough_122 : decode cX8_goThrough 122 = .ok (.baload, 1) := by decide +kernel
theorem dX8_goThrough_123 : decode cX8_goThrough 123 = .ok (.ifCond .eq 9, 3) := by decide +kernel
theorem dX8_goThrough_126 : decode cX8_goThrough 126 = .ok (.aload_n 0, 1) := by decide +kernel
theorem dX8_goThrough_127 : decode cX8_goThrough 127 = .ok (.iload_n 1, 1) := by decide +kernel
theorem dX8_goThrough_128 : decode cX8_goThrough 128 = .ok (.iload_n 2, 1) := by decide +kernel
theorem dX8_goThrough_129 : decode cX8_goThrough 129 = .ok (.invokevirtual 82, 3) := by decide +kernel
theorem dX8_goThrough_132 : decode cX8_goThrough 132 = .ok (.iinc 2 1, 3) := by decide +kernel
theorem dX8_goThrough_135 : decode cX8_goThrough 135 = .ok (.goto (-42), 3) := by decide +kernel
theorem dX8_goThrough_138 : decode cX8_goThrough 138 = .ok (.aload_n 0, 1) := by decide +kernel
theorem dX8_goThrough_139 : decode cX8_goThrough 139 = .ok (.getfield 29, 3) := by decide +kernel
theorem dX8_goThrough_142 : decode cX8_goThrough 142 = .ok (.getfield 48, 3) := by decide +kernel
theorem dX8_goThrough_145 : decode cX8_goThrough 145 = .ok (.iload_n 1, 1) := by decide +kernel
theorem dX8_goThrough_146 : decode cX8_goThrough 146 = .ok (.iconst 1, 1) := by decide +kernel
theorem dX8_goThrough_147 : decode cX8_goThrough 147 = .ok (.iadd, 1) := by decide +kernel
theorem dX8_goThrough_148 : decode cX8_goThrough 148 = .ok (.aload_n 0, 1) := by decide +kernel
theorem dX8_goThrough_149 : decode cX8_goThrough 149 = .ok (.getfield 29, 3) := by decide +kernel
theorem dX8_goThrough_152 : decode cX8_goThrough 152 = .ok (.getfield 51, 3) := by decide +kernel
theorem dX8_goThrough_155 : decode cX8_goThrough 155 = .ok (.iastore, 1) := by decide +kernel
theorem dX8_goThrough_156 : decode cX8_goThrough 156 = .ok (.return_, 1) := by decide +kernel
set_option maxHeartbeats 4000000 in
set_option maxRecDepth 100000 in
theorem c_X8_goThrough (l : Launch) {cs : Nat → ClassId} {ad : Nat → Nat} {A : Nat → Prop} {D : va_G} (hJ : hp_J SB ad A)   {h : hp_H} {a1 : Int32} {Q : hp_H → Prop} (hq : q_X8_goThrough h a1 Q) : hp_Mv l yX8_goThrough cX8_goThrough 4 none rm_X8_goThrough [.ref (ad 44), .int a1] SB cs ad A D h Q := by
  refine hp_met (own := RX8) rfl (by decide) (Nat.le_of_ble_eq_true rfl) rfl (fun p e s m args below meth c Z E hZ hnm => ?_)
  refine hp_sub (lv' := [(0, .ref (ad 44)), (1, .int a1)]) [0, 1] rfl ?_
  unfold q_X8_goThrough at hq
  refine hp_aload_n E 0 dX8_goThrough_0 rfl rfl ?_
  refine hp_gR E g_RX8_29 fB_44_1 dX8_goThrough_1 ?_
  refine hp_iload_n E 1 dX8_goThrough_4 rfl rfl ?_
  refine hp_aload_n E 0 dX8_goThrough_5 rfl rfl ?_
  refine hp_gR E g_RX8_12 fB_44_2 dX8_goThrough_6 ?_
  refine hp_callVv' (rest := []) E 35 fB_35_0 vcl_2 (c_X2_load l hJ fB_45_0 aB_46 zB_46 hq) F_X2_load m_RX8_44 ⟨rfl, rfl⟩ ⟨Nat.le_of_ble_eq_true rfl, Nat.le_of_ble_eq_true rfl⟩ ⟨Nat.zero_le _, Nat.zero_le _⟩ rfl rfl (Nat.le_of_ble_eq_true rfl) dX8_goThrough_9 (fun h1 hq => ?_)
  refine hp_aload_n E 0 dX8_goThrough_12 rfl rfl ?_
  refine hp_gR E g_RX8_29 fB_44_1 dX8_goThrough_13 ?_
  refine hp_gR E g_RX8_48 fB_35_8 dX8_goThrough_16 ?_
  refine hp_iload_n E 1 dX8_goThrough_19 rfl rfl ?_
  refine hp_aload_n E 0 dX8_goThrough_20 rfl rfl ?_
  refine hp_gR E g_RX8_29 fB_44_1 dX8_goThrough_21 ?_
  refine hp_gI E g_RX8_51 fB_35_3 dX8_goThrough_24 ?_
  have hin := hq.1
  replace hq := hq.2
  refine hp_iast E 36 aB_36 zB_36 hJ hin dX8_goThrough_27 ?_
  refine hp_toph (fun h2 eh2 => ?_)
  replace hq := hq h2 eh2
  refine hp_iconst E (nI 0) dX8_goThrough_28 (by decide) ?_
  refine hp_istore_n (lv' := [(0, .ref (ad 44)), (1, .int a1), (2, .int (nI 0))]) E dX8_goThrough_29 rfl (by decide) rfl rfl ?_
  refine hq (fun v4 h5 => hp_G p l e rm_X8_goThrough s m args below meth c SB cs ad A D 4 0 0 Z 30 [(0, .ref (ad 44)), (1, .int a1), (2, .int v4)] [] h5) (fun v4 h5 hB => ?_)
  obtain ⟨B3, hq, hB3⟩ := hB
  refine hp_iload_n E 2 dX8_goThrough_30 rfl rfl ?_
  refine hp_aload_n E 0 dX8_goThrough_31 rfl rfl ?_
  refine hp_gR E g_RX8_25 fB_44_0 dX8_goThrough_32 ?_
  refine hp_gR E g_RX8_55 fB_1_2 dX8_goThrough_35 ?_
  refine hp_gI E g_RX8_59 fB_12_1 dX8_goThrough_38 ?_
  refine hp_icmp_ge E 91 dX8_goThrough_41 (by decide) (fun c6 => ?_) (fun c6 => ?_)
  · replace hq := hq.1 c6
    refine hp_iconst E (nI 0) dX8_goThrough_91 (by decide) ?_
    refine hp_istore_n (lv' := [(0, .ref (ad 44)), (1, .int a1), (2, .int (nI 0))]) E dX8_goThrough_92 rfl (by decide) rfl rfl ?_
    refine hq (fun v8 h9 => hp_G p l e rm_X8_goThrough s m args below meth c SB cs ad A D 4 0 0 Z 93 [(0, .ref (ad 44)), (1, .int a1), (2, .int v8)] [] h9) (fun v8 h9 hB => ?_)
    obtain ⟨B7, hq, hB7⟩ := hB
    refine hp_iload_n E 2 dX8_goThrough_93 rfl rfl ?_
    refine hp_aload_n E 0 dX8_goThrough_94 rfl rfl ?_
    refine hp_gR E g_RX8_25 fB_44_0 dX8_goThrough_95 ?_
    refine hp_gI E g_RX8_75 fB_1_8 dX8_goThrough_98 ?_
    obtain ⟨K11, hq, hK11⟩ := hq
    have jK11 : K11 → hp_G p l e rm_X8_goThrough s m args below meth c SB cs ad A D 4 0 0 Z 138 [(0, .ref (ad 44)), (1, .int a1)] [] h9 := by
      intro  hq
      replace hq := hK11  hq
      refine hp_aload_n E 0 dX8_goThrough_138 rfl rfl ?_
      refine hp_gR E g_RX8_29 fB_44_1 dX8_goThrough_139 ?_
      refine hp_gR E g_RX8_48 fB_35_8 dX8_goThrough_142 ?_
      refine hp_iload_n E 1 dX8_goThrough_145 rfl rfl ?_
      refine hp_iconst E (nI 1) dX8_goThrough_146 (by decide) ?_
      refine hp_iadd E dX8_goThrough_147 ?_
      refine hp_aload_n E 0 dX8_goThrough_148 rfl rfl ?_
      refine hp_gR E g_RX8_29 fB_44_1 dX8_goThrough_149 ?_
      refine hp_gI E g_RX8_51 fB_35_3 dX8_goThrough_152 ?_
      have hin := hq.1
      replace hq := hq.2
      refine hp_iast E 36 aB_36 zB_36 hJ hin dX8_goThrough_155 ?_
      refine hp_toph (fun h18 eh18 => ?_)
      replace hq := hq h18 eh18
      exact hp_vret E hq hZ dX8_goThrough_156
    refine hp_icmp_ge E 138 dX8_goThrough_101 (by decide) (fun c10 => ?_) (fun c10 => ?_)
    · replace hq := hq.1 c10
      refine hp_sub (lv' := [(0, .ref (ad 44)), (1, .int a1)]) [0, 1] rfl ?_
      exact jK11  hq
    · replace hq := hq.2 c10
      refine hp_aload_n E 0 dX8_goThrough_104 rfl rfl ?_
      refine hp_gR E g_RX8_29 fB_44_1 dX8_goThrough_105 ?_
      refine hp_gI E g_RX8_67 fB_35_1 dX8_goThrough_108 ?_
      refine hp_if_ne E 138 dX8_goThrough_111 (by decide) (fun c12 => ?_) (fun c12 => ?_)
      · replace hq := hq.2 c12
        refine hp_sub (lv' := [(0, .ref (ad 44)), (1, .int a1)]) [0, 1] rfl ?_
        exact jK11  hq
      · replace hq := hq.1 c12
        refine hp_aload_n E 0 dX8_goThrough_114 rfl rfl ?_
        refine hp_gR E g_RX8_25 fB_44_0 dX8_goThrough_115 ?_
        refine hp_gR E g_RX8_78 fB_1_7 dX8_goThrough_118 ?_
        refine hp_iload_n E 2 dX8_goThrough_121 rfl rfl ?_
        refine hp_zald E 34 aB_34 hq.1 dX8_goThrough_122 ?_
        replace hq := hq.2
        obtain ⟨K14, hq, hK14⟩ := hq
        have jK14 : ∀  (h15 : hp_H), K14 h15 → hp_G p l e rm_X8_goThrough s m args below meth c SB cs ad A D 4 0 0 Z 132 [(0, .ref (ad 44)), (1, .int a1), (2, .int v8)] [] h15 := by
          intro h15 hq
          replace hq := hK14 h15 hq
          obtain ⟨v17, ev17⟩ : ∃ z : Int32, z = v8 + (nI 1) := ⟨_, rfl⟩
          replace hq := hq v17 ev17
          refine hp_iinc (lv' := [(0, .ref (ad 44)), (1, .int a1), (2, .int v17)]) E 2 v17 dX8_goThrough_132 rfl (by rw [ev17]; rfl) (by decide) rfl rfl ?_
          refine hp_goto E 93 dX8_goThrough_135 (by decide) ?_
          exact hB7 _ _ hq
        refine hp_if_eq E 132 dX8_goThrough_123 (by decide) (fun c13 => ?_) (fun c13 => ?_)
        · replace hq := hq.1 c13
          exact jK14 _ hq
        · replace hq := hq.2 c13
          refine hp_aload_n E 0 dX8_goThrough_126 rfl rfl ?_
          refine hp_iload_n E 1 dX8_goThrough_127 rfl rfl ?_
          refine hp_iload_n E 2 dX8_goThrough_128 rfl rfl ?_
          refine hp_callVv' (rest := []) E 44 fB_44_0 vcl_8 (c_X8_lose l hJ hq) F_X8_lose m_RX8_82 ⟨rfl, rfl⟩ ⟨Nat.le_of_ble_eq_true rfl, Nat.le_of_ble_eq_true rfl⟩ ⟨Nat.zero_le _, Nat.zero_le _⟩ rfl rfl (Nat.le_of_ble_eq_true rfl) dX8_goThrough_129 (fun h16 hq => ?_)
          exact jK14 _ hq
  · replace hq := hq.2 c6
    refine hp_iconst E (nI 0) dX8_goThrough_44 (by decide) ?_
    refine hp_istore_n (lv' := [(0, .ref (ad 44)), (1, .int a1), (2, .int v4), (3, .int (nI 0))]) E dX8_goThrough_45 rfl (by decide) rfl rfl ?_
    refine hq (fun v20 h21 => hp_G p l e rm_X8_goThrough s m args below meth c SB cs ad A D 4 0 0 Z 46 [(0, .ref (ad 44)), (1, .int a1), (2, .int v4), (3, .int v20)] [] h21) (fun v20 h21 hB => ?_)
    obtain ⟨B19, hq, hB19⟩ := hB
    refine hp_iload_n E 3 dX8_goThrough_46 rfl rfl ?_
    refine hp_aload_n E 0 dX8_goThrough_47 rfl rfl ?_
    refine hp_gR E g_RX8_25 fB_44_0 dX8_goThrough_48 ?_
    refine hp_gR E g_RX8_55 fB_1_2 dX8_goThrough_51 ?_
    refine hp_gR E g_RX8_64 fB_12_0 dX8_goThrough_54 ?_
    refine hp_iload_n E 2 dX8_goThrough_57 rfl rfl ?_
    refine hp_iald E 13 aB_13 hq.1 dX8_goThrough_58 ?_
    replace hq := hq.2
    obtain ⟨K23, hq, hK23⟩ := hq
    have jK23 : K23 → hp_G p l e rm_X8_goThrough s m args below meth c SB cs ad A D 4 0 0 Z 85 [(0, .ref (ad 44)), (1, .int a1), (2, .int v4)] [] h21 := by
      intro  hq
      replace hq := hK23  hq
      obtain ⟨v27, ev27⟩ : ∃ z : Int32, z = v4 + (nI 1) := ⟨_, rfl⟩
      replace hq := hq v27 ev27
      refine hp_iinc (lv' := [(0, .ref (ad 44)), (1, .int a1), (2, .int v27)]) E 2 v27 dX8_goThrough_85 rfl (by rw [ev27]; rfl) (by decide) rfl rfl ?_
      refine hp_goto E 30 dX8_goThrough_88 (by decide) ?_
      exact hB3 _ _ hq
    refine hp_icmp_ge E 85 dX8_goThrough_59 (by decide) (fun c22 => ?_) (fun c22 => ?_)
    · replace hq := hq.1 c22
      refine hp_sub (lv' := [(0, .ref (ad 44)), (1, .int a1), (2, .int v4)]) [0, 1, 2] rfl ?_
      exact jK23  hq
    · replace hq := hq.2 c22
      refine hp_aload_n E 0 dX8_goThrough_62 rfl rfl ?_
      refine hp_gR E g_RX8_29 fB_44_1 dX8_goThrough_63 ?_
      refine hp_gI E g_RX8_67 fB_35_1 dX8_goThrough_66 ?_
      refine hp_if_ne E 85 dX8_goThrough_69 (by decide) (fun c24 => ?_) (fun c24 => ?_)
      · replace hq := hq.2 c24
        refine hp_sub (lv' := [(0, .ref (ad 44)), (1, .int a1), (2, .int v4)]) [0, 1, 2] rfl ?_
        exact jK23  hq
      · replace hq := hq.1 c24
        refine hp_aload_n E 0 dX8_goThrough_72 rfl rfl ?_
        refine hp_iload_n E 1 dX8_goThrough_73 rfl rfl ?_
        refine hp_iload_n E 2 dX8_goThrough_74 rfl rfl ?_
        refine hp_iload_n E 3 dX8_goThrough_75 rfl rfl ?_
        refine hp_callVv' (rest := []) E 44 fB_44_0 vcl_8 (c_X8_goMember l hJ hq) F_X8_goMember m_RX8_71 ⟨rfl, rfl⟩ ⟨Nat.le_of_ble_eq_true rfl, Nat.le_of_ble_eq_true rfl⟩ ⟨Nat.zero_le _, Nat.zero_le _⟩ rfl rfl (Nat.le_of_ble_eq_true rfl) dX8_goThrough_76 (fun h25 hq => ?_)
        obtain ⟨v26, ev26⟩ : ∃ z : Int32, z = v20 + (nI 1) := ⟨_, rfl⟩
        replace hq := hq v26 ev26
        refine hp_iinc (lv' := [(0, .ref (ad 44)), (1, .int a1), (2, .int v4), (3, .int v26)]) E 3 v26 dX8_goThrough_79 rfl (by rw [ev26]; rfl) (by decide) rfl rfl ?_
        refine hp_goto E 46 dX8_goThrough_82 (by decide) ?_
        exact hB19 _ _ hq
theorem dX9_has_0 : decode cX9_has 0 = .ok (.iload_n 1, 1) := by decide +kernel
theorem dX9_has_1 : decode cX9_has 1 = .ok (.ifCond .lt 15, 3) := by decide +kernel
theorem dX9_has_4 : decode cX9_has 4 = .ok (.iload_n 1, 1) := by decide +kernel
theorem dX9_has_5 : decode cX9_has 5 = .ok (.aload_n 0, 1) := by decide +kernel
theorem dX9_has_6 : decode cX9_has 6 = .ok (.getfield 36, 3) := by decide +kernel
theorem dX9_has_9 : decode cX9_has 9 = .ok (.if_icmp .ge 7, 3) := by decide +kernel
theorem dX9_has_12 : decode cX9_has 12 = .ok (.iconst 1, 1) := by decide +kernel
theorem dX9_has_13 : decode cX9_has 13 = .ok (.goto 4, 3) := by decide +kernel
theorem dX9_has_16 : decode cX9_has 16 = .ok (.iconst 0, 1) := by decide +kernel
theorem dX9_has_17 : decode cX9_has 17 = .ok (.ireturn, 1) := by decide +kernel
set_option maxHeartbeats 4000000 in
set_option maxRecDepth 100000 in
theorem c_X9_has (l : Launch) {cs : Nat → ClassId} {ad : Nat → Nat} {A : Nat → Prop} {D : va_G} (hJ : hp_J SB ad A)   {h : hp_H} {a1 : Int32} {Q : Int32 → Prop} (hq : q_X9_has h a1 Q) : hp_Mi l yX9_has cX9_has 2 (some .boolean) rm_X9_has [.ref (ad 23), .int a1] SB cs ad A D h (fun r h' => Q r ∧ h' = h) := by
  refine hp_met (own := RX9) rfl (by decide) (Nat.le_of_ble_eq_true rfl) rfl (fun p e s m args below meth c Z E hZ hnm => ?_)
  refine hp_sub (lv' := [(0, .ref (ad 23)), (1, .int a1)]) [0, 1] rfl ?_
  unfold q_X9_has at hq
  refine hp_iload_n E 1 dX9_has_0 rfl rfl ?_
  refine hp_if_lt E 16 dX9_has_1 (by decide) (fun c1 => ?_) (fun c1 => ?_)
  · replace hq := hq.1 c1
    refine hp_iconst E (nI 0) dX9_has_16 (by decide) ?_
    exact hp_zret E (by unfold hp_bz; decide) ⟨hq, rfl⟩ hZ dX9_has_17
  · replace hq := hq.2 c1
    refine hp_iload_n E 1 dX9_has_4 rfl rfl ?_
    refine hp_aload_n E 0 dX9_has_5 rfl rfl ?_
    refine hp_gI E g_RX9_36 fB_23_8 dX9_has_6 ?_
    refine hp_icmp_ge E 16 dX9_has_9 (by decide) (fun c2 => ?_) (fun c2 => ?_)
    · replace hq := hq.1 c2
      refine hp_iconst E (nI 0) dX9_has_16 (by decide) ?_
      exact hp_zret E (by unfold hp_bz; decide) ⟨hq, rfl⟩ hZ dX9_has_17
    · replace hq := hq.2 c2
      refine hp_iconst E (nI 1) dX9_has_12 (by decide) ?_
      refine hp_goto E 17 dX9_has_13 (by decide) ?_
      exact hp_zret E (by unfold hp_bz; decide) ⟨hq, rfl⟩ hZ dX9_has_17
theorem dX9_add_0 : decode cX9_add 0 = .ok (.aload_n 0, 1) := by decide +kernel
theorem dX9_add_1 : decode cX9_add 1 = .ok (.getfield 9, 3) := by decide +kernel
theorem dX9_add_4 : decode cX9_add 4 = .ok (.aload_n 0, 1) := by decide +kernel
theorem dX9_add_5 : decode cX9_add 5 = .ok (.getfield 36, 3) := by decide +kernel
theorem dX9_add_8 : decode cX9_add 8 = .ok (.iload_n 1, 1) := by decide +kernel
theorem dX9_add_9 : decode cX9_add 9 = .ok (.iastore, 1) := by decide +kernel
theorem dX9_add_10 : decode cX9_add 10 = .ok (.aload_n 0, 1) := by decide +kernel
theorem dX9_add_11 : decode cX9_add 11 = .ok (.getfield 15, 3) := by decide +kernel
theorem dX9_add_14 : decode cX9_add 14 = .ok (.aload_n 0, 1) := by decide +kernel
theorem dX9_add_15 : decode cX9_add 15 = .ok (.getfield 36, 3) := by decide +kernel
theorem dX9_add_18 : decode cX9_add 18 = .ok (.iload_n 2, 1) := by decide +kernel
theorem dX9_add_19 : decode cX9_add 19 = .ok (.iastore, 1) := by decide +kernel
theorem dX9_add_20 : decode cX9_add 20 = .ok (.aload_n 0, 1) := by decide +kernel
theorem dX9_add_21 : decode cX9_add 21 = .ok (.getfield 18, 3) := by decide +kernel
theorem dX9_add_24 : decode cX9_add 24 = .ok (.aload_n 0, 1) := by decide +kernel
theorem dX9_add_25 : decode cX9_add 25 = .ok (.getfield 36, 3) := by decide +kernel
theorem dX9_add_28 : decode cX9_add 28 = .ok (.iload_n 3, 1) := by decide +kernel
theorem dX9_add_29 : decode cX9_add 29 = .ok (.iastore, 1) := by decide +kernel
theorem dX9_add_30 : decode cX9_add 30 = .ok (.aload_n 0, 1) := by decide +kernel
theorem dX9_add_31 : decode cX9_add 31 = .ok (.getfield 21, 3) := by decide +kernel
theorem dX9_add_34 : decode cX9_add 34 = .ok (.aload_n 0, 1) := by decide +kernel
theorem dX9_add_35 : decode cX9_add 35 = .ok (.getfield 36, 3) := by decide +kernel
theorem dX9_add_38 : decode cX9_add 38 = .ok (.iload 4, 2) := by decide +kernel
theorem dX9_add_40 : decode cX9_add 40 = .ok (.iastore, 1) := by decide +kernel
theorem dX9_add_41 : decode cX9_add 41 = .ok (.aload_n 0, 1) := by decide +kernel
theorem dX9_add_42 : decode cX9_add 42 = .ok (.dup, 1) := by decide +kernel
theorem dX9_add_43 : decode cX9_add 43 = .ok (.getfield 36, 3) := by decide +kernel
theorem dX9_add_46 : decode cX9_add 46 = .ok (.dup_x1, 1) := by decide +kernel
theorem dX9_add_47 : decode cX9_add 47 = .ok (.iconst 1, 1) := by decide +kernel
theorem dX9_add_48 : decode cX9_add 48 = .ok (.iadd, 1) := by decide +kernel
theorem dX9_add_49 : decode cX9_add 49 = .ok (.putfield 36, 3) := by decide +kernel
theorem dX9_add_52 : decode cX9_add 52 = .ok (.ireturn, 1) := by decide +kernel
set_option maxHeartbeats 4000000 in
set_option maxRecDepth 100000 in
theorem c_X9_add (l : Launch) {cs : Nat → ClassId} {ad : Nat → Nat} {A : Nat → Prop} {D : va_G} (hJ : hp_J SB ad A)   {h : hp_H} {a1 a2 a3 a4 : Int32} {Q : Int32 → hp_H → Prop} (hq : q_X9_add h a1 a2 a3 a4 Q) : hp_Mi l yX9_add cX9_add 5 (some .int) rm_X9_add [.ref (ad 23), .int a1, .int a2, .int a3, .int a4] SB cs ad A D h Q := by
  refine hp_met (own := RX9) rfl (by decide) (Nat.le_of_ble_eq_true rfl) rfl (fun p e s m args below meth c Z E hZ hnm => ?_)
  refine hp_sub (lv' := [(0, .ref (ad 23)), (1, .int a1), (2, .int a2), (3, .int a3), (4, .int a4)]) [0, 1, 2, 3, 4] rfl ?_
  unfold q_X9_add at hq
  refine hp_aload_n E 0 dX9_add_0 rfl rfl ?_
  refine hp_gR E g_RX9_9 fB_23_0 dX9_add_1 ?_
  refine hp_aload_n E 0 dX9_add_4 rfl rfl ?_
  refine hp_gI E g_RX9_36 fB_23_8 dX9_add_5 ?_
  refine hp_iload_n E 1 dX9_add_8 rfl rfl ?_
  have hin := hq.1
  replace hq := hq.2
  refine hp_iast E 24 aB_24 zB_24 hJ hin dX9_add_9 ?_
  refine hp_toph (fun h1 eh1 => ?_)
  replace hq := hq h1 eh1
  refine hp_aload_n E 0 dX9_add_10 rfl rfl ?_
  refine hp_gR E g_RX9_15 fB_23_1 dX9_add_11 ?_
  refine hp_aload_n E 0 dX9_add_14 rfl rfl ?_
  refine hp_gI E g_RX9_36 fB_23_8 dX9_add_15 ?_
  refine hp_iload_n E 2 dX9_add_18 rfl rfl ?_
  have hin := hq.1
  replace hq := hq.2
  refine hp_iast E 25 aB_25 zB_25 hJ hin dX9_add_19 ?_
  refine hp_toph (fun h2 eh2 => ?_)
  replace hq := hq h2 eh2
  refine hp_aload_n E 0 dX9_add_20 rfl rfl ?_
  refine hp_gR E g_RX9_18 fB_23_2 dX9_add_21 ?_
  refine hp_aload_n E 0 dX9_add_24 rfl rfl ?_
  refine hp_gI E g_RX9_36 fB_23_8 dX9_add_25 ?_
  refine hp_iload_n E 3 dX9_add_28 rfl rfl ?_
  have hin := hq.1
  replace hq := hq.2
  refine hp_iast E 26 aB_26 zB_26 hJ hin dX9_add_29 ?_
  refine hp_toph (fun h3 eh3 => ?_)
  replace hq := hq h3 eh3
  refine hp_aload_n E 0 dX9_add_30 rfl rfl ?_
  refine hp_gR E g_RX9_21 fB_23_3 dX9_add_31 ?_
  refine hp_aload_n E 0 dX9_add_34 rfl rfl ?_
  refine hp_gI E g_RX9_36 fB_23_8 dX9_add_35 ?_
  refine hp_iload E 4 dX9_add_38 rfl ?_
  have hin := hq.1
  replace hq := hq.2
  refine hp_iast E 27 aB_27 zB_27 hJ hin dX9_add_40 ?_
  refine hp_toph (fun h4 eh4 => ?_)
  replace hq := hq h4 eh4
  refine hp_aload_n E 0 dX9_add_41 rfl rfl ?_
  refine hp_dup E rfl dX9_add_42 ?_
  refine hp_gI E g_RX9_36 fB_23_8 dX9_add_43 ?_
  refine hp_topi (fun v5 ev5 => ?_)
  replace hq := hq v5 ev5
  refine hp_dup_x1 E rfl rfl dX9_add_46 ?_
  refine hp_iconst E (nI 1) dX9_add_47 (by decide) ?_
  refine hp_iadd E dX9_add_48 ?_
  refine hp_pI E p_RX9_36 fB_23_8 (by decide) hJ dX9_add_49 ?_
  refine hp_toph (fun h6 eh6 => ?_)
  replace hq := hq h6 eh6
  exact hp_iret E hq hZ dX9_add_52
theorem dX9_hasLetterAct_0 : decode cX9_hasLetterAct 0 = .ok (.iload_n 2, 1) := by decide +kernel
theorem dX9_hasLetterAct_1 : decode cX9_hasLetterAct 1 = .ok (.iconst 2, 1) := by decide +kernel
theorem dX9_hasLetterAct_2 : decode cX9_hasLetterAct 2 = .ok (.if_icmp .eq 10, 3) := by decide +kernel
theorem dX9_hasLetterAct_5 : decode cX9_hasLetterAct 5 = .ok (.iload_n 2, 1) := by decide +kernel
theorem dX9_hasLetterAct_6 : decode cX9_hasLetterAct 6 = .ok (.iconst 3, 1) := by decide +kernel
theorem dX9_hasLetterAct_7 : decode cX9_hasLetterAct 7 = .ok (.if_icmp .eq 5, 3) := by decide +kernel
theorem dX9_hasLetterAct_10 : decode cX9_hasLetterAct 10 = .ok (.iconst 0, 1) := by decide +kernel
theorem dX9_hasLetterAct_11 : decode cX9_hasLetterAct 11 = .ok (.ireturn, 1) := by decide +kernel
theorem dX9_hasLetterAct_12 : decode cX9_hasLetterAct 12 = .ok (.iload_n 1, 1) := by decide +kernel
theorem dX9_hasLetterAct_13 : decode cX9_hasLetterAct 13 = .ok (.iconst 4, 1) := by decide +kernel
theorem dX9_hasLetterAct_14 : decode cX9_hasLetterAct 14 = .ok (.imul, 1) := by decide +kernel
theorem dX9_hasLetterAct_15 : decode cX9_hasLetterAct 15 = .ok (.istore 4, 2) := by decide +kernel
theorem dX9_hasLetterAct_17 : decode cX9_hasLetterAct 17 = .ok (.iload 4, 2) := by decide +kernel
theorem dX9_hasLetterAct_19 : decode cX9_hasLetterAct 19 = .ok (.iload_n 1, 1) := by decide +kernel
theorem dX9_hasLetterAct_20 : decode cX9_hasLetterAct 20 = .ok (.iconst 4, 1) := by decide +kernel
theorem dX9_hasLetterAct_21 : decode cX9_hasLetterAct 21 = .ok (.imul, 1) := by decide +kernel
theorem dX9_hasLetterAct_22 : decode cX9_hasLetterAct 22 = .ok (.aload_n 0, 1) := by decide +kernel
theorem dX9_hasLetterAct_23 : decode cX9_hasLetterAct 23 = .ok (.getfield 24, 3) := by decide +kernel
theorem dX9_hasLetterAct_26 : decode cX9_hasLetterAct 26 = .ok (.iload_n 1, 1) := by decide +kernel
theorem dX9_hasLetterAct_27 : decode cX9_hasLetterAct 27 = .ok (.iaload, 1) := by decide +kernel
theorem dX9_hasLetterAct_28 : decode cX9_hasLetterAct 28 = .ok (.iadd, 1) := by decide +kernel
theorem dX9_hasLetterAct_29 : decode cX9_hasLetterAct 29 = .ok (.if_icmp .ge 33, 3) := by decide +kernel
theorem dX9_hasLetterAct_32 : decode cX9_hasLetterAct 32 = .ok (.aload_n 0, 1) := by decide +kernel
theorem dX9_hasLetterAct_33 : decode cX9_hasLetterAct 33 = .ok (.getfield 27, 3) := by decide +kernel
theorem dX9_hasLetterAct_36 : decode cX9_hasLetterAct 36 = .ok (.iload 4, 2) := by decide +kernel
theorem dX9_hasLetterAct_38 : decode cX9_hasLetterAct 38 = .ok (.iaload, 1) := by decide +kernel
theorem dX9_hasLetterAct_39 : decode cX9_hasLetterAct 39 = .ok (.iload_n 2, 1) := by decide +kernel
theorem dX9_hasLetterAct_40 : decode cX9_hasLetterAct 40 = .ok (.if_icmp .ne 16, 3) := by decide +kernel
theorem dX9_hasLetterAct_43 : decode cX9_hasLetterAct 43 = .ok (.aload_n 0, 1) := by decide +kernel
theorem dX9_hasLetterAct_44 : decode cX9_hasLetterAct 44 = .ok (.getfield 30, 3) := by decide +kernel
theorem dX9_hasLetterAct_47 : decode cX9_hasLetterAct 47 = .ok (.iload 4, 2) := by decide +kernel
theorem dX9_hasLetterAct_49 : decode cX9_hasLetterAct 49 = .ok (.iaload, 1) := by decide +kernel
theorem dX9_hasLetterAct_50 : decode cX9_hasLetterAct 50 = .ok (.iload_n 3, 1) := by decide +kernel
theorem dX9_hasLetterAct_51 : decode cX9_hasLetterAct 51 = .ok (.if_icmp .ne 5, 3) := by decide +kernel
theorem dX9_hasLetterAct_54 : decode cX9_hasLetterAct 54 = .ok (.iconst 1, 1) := by decide +kernel
theorem dX9_hasLetterAct_55 : decode cX9_hasLetterAct 55 = .ok (.ireturn, 1) := by decide +kernel
theorem dX9_hasLetterAct_56 : decode cX9_hasLetterAct 56 = .ok (.iinc 4 1, 3) := by decide +kernel
theorem dX9_hasLetterAct_59 : decode cX9_hasLetterAct 59 = .ok (.goto (-42), 3) := by decide +kernel
theorem dX9_hasLetterAct_62 : decode cX9_hasLetterAct 62 = .ok (.iconst 0, 1) := by decide +kernel
theorem dX9_hasLetterAct_63 : decode cX9_hasLetterAct 63 = .ok (.ireturn, 1) := by decide +kernel
set_option maxHeartbeats 4000000 in
set_option maxRecDepth 100000 in
theorem c_X9_hasLetterAct (l : Launch) {cs : Nat → ClassId} {ad : Nat → Nat} {A : Nat → Prop} {D : va_G} (hJ : hp_J SB ad A)   {h : hp_H} {a1 a2 a3 : Int32} {Q : Int32 → Prop} (hq : q_X9_hasLetterAct h a1 a2 a3 Q) : hp_Mi l yX9_hasLetterAct cX9_hasLetterAct 5 (some .boolean) rm_X9_hasLetterAct [.ref (ad 23), .int a1, .int a2, .int a3] SB cs ad A D h (fun r h' => Q r ∧ h' = h) := by
  refine hp_met (own := RX9) rfl (by decide) (Nat.le_of_ble_eq_true rfl) rfl (fun p e s m args below meth c Z E hZ hnm => ?_)
  refine hp_sub (lv' := [(0, .ref (ad 23)), (1, .int a1), (2, .int a2), (3, .int a3)]) [0, 1, 2, 3] rfl ?_
  unfold q_X9_hasLetterAct at hq
  refine hp_iload_n E 2 dX9_hasLetterAct_0 rfl rfl ?_
  refine hp_iconst E (nI 2) dX9_hasLetterAct_1 (by decide) ?_
  obtain ⟨K2, hq, hK2⟩ := hq
  have jK2 : K2 → hp_G p l e rm_X9_hasLetterAct s m args below meth c SB cs ad A D 5 0 0 Z 12 [(0, .ref (ad 23)), (1, .int a1), (2, .int a2), (3, .int a3)] [] h := by
    intro  hq
    replace hq := hK2  hq
    refine hp_iload_n E 1 dX9_hasLetterAct_12 rfl rfl ?_
    refine hp_iconst E (nI 4) dX9_hasLetterAct_13 (by decide) ?_
    refine hp_imul E dX9_hasLetterAct_14 ?_
    refine hp_topi (fun v4 ev4 => ?_)
    replace hq := hq v4 ev4
    refine hp_istore (lv' := [(0, .ref (ad 23)), (1, .int a1), (2, .int a2), (3, .int a3), (4, .int v4)]) E dX9_hasLetterAct_15 (by decide) rfl rfl ?_
    refine hq (fun v6 => hp_G p l e rm_X9_hasLetterAct s m args below meth c SB cs ad A D 5 0 0 Z 17 [(0, .ref (ad 23)), (1, .int a1), (2, .int a2), (3, .int a3), (4, .int v6)] [] h) (fun v6 hB => ?_)
    obtain ⟨B5, hq, hB5⟩ := hB
    refine hp_iload E 4 dX9_hasLetterAct_17 rfl ?_
    refine hp_iload_n E 1 dX9_hasLetterAct_19 rfl rfl ?_
    refine hp_iconst E (nI 4) dX9_hasLetterAct_20 (by decide) ?_
    refine hp_imul E dX9_hasLetterAct_21 ?_
    refine hp_aload_n E 0 dX9_hasLetterAct_22 rfl rfl ?_
    refine hp_gR E g_RX9_24 fB_23_4 dX9_hasLetterAct_23 ?_
    refine hp_iload_n E 1 dX9_hasLetterAct_26 rfl rfl ?_
    refine hp_iald E 28 aB_28 hq.1 dX9_hasLetterAct_27 ?_
    replace hq := hq.2
    refine hp_iadd E dX9_hasLetterAct_28 ?_
    refine hp_icmp_ge E 62 dX9_hasLetterAct_29 (by decide) (fun c7 => ?_) (fun c7 => ?_)
    · replace hq := hq.1 c7
      refine hp_iconst E (nI 0) dX9_hasLetterAct_62 (by decide) ?_
      exact hp_zret E (by unfold hp_bz; decide) ⟨hq, rfl⟩ hZ dX9_hasLetterAct_63
    · replace hq := hq.2 c7
      refine hp_aload_n E 0 dX9_hasLetterAct_32 rfl rfl ?_
      refine hp_gR E g_RX9_27 fB_23_5 dX9_hasLetterAct_33 ?_
      refine hp_iload E 4 dX9_hasLetterAct_36 rfl ?_
      refine hp_iald E 29 aB_29 hq.1 dX9_hasLetterAct_38 ?_
      replace hq := hq.2
      refine hp_iload_n E 2 dX9_hasLetterAct_39 rfl rfl ?_
      obtain ⟨K9, hq, hK9⟩ := hq
      have jK9 : K9 → hp_G p l e rm_X9_hasLetterAct s m args below meth c SB cs ad A D 5 0 0 Z 56 [(0, .ref (ad 23)), (1, .int a1), (2, .int a2), (3, .int a3), (4, .int v6)] [] h := by
        intro  hq
        replace hq := hK9  hq
        obtain ⟨v11, ev11⟩ : ∃ z : Int32, z = v6 + (nI 1) := ⟨_, rfl⟩
        replace hq := hq v11 ev11
        refine hp_iinc (lv' := [(0, .ref (ad 23)), (1, .int a1), (2, .int a2), (3, .int a3), (4, .int v11)]) E 4 v11 dX9_hasLetterAct_56 rfl (by rw [ev11]; rfl) (by decide) rfl rfl ?_
        refine hp_goto E 17 dX9_hasLetterAct_59 (by decide) ?_
        exact hB5 _ hq
      refine hp_icmp_ne E 56 dX9_hasLetterAct_40 (by decide) (fun c8 => ?_) (fun c8 => ?_)
      · replace hq := hq.2 c8
        exact jK9  hq
      · replace hq := hq.1 c8
        refine hp_aload_n E 0 dX9_hasLetterAct_43 rfl rfl ?_
        refine hp_gR E g_RX9_30 fB_23_6 dX9_hasLetterAct_44 ?_
        refine hp_iload E 4 dX9_hasLetterAct_47 rfl ?_
        refine hp_iald E 30 aB_30 hq.1 dX9_hasLetterAct_49 ?_
        replace hq := hq.2
        refine hp_iload_n E 3 dX9_hasLetterAct_50 rfl rfl ?_
        refine hp_icmp_ne E 56 dX9_hasLetterAct_51 (by decide) (fun c10 => ?_) (fun c10 => ?_)
        · replace hq := hq.2 c10
          exact jK9  hq
        · replace hq := hq.1 c10
          refine hp_iconst E (nI 1) dX9_hasLetterAct_54 (by decide) ?_
          exact hp_zret E (by unfold hp_bz; decide) ⟨hq, rfl⟩ hZ dX9_hasLetterAct_55
  refine hp_icmp_eq E 12 dX9_hasLetterAct_2 (by decide) (fun c1 => ?_) (fun c1 => ?_)
  · replace hq := hq.1 c1
    exact jK2  hq
  · replace hq := hq.2 c1
    refine hp_iload_n E 2 dX9_hasLetterAct_5 rfl rfl ?_
    refine hp_iconst E (nI 3) dX9_hasLetterAct_6 (by decide) ?_
    refine hp_icmp_eq E 12 dX9_hasLetterAct_7 (by decide) (fun c3 => ?_) (fun c3 => ?_)
    · replace hq := hq.1 c3
      exact jK2  hq
    · replace hq := hq.2 c3
      refine hp_iconst E (nI 0) dX9_hasLetterAct_10 (by decide) ?_
      exact hp_zret E (by unfold hp_bz; decide) ⟨hq, rfl⟩ hZ dX9_hasLetterAct_11
theorem dX9_addAct_0 : decode cX9_addAct 0 = .ok (.iload_n 1, 1) := by decide +kernel
theorem dX9_addAct_1 : decode cX9_addAct 1 = .ok (.iconst 4, 1) := by decide +kernel
theorem dX9_addAct_2 : decode cX9_addAct 2 = .ok (.imul, 1) := by decide +kernel
theorem dX9_addAct_3 : decode cX9_addAct 3 = .ok (.aload_n 0, 1) := by decide +kernel
theorem dX9_addAct_4 : decode cX9_addAct 4 = .ok (.getfield 24, 3) := by decide +kernel
theorem dX9_addAct_7 : decode cX9_addAct 7 = .ok (.iload_n 1, 1) := by decide +kernel
theorem dX9_addAct_8 : decode cX9_addAct 8 = .ok (.iaload, 1) := by decide +kernel
theorem dX9_addAct_9 : decode cX9_addAct 9 = .ok (.iadd, 1) := by decide +kernel
theorem dX9_addAct_10 : decode cX9_addAct 10 = .ok (.istore 5, 2) := by decide +kernel
theorem dX9_addAct_12 : decode cX9_addAct 12 = .ok (.aload_n 0, 1) := by decide +kernel
theorem dX9_addAct_13 : decode cX9_addAct 13 = .ok (.getfield 27, 3) := by decide +kernel
theorem dX9_addAct_16 : decode cX9_addAct 16 = .ok (.iload 5, 2) := by decide +kernel
theorem dX9_addAct_18 : decode cX9_addAct 18 = .ok (.iload_n 2, 1) := by decide +kernel
theorem dX9_addAct_19 : decode cX9_addAct 19 = .ok (.iastore, 1) := by decide +kernel
theorem dX9_addAct_20 : decode cX9_addAct 20 = .ok (.aload_n 0, 1) := by decide +kernel
theorem dX9_addAct_21 : decode cX9_addAct 21 = .ok (.getfield 30, 3) := by decide +kernel
theorem dX9_addAct_24 : decode cX9_addAct 24 = .ok (.iload 5, 2) := by decide +kernel
theorem dX9_addAct_26 : decode cX9_addAct 26 = .ok (.iload_n 3, 1) := by decide +kernel
theorem dX9_addAct_27 : decode cX9_addAct 27 = .ok (.iastore, 1) := by decide +kernel
theorem dX9_addAct_28 : decode cX9_addAct 28 = .ok (.aload_n 0, 1) := by decide +kernel
theorem dX9_addAct_29 : decode cX9_addAct 29 = .ok (.getfield 33, 3) := by decide +kernel
theorem dX9_addAct_32 : decode cX9_addAct 32 = .ok (.iload 5, 2) := by decide +kernel
theorem dX9_addAct_34 : decode cX9_addAct 34 = .ok (.iload 4, 2) := by decide +kernel
theorem dX9_addAct_36 : decode cX9_addAct 36 = .ok (.iastore, 1) := by decide +kernel
theorem dX9_addAct_37 : decode cX9_addAct 37 = .ok (.aload_n 0, 1) := by decide +kernel
theorem dX9_addAct_38 : decode cX9_addAct 38 = .ok (.getfield 24, 3) := by decide +kernel
theorem dX9_addAct_41 : decode cX9_addAct 41 = .ok (.iload_n 1, 1) := by decide +kernel
theorem dX9_addAct_42 : decode cX9_addAct 42 = .ok (.dup2, 1) := by decide +kernel
theorem dX9_addAct_43 : decode cX9_addAct 43 = .ok (.iaload, 1) := by decide +kernel
theorem dX9_addAct_44 : decode cX9_addAct 44 = .ok (.iconst 1, 1) := by decide +kernel
theorem dX9_addAct_45 : decode cX9_addAct 45 = .ok (.iadd, 1) := by decide +kernel
theorem dX9_addAct_46 : decode cX9_addAct 46 = .ok (.iastore, 1) := by decide +kernel
theorem dX9_addAct_47 : decode cX9_addAct 47 = .ok (.aload_n 0, 1) := by decide +kernel
theorem dX9_addAct_48 : decode cX9_addAct 48 = .ok (.getfield 24, 3) := by decide +kernel
theorem dX9_addAct_51 : decode cX9_addAct 51 = .ok (.iload_n 1, 1) := by decide +kernel
theorem dX9_addAct_52 : decode cX9_addAct 52 = .ok (.iaload, 1) := by decide +kernel
theorem dX9_addAct_53 : decode cX9_addAct 53 = .ok (.ireturn, 1) := by decide +kernel
set_option maxHeartbeats 4000000 in
set_option maxRecDepth 100000 in
theorem c_X9_addAct (l : Launch) {cs : Nat → ClassId} {ad : Nat → Nat} {A : Nat → Prop} {D : va_G} (hJ : hp_J SB ad A)   {h : hp_H} {a1 a2 a3 a4 : Int32} {Q : Int32 → hp_H → Prop} (hq : q_X9_addAct h a1 a2 a3 a4 Q) : hp_Mi l yX9_addAct cX9_addAct 6 (some .int) rm_X9_addAct [.ref (ad 23), .int a1, .int a2, .int a3, .int a4] SB cs ad A D h Q := by
  refine hp_met (own := RX9) rfl (by decide) (Nat.le_of_ble_eq_true rfl) rfl (fun p e s m args below meth c Z E hZ hnm => ?_)
  refine hp_sub (lv' := [(0, .ref (ad 23)), (1, .int a1), (2, .int a2), (3, .int a3), (4, .int a4)]) [0, 1, 2, 3, 4] rfl ?_
  unfold q_X9_addAct at hq
  refine hp_iload_n E 1 dX9_addAct_0 rfl rfl ?_
  refine hp_iconst E (nI 4) dX9_addAct_1 (by decide) ?_
  refine hp_imul E dX9_addAct_2 ?_
  refine hp_aload_n E 0 dX9_addAct_3 rfl rfl ?_
  refine hp_gR E g_RX9_24 fB_23_4 dX9_addAct_4 ?_
  refine hp_iload_n E 1 dX9_addAct_7 rfl rfl ?_
  refine hp_iald E 28 aB_28 hq.1 dX9_addAct_8 ?_
  replace hq := hq.2
  refine hp_iadd E dX9_addAct_9 ?_
  refine hp_topi (fun v1 ev1 => ?_)
  replace hq := hq v1 ev1
  refine hp_istore (lv' := [(0, .ref (ad 23)), (1, .int a1), (2, .int a2), (3, .int a3), (4, .int a4), (5, .int v1)]) E dX9_addAct_10 (by decide) rfl rfl ?_
  refine hp_aload_n E 0 dX9_addAct_12 rfl rfl ?_
  refine hp_gR E g_RX9_27 fB_23_5 dX9_addAct_13 ?_
  refine hp_iload E 5 dX9_addAct_16 rfl ?_
  refine hp_iload_n E 2 dX9_addAct_18 rfl rfl ?_
  have hin := hq.1
  replace hq := hq.2
  refine hp_iast E 29 aB_29 zB_29 hJ hin dX9_addAct_19 ?_
  refine hp_toph (fun h2 eh2 => ?_)
  replace hq := hq h2 eh2
  refine hp_aload_n E 0 dX9_addAct_20 rfl rfl ?_
  refine hp_gR E g_RX9_30 fB_23_6 dX9_addAct_21 ?_
  refine hp_iload E 5 dX9_addAct_24 rfl ?_
  refine hp_iload_n E 3 dX9_addAct_26 rfl rfl ?_
  have hin := hq.1
  replace hq := hq.2
  refine hp_iast E 30 aB_30 zB_30 hJ hin dX9_addAct_27 ?_
  refine hp_toph (fun h3 eh3 => ?_)
  replace hq := hq h3 eh3
  refine hp_aload_n E 0 dX9_addAct_28 rfl rfl ?_
  refine hp_gR E g_RX9_33 fB_23_7 dX9_addAct_29 ?_
  refine hp_iload E 5 dX9_addAct_32 rfl ?_
  refine hp_iload E 4 dX9_addAct_34 rfl ?_
  have hin := hq.1
  replace hq := hq.2
  refine hp_iast E 31 aB_31 zB_31 hJ hin dX9_addAct_36 ?_
  refine hp_toph (fun h4 eh4 => ?_)
  replace hq := hq h4 eh4
  refine hp_aload_n E 0 dX9_addAct_37 rfl rfl ?_
  refine hp_gR E g_RX9_24 fB_23_4 dX9_addAct_38 ?_
  refine hp_iload_n E 1 dX9_addAct_41 rfl rfl ?_
  refine hp_dup2 E rfl rfl dX9_addAct_42 ?_
  refine hp_iald E 28 aB_28 hq.1 dX9_addAct_43 ?_
  replace hq := hq.2
  refine hp_iconst E (nI 1) dX9_addAct_44 (by decide) ?_
  refine hp_iadd E dX9_addAct_45 ?_
  have hin := hq.1
  replace hq := hq.2
  refine hp_iast E 28 aB_28 zB_28 hJ hin dX9_addAct_46 ?_
  refine hp_toph (fun h5 eh5 => ?_)
  replace hq := hq h5 eh5
  refine hp_aload_n E 0 dX9_addAct_47 rfl rfl ?_
  refine hp_gR E g_RX9_24 fB_23_4 dX9_addAct_48 ?_
  refine hp_iload_n E 1 dX9_addAct_51 rfl rfl ?_
  refine hp_iald E 28 aB_28 hq.1 dX9_addAct_52 ?_
  replace hq := hq.2
  exact hp_iret E hq hZ dX9_addAct_53
theorem dX10_fits_0 : decode cX10_fits 0 = .ok (.iload_n 0, 1) := by decide +kernel
theorem dX10_fits_1 : decode cX10_fits 1 = .ok (.ifCond .lt 23, 3) := by decide +kernel
theorem dX10_fits_4 : decode cX10_fits 4 = .ok (.iload_n 1, 1) := by decide +kernel
theorem dX10_fits_5 : decode cX10_fits 5 = .ok (.bipush 9, 2) := by decide +kernel
theorem dX10_fits_7 : decode cX10_fits 7 = .ok (.if_icmp .gt 17, 3) := by decide +kernel
theorem dX10_fits_10 : decode cX10_fits 10 = .ok (.iload_n 0, 1) := by decide +kernel
theorem dX10_fits_11 : decode cX10_fits 11 = .ok (.iload_n 2, 1) := by decide +kernel
theorem dX10_fits_12 : decode cX10_fits 12 = .ok (.if_icmp .gt 12, 3) := by decide +kernel
theorem dX10_fits_15 : decode cX10_fits 15 = .ok (.iload_n 2, 1) := by decide +kernel
theorem dX10_fits_16 : decode cX10_fits 16 = .ok (.iload_n 1, 1) := by decide +kernel
theorem dX10_fits_17 : decode cX10_fits 17 = .ok (.if_icmp .gt 7, 3) := by decide +kernel
theorem dX10_fits_20 : decode cX10_fits 20 = .ok (.iconst 1, 1) := by decide +kernel
theorem dX10_fits_21 : decode cX10_fits 21 = .ok (.goto 4, 3) := by decide +kernel
theorem dX10_fits_24 : decode cX10_fits 24 = .ok (.iconst 0, 1) := by decide +kernel
theorem dX10_fits_25 : decode cX10_fits 25 = .ok (.ireturn, 1) := by decide +kernel
set_option maxHeartbeats 4000000 in
set_option maxRecDepth 100000 in
theorem c_X10_fits (l : Launch) {cs : Nat → ClassId} {ad : Nat → Nat} {A : Nat → Prop} {D : va_G} (hJ : hp_J SB ad A)   {h : hp_H} {a0 a1 a2 : Int32} {Q : Int32 → Prop} (hq : q_X10_fits a0 a1 a2 Q) : hp_Mi l yX10_fits cX10_fits 3 (some .boolean) rm_X10_fits [.int a0, .int a1, .int a2] SB cs ad A D h (fun r h' => Q r ∧ h' = h) := by
  refine hp_met (own := RX10) rfl (by decide) (Nat.le_of_ble_eq_true rfl) rfl (fun p e s m args below meth c Z E hZ hnm => ?_)
  refine hp_sub (lv' := [(0, .int a0), (1, .int a1), (2, .int a2)]) [0, 1, 2] rfl ?_
  unfold q_X10_fits at hq
  refine hp_iload_n E 0 dX10_fits_0 rfl rfl ?_
  refine hp_if_lt E 24 dX10_fits_1 (by decide) (fun c1 => ?_) (fun c1 => ?_)
  · replace hq := hq.1 c1
    refine hp_iconst E (nI 0) dX10_fits_24 (by decide) ?_
    exact hp_zret E (by unfold hp_bz; decide) ⟨hq, rfl⟩ hZ dX10_fits_25
  · replace hq := hq.2 c1
    refine hp_iload_n E 1 dX10_fits_4 rfl rfl ?_
    refine hp_bipush E (nI 9) dX10_fits_5 (by decide) ?_
    refine hp_icmp_gt E 24 dX10_fits_7 (by decide) (fun c2 => ?_) (fun c2 => ?_)
    · replace hq := hq.1 c2
      refine hp_iconst E (nI 0) dX10_fits_24 (by decide) ?_
      exact hp_zret E (by unfold hp_bz; decide) ⟨hq, rfl⟩ hZ dX10_fits_25
    · replace hq := hq.2 c2
      refine hp_iload_n E 0 dX10_fits_10 rfl rfl ?_
      refine hp_iload_n E 2 dX10_fits_11 rfl rfl ?_
      refine hp_icmp_gt E 24 dX10_fits_12 (by decide) (fun c3 => ?_) (fun c3 => ?_)
      · replace hq := hq.1 c3
        refine hp_iconst E (nI 0) dX10_fits_24 (by decide) ?_
        exact hp_zret E (by unfold hp_bz; decide) ⟨hq, rfl⟩ hZ dX10_fits_25
      · replace hq := hq.2 c3
        refine hp_iload_n E 2 dX10_fits_15 rfl rfl ?_
        refine hp_iload_n E 1 dX10_fits_16 rfl rfl ?_
        refine hp_icmp_gt E 24 dX10_fits_17 (by decide) (fun c4 => ?_) (fun c4 => ?_)
        · replace hq := hq.1 c4
          refine hp_iconst E (nI 0) dX10_fits_24 (by decide) ?_
          exact hp_zret E (by unfold hp_bz; decide) ⟨hq, rfl⟩ hZ dX10_fits_25
        · replace hq := hq.2 c4
          refine hp_iconst E (nI 1) dX10_fits_20 (by decide) ?_
          refine hp_goto E 25 dX10_fits_21 (by decide) ?_
          exact hp_zret E (by unfold hp_bz; decide) ⟨hq, rfl⟩ hZ dX10_fits_25
theorem dX10_isFull_0 : decode cX10_isFull 0 = .ok (.aload_n 0, 1) := by decide +kernel
theorem dX10_isFull_1 : decode cX10_isFull 1 = .ok (.getfield 15, 3) := by decide +kernel
theorem dX10_isFull_4 : decode cX10_isFull 4 = .ok (.iload_n 1, 1) := by decide +kernel
theorem dX10_isFull_5 : decode cX10_isFull 5 = .ok (.iaload, 1) := by decide +kernel
theorem dX10_isFull_6 : decode cX10_isFull 6 = .ok (.aload_n 0, 1) := by decide +kernel
theorem dX10_isFull_7 : decode cX10_isFull 7 = .ok (.getfield 9, 3) := by decide +kernel
theorem dX10_isFull_10 : decode cX10_isFull 10 = .ok (.if_icmp .ne 7, 3) := by decide +kernel
theorem dX10_isFull_13 : decode cX10_isFull 13 = .ok (.iconst 1, 1) := by decide +kernel
theorem dX10_isFull_14 : decode cX10_isFull 14 = .ok (.goto 4, 3) := by decide +kernel
theorem dX10_isFull_17 : decode cX10_isFull 17 = .ok (.iconst 0, 1) := by decide +kernel
theorem dX10_isFull_18 : decode cX10_isFull 18 = .ok (.ireturn, 1) := by decide +kernel
set_option maxHeartbeats 4000000 in
set_option maxRecDepth 100000 in
theorem c_X10_isFull (l : Launch) {cs : Nat → ClassId} {ad : Nat → Nat} {A : Nat → Prop} {D : va_G} (hJ : hp_J SB ad A) {vk : Nat} {vt : Nat} {vl : Nat} {vh : Nat} {vf : Nat} {vn : Nat} {vm : Nat} (hv0 : hp_sh SB vk 10 0 (1, vt, 0)) (hv1 : hp_sh SB vk 10 1 (0, 0, 0)) (hv2 : hp_sh SB vk 10 2 (1, vl, 0)) (hv3 : hp_sh SB vk 10 3 (1, vh, 0)) (hv4 : hp_sh SB vk 10 4 (1, vf, 0)) (hvt : SB[vt]? = some (.inr (0, vn))) (hvl : SB[vl]? = some (.inr (0, vm))) (hvh : SB[vh]? = some (.inr (0, vm))) (hvf : SB[vf]? = some (.inr (0, vm))) (hzt : vt ≠ hp_V) (hzl : vl ≠ hp_V) (hzh : vh ≠ hp_V) (hzf : vf ≠ hp_V) {h : hp_H} {a1 : Int32} {Q : Int32 → Prop} (hq : q_X10_isFull vk vt vl vh vf vn vm h a1 Q) : hp_Mi l yX10_isFull cX10_isFull 2 (some .boolean) rm_X10_isFull [.ref (ad vk), .int a1] SB cs ad A D h (fun r h' => Q r ∧ h' = h) := by
  refine hp_met (own := RX10) rfl (by decide) (Nat.le_of_ble_eq_true rfl) rfl (fun p e s m args below meth c Z E hZ hnm => ?_)
  refine hp_sub (lv' := [(0, .ref (ad vk)), (1, .int a1)]) [0, 1] rfl ?_
  unfold q_X10_isFull at hq
  refine hp_aload_n E 0 dX10_isFull_0 rfl rfl ?_
  refine hp_gR E g_RX10_15 hv0 dX10_isFull_1 ?_
  refine hp_iload_n E 1 dX10_isFull_4 rfl rfl ?_
  refine hp_iald E vt hvt hq.1 dX10_isFull_5 ?_
  replace hq := hq.2
  refine hp_aload_n E 0 dX10_isFull_6 rfl rfl ?_
  refine hp_gI E g_RX10_9 hv1 dX10_isFull_7 ?_
  refine hp_icmp_ne E 17 dX10_isFull_10 (by decide) (fun c1 => ?_) (fun c1 => ?_)
  · replace hq := hq.2 c1
    refine hp_iconst E (nI 0) dX10_isFull_17 (by decide) ?_
    exact hp_zret E (by unfold hp_bz; decide) ⟨hq, rfl⟩ hZ dX10_isFull_18
  · replace hq := hq.1 c1
    refine hp_iconst E (nI 1) dX10_isFull_13 (by decide) ?_
    refine hp_goto E 18 dX10_isFull_14 (by decide) ?_
    exact hp_zret E (by unfold hp_bz; decide) ⟨hq, rfl⟩ hZ dX10_isFull_18
theorem dX10_add_0 : decode cX10_add 0 = .ok (.aload_n 0, 1) := by decide +kernel
theorem dX10_add_1 : decode cX10_add 1 = .ok (.getfield 15, 3) := by decide +kernel
theorem dX10_add_4 : decode cX10_add 4 = .ok (.iload_n 1, 1) := by decide +kernel
theorem dX10_add_5 : decode cX10_add 5 = .ok (.dup2, 1) := by decide +kernel
theorem dX10_add_6 : decode cX10_add 6 = .ok (.iaload, 1) := by decide +kernel
theorem dX10_add_7 : decode cX10_add 7 = .ok (.dup_x2, 1) := by decide +kernel
theorem dX10_add_8 : decode cX10_add 8 = .ok (.iconst 1, 1) := by decide +kernel
theorem dX10_add_9 : decode cX10_add 9 = .ok (.iadd, 1) := by decide +kernel
theorem dX10_add_10 : decode cX10_add 10 = .ok (.iastore, 1) := by decide +kernel
theorem dX10_add_11 : decode cX10_add 11 = .ok (.istore 5, 2) := by decide +kernel
theorem dX10_add_13 : decode cX10_add 13 = .ok (.aload_n 0, 1) := by decide +kernel
theorem dX10_add_14 : decode cX10_add 14 = .ok (.getfield 19, 3) := by decide +kernel
theorem dX10_add_17 : decode cX10_add 17 = .ok (.iload_n 1, 1) := by decide +kernel
theorem dX10_add_18 : decode cX10_add 18 = .ok (.aload_n 0, 1) := by decide +kernel
theorem dX10_add_19 : decode cX10_add 19 = .ok (.getfield 9, 3) := by decide +kernel
theorem dX10_add_22 : decode cX10_add 22 = .ok (.imul, 1) := by decide +kernel
theorem dX10_add_23 : decode cX10_add 23 = .ok (.iload 5, 2) := by decide +kernel
theorem dX10_add_25 : decode cX10_add 25 = .ok (.iadd, 1) := by decide +kernel
theorem dX10_add_26 : decode cX10_add 26 = .ok (.iload_n 2, 1) := by decide +kernel
theorem dX10_add_27 : decode cX10_add 27 = .ok (.iastore, 1) := by decide +kernel
theorem dX10_add_28 : decode cX10_add 28 = .ok (.aload_n 0, 1) := by decide +kernel
theorem dX10_add_29 : decode cX10_add 29 = .ok (.getfield 22, 3) := by decide +kernel
theorem dX10_add_32 : decode cX10_add 32 = .ok (.iload_n 1, 1) := by decide +kernel
theorem dX10_add_33 : decode cX10_add 33 = .ok (.aload_n 0, 1) := by decide +kernel
theorem dX10_add_34 : decode cX10_add 34 = .ok (.getfield 9, 3) := by decide +kernel
theorem dX10_add_37 : decode cX10_add 37 = .ok (.imul, 1) := by decide +kernel
theorem dX10_add_38 : decode cX10_add 38 = .ok (.iload 5, 2) := by decide +kernel
theorem dX10_add_40 : decode cX10_add 40 = .ok (.iadd, 1) := by decide +kernel
theorem dX10_add_41 : decode cX10_add 41 = .ok (.iload_n 3, 1) := by decide +kernel
theorem dX10_add_42 : decode cX10_add 42 = .ok (.iastore, 1) := by decide +kernel
theorem dX10_add_43 : decode cX10_add 43 = .ok (.aload_n 0, 1) := by decide +kernel
theorem dX10_add_44 : decode cX10_add 44 = .ok (.getfield 25, 3) := by decide +kernel
theorem dX10_add_47 : decode cX10_add 47 = .ok (.iload_n 1, 1) := by decide +kernel
theorem dX10_add_48 : decode cX10_add 48 = .ok (.aload_n 0, 1) := by decide +kernel
theorem dX10_add_49 : decode cX10_add 49 = .ok (.getfield 9, 3) := by decide +kernel
theorem dX10_add_52 : decode cX10_add 52 = .ok (.imul, 1) := by decide +kernel
theorem dX10_add_53 : decode cX10_add 53 = .ok (.iload 5, 2) := by decide +kernel
theorem dX10_add_55 : decode cX10_add 55 = .ok (.iadd, 1) := by decide +kernel
theorem dX10_add_56 : decode cX10_add 56 = .ok (.iload 4, 2) := by decide +kernel
theorem dX10_add_58 : decode cX10_add 58 = .ok (.iastore, 1) := by decide +kernel
theorem dX10_add_59 : decode cX10_add 59 = .ok (.iload 5, 2) := by decide +kernel
theorem dX10_add_61 : decode cX10_add 61 = .ok (.ireturn, 1) := by decide +kernel
set_option maxHeartbeats 4000000 in
set_option maxRecDepth 100000 in
theorem c_X10_add (l : Launch) {cs : Nat → ClassId} {ad : Nat → Nat} {A : Nat → Prop} {D : va_G} (hJ : hp_J SB ad A) {vk : Nat} {vt : Nat} {vl : Nat} {vh : Nat} {vf : Nat} {vn : Nat} {vm : Nat} (hv0 : hp_sh SB vk 10 0 (1, vt, 0)) (hv1 : hp_sh SB vk 10 1 (0, 0, 0)) (hv2 : hp_sh SB vk 10 2 (1, vl, 0)) (hv3 : hp_sh SB vk 10 3 (1, vh, 0)) (hv4 : hp_sh SB vk 10 4 (1, vf, 0)) (hvt : SB[vt]? = some (.inr (0, vn))) (hvl : SB[vl]? = some (.inr (0, vm))) (hvh : SB[vh]? = some (.inr (0, vm))) (hvf : SB[vf]? = some (.inr (0, vm))) (hzt : vt ≠ hp_V) (hzl : vl ≠ hp_V) (hzh : vh ≠ hp_V) (hzf : vf ≠ hp_V) {h : hp_H} {a1 a2 a3 a4 : Int32} {Q : Int32 → hp_H → Prop} (hq : q_X10_add vk vt vl vh vf vn vm h a1 a2 a3 a4 Q) : hp_Mi l yX10_add cX10_add 6 (some .int) rm_X10_add [.ref (ad vk), .int a1, .int a2, .int a3, .int a4] SB cs ad A D h Q := by
  refine hp_met (own := RX10) rfl (by decide) (Nat.le_of_ble_eq_true rfl) rfl (fun p e s m args below meth c Z E hZ hnm => ?_)
  refine hp_sub (lv' := [(0, .ref (ad vk)), (1, .int a1), (2, .int a2), (3, .int a3), (4, .int a4)]) [0, 1, 2, 3, 4] rfl ?_
  unfold q_X10_add at hq
  refine hp_aload_n E 0 dX10_add_0 rfl rfl ?_
  refine hp_gR E g_RX10_15 hv0 dX10_add_1 ?_
  refine hp_iload_n E 1 dX10_add_4 rfl rfl ?_
  refine hp_dup2 E rfl rfl dX10_add_5 ?_
  refine hp_iald E vt hvt hq.1 dX10_add_6 ?_
  replace hq := hq.2
  refine hp_topi (fun v1 ev1 => ?_)
  replace hq := hq v1 ev1
  refine hp_dup_x2 E rfl rfl rfl dX10_add_7 ?_
  refine hp_iconst E (nI 1) dX10_add_8 (by decide) ?_
  refine hp_iadd E dX10_add_9 ?_
  have hin := hq.1
  replace hq := hq.2
  refine hp_iast E vt hvt hzt hJ hin dX10_add_10 ?_
  refine hp_toph (fun h2 eh2 => ?_)
  replace hq := hq h2 eh2
  refine hp_istore (lv' := [(0, .ref (ad vk)), (1, .int a1), (2, .int a2), (3, .int a3), (4, .int a4), (5, .int v1)]) E dX10_add_11 (by decide) rfl rfl ?_
  refine hp_aload_n E 0 dX10_add_13 rfl rfl ?_
  refine hp_gR E g_RX10_19 hv2 dX10_add_14 ?_
  refine hp_iload_n E 1 dX10_add_17 rfl rfl ?_
  refine hp_aload_n E 0 dX10_add_18 rfl rfl ?_
  refine hp_gI E g_RX10_9 hv1 dX10_add_19 ?_
  refine hp_imul E dX10_add_22 ?_
  refine hp_iload E 5 dX10_add_23 rfl ?_
  refine hp_iadd E dX10_add_25 ?_
  refine hp_iload_n E 2 dX10_add_26 rfl rfl ?_
  have hin := hq.1
  replace hq := hq.2
  refine hp_iast E vl hvl hzl hJ hin dX10_add_27 ?_
  refine hp_toph (fun h3 eh3 => ?_)
  replace hq := hq h3 eh3
  refine hp_aload_n E 0 dX10_add_28 rfl rfl ?_
  refine hp_gR E g_RX10_22 hv3 dX10_add_29 ?_
  refine hp_iload_n E 1 dX10_add_32 rfl rfl ?_
  refine hp_aload_n E 0 dX10_add_33 rfl rfl ?_
  refine hp_gI E g_RX10_9 hv1 dX10_add_34 ?_
  refine hp_imul E dX10_add_37 ?_
  refine hp_iload E 5 dX10_add_38 rfl ?_
  refine hp_iadd E dX10_add_40 ?_
  refine hp_iload_n E 3 dX10_add_41 rfl rfl ?_
  have hin := hq.1
  replace hq := hq.2
  refine hp_iast E vh hvh hzh hJ hin dX10_add_42 ?_
  refine hp_toph (fun h4 eh4 => ?_)
  replace hq := hq h4 eh4
  refine hp_aload_n E 0 dX10_add_43 rfl rfl ?_
  refine hp_gR E g_RX10_25 hv4 dX10_add_44 ?_
  refine hp_iload_n E 1 dX10_add_47 rfl rfl ?_
  refine hp_aload_n E 0 dX10_add_48 rfl rfl ?_
  refine hp_gI E g_RX10_9 hv1 dX10_add_49 ?_
  refine hp_imul E dX10_add_52 ?_
  refine hp_iload E 5 dX10_add_53 rfl ?_
  refine hp_iadd E dX10_add_55 ?_
  refine hp_iload E 4 dX10_add_56 rfl ?_
  have hin := hq.1
  replace hq := hq.2
  refine hp_iast E vf hvf hzf hJ hin dX10_add_58 ?_
  refine hp_toph (fun h5 eh5 => ?_)
  replace hq := hq h5 eh5
  refine hp_iload E 5 dX10_add_59 rfl ?_
  exact hp_iret E hq hZ dX10_add_61
theorem dX11_endSearch_0 : decode cX11_endSearch 0 = .ok (.aload_n 0, 1) := by decide +kernel
theorem dX11_endSearch_1 : decode cX11_endSearch 1 = .ok (.getfield 19, 3) := by decide +kernel
theorem dX11_endSearch_4 : decode cX11_endSearch 4 = .ok (.invokevirtual 300, 3) := by decide +kernel
theorem dX11_endSearch_7 : decode cX11_endSearch 7 = .ok (.aload_n 0, 1) := by decide +kernel
theorem dX11_endSearch_8 : decode cX11_endSearch 8 = .ok (.getfield 53, 3) := by decide +kernel
theorem dX11_endSearch_11 : decode cX11_endSearch 11 = .ok (.invokevirtual 303, 3) := by decide +kernel
theorem dX11_endSearch_14 : decode cX11_endSearch 14 = .ok (.return_, 1) := by decide +kernel
set_option maxHeartbeats 4000000 in
set_option maxRecDepth 100000 in
theorem c_X11_endSearch (l : Launch) {cs : Nat → ClassId} {ad : Nat → Nat} {A : Nat → Prop} {D : va_G} (hJ : hp_J SB ad A)   {h : hp_H} {Q : hp_H → Prop} (hq : q_X11_endSearch h Q) : hp_Mv l yX11_endSearch cX11_endSearch 1 none rm_X11_endSearch [.ref (ad 0)] SB cs ad A D h Q := by
  refine hp_met (own := RX11) rfl (by decide) (Nat.le_of_ble_eq_true rfl) rfl (fun p e s m args below meth c Z E hZ hnm => ?_)
  refine hp_sub (lv' := [(0, .ref (ad 0))]) [0] rfl ?_
  unfold q_X11_endSearch at hq
  refine hp_aload_n E 0 dX11_endSearch_0 rfl rfl ?_
  refine hp_gR E g_RX11_19 fB_0_1 dX11_endSearch_1 ?_
  refine hp_callVv' (rest := []) E 35 fB_35_0 vcl_2 (c_X2_clear l hJ hq) F_X2_clear m_RX11_300 ⟨rfl, rfl⟩ ⟨Nat.le_of_ble_eq_true rfl, Nat.le_of_ble_eq_true rfl⟩ ⟨Nat.zero_le _, Nat.zero_le _⟩ rfl rfl (Nat.le_of_ble_eq_true rfl) dX11_endSearch_4 (fun h1 hq => ?_)
  refine hp_aload_n E 0 dX11_endSearch_7 rfl rfl ?_
  refine hp_gR E g_RX11_53 fB_0_5 dX11_endSearch_8 ?_
  refine hp_callVv' (rest := []) E 64 fB_64_0 vcl_0 (c_X0_forget l hJ hq) F_X0_forget m_RX11_303 ⟨rfl, rfl⟩ ⟨Nat.le_of_ble_eq_true rfl, Nat.le_of_ble_eq_true rfl⟩ ⟨Nat.zero_le _, Nat.zero_le _⟩ rfl rfl (Nat.le_of_ble_eq_true rfl) dX11_endSearch_11 (fun h2 hq => ?_)
  exact hp_vret E hq hZ dX11_endSearch_14
theorem dX11_shared_0 : decode cX11_shared 0 = .ok (.iload_n 1, 1) := by decide +kernel
theorem dX11_shared_1 : decode cX11_shared 1 = .ok (.iload_n 2, 1) := by decide +kernel
theorem dX11_shared_2 : decode cX11_shared 2 = .ok (.iload_n 3, 1) := by decide +kernel
theorem dX11_shared_3 : decode cX11_shared 3 = .ok (.invokestatic 57, 3) := by decide +kernel
theorem dX11_shared_6 : decode cX11_shared 6 = .ok (.ifCond .ne 6, 3) := by decide +kernel
theorem dX11_shared_9 : decode cX11_shared 9 = .ok (.bipush (-3), 2) := by decide +kernel
theorem dX11_shared_11 : decode cX11_shared 11 = .ok (.ireturn, 1) := by decide +kernel
theorem dX11_shared_12 : decode cX11_shared 12 = .ok (.aload_n 0, 1) := by decide +kernel
theorem dX11_shared_13 : decode cX11_shared 13 = .ok (.getfield 12, 3) := by decide +kernel
theorem dX11_shared_16 : decode cX11_shared 16 = .ok (.getfield 63, 3) := by decide +kernel
theorem dX11_shared_19 : decode cX11_shared 19 = .ok (.iconst 0, 1) := by decide +kernel
theorem dX11_shared_20 : decode cX11_shared 20 = .ok (.invokevirtual 67, 3) := by decide +kernel
theorem dX11_shared_23 : decode cX11_shared 23 = .ok (.ifCond .eq 6, 3) := by decide +kernel
theorem dX11_shared_26 : decode cX11_shared 26 = .ok (.bipush (-6), 2) := by decide +kernel
theorem dX11_shared_28 : decode cX11_shared 28 = .ok (.ireturn, 1) := by decide +kernel
theorem dX11_shared_29 : decode cX11_shared 29 = .ok (.aload_n 0, 1) := by decide +kernel
theorem dX11_shared_30 : decode cX11_shared 30 = .ok (.invokevirtual 71, 3) := by decide +kernel
theorem dX11_shared_33 : decode cX11_shared 33 = .ok (.aload_n 0, 1) := by decide +kernel
theorem dX11_shared_34 : decode cX11_shared 34 = .ok (.getfield 12, 3) := by decide +kernel
theorem dX11_shared_37 : decode cX11_shared 37 = .ok (.getfield 63, 3) := by decide +kernel
theorem dX11_shared_40 : decode cX11_shared 40 = .ok (.iconst 0, 1) := by decide +kernel
theorem dX11_shared_41 : decode cX11_shared 41 = .ok (.iload_n 1, 1) := by decide +kernel
theorem dX11_shared_42 : decode cX11_shared 42 = .ok (.iload_n 2, 1) := by decide +kernel
theorem dX11_shared_43 : decode cX11_shared 43 = .ok (.iload_n 3, 1) := by decide +kernel
theorem dX11_shared_44 : decode cX11_shared 44 = .ok (.invokevirtual 74, 3) := by decide +kernel
theorem dX11_shared_47 : decode cX11_shared 47 = .ok (.ireturn, 1) := by decide +kernel
set_option maxHeartbeats 4000000 in
set_option maxRecDepth 100000 in
theorem c_X11_shared (l : Launch) {cs : Nat → ClassId} {ad : Nat → Nat} {A : Nat → Prop} {D : va_G} (hJ : hp_J SB ad A)   {h : hp_H} {a1 a2 a3 : Int32} {Q : Int32 → hp_H → Prop} (hq : q_X11_shared h a1 a2 a3 Q) : hp_Mi l yX11_shared cX11_shared 4 (some .int) rm_X11_shared [.ref (ad 0), .int a1, .int a2, .int a3] SB cs ad A D h Q := by
  refine hp_met (own := RX11) rfl (by decide) (Nat.le_of_ble_eq_true rfl) rfl (fun p e s m args below meth c Z E hZ hnm => ?_)
  refine hp_sub (lv' := [(0, .ref (ad 0)), (1, .int a1), (2, .int a2), (3, .int a3)]) [0, 1, 2, 3] rfl ?_
  unfold q_X11_shared at hq
  refine hp_iload_n E 1 dX11_shared_0 rfl rfl ?_
  refine hp_iload_n E 2 dX11_shared_1 rfl rfl ?_
  refine hp_iload_n E 3 dX11_shared_2 rfl rfl ?_
  refine hp_callSip (rest := []) E (c_X10_fits l hJ hq) F_X10_fits m_RX11_57 ⟨rfl, rfl⟩ ⟨Nat.le_of_ble_eq_true rfl, Nat.le_of_ble_eq_true rfl⟩ ⟨Nat.zero_le _, Nat.zero_le _⟩ rfl rfl (Nat.le_of_ble_eq_true rfl) dX11_shared_3 (fun r1 hq => ?_)
  refine hp_if_ne E 12 dX11_shared_6 (by decide) (fun c2 => ?_) (fun c2 => ?_)
  · replace hq := hq.2 c2
    refine hp_aload_n E 0 dX11_shared_12 rfl rfl ?_
    refine hp_gR E g_RX11_12 fB_0_0 dX11_shared_13 ?_
    refine hp_gR E g_RX11_63 fB_1_0 dX11_shared_16 ?_
    refine hp_iconst E (nI 0) dX11_shared_19 (by decide) ?_
    refine hp_callVip (rest := []) E 2 fB_2_0 vcl_10 (c_X10_isFull l hJ fB_2_0 fB_2_1 fB_2_2 fB_2_3 fB_2_4 aB_3 aB_4 aB_5 aB_6 zB_3 zB_4 zB_5 zB_6 hq) F_X10_isFull m_RX11_67 ⟨rfl, rfl⟩ ⟨Nat.le_of_ble_eq_true rfl, Nat.le_of_ble_eq_true rfl⟩ ⟨Nat.zero_le _, Nat.zero_le _⟩ rfl rfl (Nat.le_of_ble_eq_true rfl) dX11_shared_20 (fun r3 hq => ?_)
    refine hp_if_eq E 29 dX11_shared_23 (by decide) (fun c4 => ?_) (fun c4 => ?_)
    · replace hq := hq.1 c4
      refine hp_aload_n E 0 dX11_shared_29 rfl rfl ?_
      refine hp_callVv' (rest := []) E 0 fB_0_0 vcl_11 (c_X11_endSearch l hJ hq) F_X11_endSearch m_RX11_71 ⟨rfl, rfl⟩ ⟨Nat.le_of_ble_eq_true rfl, Nat.le_of_ble_eq_true rfl⟩ ⟨Nat.zero_le _, Nat.zero_le _⟩ rfl rfl (Nat.le_of_ble_eq_true rfl) dX11_shared_30 (fun h5 hq => ?_)
      refine hp_aload_n E 0 dX11_shared_33 rfl rfl ?_
      refine hp_gR E g_RX11_12 fB_0_0 dX11_shared_34 ?_
      refine hp_gR E g_RX11_63 fB_1_0 dX11_shared_37 ?_
      refine hp_iconst E (nI 0) dX11_shared_40 (by decide) ?_
      refine hp_iload_n E 1 dX11_shared_41 rfl rfl ?_
      refine hp_iload_n E 2 dX11_shared_42 rfl rfl ?_
      refine hp_iload_n E 3 dX11_shared_43 rfl rfl ?_
      refine hp_callVi' (rest := []) E 2 fB_2_0 vcl_10 (c_X10_add l hJ fB_2_0 fB_2_1 fB_2_2 fB_2_3 fB_2_4 aB_3 aB_4 aB_5 aB_6 zB_3 zB_4 zB_5 zB_6 hq) F_X10_add m_RX11_74 ⟨rfl, rfl⟩ ⟨Nat.le_of_ble_eq_true rfl, Nat.le_of_ble_eq_true rfl⟩ ⟨Nat.zero_le _, Nat.zero_le _⟩ rfl rfl (Nat.le_of_ble_eq_true rfl) dX11_shared_44 (fun r6 h7 hq => ?_)
      exact hp_iret E hq hZ dX11_shared_47
    · replace hq := hq.2 c4
      refine hp_bipush E (-6) dX11_shared_26 (by decide) ?_
      exact hp_iret E hq hZ dX11_shared_28
  · replace hq := hq.1 c2
    refine hp_bipush E (-3) dX11_shared_9 (by decide) ?_
    exact hp_iret E hq hZ dX11_shared_11
theorem dX11_role_0 : decode cX11_role 0 = .ok (.iload_n 1, 1) := by decide +kernel
theorem dX11_role_1 : decode cX11_role 1 = .ok (.iconst 1, 1) := by decide +kernel
theorem dX11_role_2 : decode cX11_role 2 = .ok (.if_icmp .lt 8, 3) := by decide +kernel
theorem dX11_role_5 : decode cX11_role 5 = .ok (.iload_n 1, 1) := by decide +kernel
theorem dX11_role_6 : decode cX11_role 6 = .ok (.iconst 3, 1) := by decide +kernel
theorem dX11_role_7 : decode cX11_role 7 = .ok (.if_icmp .le 6, 3) := by decide +kernel
theorem dX11_role_10 : decode cX11_role 10 = .ok (.bipush (-3), 2) := by decide +kernel
theorem dX11_role_12 : decode cX11_role 12 = .ok (.ireturn, 1) := by decide +kernel
theorem dX11_role_13 : decode cX11_role 13 = .ok (.aload_n 0, 1) := by decide +kernel
theorem dX11_role_14 : decode cX11_role 14 = .ok (.getfield 12, 3) := by decide +kernel
theorem dX11_role_17 : decode cX11_role 17 = .ok (.getfield 78, 3) := by decide +kernel
theorem dX11_role_20 : decode cX11_role 20 = .ok (.getfield 82, 3) := by decide +kernel
theorem dX11_role_23 : decode cX11_role 23 = .ok (.iconst 3, 1) := by decide +kernel
theorem dX11_role_24 : decode cX11_role 24 = .ok (.if_icmp .ne 6, 3) := by decide +kernel
theorem dX11_role_27 : decode cX11_role 27 = .ok (.bipush (-6), 2) := by decide +kernel
theorem dX11_role_29 : decode cX11_role 29 = .ok (.ireturn, 1) := by decide +kernel
theorem dX11_role_30 : decode cX11_role 30 = .ok (.aload_n 0, 1) := by decide +kernel
theorem dX11_role_31 : decode cX11_role 31 = .ok (.invokevirtual 71, 3) := by decide +kernel
theorem dX11_role_34 : decode cX11_role 34 = .ok (.aload_n 0, 1) := by decide +kernel
theorem dX11_role_35 : decode cX11_role 35 = .ok (.getfield 12, 3) := by decide +kernel
theorem dX11_role_38 : decode cX11_role 38 = .ok (.getfield 78, 3) := by decide +kernel
theorem dX11_role_41 : decode cX11_role 41 = .ok (.iload_n 1, 1) := by decide +kernel
theorem dX11_role_42 : decode cX11_role 42 = .ok (.invokevirtual 88, 3) := by decide +kernel
theorem dX11_role_45 : decode cX11_role 45 = .ok (.ireturn, 1) := by decide +kernel
set_option maxHeartbeats 4000000 in
set_option maxRecDepth 100000 in
theorem c_X11_role (l : Launch) {cs : Nat → ClassId} {ad : Nat → Nat} {A : Nat → Prop} {D : va_G} (hJ : hp_J SB ad A)   {h : hp_H} {a1 : Int32} {Q : Int32 → hp_H → Prop} (hq : q_X11_role h a1 Q) : hp_Mi l yX11_role cX11_role 2 (some .int) rm_X11_role [.ref (ad 0), .int a1] SB cs ad A D h Q := by
  refine hp_met (own := RX11) rfl (by decide) (Nat.le_of_ble_eq_true rfl) rfl (fun p e s m args below meth c Z E hZ hnm => ?_)
  refine hp_sub (lv' := [(0, .ref (ad 0)), (1, .int a1)]) [0, 1] rfl ?_
  unfold q_X11_role at hq
  refine hp_iload_n E 1 dX11_role_0 rfl rfl ?_
  refine hp_iconst E (nI 1) dX11_role_1 (by decide) ?_
  refine hp_icmp_lt E 10 dX11_role_2 (by decide) (fun c1 => ?_) (fun c1 => ?_)
  · replace hq := hq.1 c1
    refine hp_bipush E (-3) dX11_role_10 (by decide) ?_
    exact hp_iret E hq hZ dX11_role_12
  · replace hq := hq.2 c1
    refine hp_iload_n E 1 dX11_role_5 rfl rfl ?_
    refine hp_iconst E (nI 3) dX11_role_6 (by decide) ?_
    refine hp_icmp_le E 13 dX11_role_7 (by decide) (fun c2 => ?_) (fun c2 => ?_)
    · replace hq := hq.1 c2
      refine hp_aload_n E 0 dX11_role_13 rfl rfl ?_
      refine hp_gR E g_RX11_12 fB_0_0 dX11_role_14 ?_
      refine hp_gR E g_RX11_78 fB_1_2 dX11_role_17 ?_
      refine hp_gI E g_RX11_82 fB_12_1 dX11_role_20 ?_
      refine hp_iconst E (nI 3) dX11_role_23 (by decide) ?_
      refine hp_icmp_ne E 30 dX11_role_24 (by decide) (fun c3 => ?_) (fun c3 => ?_)
      · replace hq := hq.2 c3
        refine hp_aload_n E 0 dX11_role_30 rfl rfl ?_
        refine hp_callVv' (rest := []) E 0 fB_0_0 vcl_11 (c_X11_endSearch l hJ hq) F_X11_endSearch m_RX11_71 ⟨rfl, rfl⟩ ⟨Nat.le_of_ble_eq_true rfl, Nat.le_of_ble_eq_true rfl⟩ ⟨Nat.zero_le _, Nat.zero_le _⟩ rfl rfl (Nat.le_of_ble_eq_true rfl) dX11_role_31 (fun h4 hq => ?_)
        refine hp_aload_n E 0 dX11_role_34 rfl rfl ?_
        refine hp_gR E g_RX11_12 fB_0_0 dX11_role_35 ?_
        refine hp_gR E g_RX11_78 fB_1_2 dX11_role_38 ?_
        refine hp_iload_n E 1 dX11_role_41 rfl rfl ?_
        refine hp_callVi' (rest := []) E 12 fB_12_0 vcl_6 (c_X6_add l hJ hq) F_X6_add m_RX11_88 ⟨rfl, rfl⟩ ⟨Nat.le_of_ble_eq_true rfl, Nat.le_of_ble_eq_true rfl⟩ ⟨Nat.zero_le _, Nat.zero_le _⟩ rfl rfl (Nat.le_of_ble_eq_true rfl) dX11_role_42 (fun r5 h6 hq => ?_)
        exact hp_iret E hq hZ dX11_role_45
      · replace hq := hq.1 c3
        refine hp_bipush E (-6) dX11_role_27 (by decide) ?_
        exact hp_iret E hq hZ dX11_role_29
    · replace hq := hq.2 c2
      refine hp_bipush E (-3) dX11_role_10 (by decide) ?_
      exact hp_iret E hq hZ dX11_role_12
theorem dX11_own_0 : decode cX11_own 0 = .ok (.aload_n 0, 1) := by decide +kernel
theorem dX11_own_1 : decode cX11_own 1 = .ok (.getfield 12, 3) := by decide +kernel
theorem dX11_own_4 : decode cX11_own 4 = .ok (.getfield 78, 3) := by decide +kernel
theorem dX11_own_7 : decode cX11_own 7 = .ok (.iload_n 1, 1) := by decide +kernel
theorem dX11_own_8 : decode cX11_own 8 = .ok (.invokevirtual 91, 3) := by decide +kernel
theorem dX11_own_11 : decode cX11_own 11 = .ok (.ifCond .ne 6, 3) := by decide +kernel
theorem dX11_own_14 : decode cX11_own 14 = .ok (.bipush (-2), 2) := by decide +kernel
theorem dX11_own_16 : decode cX11_own 16 = .ok (.ireturn, 1) := by decide +kernel
theorem dX11_own_17 : decode cX11_own 17 = .ok (.iload_n 2, 1) := by decide +kernel
theorem dX11_own_18 : decode cX11_own 18 = .ok (.iload_n 3, 1) := by decide +kernel
theorem dX11_own_19 : decode cX11_own 19 = .ok (.iload 4, 2) := by decide +kernel
theorem dX11_own_21 : decode cX11_own 21 = .ok (.invokestatic 57, 3) := by decide +kernel
theorem dX11_own_24 : decode cX11_own 24 = .ok (.ifCond .ne 6, 3) := by decide +kernel
theorem dX11_own_27 : decode cX11_own 27 = .ok (.bipush (-3), 2) := by decide +kernel
theorem dX11_own_29 : decode cX11_own 29 = .ok (.ireturn, 1) := by decide +kernel
theorem dX11_own_30 : decode cX11_own 30 = .ok (.aload_n 0, 1) := by decide +kernel
theorem dX11_own_31 : decode cX11_own 31 = .ok (.getfield 12, 3) := by decide +kernel
theorem dX11_own_34 : decode cX11_own 34 = .ok (.getfield 94, 3) := by decide +kernel
theorem dX11_own_37 : decode cX11_own 37 = .ok (.iload_n 1, 1) := by decide +kernel
theorem dX11_own_38 : decode cX11_own 38 = .ok (.invokevirtual 67, 3) := by decide +kernel
theorem dX11_own_41 : decode cX11_own 41 = .ok (.ifCond .eq 6, 3) := by decide +kernel
theorem dX11_own_44 : decode cX11_own 44 = .ok (.bipush (-6), 2) := by decide +kernel
theorem dX11_own_46 : decode cX11_own 46 = .ok (.ireturn, 1) := by decide +kernel
theorem dX11_own_47 : decode cX11_own 47 = .ok (.aload_n 0, 1) := by decide +kernel
theorem dX11_own_48 : decode cX11_own 48 = .ok (.invokevirtual 71, 3) := by decide +kernel
theorem dX11_own_51 : decode cX11_own 51 = .ok (.aload_n 0, 1) := by decide +kernel
theorem dX11_own_52 : decode cX11_own 52 = .ok (.getfield 12, 3) := by decide +kernel
theorem dX11_own_55 : decode cX11_own 55 = .ok (.getfield 94, 3) := by decide +kernel
theorem dX11_own_58 : decode cX11_own 58 = .ok (.iload_n 1, 1) := by decide +kernel
theorem dX11_own_59 : decode cX11_own 59 = .ok (.iload_n 2, 1) := by decide +kernel
theorem dX11_own_60 : decode cX11_own 60 = .ok (.iload_n 3, 1) := by decide +kernel
theorem dX11_own_61 : decode cX11_own 61 = .ok (.iload 4, 2) := by decide +kernel
theorem dX11_own_63 : decode cX11_own 63 = .ok (.invokevirtual 74, 3) := by decide +kernel
theorem dX11_own_66 : decode cX11_own 66 = .ok (.ireturn, 1) := by decide +kernel
set_option maxHeartbeats 4000000 in
set_option maxRecDepth 100000 in
theorem c_X11_own (l : Launch) {cs : Nat → ClassId} {ad : Nat → Nat} {A : Nat → Prop} {D : va_G} (hJ : hp_J SB ad A)   {h : hp_H} {a1 a2 a3 a4 : Int32} {Q : Int32 → hp_H → Prop} (hq : q_X11_own h a1 a2 a3 a4 Q) : hp_Mi l yX11_own cX11_own 5 (some .int) rm_X11_own [.ref (ad 0), .int a1, .int a2, .int a3, .int a4] SB cs ad A D h Q := by
  refine hp_met (own := RX11) rfl (by decide) (Nat.le_of_ble_eq_true rfl) rfl (fun p e s m args below meth c Z E hZ hnm => ?_)
  refine hp_sub (lv' := [(0, .ref (ad 0)), (1, .int a1), (2, .int a2), (3, .int a3), (4, .int a4)]) [0, 1, 2, 3, 4] rfl ?_
  unfold q_X11_own at hq
  refine hp_aload_n E 0 dX11_own_0 rfl rfl ?_
  refine hp_gR E g_RX11_12 fB_0_0 dX11_own_1 ?_
  refine hp_gR E g_RX11_78 fB_1_2 dX11_own_4 ?_
  refine hp_iload_n E 1 dX11_own_7 rfl rfl ?_
  refine hp_callVip (rest := []) E 12 fB_12_0 vcl_6 (c_X6_has l hJ hq) F_X6_has m_RX11_91 ⟨rfl, rfl⟩ ⟨Nat.le_of_ble_eq_true rfl, Nat.le_of_ble_eq_true rfl⟩ ⟨Nat.zero_le _, Nat.zero_le _⟩ rfl rfl (Nat.le_of_ble_eq_true rfl) dX11_own_8 (fun r1 hq => ?_)
  refine hp_if_ne E 17 dX11_own_11 (by decide) (fun c2 => ?_) (fun c2 => ?_)
  · replace hq := hq.2 c2
    refine hp_iload_n E 2 dX11_own_17 rfl rfl ?_
    refine hp_iload_n E 3 dX11_own_18 rfl rfl ?_
    refine hp_iload E 4 dX11_own_19 rfl ?_
    refine hp_callSip (rest := []) E (c_X10_fits l hJ hq) F_X10_fits m_RX11_57 ⟨rfl, rfl⟩ ⟨Nat.le_of_ble_eq_true rfl, Nat.le_of_ble_eq_true rfl⟩ ⟨Nat.zero_le _, Nat.zero_le _⟩ rfl rfl (Nat.le_of_ble_eq_true rfl) dX11_own_21 (fun r3 hq => ?_)
    refine hp_if_ne E 30 dX11_own_24 (by decide) (fun c4 => ?_) (fun c4 => ?_)
    · replace hq := hq.2 c4
      refine hp_aload_n E 0 dX11_own_30 rfl rfl ?_
      refine hp_gR E g_RX11_12 fB_0_0 dX11_own_31 ?_
      refine hp_gR E g_RX11_94 fB_1_1 dX11_own_34 ?_
      refine hp_iload_n E 1 dX11_own_37 rfl rfl ?_
      refine hp_callVip (rest := []) E 7 fB_7_0 vcl_10 (c_X10_isFull l hJ fB_7_0 fB_7_1 fB_7_2 fB_7_3 fB_7_4 aB_8 aB_9 aB_10 aB_11 zB_8 zB_9 zB_10 zB_11 hq) F_X10_isFull m_RX11_67 ⟨rfl, rfl⟩ ⟨Nat.le_of_ble_eq_true rfl, Nat.le_of_ble_eq_true rfl⟩ ⟨Nat.zero_le _, Nat.zero_le _⟩ rfl rfl (Nat.le_of_ble_eq_true rfl) dX11_own_38 (fun r5 hq => ?_)
      refine hp_if_eq E 47 dX11_own_41 (by decide) (fun c6 => ?_) (fun c6 => ?_)
      · replace hq := hq.1 c6
        refine hp_aload_n E 0 dX11_own_47 rfl rfl ?_
        refine hp_callVv' (rest := []) E 0 fB_0_0 vcl_11 (c_X11_endSearch l hJ hq) F_X11_endSearch m_RX11_71 ⟨rfl, rfl⟩ ⟨Nat.le_of_ble_eq_true rfl, Nat.le_of_ble_eq_true rfl⟩ ⟨Nat.zero_le _, Nat.zero_le _⟩ rfl rfl (Nat.le_of_ble_eq_true rfl) dX11_own_48 (fun h7 hq => ?_)
        refine hp_aload_n E 0 dX11_own_51 rfl rfl ?_
        refine hp_gR E g_RX11_12 fB_0_0 dX11_own_52 ?_
        refine hp_gR E g_RX11_94 fB_1_1 dX11_own_55 ?_
        refine hp_iload_n E 1 dX11_own_58 rfl rfl ?_
        refine hp_iload_n E 2 dX11_own_59 rfl rfl ?_
        refine hp_iload_n E 3 dX11_own_60 rfl rfl ?_
        refine hp_iload E 4 dX11_own_61 rfl ?_
        refine hp_callVi' (rest := []) E 7 fB_7_0 vcl_10 (c_X10_add l hJ fB_7_0 fB_7_1 fB_7_2 fB_7_3 fB_7_4 aB_8 aB_9 aB_10 aB_11 zB_8 zB_9 zB_10 zB_11 hq) F_X10_add m_RX11_74 ⟨rfl, rfl⟩ ⟨Nat.le_of_ble_eq_true rfl, Nat.le_of_ble_eq_true rfl⟩ ⟨Nat.zero_le _, Nat.zero_le _⟩ rfl rfl (Nat.le_of_ble_eq_true rfl) dX11_own_63 (fun r8 h9 hq => ?_)
        exact hp_iret E hq hZ dX11_own_66
      · replace hq := hq.2 c6
        refine hp_bipush E (-6) dX11_own_44 (by decide) ?_
        exact hp_iret E hq hZ dX11_own_46
    · replace hq := hq.1 c4
      refine hp_bipush E (-3) dX11_own_27 (by decide) ?_
      exact hp_iret E hq hZ dX11_own_29
  · replace hq := hq.1 c2
    refine hp_bipush E (-2) dX11_own_14 (by decide) ?_
    exact hp_iret E hq hZ dX11_own_16
theorem dX11_asNumber_0 : decode cX11_asNumber 0 = .ok (.iload_n 0, 1) := by decide +kernel
theorem dX11_asNumber_1 : decode cX11_asNumber 1 = .ok (.ifCond .eq 7, 3) := by decide +kernel
theorem dX11_asNumber_4 : decode cX11_asNumber 4 = .ok (.iconst 1, 1) := by decide +kernel
theorem dX11_asNumber_5 : decode cX11_asNumber 5 = .ok (.goto 4, 3) := by decide +kernel
theorem dX11_asNumber_8 : decode cX11_asNumber 8 = .ok (.iconst 0, 1) := by decide +kernel
theorem dX11_asNumber_9 : decode cX11_asNumber 9 = .ok (.ireturn, 1) := by decide +kernel
set_option maxHeartbeats 4000000 in
set_option maxRecDepth 100000 in
theorem c_X11_asNumber (l : Launch) {cs : Nat → ClassId} {ad : Nat → Nat} {A : Nat → Prop} {D : va_G} (hJ : hp_J SB ad A)   {h : hp_H} {a0 : Int32} {Q : Int32 → Prop} (hq : q_X11_asNumber a0 Q) : hp_Mi l yX11_asNumber cX11_asNumber 1 (some .int) rm_X11_asNumber [.int a0] SB cs ad A D h (fun r h' => Q r ∧ h' = h) := by
  refine hp_met (own := RX11) rfl (by decide) (Nat.le_of_ble_eq_true rfl) rfl (fun p e s m args below meth c Z E hZ hnm => ?_)
  refine hp_sub (lv' := [(0, .int a0)]) [0] rfl ?_
  unfold q_X11_asNumber at hq
  refine hp_iload_n E 0 dX11_asNumber_0 rfl rfl ?_
  refine hp_if_eq E 8 dX11_asNumber_1 (by decide) (fun c1 => ?_) (fun c1 => ?_)
  · replace hq := hq.1 c1
    refine hp_iconst E (nI 0) dX11_asNumber_8 (by decide) ?_
    exact hp_iret E ⟨hq, rfl⟩ hZ dX11_asNumber_9
  · replace hq := hq.2 c1
    refine hp_iconst E (nI 1) dX11_asNumber_4 (by decide) ?_
    refine hp_goto E 9 dX11_asNumber_5 (by decide) ?_
    exact hp_iret E ⟨hq, rfl⟩ hZ dX11_asNumber_9
theorem dX11_end_0 : decode cX11_end 0 = .ok (.aload_n 0, 1) := by decide +kernel
theorem dX11_end_1 : decode cX11_end 1 = .ok (.getfield 12, 3) := by decide +kernel
theorem dX11_end_4 : decode cX11_end 4 = .ok (.getfield 78, 3) := by decide +kernel
theorem dX11_end_7 : decode cX11_end 7 = .ok (.iload_n 1, 1) := by decide +kernel
theorem dX11_end_8 : decode cX11_end 8 = .ok (.invokevirtual 91, 3) := by decide +kernel
theorem dX11_end_11 : decode cX11_end 11 = .ok (.ifCond .ne 6, 3) := by decide +kernel
theorem dX11_end_14 : decode cX11_end 14 = .ok (.bipush (-2), 2) := by decide +kernel
theorem dX11_end_16 : decode cX11_end 16 = .ok (.ireturn, 1) := by decide +kernel
theorem dX11_end_17 : decode cX11_end 17 = .ok (.iload_n 2, 1) := by decide +kernel
theorem dX11_end_18 : decode cX11_end 18 = .ok (.invokestatic 97, 3) := by decide +kernel
theorem dX11_end_21 : decode cX11_end 21 = .ok (.ifCond .ne 6, 3) := by decide +kernel
theorem dX11_end_24 : decode cX11_end 24 = .ok (.bipush (-3), 2) := by decide +kernel
theorem dX11_end_26 : decode cX11_end 26 = .ok (.ireturn, 1) := by decide +kernel
theorem dX11_end_27 : decode cX11_end 27 = .ok (.aload_n 0, 1) := by decide +kernel
theorem dX11_end_28 : decode cX11_end 28 = .ok (.invokevirtual 71, 3) := by decide +kernel
theorem dX11_end_31 : decode cX11_end 31 = .ok (.aload_n 0, 1) := by decide +kernel
theorem dX11_end_32 : decode cX11_end 32 = .ok (.getfield 12, 3) := by decide +kernel
theorem dX11_end_35 : decode cX11_end 35 = .ok (.getfield 78, 3) := by decide +kernel
theorem dX11_end_38 : decode cX11_end 38 = .ok (.iload_n 1, 1) := by decide +kernel
theorem dX11_end_39 : decode cX11_end 39 = .ok (.iload_n 2, 1) := by decide +kernel
theorem dX11_end_40 : decode cX11_end 40 = .ok (.invokevirtual 100, 3) := by decide +kernel
theorem dX11_end_43 : decode cX11_end 43 = .ok (.invokestatic 104, 3) := by decide +kernel
theorem dX11_end_46 : decode cX11_end 46 = .ok (.istore_n 3, 1) := by decide +kernel
theorem dX11_end_47 : decode cX11_end 47 = .ok (.aload_n 0, 1) := by decide +kernel
theorem dX11_end_48 : decode cX11_end 48 = .ok (.getfield 12, 3) := by decide +kernel
theorem dX11_end_51 : decode cX11_end 51 = .ok (.getfield 78, 3) := by decide +kernel
theorem dX11_end_54 : decode cX11_end 54 = .ok (.iload_n 1, 1) := by decide +kernel
theorem dX11_end_55 : decode cX11_end 55 = .ok (.iload_n 2, 1) := by decide +kernel
theorem dX11_end_56 : decode cX11_end 56 = .ok (.invokevirtual 108, 3) := by decide +kernel
theorem dX11_end_59 : decode cX11_end 59 = .ok (.iload_n 3, 1) := by decide +kernel
theorem dX11_end_60 : decode cX11_end 60 = .ok (.ireturn, 1) := by decide +kernel
set_option maxHeartbeats 4000000 in
set_option maxRecDepth 100000 in
theorem c_X11_end (l : Launch) {cs : Nat → ClassId} {ad : Nat → Nat} {A : Nat → Prop} {D : va_G} (hJ : hp_J SB ad A)   {h : hp_H} {a1 a2 : Int32} {Q : Int32 → hp_H → Prop} (hq : q_X11_end h a1 a2 Q) : hp_Mi l yX11_end cX11_end 4 (some .int) rm_X11_end [.ref (ad 0), .int a1, .int a2] SB cs ad A D h Q := by
  refine hp_met (own := RX11) rfl (by decide) (Nat.le_of_ble_eq_true rfl) rfl (fun p e s m args below meth c Z E hZ hnm => ?_)
  refine hp_sub (lv' := [(0, .ref (ad 0)), (1, .int a1), (2, .int a2)]) [0, 1, 2] rfl ?_
  unfold q_X11_end at hq
  refine hp_aload_n E 0 dX11_end_0 rfl rfl ?_
  refine hp_gR E g_RX11_12 fB_0_0 dX11_end_1 ?_
  refine hp_gR E g_RX11_78 fB_1_2 dX11_end_4 ?_
  refine hp_iload_n E 1 dX11_end_7 rfl rfl ?_
  refine hp_callVip (rest := []) E 12 fB_12_0 vcl_6 (c_X6_has l hJ hq) F_X6_has m_RX11_91 ⟨rfl, rfl⟩ ⟨Nat.le_of_ble_eq_true rfl, Nat.le_of_ble_eq_true rfl⟩ ⟨Nat.zero_le _, Nat.zero_le _⟩ rfl rfl (Nat.le_of_ble_eq_true rfl) dX11_end_8 (fun r1 hq => ?_)
  refine hp_if_ne E 17 dX11_end_11 (by decide) (fun c2 => ?_) (fun c2 => ?_)
  · replace hq := hq.2 c2
    refine hp_iload_n E 2 dX11_end_17 rfl rfl ?_
    refine hp_callSip (rest := []) E (c_X11_isDigit l hJ hq) F_X11_isDigit m_RX11_97 ⟨rfl, rfl⟩ ⟨Nat.le_of_ble_eq_true rfl, Nat.le_of_ble_eq_true rfl⟩ ⟨Nat.zero_le _, Nat.zero_le _⟩ rfl rfl (Nat.le_of_ble_eq_true rfl) dX11_end_18 (fun r3 hq => ?_)
    refine hp_if_ne E 27 dX11_end_21 (by decide) (fun c4 => ?_) (fun c4 => ?_)
    · replace hq := hq.2 c4
      refine hp_aload_n E 0 dX11_end_27 rfl rfl ?_
      refine hp_callVv' (rest := []) E 0 fB_0_0 vcl_11 (c_X11_endSearch l hJ hq) F_X11_endSearch m_RX11_71 ⟨rfl, rfl⟩ ⟨Nat.le_of_ble_eq_true rfl, Nat.le_of_ble_eq_true rfl⟩ ⟨Nat.zero_le _, Nat.zero_le _⟩ rfl rfl (Nat.le_of_ble_eq_true rfl) dX11_end_28 (fun h5 hq => ?_)
      refine hp_aload_n E 0 dX11_end_31 rfl rfl ?_
      refine hp_gR E g_RX11_12 fB_0_0 dX11_end_32 ?_
      refine hp_gR E g_RX11_78 fB_1_2 dX11_end_35 ?_
      refine hp_iload_n E 1 dX11_end_38 rfl rfl ?_
      refine hp_iload_n E 2 dX11_end_39 rfl rfl ?_
      refine hp_callVip (rest := []) E 12 fB_12_0 vcl_6 (c_X6_isEnd l hJ hq) F_X6_isEnd m_RX11_100 ⟨rfl, rfl⟩ ⟨Nat.le_of_ble_eq_true rfl, Nat.le_of_ble_eq_true rfl⟩ ⟨Nat.zero_le _, Nat.zero_le _⟩ rfl rfl (Nat.le_of_ble_eq_true rfl) dX11_end_40 (fun r6 hq => ?_)
      refine hp_callSip (rest := []) E (c_X11_asNumber l hJ hq) F_X11_asNumber m_RX11_104 ⟨rfl, rfl⟩ ⟨Nat.le_of_ble_eq_true rfl, Nat.le_of_ble_eq_true rfl⟩ ⟨Nat.zero_le _, Nat.zero_le _⟩ rfl rfl (Nat.le_of_ble_eq_true rfl) dX11_end_43 (fun r7 hq => ?_)
      refine hp_istore_n (lv' := [(0, .ref (ad 0)), (1, .int a1), (2, .int a2), (3, .int r7)]) E dX11_end_46 rfl (by decide) rfl rfl ?_
      refine hp_aload_n E 0 dX11_end_47 rfl rfl ?_
      refine hp_gR E g_RX11_12 fB_0_0 dX11_end_48 ?_
      refine hp_gR E g_RX11_78 fB_1_2 dX11_end_51 ?_
      refine hp_iload_n E 1 dX11_end_54 rfl rfl ?_
      refine hp_iload_n E 2 dX11_end_55 rfl rfl ?_
      refine hp_callVv' (rest := []) E 12 fB_12_0 vcl_6 (c_X6_setEnd l hJ hq) F_X6_setEnd m_RX11_108 ⟨rfl, rfl⟩ ⟨Nat.le_of_ble_eq_true rfl, Nat.le_of_ble_eq_true rfl⟩ ⟨Nat.zero_le _, Nat.zero_le _⟩ rfl rfl (Nat.le_of_ble_eq_true rfl) dX11_end_56 (fun h8 hq => ?_)
      refine hp_iload_n E 3 dX11_end_59 rfl rfl ?_
      exact hp_iret E hq hZ dX11_end_60
    · replace hq := hq.1 c4
      refine hp_bipush E (-3) dX11_end_24 (by decide) ?_
      exact hp_iret E hq hZ dX11_end_26
  · replace hq := hq.1 c2
    refine hp_bipush E (-2) dX11_end_14 (by decide) ?_
    exact hp_iret E hq hZ dX11_end_16
theorem dX11_channel_0 : decode cX11_channel 0 = .ok (.iload_n 1, 1) := by decide +kernel
theorem dX11_channel_1 : decode cX11_channel 1 = .ok (.iconst 1, 1) := by decide +kernel
theorem dX11_channel_2 : decode cX11_channel 2 = .ok (.if_icmp .lt 8, 3) := by decide +kernel
theorem dX11_channel_5 : decode cX11_channel 5 = .ok (.iload_n 1, 1) := by decide +kernel
theorem dX11_channel_6 : decode cX11_channel 6 = .ok (.iconst 3, 1) := by decide +kernel
theorem dX11_channel_7 : decode cX11_channel 7 = .ok (.if_icmp .le 6, 3) := by decide +kernel
theorem dX11_channel_10 : decode cX11_channel 10 = .ok (.bipush (-3), 2) := by decide +kernel
theorem dX11_channel_12 : decode cX11_channel 12 = .ok (.ireturn, 1) := by decide +kernel
theorem dX11_channel_13 : decode cX11_channel 13 = .ok (.aload_n 0, 1) := by decide +kernel
theorem dX11_channel_14 : decode cX11_channel 14 = .ok (.getfield 12, 3) := by decide +kernel
theorem dX11_channel_17 : decode cX11_channel 17 = .ok (.getfield 112, 3) := by decide +kernel
theorem dX11_channel_20 : decode cX11_channel 20 = .ok (.iconst 3, 1) := by decide +kernel
theorem dX11_channel_21 : decode cX11_channel 21 = .ok (.if_icmp .ne 6, 3) := by decide +kernel
theorem dX11_channel_24 : decode cX11_channel 24 = .ok (.bipush (-6), 2) := by decide +kernel
theorem dX11_channel_26 : decode cX11_channel 26 = .ok (.ireturn, 1) := by decide +kernel
theorem dX11_channel_27 : decode cX11_channel 27 = .ok (.aload_n 0, 1) := by decide +kernel
theorem dX11_channel_28 : decode cX11_channel 28 = .ok (.invokevirtual 71, 3) := by decide +kernel
theorem dX11_channel_31 : decode cX11_channel 31 = .ok (.aload_n 0, 1) := by decide +kernel
theorem dX11_channel_32 : decode cX11_channel 32 = .ok (.getfield 12, 3) := by decide +kernel
theorem dX11_channel_35 : decode cX11_channel 35 = .ok (.iload_n 1, 1) := by decide +kernel
theorem dX11_channel_36 : decode cX11_channel 36 = .ok (.iload_n 2, 1) := by decide +kernel
theorem dX11_channel_37 : decode cX11_channel 37 = .ok (.iload_n 3, 1) := by decide +kernel
theorem dX11_channel_38 : decode cX11_channel 38 = .ok (.invokevirtual 115, 3) := by decide +kernel
theorem dX11_channel_41 : decode cX11_channel 41 = .ok (.ireturn, 1) := by decide +kernel
set_option maxHeartbeats 4000000 in
set_option maxRecDepth 100000 in
theorem c_X11_channel (l : Launch) {cs : Nat → ClassId} {ad : Nat → Nat} {A : Nat → Prop} {D : va_G} (hJ : hp_J SB ad A)   {h : hp_H} {a1 a2 a3 : Int32} {Q : Int32 → hp_H → Prop} (hq : q_X11_channel h a1 a2 a3 Q) : hp_Mi l yX11_channel cX11_channel 4 (some .int) rm_X11_channel [.ref (ad 0), .int a1, .int a2, .int a3] SB cs ad A D h Q := by
  refine hp_met (own := RX11) rfl (by decide) (Nat.le_of_ble_eq_true rfl) rfl (fun p e s m args below meth c Z E hZ hnm => ?_)
  refine hp_sub (lv' := [(0, .ref (ad 0)), (1, .int a1), (2, .int a2), (3, .int a3)]) [0, 1, 2, 3] rfl ?_
  unfold q_X11_channel at hq
  refine hp_iload_n E 1 dX11_channel_0 rfl rfl ?_
  refine hp_iconst E (nI 1) dX11_channel_1 (by decide) ?_
  refine hp_icmp_lt E 10 dX11_channel_2 (by decide) (fun c1 => ?_) (fun c1 => ?_)
  · replace hq := hq.1 c1
    refine hp_bipush E (-3) dX11_channel_10 (by decide) ?_
    exact hp_iret E hq hZ dX11_channel_12
  · replace hq := hq.2 c1
    refine hp_iload_n E 1 dX11_channel_5 rfl rfl ?_
    refine hp_iconst E (nI 3) dX11_channel_6 (by decide) ?_
    refine hp_icmp_le E 13 dX11_channel_7 (by decide) (fun c2 => ?_) (fun c2 => ?_)
    · replace hq := hq.1 c2
      refine hp_aload_n E 0 dX11_channel_13 rfl rfl ?_
      refine hp_gR E g_RX11_12 fB_0_0 dX11_channel_14 ?_
      refine hp_gI E g_RX11_112 fB_1_8 dX11_channel_17 ?_
      refine hp_iconst E (nI 3) dX11_channel_20 (by decide) ?_
      refine hp_icmp_ne E 27 dX11_channel_21 (by decide) (fun c3 => ?_) (fun c3 => ?_)
      · replace hq := hq.2 c3
        refine hp_aload_n E 0 dX11_channel_27 rfl rfl ?_
        refine hp_callVv' (rest := []) E 0 fB_0_0 vcl_11 (c_X11_endSearch l hJ hq) F_X11_endSearch m_RX11_71 ⟨rfl, rfl⟩ ⟨Nat.le_of_ble_eq_true rfl, Nat.le_of_ble_eq_true rfl⟩ ⟨Nat.zero_le _, Nat.zero_le _⟩ rfl rfl (Nat.le_of_ble_eq_true rfl) dX11_channel_28 (fun h4 hq => ?_)
        refine hp_aload_n E 0 dX11_channel_31 rfl rfl ?_
        refine hp_gR E g_RX11_12 fB_0_0 dX11_channel_32 ?_
        refine hp_iload_n E 1 dX11_channel_35 rfl rfl ?_
        refine hp_iload_n E 2 dX11_channel_36 rfl rfl ?_
        refine hp_iload_n E 3 dX11_channel_37 rfl rfl ?_
        refine hp_callVi' (rest := []) E 1 fB_1_0 vcl_4 (c_X4_addChannel l hJ hq) F_X4_addChannel m_RX11_115 ⟨rfl, rfl⟩ ⟨Nat.le_of_ble_eq_true rfl, Nat.le_of_ble_eq_true rfl⟩ ⟨Nat.zero_le _, Nat.zero_le _⟩ rfl rfl (Nat.le_of_ble_eq_true rfl) dX11_channel_38 (fun r5 h6 hq => ?_)
        exact hp_iret E hq hZ dX11_channel_41
      · replace hq := hq.1 c3
        refine hp_bipush E (-6) dX11_channel_24 (by decide) ?_
        exact hp_iret E hq hZ dX11_channel_26
    · replace hq := hq.2 c2
      refine hp_bipush E (-3) dX11_channel_10 (by decide) ?_
      exact hp_iret E hq hZ dX11_channel_12
theorem dX11_expr_0 : decode cX11_expr 0 = .ok (.iload_n 1, 1) := by decide +kernel
theorem dX11_expr_1 : decode cX11_expr 1 = .ok (.ifCond .lt 9, 3) := by decide +kernel
theorem dX11_expr_4 : decode cX11_expr 4 = .ok (.iload_n 1, 1) := by decide +kernel
theorem dX11_expr_5 : decode cX11_expr 5 = .ok (.bipush 14, 2) := by decide +kernel
theorem dX11_expr_7 : decode cX11_expr 7 = .ok (.if_icmp .le 6, 3) := by decide +kernel
theorem dX11_expr_10 : decode cX11_expr 10 = .ok (.bipush (-3), 2) := by decide +kernel
theorem dX11_expr_12 : decode cX11_expr 12 = .ok (.ireturn, 1) := by decide +kernel
theorem dX11_expr_13 : decode cX11_expr 13 = .ok (.aload_n 0, 1) := by decide +kernel
theorem dX11_expr_14 : decode cX11_expr 14 = .ok (.getfield 12, 3) := by decide +kernel
theorem dX11_expr_17 : decode cX11_expr 17 = .ok (.iload_n 1, 1) := by decide +kernel
theorem dX11_expr_18 : decode cX11_expr 18 = .ok (.iload_n 2, 1) := by decide +kernel
theorem dX11_expr_19 : decode cX11_expr 19 = .ok (.iload_n 3, 1) := by decide +kernel
theorem dX11_expr_20 : decode cX11_expr 20 = .ok (.iload 4, 2) := by decide +kernel
theorem dX11_expr_22 : decode cX11_expr 22 = .ok (.invokevirtual 119, 3) := by decide +kernel
theorem dX11_expr_25 : decode cX11_expr 25 = .ok (.ifCond .ne 6, 3) := by decide +kernel
theorem dX11_expr_28 : decode cX11_expr 28 = .ok (.bipush (-2), 2) := by decide +kernel
theorem dX11_expr_30 : decode cX11_expr 30 = .ok (.ireturn, 1) := by decide +kernel
theorem dX11_expr_31 : decode cX11_expr 31 = .ok (.iload_n 1, 1) := by decide +kernel
theorem dX11_expr_32 : decode cX11_expr 32 = .ok (.iconst 2, 1) := by decide +kernel
theorem dX11_expr_33 : decode cX11_expr 33 = .ok (.if_icmp .ne 15, 3) := by decide +kernel
theorem dX11_expr_36 : decode cX11_expr 36 = .ok (.iload_n 2, 1) := by decide +kernel
theorem dX11_expr_37 : decode cX11_expr 37 = .ok (.ifCond .lt 8, 3) := by decide +kernel
theorem dX11_expr_40 : decode cX11_expr 40 = .ok (.iload_n 2, 1) := by decide +kernel
theorem dX11_expr_41 : decode cX11_expr 41 = .ok (.iconst 3, 1) := by decide +kernel
theorem dX11_expr_42 : decode cX11_expr 42 = .ok (.if_icmp .lt 6, 3) := by decide +kernel
theorem dX11_expr_45 : decode cX11_expr 45 = .ok (.bipush (-3), 2) := by decide +kernel
theorem dX11_expr_47 : decode cX11_expr 47 = .ok (.ireturn, 1) := by decide +kernel
theorem dX11_expr_48 : decode cX11_expr 48 = .ok (.iload_n 1, 1) := by decide +kernel
theorem dX11_expr_49 : decode cX11_expr 49 = .ok (.iconst 4, 1) := by decide +kernel
theorem dX11_expr_50 : decode cX11_expr 50 = .ok (.if_icmp .ne 13, 3) := by decide +kernel
theorem dX11_expr_53 : decode cX11_expr 53 = .ok (.iload_n 3, 1) := by decide +kernel
theorem dX11_expr_54 : decode cX11_expr 54 = .ok (.invokestatic 97, 3) := by decide +kernel
theorem dX11_expr_57 : decode cX11_expr 57 = .ok (.ifCond .ne 6, 3) := by decide +kernel
theorem dX11_expr_60 : decode cX11_expr 60 = .ok (.bipush (-3), 2) := by decide +kernel
theorem dX11_expr_62 : decode cX11_expr 62 = .ok (.ireturn, 1) := by decide +kernel
theorem dX11_expr_63 : decode cX11_expr 63 = .ok (.aload_n 0, 1) := by decide +kernel
theorem dX11_expr_64 : decode cX11_expr 64 = .ok (.getfield 12, 3) := by decide +kernel
theorem dX11_expr_67 : decode cX11_expr 67 = .ok (.getfield 123, 3) := by decide +kernel
theorem dX11_expr_70 : decode cX11_expr 70 = .ok (.getfield 127, 3) := by decide +kernel
theorem dX11_expr_73 : decode cX11_expr 73 = .ok (.bipush 80, 2) := by decide +kernel
theorem dX11_expr_75 : decode cX11_expr 75 = .ok (.if_icmp .ne 6, 3) := by decide +kernel
theorem dX11_expr_78 : decode cX11_expr 78 = .ok (.bipush (-6), 2) := by decide +kernel
theorem dX11_expr_80 : decode cX11_expr 80 = .ok (.ireturn, 1) := by decide +kernel
theorem dX11_expr_81 : decode cX11_expr 81 = .ok (.aload_n 0, 1) := by decide +kernel
theorem dX11_expr_82 : decode cX11_expr 82 = .ok (.invokevirtual 71, 3) := by decide +kernel
theorem dX11_expr_85 : decode cX11_expr 85 = .ok (.aload_n 0, 1) := by decide +kernel
theorem dX11_expr_86 : decode cX11_expr 86 = .ok (.getfield 12, 3) := by decide +kernel
theorem dX11_expr_89 : decode cX11_expr 89 = .ok (.getfield 123, 3) := by decide +kernel
theorem dX11_expr_92 : decode cX11_expr 92 = .ok (.iload_n 1, 1) := by decide +kernel
theorem dX11_expr_93 : decode cX11_expr 93 = .ok (.iload_n 2, 1) := by decide +kernel
theorem dX11_expr_94 : decode cX11_expr 94 = .ok (.iload_n 3, 1) := by decide +kernel
theorem dX11_expr_95 : decode cX11_expr 95 = .ok (.iload 4, 2) := by decide +kernel
theorem dX11_expr_97 : decode cX11_expr 97 = .ok (.invokevirtual 130, 3) := by decide +kernel
theorem dX11_expr_100 : decode cX11_expr 100 = .ok (.ireturn, 1) := by decide +kernel
set_option maxHeartbeats 4000000 in
set_option maxRecDepth 100000 in
theorem c_X11_expr (l : Launch) {cs : Nat → ClassId} {ad : Nat → Nat} {A : Nat → Prop} {D : va_G} (hJ : hp_J SB ad A)   {h : hp_H} {a1 a2 a3 a4 : Int32} {Q : Int32 → hp_H → Prop} (hq : q_X11_expr h a1 a2 a3 a4 Q) : hp_Mi l yX11_expr cX11_expr 5 (some .int) rm_X11_expr [.ref (ad 0), .int a1, .int a2, .int a3, .int a4] SB cs ad A D h Q := by
  refine hp_met (own := RX11) rfl (by decide) (Nat.le_of_ble_eq_true rfl) rfl (fun p e s m args below meth c Z E hZ hnm => ?_)
  refine hp_sub (lv' := [(0, .ref (ad 0)), (1, .int a1), (2, .int a2), (3, .int a3), (4, .int a4)]) [0, 1, 2, 3, 4] rfl ?_
  unfold q_X11_expr at hq
  refine hp_iload_n E 1 dX11_expr_0 rfl rfl ?_
  refine hp_if_lt E 10 dX11_expr_1 (by decide) (fun c1 => ?_) (fun c1 => ?_)
  · replace hq := hq.1 c1
    refine hp_bipush E (-3) dX11_expr_10 (by decide) ?_
    exact hp_iret E hq hZ dX11_expr_12
  · replace hq := hq.2 c1
    refine hp_iload_n E 1 dX11_expr_4 rfl rfl ?_
    refine hp_bipush E (nI 14) dX11_expr_5 (by decide) ?_
    refine hp_icmp_le E 13 dX11_expr_7 (by decide) (fun c2 => ?_) (fun c2 => ?_)
    · replace hq := hq.1 c2
      refine hp_aload_n E 0 dX11_expr_13 rfl rfl ?_
      refine hp_gR E g_RX11_12 fB_0_0 dX11_expr_14 ?_
      refine hp_iload_n E 1 dX11_expr_17 rfl rfl ?_
      refine hp_iload_n E 2 dX11_expr_18 rfl rfl ?_
      refine hp_iload_n E 3 dX11_expr_19 rfl rfl ?_
      refine hp_iload E 4 dX11_expr_20 rfl ?_
      refine hp_callVip (rest := []) E 1 fB_1_0 vcl_4 (c_X4_knowsParts l hJ hq) F_X4_knowsParts m_RX11_119 ⟨rfl, rfl⟩ ⟨Nat.le_of_ble_eq_true rfl, Nat.le_of_ble_eq_true rfl⟩ ⟨Nat.zero_le _, Nat.zero_le _⟩ rfl rfl (Nat.le_of_ble_eq_true rfl) dX11_expr_22 (fun r3 hq => ?_)
      refine hp_if_ne E 31 dX11_expr_25 (by decide) (fun c4 => ?_) (fun c4 => ?_)
      · replace hq := hq.2 c4
        refine hp_iload_n E 1 dX11_expr_31 rfl rfl ?_
        refine hp_iconst E (nI 2) dX11_expr_32 (by decide) ?_
        obtain ⟨K6, hq, hK6⟩ := hq
        have jK6 : K6 → hp_G p l e rm_X11_expr s m args below meth c SB cs ad A D 5 0 0 Z 48 [(0, .ref (ad 0)), (1, .int a1), (2, .int a2), (3, .int a3), (4, .int a4)] [] h := by
          intro  hq
          replace hq := hK6  hq
          refine hp_iload_n E 1 dX11_expr_48 rfl rfl ?_
          refine hp_iconst E (nI 4) dX11_expr_49 (by decide) ?_
          obtain ⟨K10, hq, hK10⟩ := hq
          have jK10 : K10 → hp_G p l e rm_X11_expr s m args below meth c SB cs ad A D 5 0 0 Z 63 [(0, .ref (ad 0)), (1, .int a1), (2, .int a2), (3, .int a3), (4, .int a4)] [] h := by
            intro  hq
            replace hq := hK10  hq
            refine hp_aload_n E 0 dX11_expr_63 rfl rfl ?_
            refine hp_gR E g_RX11_12 fB_0_0 dX11_expr_64 ?_
            refine hp_gR E g_RX11_123 fB_1_3 dX11_expr_67 ?_
            refine hp_gI E g_RX11_127 fB_15_1 dX11_expr_70 ?_
            refine hp_bipush E (nI 80) dX11_expr_73 (by decide) ?_
            refine hp_icmp_ne E 81 dX11_expr_75 (by decide) (fun c13 => ?_) (fun c13 => ?_)
            · replace hq := hq.2 c13
              refine hp_aload_n E 0 dX11_expr_81 rfl rfl ?_
              refine hp_callVv' (rest := []) E 0 fB_0_0 vcl_11 (c_X11_endSearch l hJ hq) F_X11_endSearch m_RX11_71 ⟨rfl, rfl⟩ ⟨Nat.le_of_ble_eq_true rfl, Nat.le_of_ble_eq_true rfl⟩ ⟨Nat.zero_le _, Nat.zero_le _⟩ rfl rfl (Nat.le_of_ble_eq_true rfl) dX11_expr_82 (fun h14 hq => ?_)
              refine hp_aload_n E 0 dX11_expr_85 rfl rfl ?_
              refine hp_gR E g_RX11_12 fB_0_0 dX11_expr_86 ?_
              refine hp_gR E g_RX11_123 fB_1_3 dX11_expr_89 ?_
              refine hp_iload_n E 1 dX11_expr_92 rfl rfl ?_
              refine hp_iload_n E 2 dX11_expr_93 rfl rfl ?_
              refine hp_iload_n E 3 dX11_expr_94 rfl rfl ?_
              refine hp_iload E 4 dX11_expr_95 rfl ?_
              refine hp_callVi' (rest := []) E 15 fB_15_0 vcl_1 (c_X1_add l hJ hq) F_X1_add m_RX11_130 ⟨rfl, rfl⟩ ⟨Nat.le_of_ble_eq_true rfl, Nat.le_of_ble_eq_true rfl⟩ ⟨Nat.zero_le _, Nat.zero_le _⟩ rfl rfl (Nat.le_of_ble_eq_true rfl) dX11_expr_97 (fun r15 h16 hq => ?_)
              exact hp_iret E hq hZ dX11_expr_100
            · replace hq := hq.1 c13
              refine hp_bipush E (-6) dX11_expr_78 (by decide) ?_
              exact hp_iret E hq hZ dX11_expr_80
          refine hp_icmp_ne E 63 dX11_expr_50 (by decide) (fun c9 => ?_) (fun c9 => ?_)
          · replace hq := hq.2 c9
            exact jK10  hq
          · replace hq := hq.1 c9
            refine hp_iload_n E 3 dX11_expr_53 rfl rfl ?_
            refine hp_callSip (rest := []) E (c_X11_isDigit l hJ hq) F_X11_isDigit m_RX11_97 ⟨rfl, rfl⟩ ⟨Nat.le_of_ble_eq_true rfl, Nat.le_of_ble_eq_true rfl⟩ ⟨Nat.zero_le _, Nat.zero_le _⟩ rfl rfl (Nat.le_of_ble_eq_true rfl) dX11_expr_54 (fun r11 hq => ?_)
            refine hp_if_ne E 63 dX11_expr_57 (by decide) (fun c12 => ?_) (fun c12 => ?_)
            · replace hq := hq.2 c12
              exact jK10  hq
            · replace hq := hq.1 c12
              refine hp_bipush E (-3) dX11_expr_60 (by decide) ?_
              exact hp_iret E hq hZ dX11_expr_62
        refine hp_icmp_ne E 48 dX11_expr_33 (by decide) (fun c5 => ?_) (fun c5 => ?_)
        · replace hq := hq.2 c5
          exact jK6  hq
        · replace hq := hq.1 c5
          refine hp_iload_n E 2 dX11_expr_36 rfl rfl ?_
          refine hp_if_lt E 45 dX11_expr_37 (by decide) (fun c7 => ?_) (fun c7 => ?_)
          · replace hq := hq.1 c7
            refine hp_bipush E (-3) dX11_expr_45 (by decide) ?_
            exact hp_iret E hq hZ dX11_expr_47
          · replace hq := hq.2 c7
            refine hp_iload_n E 2 dX11_expr_40 rfl rfl ?_
            refine hp_iconst E (nI 3) dX11_expr_41 (by decide) ?_
            refine hp_icmp_lt E 48 dX11_expr_42 (by decide) (fun c8 => ?_) (fun c8 => ?_)
            · replace hq := hq.1 c8
              exact jK6  hq
            · replace hq := hq.2 c8
              refine hp_bipush E (-3) dX11_expr_45 (by decide) ?_
              exact hp_iret E hq hZ dX11_expr_47
      · replace hq := hq.1 c4
        refine hp_bipush E (-2) dX11_expr_28 (by decide) ?_
        exact hp_iret E hq hZ dX11_expr_30
    · replace hq := hq.2 c2
      refine hp_bipush E (-3) dX11_expr_10 (by decide) ?_
      exact hp_iret E hq hZ dX11_expr_12
