theorem dX0_keyByMoves_0 : decode cX0_keyByMoves 0 = .ok (.iconst 0, 1) := by decide +kernel
theorem dX0_keyByMoves_1 : decode cX0_keyByMoves 1 = .ok (.istore_n 2, 1) := by decide +kernel
theorem dX0_keyByMoves_2 : decode cX0_keyByMoves 2 = .ok (.iload_n 2, 1) := by decide +kernel
theorem dX0_keyByMoves_3 : decode cX0_keyByMoves 3 = .ok (.aload_n 0, 1) := by decide +kernel
theorem dX0_keyByMoves_4 : decode cX0_keyByMoves 4 = .ok (.getfield 33, 3) := by decide +kernel
theorem dX0_keyByMoves_7 : decode cX0_keyByMoves 7 = .ok (.getfield 76, 3) := by decide +kernel
theorem dX0_keyByMoves_10 : decode cX0_keyByMoves 10 = .ok (.if_icmp .ge 98, 3) := by decide +kernel
theorem dX0_keyByMoves_13 : decode cX0_keyByMoves 13 = .ok (.iload_n 2, 1) := by decide +kernel
theorem dX0_keyByMoves_14 : decode cX0_keyByMoves 14 = .ok (.bipush 13, 2) := by decide +kernel
theorem dX0_keyByMoves_16 : decode cX0_keyByMoves 16 = .ok (.imul, 1) := by decide +kernel
theorem dX0_keyByMoves_17 : decode cX0_keyByMoves 17 = .ok (.istore_n 3, 1) := by decide +kernel
theorem dX0_keyByMoves_18 : decode cX0_keyByMoves 18 = .ok (.aload_n 0, 1) := by decide +kernel
theorem dX0_keyByMoves_19 : decode cX0_keyByMoves 19 = .ok (.getfield 18, 3) := by decide +kernel
theorem dX0_keyByMoves_22 : decode cX0_keyByMoves 22 = .ok (.iload_n 3, 1) := by decide +kernel
theorem dX0_keyByMoves_23 : decode cX0_keyByMoves 23 = .ok (.iload_n 3, 1) := by decide +kernel
theorem dX0_keyByMoves_24 : decode cX0_keyByMoves 24 = .ok (.iload_n 1, 1) := by decide +kernel
theorem dX0_keyByMoves_25 : decode cX0_keyByMoves 25 = .ok (.iadd, 1) := by decide +kernel
theorem dX0_keyByMoves_26 : decode cX0_keyByMoves 26 = .ok (.iconst 0, 1) := by decide +kernel
theorem dX0_keyByMoves_27 : decode cX0_keyByMoves 27 = .ok (.invokestatic 88, 3) := by decide +kernel
theorem dX0_keyByMoves_30 : decode cX0_keyByMoves 30 = .ok (.aload_n 0, 1) := by decide +kernel
theorem dX0_keyByMoves_31 : decode cX0_keyByMoves 31 = .ok (.getfield 33, 3) := by decide +kernel
theorem dX0_keyByMoves_34 : decode cX0_keyByMoves 34 = .ok (.getfield 91, 3) := by decide +kernel
theorem dX0_keyByMoves_37 : decode cX0_keyByMoves 37 = .ok (.iload_n 2, 1) := by decide +kernel
theorem dX0_keyByMoves_38 : decode cX0_keyByMoves 38 = .ok (.iaload, 1) := by decide +kernel
theorem dX0_keyByMoves_39 : decode cX0_keyByMoves 39 = .ok (.istore 4, 2) := by decide +kernel
theorem dX0_keyByMoves_41 : decode cX0_keyByMoves 41 = .ok (.iload 4, 2) := by decide +kernel
theorem dX0_keyByMoves_43 : decode cX0_keyByMoves 43 = .ok (.aload_n 0, 1) := by decide +kernel
theorem dX0_keyByMoves_44 : decode cX0_keyByMoves 44 = .ok (.getfield 33, 3) := by decide +kernel
theorem dX0_keyByMoves_47 : decode cX0_keyByMoves 47 = .ok (.getfield 91, 3) := by decide +kernel
theorem dX0_keyByMoves_50 : decode cX0_keyByMoves 50 = .ok (.iload_n 2, 1) := by decide +kernel
theorem dX0_keyByMoves_51 : decode cX0_keyByMoves 51 = .ok (.iconst 1, 1) := by decide +kernel
theorem dX0_keyByMoves_52 : decode cX0_keyByMoves 52 = .ok (.iadd, 1) := by decide +kernel
theorem dX0_keyByMoves_53 : decode cX0_keyByMoves 53 = .ok (.iaload, 1) := by decide +kernel
theorem dX0_keyByMoves_54 : decode cX0_keyByMoves 54 = .ok (.if_icmp .ge 48, 3) := by decide +kernel
theorem dX0_keyByMoves_57 : decode cX0_keyByMoves 57 = .ok (.aload_n 0, 1) := by decide +kernel
theorem dX0_keyByMoves_58 : decode cX0_keyByMoves 58 = .ok (.getfield 11, 3) := by decide +kernel
theorem dX0_keyByMoves_61 : decode cX0_keyByMoves 61 = .ok (.aload_n 0, 1) := by decide +kernel
theorem dX0_keyByMoves_62 : decode cX0_keyByMoves 62 = .ok (.getfield 33, 3) := by decide +kernel
theorem dX0_keyByMoves_65 : decode cX0_keyByMoves 65 = .ok (.getfield 94, 3) := by decide +kernel
theorem dX0_keyByMoves_68 : decode cX0_keyByMoves 68 = .ok (.iload 4, 2) := by decide +kernel
theorem dX0_keyByMoves_70 : decode cX0_keyByMoves 70 = .ok (.iaload, 1) := by decide +kernel
theorem dX0_keyByMoves_71 : decode cX0_keyByMoves 71 = .ok (.iaload, 1) := by decide +kernel
theorem dX0_keyByMoves_72 : decode cX0_keyByMoves 72 = .ok (.istore 5, 2) := by decide +kernel
theorem dX0_keyByMoves_74 : decode cX0_keyByMoves 74 = .ok (.aload_n 0, 1) := by decide +kernel
theorem dX0_keyByMoves_75 : decode cX0_keyByMoves 75 = .ok (.getfield 18, 3) := by decide +kernel
theorem dX0_keyByMoves_78 : decode cX0_keyByMoves 78 = .ok (.iload_n 3, 1) := by decide +kernel
theorem dX0_keyByMoves_79 : decode cX0_keyByMoves 79 = .ok (.iload 5, 2) := by decide +kernel
theorem dX0_keyByMoves_81 : decode cX0_keyByMoves 81 = .ok (.bipush 32, 2) := by decide +kernel
theorem dX0_keyByMoves_83 : decode cX0_keyByMoves 83 = .ok (.idiv, 1) := by decide +kernel
theorem dX0_keyByMoves_84 : decode cX0_keyByMoves 84 = .ok (.iadd, 1) := by decide +kernel
theorem dX0_keyByMoves_85 : decode cX0_keyByMoves 85 = .ok (.dup2, 1) := by decide +kernel
theorem dX0_keyByMoves_86 : decode cX0_keyByMoves 86 = .ok (.iaload, 1) := by decide +kernel
theorem dX0_keyByMoves_87 : decode cX0_keyByMoves 87 = .ok (.iconst 1, 1) := by decide +kernel
theorem dX0_keyByMoves_88 : decode cX0_keyByMoves 88 = .ok (.iload 5, 2) := by decide +kernel
theorem dX0_keyByMoves_90 : decode cX0_keyByMoves 90 = .ok (.bipush 32, 2) := by decide +kernel
theorem dX0_keyByMoves_92 : decode cX0_keyByMoves 92 = .ok (.irem, 1) := by decide +kernel
theorem dX0_keyByMoves_93 : decode cX0_keyByMoves 93 = .ok (.ishl, 1) := by decide +kernel
theorem dX0_keyByMoves_94 : decode cX0_keyByMoves 94 = .ok (.ior, 1) := by decide +kernel
theorem dX0_keyByMoves_95 : decode cX0_keyByMoves 95 = .ok (.iastore, 1) := by decide +kernel
theorem dX0_keyByMoves_96 : decode cX0_keyByMoves 96 = .ok (.iinc 4 1, 3) := by decide +kernel
theorem dX0_keyByMoves_99 : decode cX0_keyByMoves 99 = .ok (.goto (-58), 3) := by decide +kernel
theorem dX0_keyByMoves_102 : decode cX0_keyByMoves 102 = .ok (.iinc 2 1, 3) := by decide +kernel
theorem dX0_keyByMoves_105 : decode cX0_keyByMoves 105 = .ok (.goto (-103), 3) := by decide +kernel
theorem dX0_keyByMoves_108 : decode cX0_keyByMoves 108 = .ok (.return_, 1) := by decide +kernel
set_option maxHeartbeats 4000000 in
set_option maxRecDepth 100000 in
theorem c_X0_keyByMoves (l : Launch) {cs : Nat → ClassId} {ad : Nat → Nat} {A : Nat → Prop} {D : va_G} (hJ : hp_J SB ad A)   {h : hp_H} {a1 : Int32} {Q : hp_H → Prop} (hq : q_X0_keyByMoves h a1 Q) : hp_Mv l yX0_keyByMoves cX0_keyByMoves 6 none rm_X0_keyByMoves [.ref (ad 64), .int a1] SB cs ad A D h Q := by
  refine hp_met (own := RX0) rfl (by decide) (Nat.le_of_ble_eq_true rfl) rfl (fun p e s m args below meth c Z E hZ hnm => ?_)
  refine hp_sub (lv' := [(0, .ref (ad 64)), (1, .int a1)]) [0, 1] rfl ?_
  unfold q_X0_keyByMoves at hq
  refine hp_iconst E (nI 0) dX0_keyByMoves_0 (by decide) ?_
  refine hp_istore_n (lv' := [(0, .ref (ad 64)), (1, .int a1), (2, .int (nI 0))]) E dX0_keyByMoves_1 rfl (by decide) rfl rfl ?_
  refine hq (fun v2 h3 => hp_G p l e rm_X0_keyByMoves s m args below meth c SB cs ad A D 6 0 0 Z 2 [(0, .ref (ad 64)), (1, .int a1), (2, .int v2)] [] h3) (fun v2 h3 hB => ?_)
  obtain ⟨B1, hq, hB1⟩ := hB
  refine hp_iload_n E 2 dX0_keyByMoves_2 rfl rfl ?_
  refine hp_aload_n E 0 dX0_keyByMoves_3 rfl rfl ?_
  refine hp_gR E g_RX0_33 fB_64_3 dX0_keyByMoves_4 ?_
  refine hp_gI E g_RX0_76 fB_35_2 dX0_keyByMoves_7 ?_
  refine hp_icmp_ge E 108 dX0_keyByMoves_10 (by decide) (fun c4 => ?_) (fun c4 => ?_)
  · replace hq := hq.1 c4
    exact hp_vret E hq hZ dX0_keyByMoves_108
  · replace hq := hq.2 c4
    refine hp_iload_n E 2 dX0_keyByMoves_13 rfl rfl ?_
    refine hp_bipush E (nI 13) dX0_keyByMoves_14 (by decide) ?_
    refine hp_imul E dX0_keyByMoves_16 ?_
    refine hp_topi (fun v5 ev5 => ?_)
    replace hq := hq v5 ev5
    refine hp_istore_n (lv' := [(0, .ref (ad 64)), (1, .int a1), (2, .int v2), (3, .int v5)]) E dX0_keyByMoves_17 rfl (by decide) rfl rfl ?_
    refine hp_aload_n E 0 dX0_keyByMoves_18 rfl rfl ?_
    refine hp_gR E g_RX0_18 fB_64_6 dX0_keyByMoves_19 ?_
    refine hp_iload_n E 3 dX0_keyByMoves_22 rfl rfl ?_
    refine hp_iload_n E 3 dX0_keyByMoves_23 rfl rfl ?_
    refine hp_iload_n E 1 dX0_keyByMoves_24 rfl rfl ?_
    refine hp_iadd E dX0_keyByMoves_25 ?_
    refine hp_iconst E (nI 0) dX0_keyByMoves_26 (by decide) ?_
    refine hp_callSv (rest := []) E (c_J7_fill_fda19 l hJ aB_67 zB_67 hq) F_J7_fill_fda19 m_RX0_88 ⟨rfl, rfl⟩ ⟨Nat.le_of_ble_eq_true rfl, Nat.le_of_ble_eq_true rfl⟩ ⟨Nat.zero_le _, Nat.zero_le _⟩ rfl rfl (Nat.le_of_ble_eq_true rfl) dX0_keyByMoves_27 (fun h6 hq => ?_)
    refine hp_aload_n E 0 dX0_keyByMoves_30 rfl rfl ?_
    refine hp_gR E g_RX0_33 fB_64_3 dX0_keyByMoves_31 ?_
    refine hp_gR E g_RX0_91 fB_35_8 dX0_keyByMoves_34 ?_
    refine hp_iload_n E 2 dX0_keyByMoves_37 rfl rfl ?_
    refine hp_iald E 36 aB_36 hq.1 dX0_keyByMoves_38 ?_
    replace hq := hq.2
    refine hp_topi (fun v7 ev7 => ?_)
    replace hq := hq v7 ev7
    refine hp_istore (lv' := [(0, .ref (ad 64)), (1, .int a1), (2, .int v2), (3, .int v5), (4, .int v7)]) E dX0_keyByMoves_39 (by decide) rfl rfl ?_
    refine hq (fun v9 h10 => hp_G p l e rm_X0_keyByMoves s m args below meth c SB cs ad A D 6 0 0 Z 41 [(0, .ref (ad 64)), (1, .int a1), (2, .int v2), (3, .int v5), (4, .int v9)] [] h10) (fun v9 h10 hB => ?_)
    obtain ⟨B8, hq, hB8⟩ := hB
    refine hp_iload E 4 dX0_keyByMoves_41 rfl ?_
    refine hp_aload_n E 0 dX0_keyByMoves_43 rfl rfl ?_
    refine hp_gR E g_RX0_33 fB_64_3 dX0_keyByMoves_44 ?_
    refine hp_gR E g_RX0_91 fB_35_8 dX0_keyByMoves_47 ?_
    refine hp_iload_n E 2 dX0_keyByMoves_50 rfl rfl ?_
    refine hp_iconst E (nI 1) dX0_keyByMoves_51 (by decide) ?_
    refine hp_iadd E dX0_keyByMoves_52 ?_
    refine hp_iald E 36 aB_36 hq.1 dX0_keyByMoves_53 ?_
    replace hq := hq.2
    refine hp_icmp_ge E 102 dX0_keyByMoves_54 (by decide) (fun c11 => ?_) (fun c11 => ?_)
    · replace hq := hq.1 c11
      obtain ⟨v12, ev12⟩ : ∃ z : Int32, z = v2 + (nI 1) := ⟨_, rfl⟩
      replace hq := hq v12 ev12
      refine hp_iinc (lv' := [(0, .ref (ad 64)), (1, .int a1), (2, .int v12), (3, .int v5), (4, .int v9)]) E 2 v12 dX0_keyByMoves_102 rfl (by rw [ev12]; rfl) (by decide) rfl rfl ?_
      refine hp_goto E 2 dX0_keyByMoves_105 (by decide) ?_
      refine hp_sub (lv' := [(0, .ref (ad 64)), (1, .int a1), (2, .int v12)]) [0, 1, 2] rfl ?_
      exact hB1 _ _ hq
    · replace hq := hq.2 c11
      refine hp_aload_n E 0 dX0_keyByMoves_57 rfl rfl ?_
      refine hp_gM E g_RX0_11 fB_64_2 dX0_keyByMoves_58 ?_
      refine hp_topw (fun w13 ew13 => ?_)
      replace hq := hq w13 ew13
      have ow13 := hq.1
      replace hq := hq.2
      refine hp_aload_n E 0 dX0_keyByMoves_61 rfl rfl ?_
      refine hp_gR E g_RX0_33 fB_64_3 dX0_keyByMoves_62 ?_
      refine hp_gR E g_RX0_94 fB_35_9 dX0_keyByMoves_65 ?_
      refine hp_iload E 4 dX0_keyByMoves_68 rfl ?_
      refine hp_iald E 37 aB_37 hq.1 dX0_keyByMoves_70 ?_
      replace hq := hq.2
      refine hp_iald E w13 (pw_a ow13) hq.1 dX0_keyByMoves_71 ?_
      replace hq := hq.2
      refine hp_topi (fun v14 ev14 => ?_)
      replace hq := hq v14 ev14
      refine hp_istore (lv' := [(0, .ref (ad 64)), (1, .int a1), (2, .int v2), (3, .int v5), (4, .int v9), (5, .int v14)]) E dX0_keyByMoves_72 (by decide) rfl rfl ?_
      refine hp_aload_n E 0 dX0_keyByMoves_74 rfl rfl ?_
      refine hp_gR E g_RX0_18 fB_64_6 dX0_keyByMoves_75 ?_
      refine hp_iload_n E 3 dX0_keyByMoves_78 rfl rfl ?_
      refine hp_iload E 5 dX0_keyByMoves_79 rfl ?_
      refine hp_bipush E (nI 32) dX0_keyByMoves_81 (by decide) ?_
      refine hp_idiv E (by decide) dX0_keyByMoves_83 ?_
      refine hp_iadd E dX0_keyByMoves_84 ?_
      refine hp_dup2 E rfl rfl dX0_keyByMoves_85 ?_
      refine hp_iald E 67 aB_67 hq.1 dX0_keyByMoves_86 ?_
      replace hq := hq.2
      refine hp_iconst E (nI 1) dX0_keyByMoves_87 (by decide) ?_
      refine hp_iload E 5 dX0_keyByMoves_88 rfl ?_
      refine hp_bipush E (nI 32) dX0_keyByMoves_90 (by decide) ?_
      refine hp_irem E (by decide) dX0_keyByMoves_92 ?_
      refine hp_ishl E dX0_keyByMoves_93 ?_
      refine hp_ior E dX0_keyByMoves_94 ?_
      have hin := hq.1
      replace hq := hq.2
      refine hp_iast E 67 aB_67 zB_67 hJ hin dX0_keyByMoves_95 ?_
      refine hp_toph (fun h15 eh15 => ?_)
      replace hq := hq h15 eh15
      obtain ⟨v16, ev16⟩ : ∃ z : Int32, z = v9 + (nI 1) := ⟨_, rfl⟩
      replace hq := hq v16 ev16
      refine hp_iinc (lv' := [(0, .ref (ad 64)), (1, .int a1), (2, .int v2), (3, .int v5), (4, .int v16), (5, .int v14)]) E 4 v16 dX0_keyByMoves_96 rfl (by rw [ev16]; rfl) (by decide) rfl rfl ?_
      refine hp_goto E 41 dX0_keyByMoves_99 (by decide) ?_
      refine hp_sub (lv' := [(0, .ref (ad 64)), (1, .int a1), (2, .int v2), (3, .int v5), (4, .int v16)]) [0, 1, 2, 3, 4] rfl ?_
      exact hB8 _ _ hq
theorem dX0_makeSure_0 : decode cX0_makeSure 0 = .ok (.aload_n 0, 1) := by decide +kernel
theorem dX0_makeSure_1 : decode cX0_makeSure 1 = .ok (.getfield 45, 3) := by decide +kernel
theorem dX0_makeSure_4 : decode cX0_makeSure 4 = .ok (.ifCond .eq 4, 3) := by decide +kernel
theorem dX0_makeSure_7 : decode cX0_makeSure 7 = .ok (.return_, 1) := by decide +kernel
theorem dX0_makeSure_8 : decode cX0_makeSure 8 = .ok (.aload_n 0, 1) := by decide +kernel
theorem dX0_makeSure_9 : decode cX0_makeSure 9 = .ok (.getfield 11, 3) := by decide +kernel
theorem dX0_makeSure_12 : decode cX0_makeSure 12 = .ok (.iconst 0, 1) := by decide +kernel
theorem dX0_makeSure_13 : decode cX0_makeSure 13 = .ok (.invokestatic 49, 3) := by decide +kernel
theorem dX0_makeSure_16 : decode cX0_makeSure 16 = .ok (.aload_n 0, 1) := by decide +kernel
theorem dX0_makeSure_17 : decode cX0_makeSure 17 = .ok (.iconst 1, 1) := by decide +kernel
theorem dX0_makeSure_18 : decode cX0_makeSure 18 = .ok (.putfield 55, 3) := by decide +kernel
theorem dX0_makeSure_21 : decode cX0_makeSure 21 = .ok (.aload_n 0, 1) := by decide +kernel
theorem dX0_makeSure_22 : decode cX0_makeSure 22 = .ok (.invokevirtual 58, 3) := by decide +kernel
theorem dX0_makeSure_25 : decode cX0_makeSure 25 = .ok (.aload_n 0, 1) := by decide +kernel
theorem dX0_makeSure_26 : decode cX0_makeSure 26 = .ok (.aload_n 0, 1) := by decide +kernel
theorem dX0_makeSure_27 : decode cX0_makeSure 27 = .ok (.getfield 41, 3) := by decide +kernel
theorem dX0_makeSure_30 : decode cX0_makeSure 30 = .ok (.invokevirtual 61, 3) := by decide +kernel
theorem dX0_makeSure_33 : decode cX0_makeSure 33 = .ok (.iconst 1, 1) := by decide +kernel
theorem dX0_makeSure_34 : decode cX0_makeSure 34 = .ok (.istore_n 1, 1) := by decide +kernel
theorem dX0_makeSure_35 : decode cX0_makeSure 35 = .ok (.iconst 0, 1) := by decide +kernel
theorem dX0_makeSure_36 : decode cX0_makeSure 36 = .ok (.istore_n 2, 1) := by decide +kernel
theorem dX0_makeSure_37 : decode cX0_makeSure 37 = .ok (.iload_n 2, 1) := by decide +kernel
theorem dX0_makeSure_38 : decode cX0_makeSure 38 = .ok (.sipush 400, 3) := by decide +kernel
theorem dX0_makeSure_41 : decode cX0_makeSure 41 = .ok (.if_icmp .gt 58, 3) := by decide +kernel
theorem dX0_makeSure_44 : decode cX0_makeSure 44 = .ok (.iload_n 1, 1) := by decide +kernel
theorem dX0_makeSure_45 : decode cX0_makeSure 45 = .ok (.ifCond .eq 54, 3) := by decide +kernel
theorem dX0_makeSure_48 : decode cX0_makeSure 48 = .ok (.aload_n 0, 1) := by decide +kernel
theorem dX0_makeSure_49 : decode cX0_makeSure 49 = .ok (.getfield 55, 3) := by decide +kernel
theorem dX0_makeSure_52 : decode cX0_makeSure 52 = .ok (.istore_n 3, 1) := by decide +kernel
theorem dX0_makeSure_53 : decode cX0_makeSure 53 = .ok (.aload_n 0, 1) := by decide +kernel
theorem dX0_makeSure_54 : decode cX0_makeSure 54 = .ok (.getfield 55, 3) := by decide +kernel
theorem dX0_makeSure_57 : decode cX0_makeSure 57 = .ok (.bipush 32, 2) := by decide +kernel
theorem dX0_makeSure_59 : decode cX0_makeSure 59 = .ok (.iadd, 1) := by decide +kernel
theorem dX0_makeSure_60 : decode cX0_makeSure 60 = .ok (.iconst 1, 1) := by decide +kernel
theorem dX0_makeSure_61 : decode cX0_makeSure 61 = .ok (.isub, 1) := by decide +kernel
theorem dX0_makeSure_62 : decode cX0_makeSure 62 = .ok (.bipush 32, 2) := by decide +kernel
theorem dX0_makeSure_64 : decode cX0_makeSure 64 = .ok (.idiv, 1) := by decide +kernel
theorem dX0_makeSure_65 : decode cX0_makeSure 65 = .ok (.istore 4, 2) := by decide +kernel
theorem dX0_makeSure_67 : decode cX0_makeSure 67 = .ok (.aload_n 0, 1) := by decide +kernel
theorem dX0_makeSure_68 : decode cX0_makeSure 68 = .ok (.iload 4, 2) := by decide +kernel
theorem dX0_makeSure_70 : decode cX0_makeSure 70 = .ok (.invokevirtual 65, 3) := by decide +kernel
theorem dX0_makeSure_73 : decode cX0_makeSure 73 = .ok (.aload_n 0, 1) := by decide +kernel
theorem dX0_makeSure_74 : decode cX0_makeSure 74 = .ok (.iload 4, 2) := by decide +kernel
theorem dX0_makeSure_76 : decode cX0_makeSure 76 = .ok (.invokevirtual 61, 3) := by decide +kernel
theorem dX0_makeSure_79 : decode cX0_makeSure 79 = .ok (.aload_n 0, 1) := by decide +kernel
theorem dX0_makeSure_80 : decode cX0_makeSure 80 = .ok (.getfield 55, 3) := by decide +kernel
theorem dX0_makeSure_83 : decode cX0_makeSure 83 = .ok (.iload_n 3, 1) := by decide +kernel
theorem dX0_makeSure_84 : decode cX0_makeSure 84 = .ok (.if_icmp .le 7, 3) := by decide +kernel
theorem dX0_makeSure_87 : decode cX0_makeSure 87 = .ok (.iconst 1, 1) := by decide +kernel
theorem dX0_makeSure_88 : decode cX0_makeSure 88 = .ok (.goto 4, 3) := by decide +kernel
theorem dX0_makeSure_91 : decode cX0_makeSure 91 = .ok (.iconst 0, 1) := by decide +kernel
theorem dX0_makeSure_92 : decode cX0_makeSure 92 = .ok (.istore_n 1, 1) := by decide +kernel
theorem dX0_makeSure_93 : decode cX0_makeSure 93 = .ok (.iinc 2 1, 3) := by decide +kernel
theorem dX0_makeSure_96 : decode cX0_makeSure 96 = .ok (.goto (-59), 3) := by decide +kernel
theorem dX0_makeSure_99 : decode cX0_makeSure 99 = .ok (.aload_n 0, 1) := by decide +kernel
theorem dX0_makeSure_100 : decode cX0_makeSure 100 = .ok (.iconst 1, 1) := by decide +kernel
theorem dX0_makeSure_101 : decode cX0_makeSure 101 = .ok (.putfield 45, 3) := by decide +kernel
theorem dX0_makeSure_104 : decode cX0_makeSure 104 = .ok (.return_, 1) := by decide +kernel
set_option maxHeartbeats 4000000 in
set_option maxRecDepth 100000 in
theorem c_X0_makeSure (l : Launch) {cs : Nat → ClassId} {ad : Nat → Nat} {A : Nat → Prop} {D : va_G} (hJ : hp_J SB ad A)   {h : hp_H} {Q : hp_H → Prop} (hq : q_X0_makeSure h Q) : hp_Mv l yX0_makeSure cX0_makeSure 5 none rm_X0_makeSure [.ref (ad 64)] SB cs ad A D h Q := by
  refine hp_met (own := RX0) rfl (by decide) (Nat.le_of_ble_eq_true rfl) rfl (fun p e s m args below meth c Z E hZ hnm => ?_)
  refine hp_sub (lv' := [(0, .ref (ad 64))]) [0] rfl ?_
  unfold q_X0_makeSure at hq
  refine hp_aload_n E 0 dX0_makeSure_0 rfl rfl ?_
  refine hp_gI E g_RX0_45 fB_64_11 dX0_makeSure_1 ?_
  refine hp_if_eq E 8 dX0_makeSure_4 (by decide) (fun c1 => ?_) (fun c1 => ?_)
  · replace hq := hq.1 c1
    refine hp_aload_n E 0 dX0_makeSure_8 rfl rfl ?_
    refine hp_gM E g_RX0_11 fB_64_2 dX0_makeSure_9 ?_
    refine hp_topw (fun w2 ew2 => ?_)
    replace hq := hq w2 ew2
    have ow2 := hq.1
    replace hq := hq.2
    refine hp_iconst E (nI 0) dX0_makeSure_12 (by decide) ?_
    refine hp_callSv (rest := []) E (c_J7_fill_53178 l hJ (pw_a ow2) (pw_z ow2) hq) F_J7_fill_53178 m_RX0_49 ⟨rfl, rfl⟩ ⟨Nat.le_of_ble_eq_true rfl, Nat.le_of_ble_eq_true rfl⟩ ⟨Nat.zero_le _, Nat.zero_le _⟩ rfl rfl (Nat.le_of_ble_eq_true rfl) dX0_makeSure_13 (fun h3 hq => ?_)
    refine hp_aload_n E 0 dX0_makeSure_16 rfl rfl ?_
    refine hp_iconst E (nI 1) dX0_makeSure_17 (by decide) ?_
    refine hp_pI E p_RX0_55 fB_64_1 (by decide) hJ dX0_makeSure_18 ?_
    refine hp_toph (fun h4 eh4 => ?_)
    replace hq := hq h4 eh4
    refine hp_aload_n E 0 dX0_makeSure_21 rfl rfl ?_
    refine hp_callVv' (rest := []) E 64 fB_64_0 vcl_0 (c_X0_keyByObserved l hJ hq) F_X0_keyByObserved m_RX0_58 ⟨rfl, rfl⟩ ⟨Nat.le_of_ble_eq_true rfl, Nat.le_of_ble_eq_true rfl⟩ ⟨Nat.zero_le _, Nat.zero_le _⟩ rfl rfl (Nat.le_of_ble_eq_true rfl) dX0_makeSure_22 (fun h5 hq => ?_)
    refine hp_aload_n E 0 dX0_makeSure_25 rfl rfl ?_
    refine hp_aload_n E 0 dX0_makeSure_26 rfl rfl ?_
    refine hp_gI E g_RX0_41 fB_64_0 dX0_makeSure_27 ?_
    refine hp_callVv' (rest := []) E 64 fB_64_0 vcl_0 (c_X0_split l hJ hq) F_X0_split m_RX0_61 ⟨rfl, rfl⟩ ⟨Nat.le_of_ble_eq_true rfl, Nat.le_of_ble_eq_true rfl⟩ ⟨Nat.zero_le _, Nat.zero_le _⟩ rfl rfl (Nat.le_of_ble_eq_true rfl) dX0_makeSure_30 (fun h6 hq => ?_)
    refine hp_iconst E (nI 1) dX0_makeSure_33 (by decide) ?_
    refine hp_istore_n (lv' := [(0, .ref (ad 64)), (1, .int (nI 1))]) E dX0_makeSure_34 rfl (by decide) rfl rfl ?_
    refine hp_iconst E (nI 0) dX0_makeSure_35 (by decide) ?_
    refine hp_istore_n (lv' := [(0, .ref (ad 64)), (1, .int (nI 1)), (2, .int (nI 0))]) E dX0_makeSure_36 rfl (by decide) rfl rfl ?_
    refine hq (fun v8 v9 h10 => hp_G p l e rm_X0_makeSure s m args below meth c SB cs ad A D 5 0 0 Z 37 [(0, .ref (ad 64)), (1, .int v8), (2, .int v9)] [] h10) (fun v8 v9 h10 hB => ?_)
    obtain ⟨B7, hq, hB7⟩ := hB
    refine hp_iload_n E 2 dX0_makeSure_37 rfl rfl ?_
    refine hp_sipush E (nI 400) dX0_makeSure_38 (by decide) ?_
    refine hp_icmp_gt E 99 dX0_makeSure_41 (by decide) (fun c11 => ?_) (fun c11 => ?_)
    · replace hq := hq.1 c11
      refine hp_aload_n E 0 dX0_makeSure_99 rfl rfl ?_
      refine hp_iconst E (nI 1) dX0_makeSure_100 (by decide) ?_
      refine hp_pZ E p_RX0_45 fB_64_11 (by decide) hJ (by unfold hp_bz; decide) dX0_makeSure_101 ?_
      refine hp_toph (fun h12 eh12 => ?_)
      replace hq := hq h12 eh12
      exact hp_vret E hq hZ dX0_makeSure_104
    · replace hq := hq.2 c11
      refine hp_iload_n E 1 dX0_makeSure_44 rfl rfl ?_
      refine hp_if_eq E 99 dX0_makeSure_45 (by decide) (fun c13 => ?_) (fun c13 => ?_)
      · replace hq := hq.1 c13
        refine hp_aload_n E 0 dX0_makeSure_99 rfl rfl ?_
        refine hp_iconst E (nI 1) dX0_makeSure_100 (by decide) ?_
        refine hp_pZ E p_RX0_45 fB_64_11 (by decide) hJ (by unfold hp_bz; decide) dX0_makeSure_101 ?_
        refine hp_toph (fun h14 eh14 => ?_)
        replace hq := hq h14 eh14
        exact hp_vret E hq hZ dX0_makeSure_104
      · replace hq := hq.2 c13
        refine hp_aload_n E 0 dX0_makeSure_48 rfl rfl ?_
        refine hp_gI E g_RX0_55 fB_64_1 dX0_makeSure_49 ?_
        refine hp_topi (fun v15 ev15 => ?_)
        replace hq := hq v15 ev15
        refine hp_istore_n (lv' := [(0, .ref (ad 64)), (1, .int v8), (2, .int v9), (3, .int v15)]) E dX0_makeSure_52 rfl (by decide) rfl rfl ?_
        refine hp_aload_n E 0 dX0_makeSure_53 rfl rfl ?_
        refine hp_gI E g_RX0_55 fB_64_1 dX0_makeSure_54 ?_
        refine hp_bipush E (nI 32) dX0_makeSure_57 (by decide) ?_
        refine hp_iadd E dX0_makeSure_59 ?_
        refine hp_iconst E (nI 1) dX0_makeSure_60 (by decide) ?_
        refine hp_isub E dX0_makeSure_61 ?_
        refine hp_bipush E (nI 32) dX0_makeSure_62 (by decide) ?_
        refine hp_idiv E (by decide) dX0_makeSure_64 ?_
        refine hp_topi (fun v16 ev16 => ?_)
        replace hq := hq v16 ev16
        refine hp_istore (lv' := [(0, .ref (ad 64)), (1, .int v8), (2, .int v9), (3, .int v15), (4, .int v16)]) E dX0_makeSure_65 (by decide) rfl rfl ?_
        refine hp_aload_n E 0 dX0_makeSure_67 rfl rfl ?_
        refine hp_iload E 4 dX0_makeSure_68 rfl ?_
        refine hp_callVv' (rest := []) E 64 fB_64_0 vcl_0 (c_X0_keyByMoves l hJ hq) F_X0_keyByMoves m_RX0_65 ⟨rfl, rfl⟩ ⟨Nat.le_of_ble_eq_true rfl, Nat.le_of_ble_eq_true rfl⟩ ⟨Nat.zero_le _, Nat.zero_le _⟩ rfl rfl (Nat.le_of_ble_eq_true rfl) dX0_makeSure_70 (fun h17 hq => ?_)
        refine hp_aload_n E 0 dX0_makeSure_73 rfl rfl ?_
        refine hp_iload E 4 dX0_makeSure_74 rfl ?_
        refine hp_callVv' (rest := []) E 64 fB_64_0 vcl_0 (c_X0_split l hJ hq) F_X0_split m_RX0_61 ⟨rfl, rfl⟩ ⟨Nat.le_of_ble_eq_true rfl, Nat.le_of_ble_eq_true rfl⟩ ⟨Nat.zero_le _, Nat.zero_le _⟩ rfl rfl (Nat.le_of_ble_eq_true rfl) dX0_makeSure_76 (fun h18 hq => ?_)
        refine hp_aload_n E 0 dX0_makeSure_79 rfl rfl ?_
        refine hp_gI E g_RX0_55 fB_64_1 dX0_makeSure_80 ?_
        refine hp_iload_n E 3 dX0_makeSure_83 rfl rfl ?_
        obtain ⟨K20, hq, hK20⟩ := hq
        have jK20 : ∀ (v21 : Int32), K20 v21 → hp_G p l e rm_X0_makeSure s m args below meth c SB cs ad A D 5 0 0 Z 92 [(0, .ref (ad 64)), (2, .int v9)] [.int v21] h18 := by
          intro v21 hq
          replace hq := hK20 v21 hq
          refine hp_istore_n (lv' := [(0, .ref (ad 64)), (1, .int v21), (2, .int v9)]) E dX0_makeSure_92 rfl (by decide) rfl rfl ?_
          obtain ⟨v22, ev22⟩ : ∃ z : Int32, z = v9 + (nI 1) := ⟨_, rfl⟩
          replace hq := hq v22 ev22
          refine hp_iinc (lv' := [(0, .ref (ad 64)), (1, .int v21), (2, .int v22)]) E 2 v22 dX0_makeSure_93 rfl (by rw [ev22]; rfl) (by decide) rfl rfl ?_
          refine hp_goto E 37 dX0_makeSure_96 (by decide) ?_
          exact hB7 _ _ _ hq
        refine hp_icmp_le E 91 dX0_makeSure_84 (by decide) (fun c19 => ?_) (fun c19 => ?_)
        · replace hq := hq.1 c19
          refine hp_iconst E (nI 0) dX0_makeSure_91 (by decide) ?_
          refine hp_sub (lv' := [(0, .ref (ad 64)), (2, .int v9)]) [0, 2] rfl ?_
          exact jK20 _ hq
        · replace hq := hq.2 c19
          refine hp_iconst E (nI 1) dX0_makeSure_87 (by decide) ?_
          refine hp_goto E 92 dX0_makeSure_88 (by decide) ?_
          refine hp_sub (lv' := [(0, .ref (ad 64)), (2, .int v9)]) [0, 2] rfl ?_
          exact jK20 _ hq
  · replace hq := hq.2 c1
    exact hp_vret E hq hZ dX0_makeSure_7
theorem dX1_has_0 : decode cX1_has 0 = .ok (.iload_n 1, 1) := by decide +kernel
theorem dX1_has_1 : decode cX1_has 1 = .ok (.ifCond .lt 15, 3) := by decide +kernel
theorem dX1_has_4 : decode cX1_has 4 = .ok (.iload_n 1, 1) := by decide +kernel
theorem dX1_has_5 : decode cX1_has 5 = .ok (.aload_n 0, 1) := by decide +kernel
theorem dX1_has_6 : decode cX1_has 6 = .ok (.getfield 38, 3) := by decide +kernel
theorem dX1_has_9 : decode cX1_has 9 = .ok (.if_icmp .ge 7, 3) := by decide +kernel
theorem dX1_has_12 : decode cX1_has 12 = .ok (.iconst 1, 1) := by decide +kernel
theorem dX1_has_13 : decode cX1_has 13 = .ok (.goto 4, 3) := by decide +kernel
theorem dX1_has_16 : decode cX1_has 16 = .ok (.iconst 0, 1) := by decide +kernel
theorem dX1_has_17 : decode cX1_has 17 = .ok (.ireturn, 1) := by decide +kernel
set_option maxHeartbeats 4000000 in
set_option maxRecDepth 100000 in
theorem c_X1_has (l : Launch) {cs : Nat → ClassId} {ad : Nat → Nat} {A : Nat → Prop} {D : va_G} (hJ : hp_J SB ad A)   {h : hp_H} {a1 : Int32} {Q : Int32 → Prop} (hq : q_X1_has h a1 Q) : hp_Mi l yX1_has cX1_has 2 (some .boolean) rm_X1_has [.ref (ad 15), .int a1] SB cs ad A D h (fun r h' => Q r ∧ h' = h) := by
  refine hp_met (own := RX1) rfl (by decide) (Nat.le_of_ble_eq_true rfl) rfl (fun p e s m args below meth c Z E hZ hnm => ?_)
  refine hp_sub (lv' := [(0, .ref (ad 15)), (1, .int a1)]) [0, 1] rfl ?_
  unfold q_X1_has at hq
  refine hp_iload_n E 1 dX1_has_0 rfl rfl ?_
  refine hp_if_lt E 16 dX1_has_1 (by decide) (fun c1 => ?_) (fun c1 => ?_)
  · replace hq := hq.1 c1
    refine hp_iconst E (nI 0) dX1_has_16 (by decide) ?_
    exact hp_zret E (by unfold hp_bz; decide) ⟨hq, rfl⟩ hZ dX1_has_17
  · replace hq := hq.2 c1
    refine hp_iload_n E 1 dX1_has_4 rfl rfl ?_
    refine hp_aload_n E 0 dX1_has_5 rfl rfl ?_
    refine hp_gI E g_RX1_38 fB_15_1 dX1_has_6 ?_
    refine hp_icmp_ge E 16 dX1_has_9 (by decide) (fun c2 => ?_) (fun c2 => ?_)
    · replace hq := hq.1 c2
      refine hp_iconst E (nI 0) dX1_has_16 (by decide) ?_
      exact hp_zret E (by unfold hp_bz; decide) ⟨hq, rfl⟩ hZ dX1_has_17
    · replace hq := hq.2 c2
      refine hp_iconst E (nI 1) dX1_has_12 (by decide) ?_
      refine hp_goto E 17 dX1_has_13 (by decide) ?_
      exact hp_zret E (by unfold hp_bz; decide) ⟨hq, rfl⟩ hZ dX1_has_17
theorem dX1_isOwned_0 : decode cX1_isOwned 0 = .ok (.aload_n 0, 1) := by decide +kernel
theorem dX1_isOwned_1 : decode cX1_isOwned 1 = .ok (.getfield 30, 3) := by decide +kernel
theorem dX1_isOwned_4 : decode cX1_isOwned 4 = .ok (.iload_n 1, 1) := by decide +kernel
theorem dX1_isOwned_5 : decode cX1_isOwned 5 = .ok (.baload, 1) := by decide +kernel
theorem dX1_isOwned_6 : decode cX1_isOwned 6 = .ok (.ireturn, 1) := by decide +kernel
set_option maxHeartbeats 4000000 in
set_option maxRecDepth 100000 in
theorem c_X1_isOwned (l : Launch) {cs : Nat → ClassId} {ad : Nat → Nat} {A : Nat → Prop} {D : va_G} (hJ : hp_J SB ad A)   {h : hp_H} {a1 : Int32} {Q : Int32 → Prop} (hq : q_X1_isOwned h a1 Q) : hp_Mi l yX1_isOwned cX1_isOwned 2 (some .boolean) rm_X1_isOwned [.ref (ad 15), .int a1] SB cs ad A D h (fun r h' => Q r ∧ h' = h) := by
  refine hp_met (own := RX1) rfl (by decide) (Nat.le_of_ble_eq_true rfl) rfl (fun p e s m args below meth c Z E hZ hnm => ?_)
  refine hp_sub (lv' := [(0, .ref (ad 15)), (1, .int a1)]) [0, 1] rfl ?_
  unfold q_X1_isOwned at hq
  refine hp_aload_n E 0 dX1_isOwned_0 rfl rfl ?_
  refine hp_gR E g_RX1_30 fB_15_8 dX1_isOwned_1 ?_
  refine hp_iload_n E 1 dX1_isOwned_4 rfl rfl ?_
  refine hp_zald E 22 aB_22 hq.1 dX1_isOwned_5 ?_
  replace hq := hq.2
  have hbz := hq.1
  replace hq := hq.2
  exact hp_zret E hbz ⟨hq, rfl⟩ hZ dX1_isOwned_6
theorem dX1_tellsMembersApart_0 : decode cX1_tellsMembersApart 0 = .ok (.aload_n 0, 1) := by decide +kernel
theorem dX1_tellsMembersApart_1 : decode cX1_tellsMembersApart 1 = .ok (.getfield 42, 3) := by decide +kernel
theorem dX1_tellsMembersApart_4 : decode cX1_tellsMembersApart 4 = .ok (.ireturn, 1) := by decide +kernel
set_option maxHeartbeats 4000000 in
set_option maxRecDepth 100000 in
theorem c_X1_tellsMembersApart (l : Launch) {cs : Nat → ClassId} {ad : Nat → Nat} {A : Nat → Prop} {D : va_G} (hJ : hp_J SB ad A)   {h : hp_H} {Q : Int32 → Prop} (hq : q_X1_tellsMembersApart h Q) : hp_Mi l yX1_tellsMembersApart cX1_tellsMembersApart 1 (some .boolean) rm_X1_tellsMembersApart [.ref (ad 15)] SB cs ad A D h (fun r h' => Q r ∧ h' = h) := by
  refine hp_met (own := RX1) rfl (by decide) (Nat.le_of_ble_eq_true rfl) rfl (fun p e s m args below meth c Z E hZ hnm => ?_)
  refine hp_sub (lv' := [(0, .ref (ad 15))]) [0] rfl ?_
  unfold q_X1_tellsMembersApart at hq
  refine hp_aload_n E 0 dX1_tellsMembersApart_0 rfl rfl ?_
  refine hp_gI E g_RX1_42 fB_15_9 dX1_tellsMembersApart_1 ?_
  have hbz := hq.1
  replace hq := hq.2
  exact hp_zret E hbz ⟨hq, rfl⟩ hZ dX1_tellsMembersApart_4
theorem dX1_add_0 : decode cX1_add 0 = .ok (.aload_n 0, 1) := by decide +kernel
theorem dX1_add_1 : decode cX1_add 1 = .ok (.getfield 15, 3) := by decide +kernel
theorem dX1_add_4 : decode cX1_add 4 = .ok (.aload_n 0, 1) := by decide +kernel
theorem dX1_add_5 : decode cX1_add 5 = .ok (.getfield 38, 3) := by decide +kernel
theorem dX1_add_8 : decode cX1_add 8 = .ok (.iload_n 1, 1) := by decide +kernel
theorem dX1_add_9 : decode cX1_add 9 = .ok (.iastore, 1) := by decide +kernel
theorem dX1_add_10 : decode cX1_add 10 = .ok (.aload_n 0, 1) := by decide +kernel
theorem dX1_add_11 : decode cX1_add 11 = .ok (.getfield 18, 3) := by decide +kernel
theorem dX1_add_14 : decode cX1_add 14 = .ok (.aload_n 0, 1) := by decide +kernel
theorem dX1_add_15 : decode cX1_add 15 = .ok (.getfield 38, 3) := by decide +kernel
theorem dX1_add_18 : decode cX1_add 18 = .ok (.iload_n 2, 1) := by decide +kernel
theorem dX1_add_19 : decode cX1_add 19 = .ok (.iastore, 1) := by decide +kernel
theorem dX1_add_20 : decode cX1_add 20 = .ok (.aload_n 0, 1) := by decide +kernel
theorem dX1_add_21 : decode cX1_add 21 = .ok (.getfield 21, 3) := by decide +kernel
theorem dX1_add_24 : decode cX1_add 24 = .ok (.aload_n 0, 1) := by decide +kernel
theorem dX1_add_25 : decode cX1_add 25 = .ok (.getfield 38, 3) := by decide +kernel
theorem dX1_add_28 : decode cX1_add 28 = .ok (.iload_n 3, 1) := by decide +kernel
theorem dX1_add_29 : decode cX1_add 29 = .ok (.iastore, 1) := by decide +kernel
theorem dX1_add_30 : decode cX1_add 30 = .ok (.aload_n 0, 1) := by decide +kernel
theorem dX1_add_31 : decode cX1_add 31 = .ok (.getfield 24, 3) := by decide +kernel
theorem dX1_add_34 : decode cX1_add 34 = .ok (.aload_n 0, 1) := by decide +kernel
theorem dX1_add_35 : decode cX1_add 35 = .ok (.getfield 38, 3) := by decide +kernel
theorem dX1_add_38 : decode cX1_add 38 = .ok (.iload 4, 2) := by decide +kernel
theorem dX1_add_40 : decode cX1_add 40 = .ok (.iastore, 1) := by decide +kernel
theorem dX1_add_41 : decode cX1_add 41 = .ok (.aload_n 0, 1) := by decide +kernel
theorem dX1_add_42 : decode cX1_add 42 = .ok (.getfield 30, 3) := by decide +kernel
theorem dX1_add_45 : decode cX1_add 45 = .ok (.aload_n 0, 1) := by decide +kernel
theorem dX1_add_46 : decode cX1_add 46 = .ok (.getfield 38, 3) := by decide +kernel
theorem dX1_add_49 : decode cX1_add 49 = .ok (.iload_n 1, 1) := by decide +kernel
theorem dX1_add_50 : decode cX1_add 50 = .ok (.iconst 2, 1) := by decide +kernel
theorem dX1_add_51 : decode cX1_add 51 = .ok (.if_icmp .eq 40, 3) := by decide +kernel
theorem dX1_add_54 : decode cX1_add 54 = .ok (.iload_n 1, 1) := by decide +kernel
theorem dX1_add_55 : decode cX1_add 55 = .ok (.iconst 3, 1) := by decide +kernel
theorem dX1_add_56 : decode cX1_add 56 = .ok (.if_icmp .eq 35, 3) := by decide +kernel
theorem dX1_add_59 : decode cX1_add 59 = .ok (.iload_n 1, 1) := by decide +kernel
theorem dX1_add_60 : decode cX1_add 60 = .ok (.invokestatic 46, 3) := by decide +kernel
theorem dX1_add_63 : decode cX1_add 63 = .ok (.ifCond .eq 12, 3) := by decide +kernel
theorem dX1_add_66 : decode cX1_add 66 = .ok (.aload_n 0, 1) := by decide +kernel
theorem dX1_add_67 : decode cX1_add 67 = .ok (.getfield 30, 3) := by decide +kernel
theorem dX1_add_70 : decode cX1_add 70 = .ok (.iload_n 2, 1) := by decide +kernel
theorem dX1_add_71 : decode cX1_add 71 = .ok (.baload, 1) := by decide +kernel
theorem dX1_add_72 : decode cX1_add 72 = .ok (.ifCond .ne 19, 3) := by decide +kernel
theorem dX1_add_75 : decode cX1_add 75 = .ok (.iload_n 1, 1) := by decide +kernel
theorem dX1_add_76 : decode cX1_add 76 = .ok (.invokestatic 50, 3) := by decide +kernel
theorem dX1_add_79 : decode cX1_add 79 = .ok (.ifCond .eq 16, 3) := by decide +kernel
theorem dX1_add_82 : decode cX1_add 82 = .ok (.aload_n 0, 1) := by decide +kernel
theorem dX1_add_83 : decode cX1_add 83 = .ok (.getfield 30, 3) := by decide +kernel
theorem dX1_add_86 : decode cX1_add 86 = .ok (.iload_n 3, 1) := by decide +kernel
theorem dX1_add_87 : decode cX1_add 87 = .ok (.baload, 1) := by decide +kernel
theorem dX1_add_88 : decode cX1_add 88 = .ok (.ifCond .eq 7, 3) := by decide +kernel
theorem dX1_add_91 : decode cX1_add 91 = .ok (.iconst 1, 1) := by decide +kernel
theorem dX1_add_92 : decode cX1_add 92 = .ok (.goto 4, 3) := by decide +kernel
theorem dX1_add_95 : decode cX1_add 95 = .ok (.iconst 0, 1) := by decide +kernel
theorem dX1_add_96 : decode cX1_add 96 = .ok (.bastore, 1) := by decide +kernel
theorem dX1_add_97 : decode cX1_add 97 = .ok (.iload_n 1, 1) := by decide +kernel
theorem dX1_add_98 : decode cX1_add 98 = .ok (.iconst 3, 1) := by decide +kernel
theorem dX1_add_99 : decode cX1_add 99 = .ok (.if_icmp .eq 9, 3) := by decide +kernel
theorem dX1_add_102 : decode cX1_add 102 = .ok (.iload_n 1, 1) := by decide +kernel
theorem dX1_add_103 : decode cX1_add 103 = .ok (.bipush 6, 2) := by decide +kernel
theorem dX1_add_105 : decode cX1_add 105 = .ok (.if_icmp .ne 8, 3) := by decide +kernel
theorem dX1_add_108 : decode cX1_add 108 = .ok (.aload_n 0, 1) := by decide +kernel
theorem dX1_add_109 : decode cX1_add 109 = .ok (.iconst 1, 1) := by decide +kernel
theorem dX1_add_110 : decode cX1_add 110 = .ok (.putfield 42, 3) := by decide +kernel
theorem dX1_add_113 : decode cX1_add 113 = .ok (.aload_n 0, 1) := by decide +kernel
theorem dX1_add_114 : decode cX1_add 114 = .ok (.dup, 1) := by decide +kernel
theorem dX1_add_115 : decode cX1_add 115 = .ok (.getfield 38, 3) := by decide +kernel
theorem dX1_add_118 : decode cX1_add 118 = .ok (.dup_x1, 1) := by decide +kernel
theorem dX1_add_119 : decode cX1_add 119 = .ok (.iconst 1, 1) := by decide +kernel
theorem dX1_add_120 : decode cX1_add 120 = .ok (.iadd, 1) := by decide +kernel
theorem dX1_add_121 : decode cX1_add 121 = .ok (.putfield 38, 3) := by decide +kernel
theorem dX1_add_124 : decode cX1_add 124 = .ok (.ireturn, 1) := by decide +kernel
set_option maxHeartbeats 4000000 in
set_option maxRecDepth 100000 in
theorem c_X1_add (l : Launch) {cs : Nat → ClassId} {ad : Nat → Nat} {A : Nat → Prop} {D : va_G} (hJ : hp_J SB ad A)   {h : hp_H} {a1 a2 a3 a4 : Int32} {Q : Int32 → hp_H → Prop} (hq : q_X1_add h a1 a2 a3 a4 Q) : hp_Mi l yX1_add cX1_add 5 (some .int) rm_X1_add [.ref (ad 15), .int a1, .int a2, .int a3, .int a4] SB cs ad A D h Q := by
  refine hp_met (own := RX1) rfl (by decide) (Nat.le_of_ble_eq_true rfl) rfl (fun p e s m args below meth c Z E hZ hnm => ?_)
  refine hp_sub (lv' := [(0, .ref (ad 15)), (1, .int a1), (2, .int a2), (3, .int a3), (4, .int a4)]) [0, 1, 2, 3, 4] rfl ?_
  unfold q_X1_add at hq
  refine hp_aload_n E 0 dX1_add_0 rfl rfl ?_
  refine hp_gR E g_RX1_15 fB_15_3 dX1_add_1 ?_
  refine hp_aload_n E 0 dX1_add_4 rfl rfl ?_
  refine hp_gI E g_RX1_38 fB_15_1 dX1_add_5 ?_
  refine hp_iload_n E 1 dX1_add_8 rfl rfl ?_
  have hin := hq.1
  replace hq := hq.2
  refine hp_iast E 17 aB_17 zB_17 hJ hin dX1_add_9 ?_
  refine hp_toph (fun h1 eh1 => ?_)
  replace hq := hq h1 eh1
  refine hp_aload_n E 0 dX1_add_10 rfl rfl ?_
  refine hp_gR E g_RX1_18 fB_15_4 dX1_add_11 ?_
  refine hp_aload_n E 0 dX1_add_14 rfl rfl ?_
  refine hp_gI E g_RX1_38 fB_15_1 dX1_add_15 ?_
  refine hp_iload_n E 2 dX1_add_18 rfl rfl ?_
  have hin := hq.1
  replace hq := hq.2
  refine hp_iast E 18 aB_18 zB_18 hJ hin dX1_add_19 ?_
  refine hp_toph (fun h2 eh2 => ?_)
  replace hq := hq h2 eh2
  refine hp_aload_n E 0 dX1_add_20 rfl rfl ?_
  refine hp_gR E g_RX1_21 fB_15_5 dX1_add_21 ?_
  refine hp_aload_n E 0 dX1_add_24 rfl rfl ?_
  refine hp_gI E g_RX1_38 fB_15_1 dX1_add_25 ?_
  refine hp_iload_n E 3 dX1_add_28 rfl rfl ?_
  have hin := hq.1
  replace hq := hq.2
  refine hp_iast E 19 aB_19 zB_19 hJ hin dX1_add_29 ?_
  refine hp_toph (fun h3 eh3 => ?_)
  replace hq := hq h3 eh3
  refine hp_aload_n E 0 dX1_add_30 rfl rfl ?_
  refine hp_gR E g_RX1_24 fB_15_6 dX1_add_31 ?_
  refine hp_aload_n E 0 dX1_add_34 rfl rfl ?_
  refine hp_gI E g_RX1_38 fB_15_1 dX1_add_35 ?_
  refine hp_iload E 4 dX1_add_38 rfl ?_
  have hin := hq.1
  replace hq := hq.2
  refine hp_iast E 20 aB_20 zB_20 hJ hin dX1_add_40 ?_
  refine hp_toph (fun h4 eh4 => ?_)
  replace hq := hq h4 eh4
  refine hp_aload_n E 0 dX1_add_41 rfl rfl ?_
  refine hp_gR E g_RX1_30 fB_15_8 dX1_add_42 ?_
  refine hp_aload_n E 0 dX1_add_45 rfl rfl ?_
  refine hp_gI E g_RX1_38 fB_15_1 dX1_add_46 ?_
  refine hp_iload_n E 1 dX1_add_49 rfl rfl ?_
  refine hp_iconst E (nI 2) dX1_add_50 (by decide) ?_
  obtain ⟨K6, hq, hK6⟩ := hq
  have jK6 : ∀ (v7 : Int32), K6 v7 → hp_G p l e rm_X1_add s m args below meth c SB cs ad A D 5 0 0 Z 96 [(0, .ref (ad 15)), (1, .int a1)] [.int v7, .int (h4 15 1), .ref (ad 22)] h4 := by
    intro v7 hq
    replace hq := hK6 v7 hq
    have hin := hq.1
    replace hq := hq.2
    have hbz := hq.1
    replace hq := hq.2
    refine hp_zast E 22 aB_22 zB_22 hJ hin hbz dX1_add_96 ?_
    refine hp_toph (fun h18 eh18 => ?_)
    replace hq := hq h18 eh18
    refine hp_iload_n E 1 dX1_add_97 rfl rfl ?_
    refine hp_iconst E (nI 3) dX1_add_98 (by decide) ?_
    obtain ⟨K20, hq, hK20⟩ := hq
    have jK20 : ∀  (h21 : hp_H), K20 h21 → hp_G p l e rm_X1_add s m args below meth c SB cs ad A D 5 0 0 Z 113 [(0, .ref (ad 15))] [] h21 := by
      intro h21 hq
      replace hq := hK20 h21 hq
      refine hp_aload_n E 0 dX1_add_113 rfl rfl ?_
      refine hp_dup E rfl dX1_add_114 ?_
      refine hp_gI E g_RX1_38 fB_15_1 dX1_add_115 ?_
      refine hp_topi (fun v25 ev25 => ?_)
      replace hq := hq v25 ev25
      refine hp_dup_x1 E rfl rfl dX1_add_118 ?_
      refine hp_iconst E (nI 1) dX1_add_119 (by decide) ?_
      refine hp_iadd E dX1_add_120 ?_
      refine hp_pI E p_RX1_38 fB_15_1 (by decide) hJ dX1_add_121 ?_
      refine hp_toph (fun h26 eh26 => ?_)
      replace hq := hq h26 eh26
      exact hp_iret E hq hZ dX1_add_124
    obtain ⟨K22, hq, hK22⟩ := hq
    have jK22 : K22 → hp_G p l e rm_X1_add s m args below meth c SB cs ad A D 5 0 0 Z 108 [(0, .ref (ad 15))] [] h18 := by
      intro  hq
      replace hq := hK22  hq
      refine hp_aload_n E 0 dX1_add_108 rfl rfl ?_
      refine hp_iconst E (nI 1) dX1_add_109 (by decide) ?_
      refine hp_pZ E p_RX1_42 fB_15_9 (by decide) hJ (by unfold hp_bz; decide) dX1_add_110 ?_
      refine hp_toph (fun h24 eh24 => ?_)
      replace hq := hq h24 eh24
      exact jK20 _ hq
    refine hp_icmp_eq E 108 dX1_add_99 (by decide) (fun c19 => ?_) (fun c19 => ?_)
    · replace hq := hq.1 c19
      refine hp_sub (lv' := [(0, .ref (ad 15))]) [0] rfl ?_
      exact jK22  hq
    · replace hq := hq.2 c19
      refine hp_iload_n E 1 dX1_add_102 rfl rfl ?_
      refine hp_bipush E (nI 6) dX1_add_103 (by decide) ?_
      refine hp_icmp_ne E 113 dX1_add_105 (by decide) (fun c23 => ?_) (fun c23 => ?_)
      · replace hq := hq.2 c23
        refine hp_sub (lv' := [(0, .ref (ad 15))]) [0] rfl ?_
        exact jK20 _ hq
      · replace hq := hq.1 c23
        refine hp_sub (lv' := [(0, .ref (ad 15))]) [0] rfl ?_
        exact jK22  hq
  obtain ⟨K8, hq, hK8⟩ := hq
  have jK8 : K8 → hp_G p l e rm_X1_add s m args below meth c SB cs ad A D 5 0 0 Z 91 [(0, .ref (ad 15)), (1, .int a1)] [.int (h4 15 1), .ref (ad 22)] h4 := by
    intro  hq
    replace hq := hK8  hq
    refine hp_iconst E (nI 1) dX1_add_91 (by decide) ?_
    refine hp_goto E 96 dX1_add_92 (by decide) ?_
    exact jK6 _ hq
  refine hp_icmp_eq E 91 dX1_add_51 (by decide) (fun c5 => ?_) (fun c5 => ?_)
  · replace hq := hq.1 c5
    refine hp_sub (lv' := [(0, .ref (ad 15)), (1, .int a1)]) [0, 1] rfl ?_
    exact jK8  hq
  · replace hq := hq.2 c5
    refine hp_iload_n E 1 dX1_add_54 rfl rfl ?_
    refine hp_iconst E (nI 3) dX1_add_55 (by decide) ?_
    refine hp_icmp_eq E 91 dX1_add_56 (by decide) (fun c9 => ?_) (fun c9 => ?_)
    · replace hq := hq.1 c9
      refine hp_sub (lv' := [(0, .ref (ad 15)), (1, .int a1)]) [0, 1] rfl ?_
      exact jK8  hq
    · replace hq := hq.2 c9
      refine hp_iload_n E 1 dX1_add_59 rfl rfl ?_
      refine hp_callSip (rest := [.int (h4 15 1), .ref (ad 22)]) E (c_X1_isMade l hJ hq) F_X1_isMade m_RX1_46 ⟨rfl, rfl⟩ ⟨Nat.le_of_ble_eq_true rfl, Nat.le_of_ble_eq_true rfl⟩ ⟨Nat.zero_le _, Nat.zero_le _⟩ rfl rfl (Nat.le_of_ble_eq_true rfl) dX1_add_60 (fun r10 hq => ?_)
      obtain ⟨K12, hq, hK12⟩ := hq
      have jK12 : K12 → hp_G p l e rm_X1_add s m args below meth c SB cs ad A D 5 0 0 Z 75 [(0, .ref (ad 15)), (1, .int a1), (3, .int a3)] [.int (h4 15 1), .ref (ad 22)] h4 := by
        intro  hq
        replace hq := hK12  hq
        refine hp_iload_n E 1 dX1_add_75 rfl rfl ?_
        refine hp_callSip (rest := [.int (h4 15 1), .ref (ad 22)]) E (c_X1_isMadeOfTwo l hJ hq) F_X1_isMadeOfTwo m_RX1_50 ⟨rfl, rfl⟩ ⟨Nat.le_of_ble_eq_true rfl, Nat.le_of_ble_eq_true rfl⟩ ⟨Nat.zero_le _, Nat.zero_le _⟩ rfl rfl (Nat.le_of_ble_eq_true rfl) dX1_add_76 (fun r14 hq => ?_)
        obtain ⟨K16, hq, hK16⟩ := hq
        have jK16 : K16 → hp_G p l e rm_X1_add s m args below meth c SB cs ad A D 5 0 0 Z 95 [(0, .ref (ad 15)), (1, .int a1)] [.int (h4 15 1), .ref (ad 22)] h4 := by
          intro  hq
          replace hq := hK16  hq
          refine hp_iconst E (nI 0) dX1_add_95 (by decide) ?_
          exact jK6 _ hq
        refine hp_if_eq E 95 dX1_add_79 (by decide) (fun c15 => ?_) (fun c15 => ?_)
        · replace hq := hq.1 c15
          refine hp_sub (lv' := [(0, .ref (ad 15)), (1, .int a1)]) [0, 1] rfl ?_
          exact jK16  hq
        · replace hq := hq.2 c15
          refine hp_aload_n E 0 dX1_add_82 rfl rfl ?_
          refine hp_gR E g_RX1_30 fB_15_8 dX1_add_83 ?_
          refine hp_iload_n E 2 dX1_add_86 rfl rfl ?_
          refine hp_zald E 22 aB_22 hq.1 dX1_add_87 ?_
          replace hq := hq.2
          refine hp_if_eq E 95 dX1_add_88 (by decide) (fun c17 => ?_) (fun c17 => ?_)
          · replace hq := hq.1 c17
            refine hp_sub (lv' := [(0, .ref (ad 15)), (1, .int a1)]) [0, 1] rfl ?_
            exact jK16  hq
          · replace hq := hq.2 c17
            refine hp_sub (lv' := [(0, .ref (ad 15)), (1, .int a1)]) [0, 1] rfl ?_
            exact jK8  hq
      refine hp_if_eq E 75 dX1_add_63 (by decide) (fun c11 => ?_) (fun c11 => ?_)
      · replace hq := hq.1 c11
        refine hp_sub (lv' := [(0, .ref (ad 15)), (1, .int a1), (3, .int a3)]) [0, 1, 3] rfl ?_
        exact jK12  hq
      · replace hq := hq.2 c11
        refine hp_aload_n E 0 dX1_add_66 rfl rfl ?_
        refine hp_gR E g_RX1_30 fB_15_8 dX1_add_67 ?_
        refine hp_iload_n E 2 dX1_add_70 rfl rfl ?_
        refine hp_zald E 22 aB_22 hq.1 dX1_add_71 ?_
        replace hq := hq.2
        refine hp_if_ne E 91 dX1_add_72 (by decide) (fun c13 => ?_) (fun c13 => ?_)
        · replace hq := hq.2 c13
          refine hp_sub (lv' := [(0, .ref (ad 15)), (1, .int a1)]) [0, 1] rfl ?_
          exact jK8  hq
        · replace hq := hq.1 c13
          refine hp_sub (lv' := [(0, .ref (ad 15)), (1, .int a1), (3, .int a3)]) [0, 1, 3] rfl ?_
          exact jK12  hq
theorem dX1_namesBeyond_0 : decode cX1_namesBeyond 0 = .ok (.iconst 0, 1) := by decide +kernel
theorem dX1_namesBeyond_1 : decode cX1_namesBeyond 1 = .ok (.istore_n 3, 1) := by decide +kernel
theorem dX1_namesBeyond_2 : decode cX1_namesBeyond 2 = .ok (.iload_n 3, 1) := by decide +kernel
theorem dX1_namesBeyond_3 : decode cX1_namesBeyond 3 = .ok (.aload_n 0, 1) := by decide +kernel
theorem dX1_namesBeyond_4 : decode cX1_namesBeyond 4 = .ok (.getfield 38, 3) := by decide +kernel
theorem dX1_namesBeyond_7 : decode cX1_namesBeyond 7 = .ok (.if_icmp .ge 42, 3) := by decide +kernel
theorem dX1_namesBeyond_10 : decode cX1_namesBeyond 10 = .ok (.aload_n 0, 1) := by decide +kernel
theorem dX1_namesBeyond_11 : decode cX1_namesBeyond 11 = .ok (.getfield 27, 3) := by decide +kernel
theorem dX1_namesBeyond_14 : decode cX1_namesBeyond 14 = .ok (.iload_n 3, 1) := by decide +kernel
theorem dX1_namesBeyond_15 : decode cX1_namesBeyond 15 = .ok (.iaload, 1) := by decide +kernel
theorem dX1_namesBeyond_16 : decode cX1_namesBeyond 16 = .ok (.iload_n 1, 1) := by decide +kernel
theorem dX1_namesBeyond_17 : decode cX1_namesBeyond 17 = .ok (.iand, 1) := by decide +kernel
theorem dX1_namesBeyond_18 : decode cX1_namesBeyond 18 = .ok (.ifCond .eq 25, 3) := by decide +kernel
theorem dX1_namesBeyond_21 : decode cX1_namesBeyond 21 = .ok (.aload_n 0, 1) := by decide +kernel
theorem dX1_namesBeyond_22 : decode cX1_namesBeyond 22 = .ok (.getfield 15, 3) := by decide +kernel
theorem dX1_namesBeyond_25 : decode cX1_namesBeyond 25 = .ok (.iload_n 3, 1) := by decide +kernel
theorem dX1_namesBeyond_26 : decode cX1_namesBeyond 26 = .ok (.iaload, 1) := by decide +kernel
theorem dX1_namesBeyond_27 : decode cX1_namesBeyond 27 = .ok (.iconst 2, 1) := by decide +kernel
theorem dX1_namesBeyond_28 : decode cX1_namesBeyond 28 = .ok (.if_icmp .ne 15, 3) := by decide +kernel
theorem dX1_namesBeyond_31 : decode cX1_namesBeyond 31 = .ok (.aload_n 0, 1) := by decide +kernel
theorem dX1_namesBeyond_32 : decode cX1_namesBeyond 32 = .ok (.getfield 18, 3) := by decide +kernel
theorem dX1_namesBeyond_35 : decode cX1_namesBeyond 35 = .ok (.iload_n 3, 1) := by decide +kernel
theorem dX1_namesBeyond_36 : decode cX1_namesBeyond 36 = .ok (.iaload, 1) := by decide +kernel
theorem dX1_namesBeyond_37 : decode cX1_namesBeyond 37 = .ok (.iload_n 2, 1) := by decide +kernel
theorem dX1_namesBeyond_38 : decode cX1_namesBeyond 38 = .ok (.if_icmp .lt 5, 3) := by decide +kernel
theorem dX1_namesBeyond_41 : decode cX1_namesBeyond 41 = .ok (.iconst 1, 1) := by decide +kernel
theorem dX1_namesBeyond_42 : decode cX1_namesBeyond 42 = .ok (.ireturn, 1) := by decide +kernel
theorem dX1_namesBeyond_43 : decode cX1_namesBeyond 43 = .ok (.iinc 3 1, 3) := by decide +kernel
theorem dX1_namesBeyond_46 : decode cX1_namesBeyond 46 = .ok (.goto (-44), 3) := by decide +kernel
theorem dX1_namesBeyond_49 : decode cX1_namesBeyond 49 = .ok (.iconst 0, 1) := by decide +kernel
theorem dX1_namesBeyond_50 : decode cX1_namesBeyond 50 = .ok (.ireturn, 1) := by decide +kernel
set_option maxHeartbeats 4000000 in
set_option maxRecDepth 100000 in
theorem c_X1_namesBeyond (l : Launch) {cs : Nat → ClassId} {ad : Nat → Nat} {A : Nat → Prop} {D : va_G} (hJ : hp_J SB ad A)   {h : hp_H} {a1 a2 : Int32} {Q : Int32 → Prop} (hq : q_X1_namesBeyond h a1 a2 Q) : hp_Mi l yX1_namesBeyond cX1_namesBeyond 4 (some .boolean) rm_X1_namesBeyond [.ref (ad 15), .int a1, .int a2] SB cs ad A D h (fun r h' => Q r ∧ h' = h) := by
  refine hp_met (own := RX1) rfl (by decide) (Nat.le_of_ble_eq_true rfl) rfl (fun p e s m args below meth c Z E hZ hnm => ?_)
  refine hp_sub (lv' := [(0, .ref (ad 15)), (1, .int a1), (2, .int a2)]) [0, 1, 2] rfl ?_
  unfold q_X1_namesBeyond at hq
  refine hp_iconst E (nI 0) dX1_namesBeyond_0 (by decide) ?_
  refine hp_istore_n (lv' := [(0, .ref (ad 15)), (1, .int a1), (2, .int a2), (3, .int (nI 0))]) E dX1_namesBeyond_1 rfl (by decide) rfl rfl ?_
  refine hq (fun v2 => hp_G p l e rm_X1_namesBeyond s m args below meth c SB cs ad A D 4 0 0 Z 2 [(0, .ref (ad 15)), (1, .int a1), (2, .int a2), (3, .int v2)] [] h) (fun v2 hB => ?_)
  obtain ⟨B1, hq, hB1⟩ := hB
  refine hp_iload_n E 3 dX1_namesBeyond_2 rfl rfl ?_
  refine hp_aload_n E 0 dX1_namesBeyond_3 rfl rfl ?_
  refine hp_gI E g_RX1_38 fB_15_1 dX1_namesBeyond_4 ?_
  refine hp_icmp_ge E 49 dX1_namesBeyond_7 (by decide) (fun c3 => ?_) (fun c3 => ?_)
  · replace hq := hq.1 c3
    refine hp_iconst E (nI 0) dX1_namesBeyond_49 (by decide) ?_
    exact hp_zret E (by unfold hp_bz; decide) ⟨hq, rfl⟩ hZ dX1_namesBeyond_50
  · replace hq := hq.2 c3
    refine hp_aload_n E 0 dX1_namesBeyond_10 rfl rfl ?_
    refine hp_gR E g_RX1_27 fB_15_7 dX1_namesBeyond_11 ?_
    refine hp_iload_n E 3 dX1_namesBeyond_14 rfl rfl ?_
    refine hp_iald E 21 aB_21 hq.1 dX1_namesBeyond_15 ?_
    replace hq := hq.2
    refine hp_iload_n E 1 dX1_namesBeyond_16 rfl rfl ?_
    refine hp_iand E dX1_namesBeyond_17 ?_
    obtain ⟨K5, hq, hK5⟩ := hq
    have jK5 : K5 → hp_G p l e rm_X1_namesBeyond s m args below meth c SB cs ad A D 4 0 0 Z 43 [(0, .ref (ad 15)), (1, .int a1), (2, .int a2), (3, .int v2)] [] h := by
      intro  hq
      replace hq := hK5  hq
      obtain ⟨v8, ev8⟩ : ∃ z : Int32, z = v2 + (nI 1) := ⟨_, rfl⟩
      replace hq := hq v8 ev8
      refine hp_iinc (lv' := [(0, .ref (ad 15)), (1, .int a1), (2, .int a2), (3, .int v8)]) E 3 v8 dX1_namesBeyond_43 rfl (by rw [ev8]; rfl) (by decide) rfl rfl ?_
      refine hp_goto E 2 dX1_namesBeyond_46 (by decide) ?_
      exact hB1 _ hq
    refine hp_if_eq E 43 dX1_namesBeyond_18 (by decide) (fun c4 => ?_) (fun c4 => ?_)
    · replace hq := hq.1 c4
      exact jK5  hq
    · replace hq := hq.2 c4
      refine hp_aload_n E 0 dX1_namesBeyond_21 rfl rfl ?_
      refine hp_gR E g_RX1_15 fB_15_3 dX1_namesBeyond_22 ?_
      refine hp_iload_n E 3 dX1_namesBeyond_25 rfl rfl ?_
      refine hp_iald E 17 aB_17 hq.1 dX1_namesBeyond_26 ?_
      replace hq := hq.2
      refine hp_iconst E (nI 2) dX1_namesBeyond_27 (by decide) ?_
      refine hp_icmp_ne E 43 dX1_namesBeyond_28 (by decide) (fun c6 => ?_) (fun c6 => ?_)
      · replace hq := hq.2 c6
        exact jK5  hq
      · replace hq := hq.1 c6
        refine hp_aload_n E 0 dX1_namesBeyond_31 rfl rfl ?_
        refine hp_gR E g_RX1_18 fB_15_4 dX1_namesBeyond_32 ?_
        refine hp_iload_n E 3 dX1_namesBeyond_35 rfl rfl ?_
        refine hp_iald E 18 aB_18 hq.1 dX1_namesBeyond_36 ?_
        replace hq := hq.2
        refine hp_iload_n E 2 dX1_namesBeyond_37 rfl rfl ?_
        refine hp_icmp_lt E 43 dX1_namesBeyond_38 (by decide) (fun c7 => ?_) (fun c7 => ?_)
        · replace hq := hq.1 c7
          exact jK5  hq
        · replace hq := hq.2 c7
          refine hp_iconst E (nI 1) dX1_namesBeyond_41 (by decide) ?_
          exact hp_zret E (by unfold hp_bz; decide) ⟨hq, rfl⟩ hZ dX1_namesBeyond_42
theorem dX2_clear_0 : decode cX2_clear 0 = .ok (.aload_n 0, 1) := by decide +kernel
theorem dX2_clear_1 : decode cX2_clear 1 = .ok (.iconst 0, 1) := by decide +kernel
theorem dX2_clear_2 : decode cX2_clear 2 = .ok (.putfield 51, 3) := by decide +kernel
theorem dX2_clear_5 : decode cX2_clear 5 = .ok (.aload_n 0, 1) := by decide +kernel
theorem dX2_clear_6 : decode cX2_clear 6 = .ok (.iconst 0, 1) := by decide +kernel
theorem dX2_clear_7 : decode cX2_clear 7 = .ok (.putfield 55, 3) := by decide +kernel
theorem dX2_clear_10 : decode cX2_clear 10 = .ok (.aload_n 0, 1) := by decide +kernel
theorem dX2_clear_11 : decode cX2_clear 11 = .ok (.iconst 0, 1) := by decide +kernel
theorem dX2_clear_12 : decode cX2_clear 12 = .ok (.putfield 58, 3) := by decide +kernel
theorem dX2_clear_15 : decode cX2_clear 15 = .ok (.aload_n 0, 1) := by decide +kernel
theorem dX2_clear_16 : decode cX2_clear 16 = .ok (.iconst 0, 1) := by decide +kernel
theorem dX2_clear_17 : decode cX2_clear 17 = .ok (.putfield 61, 3) := by decide +kernel
theorem dX2_clear_20 : decode cX2_clear 20 = .ok (.aload_n 0, 1) := by decide +kernel
theorem dX2_clear_21 : decode cX2_clear 21 = .ok (.iconst (-1), 1) := by decide +kernel
theorem dX2_clear_22 : decode cX2_clear 22 = .ok (.putfield 9, 3) := by decide +kernel
theorem dX2_clear_25 : decode cX2_clear 25 = .ok (.aload_n 0, 1) := by decide +kernel
theorem dX2_clear_26 : decode cX2_clear 26 = .ok (.iconst (-1), 1) := by decide +kernel
theorem dX2_clear_27 : decode cX2_clear 27 = .ok (.putfield 15, 3) := by decide +kernel
theorem dX2_clear_30 : decode cX2_clear 30 = .ok (.aload_n 0, 1) := by decide +kernel
theorem dX2_clear_31 : decode cX2_clear 31 = .ok (.iconst (-1), 1) := by decide +kernel
theorem dX2_clear_32 : decode cX2_clear 32 = .ok (.putfield 18, 3) := by decide +kernel
theorem dX2_clear_35 : decode cX2_clear 35 = .ok (.aload_n 0, 1) := by decide +kernel
theorem dX2_clear_36 : decode cX2_clear 36 = .ok (.iconst (-1), 1) := by decide +kernel
theorem dX2_clear_37 : decode cX2_clear 37 = .ok (.putfield 21, 3) := by decide +kernel
theorem dX2_clear_40 : decode cX2_clear 40 = .ok (.return_, 1) := by decide +kernel
set_option maxHeartbeats 4000000 in
set_option maxRecDepth 100000 in
theorem c_X2_clear (l : Launch) {cs : Nat → ClassId} {ad : Nat → Nat} {A : Nat → Prop} {D : va_G} (hJ : hp_J SB ad A)   {h : hp_H} {Q : hp_H → Prop} (hq : q_X2_clear h Q) : hp_Mv l yX2_clear cX2_clear 1 none rm_X2_clear [.ref (ad 35)] SB cs ad A D h Q := by
  refine hp_met (own := RX2) rfl (by decide) (Nat.le_of_ble_eq_true rfl) rfl (fun p e s m args below meth c Z E hZ hnm => ?_)
  refine hp_sub (lv' := [(0, .ref (ad 35))]) [0] rfl ?_
  unfold q_X2_clear at hq
  refine hp_aload_n E 0 dX2_clear_0 rfl rfl ?_
  refine hp_iconst E (nI 0) dX2_clear_1 (by decide) ?_
  refine hp_pZ E p_RX2_51 fB_35_0 (by decide) hJ (by unfold hp_bz; decide) dX2_clear_2 ?_
  refine hp_toph (fun h1 eh1 => ?_)
  replace hq := hq h1 eh1
  refine hp_aload_n E 0 dX2_clear_5 rfl rfl ?_
  refine hp_iconst E (nI 0) dX2_clear_6 (by decide) ?_
  refine hp_pZ E p_RX2_55 fB_35_1 (by decide) hJ (by unfold hp_bz; decide) dX2_clear_7 ?_
  refine hp_toph (fun h2 eh2 => ?_)
  replace hq := hq h2 eh2
  refine hp_aload_n E 0 dX2_clear_10 rfl rfl ?_
  refine hp_iconst E (nI 0) dX2_clear_11 (by decide) ?_
  refine hp_pI E p_RX2_58 fB_35_2 (by decide) hJ dX2_clear_12 ?_
  refine hp_toph (fun h3 eh3 => ?_)
  replace hq := hq h3 eh3
  refine hp_aload_n E 0 dX2_clear_15 rfl rfl ?_
  refine hp_iconst E (nI 0) dX2_clear_16 (by decide) ?_
  refine hp_pI E p_RX2_61 fB_35_3 (by decide) hJ dX2_clear_17 ?_
  refine hp_toph (fun h4 eh4 => ?_)
  replace hq := hq h4 eh4
  refine hp_aload_n E 0 dX2_clear_20 rfl rfl ?_
  refine hp_iconst E (-1) dX2_clear_21 (by decide) ?_
  refine hp_pI E p_RX2_9 fB_35_4 (by decide) hJ dX2_clear_22 ?_
  refine hp_toph (fun h5 eh5 => ?_)
  replace hq := hq h5 eh5
  refine hp_aload_n E 0 dX2_clear_25 rfl rfl ?_
  refine hp_iconst E (-1) dX2_clear_26 (by decide) ?_
  refine hp_pI E p_RX2_15 fB_35_5 (by decide) hJ dX2_clear_27 ?_
  refine hp_toph (fun h6 eh6 => ?_)
  replace hq := hq h6 eh6
  refine hp_aload_n E 0 dX2_clear_30 rfl rfl ?_
  refine hp_iconst E (-1) dX2_clear_31 (by decide) ?_
  refine hp_pI E p_RX2_18 fB_35_6 (by decide) hJ dX2_clear_32 ?_
  refine hp_toph (fun h7 eh7 => ?_)
  replace hq := hq h7 eh7
  refine hp_aload_n E 0 dX2_clear_35 rfl rfl ?_
  refine hp_iconst E (-1) dX2_clear_36 (by decide) ?_
  refine hp_pI E p_RX2_21 fB_35_7 (by decide) hJ dX2_clear_37 ?_
  refine hp_toph (fun h8 eh8 => ?_)
  replace hq := hq h8 eh8
  exact hp_vret E hq hZ dX2_clear_40
theorem dX2_isSame_0 : decode cX2_isSame 0 = .ok (.iload_n 1, 1) := by decide +kernel
theorem dX2_isSame_1 : decode cX2_isSame 1 = .ok (.bipush 13, 2) := by decide +kernel
theorem dX2_isSame_3 : decode cX2_isSame 3 = .ok (.imul, 1) := by decide +kernel
theorem dX2_isSame_4 : decode cX2_isSame 4 = .ok (.istore_n 3, 1) := by decide +kernel
theorem dX2_isSame_5 : decode cX2_isSame 5 = .ok (.iconst 0, 1) := by decide +kernel
theorem dX2_isSame_6 : decode cX2_isSame 6 = .ok (.istore 4, 2) := by decide +kernel
theorem dX2_isSame_8 : decode cX2_isSame 8 = .ok (.iload 4, 2) := by decide +kernel
theorem dX2_isSame_10 : decode cX2_isSame 10 = .ok (.bipush 13, 2) := by decide +kernel
theorem dX2_isSame_12 : decode cX2_isSame 12 = .ok (.if_icmp .ge 30, 3) := by decide +kernel
theorem dX2_isSame_15 : decode cX2_isSame 15 = .ok (.aload_n 0, 1) := by decide +kernel
theorem dX2_isSame_16 : decode cX2_isSame 16 = .ok (.getfield 45, 3) := by decide +kernel
theorem dX2_isSame_19 : decode cX2_isSame 19 = .ok (.iload_n 3, 1) := by decide +kernel
theorem dX2_isSame_20 : decode cX2_isSame 20 = .ok (.iload 4, 2) := by decide +kernel
theorem dX2_isSame_22 : decode cX2_isSame 22 = .ok (.iadd, 1) := by decide +kernel
theorem dX2_isSame_23 : decode cX2_isSame 23 = .ok (.iaload, 1) := by decide +kernel
theorem dX2_isSame_24 : decode cX2_isSame 24 = .ok (.aload_n 2, 1) := by decide +kernel
theorem dX2_isSame_25 : decode cX2_isSame 25 = .ok (.getfield 85, 3) := by decide +kernel
theorem dX2_isSame_28 : decode cX2_isSame 28 = .ok (.iload 4, 2) := by decide +kernel
theorem dX2_isSame_30 : decode cX2_isSame 30 = .ok (.iaload, 1) := by decide +kernel
theorem dX2_isSame_31 : decode cX2_isSame 31 = .ok (.if_icmp .eq 5, 3) := by decide +kernel
theorem dX2_isSame_34 : decode cX2_isSame 34 = .ok (.iconst 0, 1) := by decide +kernel
theorem dX2_isSame_35 : decode cX2_isSame 35 = .ok (.ireturn, 1) := by decide +kernel
theorem dX2_isSame_36 : decode cX2_isSame 36 = .ok (.iinc 4 1, 3) := by decide +kernel
theorem dX2_isSame_39 : decode cX2_isSame 39 = .ok (.goto (-31), 3) := by decide +kernel
theorem dX2_isSame_42 : decode cX2_isSame 42 = .ok (.iconst 1, 1) := by decide +kernel
theorem dX2_isSame_43 : decode cX2_isSame 43 = .ok (.ireturn, 1) := by decide +kernel
set_option maxHeartbeats 4000000 in
set_option maxRecDepth 100000 in
theorem c_X2_isSame (l : Launch) {cs : Nat → ClassId} {ad : Nat → Nat} {A : Nat → Prop} {D : va_G} (hJ : hp_J SB ad A)   {h : hp_H} {a1 : Int32} {Q : Int32 → Prop} (hq : q_X2_isSame h a1 Q) : hp_Mi l yX2_isSame cX2_isSame 5 (some .boolean) rm_X2_isSame [.ref (ad 35), .int a1, .ref (ad 47)] SB cs ad A D h (fun r h' => Q r ∧ h' = h) := by
  refine hp_met (own := RX2) rfl (by decide) (Nat.le_of_ble_eq_true rfl) rfl (fun p e s m args below meth c Z E hZ hnm => ?_)
  refine hp_sub (lv' := [(0, .ref (ad 35)), (1, .int a1), (2, .ref (ad 47))]) [0, 1, 2] rfl ?_
  unfold q_X2_isSame at hq
  refine hp_iload_n E 1 dX2_isSame_0 rfl rfl ?_
  refine hp_bipush E (nI 13) dX2_isSame_1 (by decide) ?_
  refine hp_imul E dX2_isSame_3 ?_
  refine hp_topi (fun v1 ev1 => ?_)
  replace hq := hq v1 ev1
  refine hp_istore_n (lv' := [(0, .ref (ad 35)), (1, .int a1), (2, .ref (ad 47)), (3, .int v1)]) E dX2_isSame_4 rfl (by decide) rfl rfl ?_
  refine hp_iconst E (nI 0) dX2_isSame_5 (by decide) ?_
  refine hp_istore (lv' := [(0, .ref (ad 35)), (1, .int a1), (2, .ref (ad 47)), (3, .int v1), (4, .int (nI 0))]) E dX2_isSame_6 (by decide) rfl rfl ?_
  refine hp_sub (lv' := [(0, .ref (ad 35)), (2, .ref (ad 47)), (3, .int v1), (4, .int (nI 0))]) [0, 2, 3, 4] rfl ?_
  refine hq (fun v3 => hp_G p l e rm_X2_isSame s m args below meth c SB cs ad A D 5 0 0 Z 8 [(0, .ref (ad 35)), (2, .ref (ad 47)), (3, .int v1), (4, .int v3)] [] h) (fun v3 hB => ?_)
  obtain ⟨B2, hq, hB2⟩ := hB
  refine hp_iload E 3 dX2_isSame_8 rfl ?_
  refine hp_bipush E (nI 13) dX2_isSame_10 (by decide) ?_
  refine hp_icmp_ge E 42 dX2_isSame_12 (by decide) (fun c4 => ?_) (fun c4 => ?_)
  · replace hq := hq.1 c4
    refine hp_iconst E (nI 1) dX2_isSame_42 (by decide) ?_
    exact hp_zret E (by unfold hp_bz; decide) ⟨hq, rfl⟩ hZ dX2_isSame_43
  · replace hq := hq.2 c4
    refine hp_aload_n E 0 dX2_isSame_15 rfl rfl ?_
    refine hp_gR E g_RX2_45 fB_35_14 dX2_isSame_16 ?_
    refine hp_iload_n E 2 dX2_isSame_19 rfl rfl ?_
    refine hp_iload E 3 dX2_isSame_20 rfl ?_
    refine hp_iadd E dX2_isSame_22 ?_
    refine hp_iald E 42 aB_42 hq.1 dX2_isSame_23 ?_
    replace hq := hq.2
    refine hp_aload_n E 1 dX2_isSame_24 rfl rfl ?_
    refine hp_gR E g_RX2_85 fB_47_0 dX2_isSame_25 ?_
    refine hp_iload E 3 dX2_isSame_28 rfl ?_
    refine hp_iald E 48 aB_48 hq.1 dX2_isSame_30 ?_
    replace hq := hq.2
    refine hp_icmp_eq E 36 dX2_isSame_31 (by decide) (fun c5 => ?_) (fun c5 => ?_)
    · replace hq := hq.1 c5
      obtain ⟨v6, ev6⟩ : ∃ z : Int32, z = v3 + (nI 1) := ⟨_, rfl⟩
      replace hq := hq v6 ev6
      refine hp_iinc (lv' := [(0, .ref (ad 35)), (2, .ref (ad 47)), (3, .int v1), (4, .int v6)]) E 3 v6 dX2_isSame_36 rfl (by rw [ev6]; rfl) (by decide) rfl rfl ?_
      refine hp_goto E 8 dX2_isSame_39 (by decide) ?_
      exact hB2 _ hq
    · replace hq := hq.2 c5
      refine hp_iconst E (nI 0) dX2_isSame_34 (by decide) ?_
      exact hp_zret E (by unfold hp_bz; decide) ⟨hq, rfl⟩ hZ dX2_isSame_35
theorem dX2_slotOf_0 : decode cX2_slotOf 0 = .ok (.iconst 0, 1) := by decide +kernel
theorem dX2_slotOf_1 : decode cX2_slotOf 1 = .ok (.istore_n 2, 1) := by decide +kernel
theorem dX2_slotOf_2 : decode cX2_slotOf 2 = .ok (.iconst 0, 1) := by decide +kernel
theorem dX2_slotOf_3 : decode cX2_slotOf 3 = .ok (.istore_n 3, 1) := by decide +kernel
theorem dX2_slotOf_4 : decode cX2_slotOf 4 = .ok (.iload_n 3, 1) := by decide +kernel
theorem dX2_slotOf_5 : decode cX2_slotOf 5 = .ok (.bipush 13, 2) := by decide +kernel
theorem dX2_slotOf_7 : decode cX2_slotOf 7 = .ok (.if_icmp .ge 21, 3) := by decide +kernel
theorem dX2_slotOf_10 : decode cX2_slotOf 10 = .ok (.iload_n 2, 1) := by decide +kernel
theorem dX2_slotOf_11 : decode cX2_slotOf 11 = .ok (.bipush 31, 2) := by decide +kernel
theorem dX2_slotOf_13 : decode cX2_slotOf 13 = .ok (.imul, 1) := by decide +kernel
theorem dX2_slotOf_14 : decode cX2_slotOf 14 = .ok (.aload_n 1, 1) := by decide +kernel
theorem dX2_slotOf_15 : decode cX2_slotOf 15 = .ok (.getfield 85, 3) := by decide +kernel
theorem dX2_slotOf_18 : decode cX2_slotOf 18 = .ok (.iload_n 3, 1) := by decide +kernel
theorem dX2_slotOf_19 : decode cX2_slotOf 19 = .ok (.iaload, 1) := by decide +kernel
theorem dX2_slotOf_20 : decode cX2_slotOf 20 = .ok (.iadd, 1) := by decide +kernel
theorem dX2_slotOf_21 : decode cX2_slotOf 21 = .ok (.istore_n 2, 1) := by decide +kernel
theorem dX2_slotOf_22 : decode cX2_slotOf 22 = .ok (.iinc 3 1, 3) := by decide +kernel
theorem dX2_slotOf_25 : decode cX2_slotOf 25 = .ok (.goto (-21), 3) := by decide +kernel
theorem dX2_slotOf_28 : decode cX2_slotOf 28 = .ok (.iload_n 2, 1) := by decide +kernel
theorem dX2_slotOf_29 : decode cX2_slotOf 29 = .ok (.iload_n 2, 1) := by decide +kernel
theorem dX2_slotOf_30 : decode cX2_slotOf 30 = .ok (.bipush 20, 2) := by decide +kernel
theorem dX2_slotOf_32 : decode cX2_slotOf 32 = .ok (.iushr, 1) := by decide +kernel
theorem dX2_slotOf_33 : decode cX2_slotOf 33 = .ok (.iload_n 2, 1) := by decide +kernel
theorem dX2_slotOf_34 : decode cX2_slotOf 34 = .ok (.bipush 10, 2) := by decide +kernel
theorem dX2_slotOf_36 : decode cX2_slotOf 36 = .ok (.iushr, 1) := by decide +kernel
theorem dX2_slotOf_37 : decode cX2_slotOf 37 = .ok (.ixor, 1) := by decide +kernel
theorem dX2_slotOf_38 : decode cX2_slotOf 38 = .ok (.ixor, 1) := by decide +kernel
theorem dX2_slotOf_39 : decode cX2_slotOf 39 = .ok (.istore_n 2, 1) := by decide +kernel
theorem dX2_slotOf_40 : decode cX2_slotOf 40 = .ok (.iload_n 2, 1) := by decide +kernel
theorem dX2_slotOf_41 : decode cX2_slotOf 41 = .ok (.sipush 1023, 3) := by decide +kernel
theorem dX2_slotOf_44 : decode cX2_slotOf 44 = .ok (.iand, 1) := by decide +kernel
theorem dX2_slotOf_45 : decode cX2_slotOf 45 = .ok (.istore_n 3, 1) := by decide +kernel
theorem dX2_slotOf_46 : decode cX2_slotOf 46 = .ok (.iconst 0, 1) := by decide +kernel
theorem dX2_slotOf_47 : decode cX2_slotOf 47 = .ok (.istore 4, 2) := by decide +kernel
theorem dX2_slotOf_49 : decode cX2_slotOf 49 = .ok (.iload 4, 2) := by decide +kernel
theorem dX2_slotOf_51 : decode cX2_slotOf 51 = .ok (.sipush 1024, 3) := by decide +kernel
theorem dX2_slotOf_54 : decode cX2_slotOf 54 = .ok (.if_icmp .ge 44, 3) := by decide +kernel
theorem dX2_slotOf_57 : decode cX2_slotOf 57 = .ok (.aload_n 0, 1) := by decide +kernel
theorem dX2_slotOf_58 : decode cX2_slotOf 58 = .ok (.getfield 48, 3) := by decide +kernel
theorem dX2_slotOf_61 : decode cX2_slotOf 61 = .ok (.iload_n 3, 1) := by decide +kernel
theorem dX2_slotOf_62 : decode cX2_slotOf 62 = .ok (.iaload, 1) := by decide +kernel
theorem dX2_slotOf_63 : decode cX2_slotOf 63 = .ok (.ifCond .eq 19, 3) := by decide +kernel
theorem dX2_slotOf_66 : decode cX2_slotOf 66 = .ok (.aload_n 0, 1) := by decide +kernel
theorem dX2_slotOf_67 : decode cX2_slotOf 67 = .ok (.aload_n 0, 1) := by decide +kernel
theorem dX2_slotOf_68 : decode cX2_slotOf 68 = .ok (.getfield 48, 3) := by decide +kernel
theorem dX2_slotOf_71 : decode cX2_slotOf 71 = .ok (.iload_n 3, 1) := by decide +kernel
theorem dX2_slotOf_72 : decode cX2_slotOf 72 = .ok (.iaload, 1) := by decide +kernel
theorem dX2_slotOf_73 : decode cX2_slotOf 73 = .ok (.iconst 1, 1) := by decide +kernel
theorem dX2_slotOf_74 : decode cX2_slotOf 74 = .ok (.isub, 1) := by decide +kernel
theorem dX2_slotOf_75 : decode cX2_slotOf 75 = .ok (.aload_n 1, 1) := by decide +kernel
theorem dX2_slotOf_76 : decode cX2_slotOf 76 = .ok (.invokevirtual 99, 3) := by decide +kernel
theorem dX2_slotOf_79 : decode cX2_slotOf 79 = .ok (.ifCond .eq 5, 3) := by decide +kernel
theorem dX2_slotOf_82 : decode cX2_slotOf 82 = .ok (.iload_n 3, 1) := by decide +kernel
theorem dX2_slotOf_83 : decode cX2_slotOf 83 = .ok (.ireturn, 1) := by decide +kernel
theorem dX2_slotOf_84 : decode cX2_slotOf 84 = .ok (.iload_n 3, 1) := by decide +kernel
theorem dX2_slotOf_85 : decode cX2_slotOf 85 = .ok (.iconst 1, 1) := by decide +kernel
theorem dX2_slotOf_86 : decode cX2_slotOf 86 = .ok (.iadd, 1) := by decide +kernel
theorem dX2_slotOf_87 : decode cX2_slotOf 87 = .ok (.sipush 1023, 3) := by decide +kernel
theorem dX2_slotOf_90 : decode cX2_slotOf 90 = .ok (.iand, 1) := by decide +kernel
theorem dX2_slotOf_91 : decode cX2_slotOf 91 = .ok (.istore_n 3, 1) := by decide +kernel
theorem dX2_slotOf_92 : decode cX2_slotOf 92 = .ok (.iinc 4 1, 3) := by decide +kernel
theorem dX2_slotOf_95 : decode cX2_slotOf 95 = .ok (.goto (-46), 3) := by decide +kernel
theorem dX2_slotOf_98 : decode cX2_slotOf 98 = .ok (.iload_n 3, 1) := by decide +kernel
theorem dX2_slotOf_99 : decode cX2_slotOf 99 = .ok (.ireturn, 1) := by decide +kernel
set_option maxHeartbeats 4000000 in
set_option maxRecDepth 100000 in
theorem c_X2_slotOf (l : Launch) {cs : Nat → ClassId} {ad : Nat → Nat} {A : Nat → Prop} {D : va_G} (hJ : hp_J SB ad A)   {h : hp_H} {Q : Int32 → Prop} (hq : q_X2_slotOf h Q) : hp_Mi l yX2_slotOf cX2_slotOf 5 (some .int) rm_X2_slotOf [.ref (ad 35), .ref (ad 47)] SB cs ad A D h (fun r h' => Q r ∧ h' = h) := by
  refine hp_met (own := RX2) rfl (by decide) (Nat.le_of_ble_eq_true rfl) rfl (fun p e s m args below meth c Z E hZ hnm => ?_)
  refine hp_sub (lv' := [(0, .ref (ad 35)), (1, .ref (ad 47))]) [0, 1] rfl ?_
  unfold q_X2_slotOf at hq
  refine hp_iconst E (nI 0) dX2_slotOf_0 (by decide) ?_
  refine hp_istore_n (lv' := [(0, .ref (ad 35)), (1, .ref (ad 47)), (2, .int (nI 0))]) E dX2_slotOf_1 rfl (by decide) rfl rfl ?_
  refine hp_iconst E (nI 0) dX2_slotOf_2 (by decide) ?_
  refine hp_istore_n (lv' := [(0, .ref (ad 35)), (1, .ref (ad 47)), (2, .int (nI 0)), (3, .int (nI 0))]) E dX2_slotOf_3 rfl (by decide) rfl rfl ?_
  refine hq (fun v2 v3 => hp_G p l e rm_X2_slotOf s m args below meth c SB cs ad A D 5 0 0 Z 4 [(0, .ref (ad 35)), (1, .ref (ad 47)), (2, .int v2), (3, .int v3)] [] h) (fun v2 v3 hB => ?_)
  obtain ⟨B1, hq, hB1⟩ := hB
  refine hp_iload_n E 3 dX2_slotOf_4 rfl rfl ?_
  refine hp_bipush E (nI 13) dX2_slotOf_5 (by decide) ?_
  refine hp_icmp_ge E 28 dX2_slotOf_7 (by decide) (fun c4 => ?_) (fun c4 => ?_)
  · replace hq := hq.1 c4
    refine hp_iload_n E 2 dX2_slotOf_28 rfl rfl ?_
    refine hp_iload_n E 2 dX2_slotOf_29 rfl rfl ?_
    refine hp_bipush E (nI 20) dX2_slotOf_30 (by decide) ?_
    refine hp_iushr E dX2_slotOf_32 ?_
    refine hp_iload_n E 2 dX2_slotOf_33 rfl rfl ?_
    refine hp_bipush E (nI 10) dX2_slotOf_34 (by decide) ?_
    refine hp_iushr E dX2_slotOf_36 ?_
    refine hp_ixor E dX2_slotOf_37 ?_
    refine hp_ixor E dX2_slotOf_38 ?_
    refine hp_topi (fun v5 ev5 => ?_)
    replace hq := hq v5 ev5
    refine hp_istore_n (lv' := [(0, .ref (ad 35)), (1, .ref (ad 47)), (2, .int v5), (3, .int v3)]) E dX2_slotOf_39 rfl (by decide) rfl rfl ?_
    refine hp_iload_n E 2 dX2_slotOf_40 rfl rfl ?_
    refine hp_sipush E (nI 1023) dX2_slotOf_41 (by decide) ?_
    refine hp_iand E dX2_slotOf_44 ?_
    refine hp_topi (fun v6 ev6 => ?_)
    replace hq := hq v6 ev6
    refine hp_istore_n (lv' := [(0, .ref (ad 35)), (1, .ref (ad 47)), (2, .int v5), (3, .int v6)]) E dX2_slotOf_45 rfl (by decide) rfl rfl ?_
    refine hp_iconst E (nI 0) dX2_slotOf_46 (by decide) ?_
    refine hp_istore (lv' := [(0, .ref (ad 35)), (1, .ref (ad 47)), (2, .int v5), (3, .int v6), (4, .int (nI 0))]) E dX2_slotOf_47 (by decide) rfl rfl ?_
    refine hp_sub (lv' := [(0, .ref (ad 35)), (1, .ref (ad 47)), (3, .int v6), (4, .int (nI 0))]) [0, 1, 3, 4] rfl ?_
    refine hq (fun v8 v9 => hp_G p l e rm_X2_slotOf s m args below meth c SB cs ad A D 5 0 0 Z 49 [(0, .ref (ad 35)), (1, .ref (ad 47)), (3, .int v8), (4, .int v9)] [] h) (fun v8 v9 hB => ?_)
    obtain ⟨B7, hq, hB7⟩ := hB
    refine hp_iload E 3 dX2_slotOf_49 rfl ?_
    refine hp_sipush E (nI 1024) dX2_slotOf_51 (by decide) ?_
    refine hp_icmp_ge E 98 dX2_slotOf_54 (by decide) (fun c10 => ?_) (fun c10 => ?_)
    · replace hq := hq.1 c10
      refine hp_iload_n E 2 dX2_slotOf_98 rfl rfl ?_
      exact hp_iret E ⟨hq, rfl⟩ hZ dX2_slotOf_99
    · replace hq := hq.2 c10
      refine hp_aload_n E 0 dX2_slotOf_57 rfl rfl ?_
      refine hp_gR E g_RX2_48 fB_35_15 dX2_slotOf_58 ?_
      refine hp_iload_n E 2 dX2_slotOf_61 rfl rfl ?_
      refine hp_iald E 43 aB_43 hq.1 dX2_slotOf_62 ?_
      replace hq := hq.2
      refine hp_if_eq E 82 dX2_slotOf_63 (by decide) (fun c11 => ?_) (fun c11 => ?_)
      · replace hq := hq.1 c11
        refine hp_iload_n E 2 dX2_slotOf_82 rfl rfl ?_
        exact hp_iret E ⟨hq, rfl⟩ hZ dX2_slotOf_83
      · replace hq := hq.2 c11
        refine hp_aload_n E 0 dX2_slotOf_66 rfl rfl ?_
        refine hp_aload_n E 0 dX2_slotOf_67 rfl rfl ?_
        refine hp_gR E g_RX2_48 fB_35_15 dX2_slotOf_68 ?_
        refine hp_iload_n E 2 dX2_slotOf_71 rfl rfl ?_
        refine hp_iald E 43 aB_43 hq.1 dX2_slotOf_72 ?_
        replace hq := hq.2
        refine hp_iconst E (nI 1) dX2_slotOf_73 (by decide) ?_
        refine hp_isub E dX2_slotOf_74 ?_
        refine hp_aload_n E 1 dX2_slotOf_75 rfl rfl ?_
        refine hp_callVip (rest := []) E 35 fB_35_0 vcl_2 (c_X2_isSame l hJ hq) F_X2_isSame m_RX2_99 ⟨rfl, rfl⟩ ⟨Nat.le_of_ble_eq_true rfl, Nat.le_of_ble_eq_true rfl⟩ ⟨Nat.zero_le _, Nat.zero_le _⟩ rfl rfl (Nat.le_of_ble_eq_true rfl) dX2_slotOf_76 (fun r12 hq => ?_)
        refine hp_if_eq E 84 dX2_slotOf_79 (by decide) (fun c13 => ?_) (fun c13 => ?_)
        · replace hq := hq.1 c13
          refine hp_iload_n E 2 dX2_slotOf_84 rfl rfl ?_
          refine hp_iconst E (nI 1) dX2_slotOf_85 (by decide) ?_
          refine hp_iadd E dX2_slotOf_86 ?_
          refine hp_sipush E (nI 1023) dX2_slotOf_87 (by decide) ?_
          refine hp_iand E dX2_slotOf_90 ?_
          refine hp_topi (fun v14 ev14 => ?_)
          replace hq := hq v14 ev14
          refine hp_istore_n (lv' := [(0, .ref (ad 35)), (1, .ref (ad 47)), (3, .int v14), (4, .int v9)]) E dX2_slotOf_91 rfl (by decide) rfl rfl ?_
          obtain ⟨v15, ev15⟩ : ∃ z : Int32, z = v9 + (nI 1) := ⟨_, rfl⟩
          replace hq := hq v15 ev15
          refine hp_iinc (lv' := [(0, .ref (ad 35)), (1, .ref (ad 47)), (3, .int v14), (4, .int v15)]) E 3 v15 dX2_slotOf_92 rfl (by rw [ev15]; rfl) (by decide) rfl rfl ?_
          refine hp_goto E 49 dX2_slotOf_95 (by decide) ?_
          exact hB7 _ _ hq
        · replace hq := hq.2 c13
          refine hp_iload_n E 2 dX2_slotOf_82 rfl rfl ?_
          exact hp_iret E ⟨hq, rfl⟩ hZ dX2_slotOf_83
  · replace hq := hq.2 c4
    refine hp_iload_n E 2 dX2_slotOf_10 rfl rfl ?_
    refine hp_bipush E (nI 31) dX2_slotOf_11 (by decide) ?_
    refine hp_imul E dX2_slotOf_13 ?_
    refine hp_aload_n E 1 dX2_slotOf_14 rfl rfl ?_
    refine hp_gR E g_RX2_85 fB_47_0 dX2_slotOf_15 ?_
    refine hp_iload_n E 3 dX2_slotOf_18 rfl rfl ?_
    refine hp_iald E 48 aB_48 hq.1 dX2_slotOf_19 ?_
    replace hq := hq.2
    refine hp_iadd E dX2_slotOf_20 ?_
    refine hp_topi (fun v16 ev16 => ?_)
    replace hq := hq v16 ev16
    refine hp_istore_n (lv' := [(0, .ref (ad 35)), (1, .ref (ad 47)), (2, .int v16), (3, .int v3)]) E dX2_slotOf_21 rfl (by decide) rfl rfl ?_
    obtain ⟨v17, ev17⟩ : ∃ z : Int32, z = v3 + (nI 1) := ⟨_, rfl⟩
    replace hq := hq v17 ev17
    refine hp_iinc (lv' := [(0, .ref (ad 35)), (1, .ref (ad 47)), (2, .int v16), (3, .int v17)]) E 3 v17 dX2_slotOf_22 rfl (by rw [ev17]; rfl) (by decide) rfl rfl ?_
    refine hp_goto E 4 dX2_slotOf_25 (by decide) ?_
    exact hB1 _ _ hq
theorem dX2_addState_0 : decode cX2_addState 0 = .ok (.aload_n 1, 1) := by decide +kernel
theorem dX2_addState_1 : decode cX2_addState 1 = .ok (.getfield 85, 3) := by decide +kernel
theorem dX2_addState_4 : decode cX2_addState 4 = .ok (.iconst 0, 1) := by decide +kernel
theorem dX2_addState_5 : decode cX2_addState 5 = .ok (.aload_n 0, 1) := by decide +kernel
theorem dX2_addState_6 : decode cX2_addState 6 = .ok (.getfield 45, 3) := by decide +kernel
theorem dX2_addState_9 : decode cX2_addState 9 = .ok (.aload_n 0, 1) := by decide +kernel
theorem dX2_addState_10 : decode cX2_addState 10 = .ok (.getfield 58, 3) := by decide +kernel
theorem dX2_addState_13 : decode cX2_addState 13 = .ok (.bipush 13, 2) := by decide +kernel
theorem dX2_addState_15 : decode cX2_addState 15 = .ok (.imul, 1) := by decide +kernel
theorem dX2_addState_16 : decode cX2_addState 16 = .ok (.bipush 13, 2) := by decide +kernel
theorem dX2_addState_18 : decode cX2_addState 18 = .ok (.invokestatic 86, 3) := by decide +kernel
theorem dX2_addState_21 : decode cX2_addState 21 = .ok (.aload_n 0, 1) := by decide +kernel
theorem dX2_addState_22 : decode cX2_addState 22 = .ok (.getfield 34, 3) := by decide +kernel
theorem dX2_addState_25 : decode cX2_addState 25 = .ok (.aload_n 0, 1) := by decide +kernel
theorem dX2_addState_26 : decode cX2_addState 26 = .ok (.getfield 58, 3) := by decide +kernel
theorem dX2_addState_29 : decode cX2_addState 29 = .ok (.iload_n 3, 1) := by decide +kernel
theorem dX2_addState_30 : decode cX2_addState 30 = .ok (.iastore, 1) := by decide +kernel
theorem dX2_addState_31 : decode cX2_addState 31 = .ok (.aload_n 0, 1) := by decide +kernel
theorem dX2_addState_32 : decode cX2_addState 32 = .ok (.getfield 37, 3) := by decide +kernel
theorem dX2_addState_35 : decode cX2_addState 35 = .ok (.aload_n 0, 1) := by decide +kernel
theorem dX2_addState_36 : decode cX2_addState 36 = .ok (.getfield 58, 3) := by decide +kernel
theorem dX2_addState_39 : decode cX2_addState 39 = .ok (.iload 4, 2) := by decide +kernel
theorem dX2_addState_41 : decode cX2_addState 41 = .ok (.iastore, 1) := by decide +kernel
theorem dX2_addState_42 : decode cX2_addState 42 = .ok (.aload_n 0, 1) := by decide +kernel
theorem dX2_addState_43 : decode cX2_addState 43 = .ok (.getfield 31, 3) := by decide +kernel
theorem dX2_addState_46 : decode cX2_addState 46 = .ok (.aload_n 0, 1) := by decide +kernel
theorem dX2_addState_47 : decode cX2_addState 47 = .ok (.getfield 58, 3) := by decide +kernel
theorem dX2_addState_50 : decode cX2_addState 50 = .ok (.iload_n 3, 1) := by decide +kernel
theorem dX2_addState_51 : decode cX2_addState 51 = .ok (.iconst (-1), 1) := by decide +kernel
theorem dX2_addState_52 : decode cX2_addState 52 = .ok (.if_icmp .ne 7, 3) := by decide +kernel
theorem dX2_addState_55 : decode cX2_addState 55 = .ok (.iconst 0, 1) := by decide +kernel
theorem dX2_addState_56 : decode cX2_addState 56 = .ok (.goto 11, 3) := by decide +kernel
theorem dX2_addState_59 : decode cX2_addState 59 = .ok (.aload_n 0, 1) := by decide +kernel
theorem dX2_addState_60 : decode cX2_addState 60 = .ok (.getfield 31, 3) := by decide +kernel
theorem dX2_addState_63 : decode cX2_addState 63 = .ok (.iload_n 3, 1) := by decide +kernel
theorem dX2_addState_64 : decode cX2_addState 64 = .ok (.iaload, 1) := by decide +kernel
theorem dX2_addState_65 : decode cX2_addState 65 = .ok (.iconst 1, 1) := by decide +kernel
theorem dX2_addState_66 : decode cX2_addState 66 = .ok (.iadd, 1) := by decide +kernel
theorem dX2_addState_67 : decode cX2_addState 67 = .ok (.iastore, 1) := by decide +kernel
theorem dX2_addState_68 : decode cX2_addState 68 = .ok (.aload_n 0, 1) := by decide +kernel
theorem dX2_addState_69 : decode cX2_addState 69 = .ok (.dup, 1) := by decide +kernel
theorem dX2_addState_70 : decode cX2_addState 70 = .ok (.getfield 58, 3) := by decide +kernel
theorem dX2_addState_73 : decode cX2_addState 73 = .ok (.iconst 1, 1) := by decide +kernel
theorem dX2_addState_74 : decode cX2_addState 74 = .ok (.iadd, 1) := by decide +kernel
theorem dX2_addState_75 : decode cX2_addState 75 = .ok (.putfield 58, 3) := by decide +kernel
theorem dX2_addState_78 : decode cX2_addState 78 = .ok (.aload_n 0, 1) := by decide +kernel
theorem dX2_addState_79 : decode cX2_addState 79 = .ok (.getfield 48, 3) := by decide +kernel
theorem dX2_addState_82 : decode cX2_addState 82 = .ok (.iload_n 2, 1) := by decide +kernel
theorem dX2_addState_83 : decode cX2_addState 83 = .ok (.aload_n 0, 1) := by decide +kernel
theorem dX2_addState_84 : decode cX2_addState 84 = .ok (.getfield 58, 3) := by decide +kernel
theorem dX2_addState_87 : decode cX2_addState 87 = .ok (.iastore, 1) := by decide +kernel
theorem dX2_addState_88 : decode cX2_addState 88 = .ok (.return_, 1) := by decide +kernel
set_option maxHeartbeats 4000000 in
set_option maxRecDepth 100000 in
theorem c_X2_addState (l : Launch) {cs : Nat → ClassId} {ad : Nat → Nat} {A : Nat → Prop} {D : va_G} (hJ : hp_J SB ad A)   {h : hp_H} {a2 a3 a4 : Int32} {Q : hp_H → Prop} (hq : q_X2_addState h a2 a3 a4 Q) : hp_Mv l yX2_addState cX2_addState 5 none rm_X2_addState [.ref (ad 35), .ref (ad 47), .int a2, .int a3, .int a4] SB cs ad A D h Q := by
  refine hp_met (own := RX2) rfl (by decide) (Nat.le_of_ble_eq_true rfl) rfl (fun p e s m args below meth c Z E hZ hnm => ?_)
  refine hp_sub (lv' := [(0, .ref (ad 35)), (1, .ref (ad 47)), (2, .int a2), (3, .int a3), (4, .int a4)]) [0, 1, 2, 3, 4] rfl ?_
  unfold q_X2_addState at hq
  refine hp_aload_n E 1 dX2_addState_0 rfl rfl ?_
  refine hp_gR E g_RX2_85 fB_47_0 dX2_addState_1 ?_
  refine hp_iconst E (nI 0) dX2_addState_4 (by decide) ?_
  refine hp_aload_n E 0 dX2_addState_5 rfl rfl ?_
  refine hp_gR E g_RX2_45 fB_35_14 dX2_addState_6 ?_
  refine hp_aload_n E 0 dX2_addState_9 rfl rfl ?_
  refine hp_gI E g_RX2_58 fB_35_2 dX2_addState_10 ?_
  refine hp_bipush E (nI 13) dX2_addState_13 (by decide) ?_
  refine hp_imul E dX2_addState_15 ?_
  refine hp_bipush E (nI 13) dX2_addState_16 (by decide) ?_
  obtain ⟨⟨g1, g2, g3, g4, g5⟩, hq⟩ := hq
  refine hp_copy E 48 42 aB_48 aB_42 zB_42 hJ m_RX2_86 mm_copy g1 g2 g3 g4 g5 (Nat.le_of_ble_eq_true rfl) (Nat.le_of_ble_eq_true rfl) dX2_addState_18 ?_
  refine hp_toph (fun h1 eh1 => ?_)
  replace hq := hq h1 eh1
  refine hp_aload_n E 0 dX2_addState_21 rfl rfl ?_
  refine hp_gR E g_RX2_34 fB_35_11 dX2_addState_22 ?_
  refine hp_aload_n E 0 dX2_addState_25 rfl rfl ?_
  refine hp_gI E g_RX2_58 fB_35_2 dX2_addState_26 ?_
  refine hp_iload_n E 3 dX2_addState_29 rfl rfl ?_
  have hin := hq.1
  replace hq := hq.2
  refine hp_iast E 39 aB_39 zB_39 hJ hin dX2_addState_30 ?_
  refine hp_toph (fun h2 eh2 => ?_)
  replace hq := hq h2 eh2
  refine hp_aload_n E 0 dX2_addState_31 rfl rfl ?_
  refine hp_gR E g_RX2_37 fB_35_12 dX2_addState_32 ?_
  refine hp_aload_n E 0 dX2_addState_35 rfl rfl ?_
  refine hp_gI E g_RX2_58 fB_35_2 dX2_addState_36 ?_
  refine hp_iload E 4 dX2_addState_39 rfl ?_
  have hin := hq.1
  replace hq := hq.2
  refine hp_iast E 40 aB_40 zB_40 hJ hin dX2_addState_41 ?_
  refine hp_toph (fun h3 eh3 => ?_)
  replace hq := hq h3 eh3
  refine hp_aload_n E 0 dX2_addState_42 rfl rfl ?_
  refine hp_gR E g_RX2_31 fB_35_10 dX2_addState_43 ?_
  refine hp_aload_n E 0 dX2_addState_46 rfl rfl ?_
  refine hp_gI E g_RX2_58 fB_35_2 dX2_addState_47 ?_
  refine hp_iload_n E 3 dX2_addState_50 rfl rfl ?_
  refine hp_iconst E (-1) dX2_addState_51 (by decide) ?_
  obtain ⟨K5, hq, hK5⟩ := hq
  have jK5 : ∀ (v6 : Int32), K5 v6 → hp_G p l e rm_X2_addState s m args below meth c SB cs ad A D 5 0 0 Z 67 [(0, .ref (ad 35)), (2, .int a2)] [.int v6, .int (h3 35 2), .ref (ad 38)] h3 := by
    intro v6 hq
    replace hq := hK5 v6 hq
    have hin := hq.1
    replace hq := hq.2
    refine hp_iast E 38 aB_38 zB_38 hJ hin dX2_addState_67 ?_
    refine hp_toph (fun h7 eh7 => ?_)
    replace hq := hq h7 eh7
    refine hp_aload_n E 0 dX2_addState_68 rfl rfl ?_
    refine hp_dup E rfl dX2_addState_69 ?_
    refine hp_gI E g_RX2_58 fB_35_2 dX2_addState_70 ?_
    refine hp_iconst E (nI 1) dX2_addState_73 (by decide) ?_
    refine hp_iadd E dX2_addState_74 ?_
    refine hp_pI E p_RX2_58 fB_35_2 (by decide) hJ dX2_addState_75 ?_
    refine hp_toph (fun h8 eh8 => ?_)
    replace hq := hq h8 eh8
    refine hp_aload_n E 0 dX2_addState_78 rfl rfl ?_
    refine hp_gR E g_RX2_48 fB_35_15 dX2_addState_79 ?_
    refine hp_iload_n E 1 dX2_addState_82 rfl rfl ?_
    refine hp_aload_n E 0 dX2_addState_83 rfl rfl ?_
    refine hp_gI E g_RX2_58 fB_35_2 dX2_addState_84 ?_
    have hin := hq.1
    replace hq := hq.2
    refine hp_iast E 43 aB_43 zB_43 hJ hin dX2_addState_87 ?_
    refine hp_toph (fun h9 eh9 => ?_)
    replace hq := hq h9 eh9
    exact hp_vret E hq hZ dX2_addState_88
  refine hp_icmp_ne E 59 dX2_addState_52 (by decide) (fun c4 => ?_) (fun c4 => ?_)
  · replace hq := hq.2 c4
    refine hp_aload_n E 0 dX2_addState_59 rfl rfl ?_
    refine hp_gR E g_RX2_31 fB_35_10 dX2_addState_60 ?_
    refine hp_iload_n E 3 dX2_addState_63 rfl rfl ?_
    refine hp_iald E 38 aB_38 hq.1 dX2_addState_64 ?_
    replace hq := hq.2
    refine hp_iconst E (nI 1) dX2_addState_65 (by decide) ?_
    refine hp_iadd E dX2_addState_66 ?_
    refine hp_sub (lv' := [(0, .ref (ad 35)), (2, .int a2)]) [0, 2] rfl ?_
    exact jK5 _ hq
  · replace hq := hq.1 c4
    refine hp_iconst E (nI 0) dX2_addState_55 (by decide) ?_
    refine hp_goto E 67 dX2_addState_56 (by decide) ?_
    refine hp_sub (lv' := [(0, .ref (ad 35)), (2, .int a2)]) [0, 2] rfl ?_
    exact jK5 _ hq
theorem dX2_begin_0 : decode cX2_begin 0 = .ok (.aload_n 0, 1) := by decide +kernel
theorem dX2_begin_1 : decode cX2_begin 1 = .ok (.invokevirtual 64, 3) := by decide +kernel
theorem dX2_begin_4 : decode cX2_begin 4 = .ok (.aload_n 0, 1) := by decide +kernel
theorem dX2_begin_5 : decode cX2_begin 5 = .ok (.getfield 48, 3) := by decide +kernel
theorem dX2_begin_8 : decode cX2_begin 8 = .ok (.iconst 0, 1) := by decide +kernel
theorem dX2_begin_9 : decode cX2_begin 9 = .ok (.invokestatic 67, 3) := by decide +kernel
theorem dX2_begin_12 : decode cX2_begin 12 = .ok (.aload_n 0, 1) := by decide +kernel
theorem dX2_begin_13 : decode cX2_begin 13 = .ok (.iconst 1, 1) := by decide +kernel
theorem dX2_begin_14 : decode cX2_begin 14 = .ok (.putfield 51, 3) := by decide +kernel
theorem dX2_begin_17 : decode cX2_begin 17 = .ok (.aload_n 0, 1) := by decide +kernel
theorem dX2_begin_18 : decode cX2_begin 18 = .ok (.aload_n 1, 1) := by decide +kernel
theorem dX2_begin_19 : decode cX2_begin 19 = .ok (.aload_n 0, 1) := by decide +kernel
theorem dX2_begin_20 : decode cX2_begin 20 = .ok (.aload_n 1, 1) := by decide +kernel
theorem dX2_begin_21 : decode cX2_begin 21 = .ok (.invokevirtual 73, 3) := by decide +kernel
theorem dX2_begin_24 : decode cX2_begin 24 = .ok (.iconst (-1), 1) := by decide +kernel
theorem dX2_begin_25 : decode cX2_begin 25 = .ok (.iconst (-1), 1) := by decide +kernel
theorem dX2_begin_26 : decode cX2_begin 26 = .ok (.invokevirtual 77, 3) := by decide +kernel
theorem dX2_begin_29 : decode cX2_begin 29 = .ok (.return_, 1) := by decide +kernel
set_option maxHeartbeats 4000000 in
set_option maxRecDepth 100000 in
theorem c_X2_begin (l : Launch) {cs : Nat → ClassId} {ad : Nat → Nat} {A : Nat → Prop} {D : va_G} (hJ : hp_J SB ad A)   {h : hp_H} {Q : hp_H → Prop} (hq : q_X2_begin h Q) : hp_Mv l yX2_begin cX2_begin 2 none rm_X2_begin [.ref (ad 35), .ref (ad 47)] SB cs ad A D h Q := by
  refine hp_met (own := RX2) rfl (by decide) (Nat.le_of_ble_eq_true rfl) rfl (fun p e s m args below meth c Z E hZ hnm => ?_)
  refine hp_sub (lv' := [(0, .ref (ad 35)), (1, .ref (ad 47))]) [0, 1] rfl ?_
  unfold q_X2_begin at hq
  refine hp_aload_n E 0 dX2_begin_0 rfl rfl ?_
  refine hp_callVv' (rest := []) E 35 fB_35_0 vcl_2 (c_X2_clear l hJ hq) F_X2_clear m_RX2_64 ⟨rfl, rfl⟩ ⟨Nat.le_of_ble_eq_true rfl, Nat.le_of_ble_eq_true rfl⟩ ⟨Nat.zero_le _, Nat.zero_le _⟩ rfl rfl (Nat.le_of_ble_eq_true rfl) dX2_begin_1 (fun h1 hq => ?_)
  refine hp_aload_n E 0 dX2_begin_4 rfl rfl ?_
  refine hp_gR E g_RX2_48 fB_35_15 dX2_begin_5 ?_
  refine hp_iconst E (nI 0) dX2_begin_8 (by decide) ?_
  refine hp_callSv (rest := []) E (c_J7_fill_53178 l hJ aB_43 zB_43 hq) F_J7_fill_53178 m_RX2_67 ⟨rfl, rfl⟩ ⟨Nat.le_of_ble_eq_true rfl, Nat.le_of_ble_eq_true rfl⟩ ⟨Nat.zero_le _, Nat.zero_le _⟩ rfl rfl (Nat.le_of_ble_eq_true rfl) dX2_begin_9 (fun h2 hq => ?_)
  refine hp_aload_n E 0 dX2_begin_12 rfl rfl ?_
  refine hp_iconst E (nI 1) dX2_begin_13 (by decide) ?_
  refine hp_pZ E p_RX2_51 fB_35_0 (by decide) hJ (by unfold hp_bz; decide) dX2_begin_14 ?_
  refine hp_toph (fun h3 eh3 => ?_)
  replace hq := hq h3 eh3
  refine hp_aload_n E 0 dX2_begin_17 rfl rfl ?_
  refine hp_aload_n E 1 dX2_begin_18 rfl rfl ?_
  refine hp_aload_n E 0 dX2_begin_19 rfl rfl ?_
  refine hp_aload_n E 1 dX2_begin_20 rfl rfl ?_
  refine hp_callVip (rest := [.ref (ad 47), .ref (ad 35)]) E 35 fB_35_0 vcl_2 (c_X2_slotOf l hJ hq) F_X2_slotOf m_RX2_73 ⟨rfl, rfl⟩ ⟨Nat.le_of_ble_eq_true rfl, Nat.le_of_ble_eq_true rfl⟩ ⟨Nat.zero_le _, Nat.zero_le _⟩ rfl rfl (Nat.le_of_ble_eq_true rfl) dX2_begin_21 (fun r4 hq => ?_)
  refine hp_iconst E (-1) dX2_begin_24 (by decide) ?_
  refine hp_iconst E (-1) dX2_begin_25 (by decide) ?_
  refine hp_callVv' (rest := []) E 35 fB_35_0 vcl_2 (c_X2_addState l hJ hq) F_X2_addState m_RX2_77 ⟨rfl, rfl⟩ ⟨Nat.le_of_ble_eq_true rfl, Nat.le_of_ble_eq_true rfl⟩ ⟨Nat.zero_le _, Nat.zero_le _⟩ rfl rfl (Nat.le_of_ble_eq_true rfl) dX2_begin_26 (fun h5 hq => ?_)
  exact hp_vret E hq hZ dX2_begin_29
theorem dX2_isUsable_0 : decode cX2_isUsable 0 = .ok (.aload_n 0, 1) := by decide +kernel
theorem dX2_isUsable_1 : decode cX2_isUsable 1 = .ok (.getfield 51, 3) := by decide +kernel
theorem dX2_isUsable_4 : decode cX2_isUsable 4 = .ok (.ifCond .eq 14, 3) := by decide +kernel
theorem dX2_isUsable_7 : decode cX2_isUsable 7 = .ok (.aload_n 0, 1) := by decide +kernel
theorem dX2_isUsable_8 : decode cX2_isUsable 8 = .ok (.getfield 55, 3) := by decide +kernel
theorem dX2_isUsable_11 : decode cX2_isUsable 11 = .ok (.ifCond .ne 7, 3) := by decide +kernel
theorem dX2_isUsable_14 : decode cX2_isUsable 14 = .ok (.iconst 1, 1) := by decide +kernel
theorem dX2_isUsable_15 : decode cX2_isUsable 15 = .ok (.goto 4, 3) := by decide +kernel
theorem dX2_isUsable_18 : decode cX2_isUsable 18 = .ok (.iconst 0, 1) := by decide +kernel
theorem dX2_isUsable_19 : decode cX2_isUsable 19 = .ok (.ireturn, 1) := by decide +kernel
set_option maxHeartbeats 4000000 in
set_option maxRecDepth 100000 in
theorem c_X2_isUsable (l : Launch) {cs : Nat → ClassId} {ad : Nat → Nat} {A : Nat → Prop} {D : va_G} (hJ : hp_J SB ad A)   {h : hp_H} {Q : Int32 → Prop} (hq : q_X2_isUsable h Q) : hp_Mi l yX2_isUsable cX2_isUsable 1 (some .boolean) rm_X2_isUsable [.ref (ad 35)] SB cs ad A D h (fun r h' => Q r ∧ h' = h) := by
  refine hp_met (own := RX2) rfl (by decide) (Nat.le_of_ble_eq_true rfl) rfl (fun p e s m args below meth c Z E hZ hnm => ?_)
  refine hp_sub (lv' := [(0, .ref (ad 35))]) [0] rfl ?_
  unfold q_X2_isUsable at hq
  refine hp_aload_n E 0 dX2_isUsable_0 rfl rfl ?_
  refine hp_gI E g_RX2_51 fB_35_0 dX2_isUsable_1 ?_
  refine hp_if_eq E 18 dX2_isUsable_4 (by decide) (fun c1 => ?_) (fun c1 => ?_)
  · replace hq := hq.1 c1
    refine hp_iconst E (nI 0) dX2_isUsable_18 (by decide) ?_
    exact hp_zret E (by unfold hp_bz; decide) ⟨hq, rfl⟩ hZ dX2_isUsable_19
  · replace hq := hq.2 c1
    refine hp_aload_n E 0 dX2_isUsable_7 rfl rfl ?_
    refine hp_gI E g_RX2_55 fB_35_1 dX2_isUsable_8 ?_
    refine hp_if_ne E 18 dX2_isUsable_11 (by decide) (fun c2 => ?_) (fun c2 => ?_)
    · replace hq := hq.2 c2
      refine hp_iconst E (nI 0) dX2_isUsable_18 (by decide) ?_
      exact hp_zret E (by unfold hp_bz; decide) ⟨hq, rfl⟩ hZ dX2_isUsable_19
    · replace hq := hq.1 c2
      refine hp_iconst E (nI 1) dX2_isUsable_14 (by decide) ?_
      refine hp_goto E 19 dX2_isUsable_15 (by decide) ?_
      exact hp_zret E (by unfold hp_bz; decide) ⟨hq, rfl⟩ hZ dX2_isUsable_19
theorem dX2_has_0 : decode cX2_has 0 = .ok (.aload_n 0, 1) := by decide +kernel
theorem dX2_has_1 : decode cX2_has 1 = .ok (.invokevirtual 81, 3) := by decide +kernel
theorem dX2_has_4 : decode cX2_has 4 = .ok (.ifCond .eq 19, 3) := by decide +kernel
theorem dX2_has_7 : decode cX2_has 7 = .ok (.iload_n 1, 1) := by decide +kernel
theorem dX2_has_8 : decode cX2_has 8 = .ok (.ifCond .lt 15, 3) := by decide +kernel
theorem dX2_has_11 : decode cX2_has 11 = .ok (.iload_n 1, 1) := by decide +kernel
theorem dX2_has_12 : decode cX2_has 12 = .ok (.aload_n 0, 1) := by decide +kernel
theorem dX2_has_13 : decode cX2_has 13 = .ok (.getfield 58, 3) := by decide +kernel
theorem dX2_has_16 : decode cX2_has 16 = .ok (.if_icmp .ge 7, 3) := by decide +kernel
theorem dX2_has_19 : decode cX2_has 19 = .ok (.iconst 1, 1) := by decide +kernel
theorem dX2_has_20 : decode cX2_has 20 = .ok (.goto 4, 3) := by decide +kernel
theorem dX2_has_23 : decode cX2_has 23 = .ok (.iconst 0, 1) := by decide +kernel
theorem dX2_has_24 : decode cX2_has 24 = .ok (.ireturn, 1) := by decide +kernel
set_option maxHeartbeats 4000000 in
set_option maxRecDepth 100000 in
theorem c_X2_has (l : Launch) {cs : Nat → ClassId} {ad : Nat → Nat} {A : Nat → Prop} {D : va_G} (hJ : hp_J SB ad A)   {h : hp_H} {a1 : Int32} {Q : Int32 → Prop} (hq : q_X2_has h a1 Q) : hp_Mi l yX2_has cX2_has 2 (some .boolean) rm_X2_has [.ref (ad 35), .int a1] SB cs ad A D h (fun r h' => Q r ∧ h' = h) := by
  refine hp_met (own := RX2) rfl (by decide) (Nat.le_of_ble_eq_true rfl) rfl (fun p e s m args below meth c Z E hZ hnm => ?_)
  refine hp_sub (lv' := [(0, .ref (ad 35)), (1, .int a1)]) [0, 1] rfl ?_
  unfold q_X2_has at hq
  refine hp_aload_n E 0 dX2_has_0 rfl rfl ?_
  refine hp_callVip (rest := []) E 35 fB_35_0 vcl_2 (c_X2_isUsable l hJ hq) F_X2_isUsable m_RX2_81 ⟨rfl, rfl⟩ ⟨Nat.le_of_ble_eq_true rfl, Nat.le_of_ble_eq_true rfl⟩ ⟨Nat.zero_le _, Nat.zero_le _⟩ rfl rfl (Nat.le_of_ble_eq_true rfl) dX2_has_1 (fun r1 hq => ?_)
  refine hp_if_eq E 23 dX2_has_4 (by decide) (fun c2 => ?_) (fun c2 => ?_)
  · replace hq := hq.1 c2
    refine hp_iconst E (nI 0) dX2_has_23 (by decide) ?_
    exact hp_zret E (by unfold hp_bz; decide) ⟨hq, rfl⟩ hZ dX2_has_24
  · replace hq := hq.2 c2
    refine hp_iload_n E 1 dX2_has_7 rfl rfl ?_
    refine hp_if_lt E 23 dX2_has_8 (by decide) (fun c3 => ?_) (fun c3 => ?_)
    · replace hq := hq.1 c3
      refine hp_iconst E (nI 0) dX2_has_23 (by decide) ?_
      exact hp_zret E (by unfold hp_bz; decide) ⟨hq, rfl⟩ hZ dX2_has_24
    · replace hq := hq.2 c3
      refine hp_iload_n E 1 dX2_has_11 rfl rfl ?_
      refine hp_aload_n E 0 dX2_has_12 rfl rfl ?_
      refine hp_gI E g_RX2_58 fB_35_2 dX2_has_13 ?_
      refine hp_icmp_ge E 23 dX2_has_16 (by decide) (fun c4 => ?_) (fun c4 => ?_)
      · replace hq := hq.1 c4
        refine hp_iconst E (nI 0) dX2_has_23 (by decide) ?_
        exact hp_zret E (by unfold hp_bz; decide) ⟨hq, rfl⟩ hZ dX2_has_24
      · replace hq := hq.2 c4
        refine hp_iconst E (nI 1) dX2_has_19 (by decide) ?_
        refine hp_goto E 24 dX2_has_20 (by decide) ?_
        exact hp_zret E (by unfold hp_bz; decide) ⟨hq, rfl⟩ hZ dX2_has_24
theorem dX2_movesFrom_0 : decode cX2_movesFrom 0 = .ok (.aload_n 0, 1) := by decide +kernel
theorem dX2_movesFrom_1 : decode cX2_movesFrom 1 = .ok (.getfield 24, 3) := by decide +kernel
theorem dX2_movesFrom_4 : decode cX2_movesFrom 4 = .ok (.iload_n 1, 1) := by decide +kernel
theorem dX2_movesFrom_5 : decode cX2_movesFrom 5 = .ok (.iconst 1, 1) := by decide +kernel
theorem dX2_movesFrom_6 : decode cX2_movesFrom 6 = .ok (.iadd, 1) := by decide +kernel
theorem dX2_movesFrom_7 : decode cX2_movesFrom 7 = .ok (.iaload, 1) := by decide +kernel
theorem dX2_movesFrom_8 : decode cX2_movesFrom 8 = .ok (.aload_n 0, 1) := by decide +kernel
theorem dX2_movesFrom_9 : decode cX2_movesFrom 9 = .ok (.getfield 24, 3) := by decide +kernel
theorem dX2_movesFrom_12 : decode cX2_movesFrom 12 = .ok (.iload_n 1, 1) := by decide +kernel
theorem dX2_movesFrom_13 : decode cX2_movesFrom 13 = .ok (.iaload, 1) := by decide +kernel
theorem dX2_movesFrom_14 : decode cX2_movesFrom 14 = .ok (.isub, 1) := by decide +kernel
theorem dX2_movesFrom_15 : decode cX2_movesFrom 15 = .ok (.ireturn, 1) := by decide +kernel
set_option maxHeartbeats 4000000 in
set_option maxRecDepth 100000 in
theorem c_X2_movesFrom (l : Launch) {cs : Nat → ClassId} {ad : Nat → Nat} {A : Nat → Prop} {D : va_G} (hJ : hp_J SB ad A)   {h : hp_H} {a1 : Int32} {Q : Int32 → Prop} (hq : q_X2_movesFrom h a1 Q) : hp_Mi l yX2_movesFrom cX2_movesFrom 2 (some .int) rm_X2_movesFrom [.ref (ad 35), .int a1] SB cs ad A D h (fun r h' => Q r ∧ h' = h) := by
  refine hp_met (own := RX2) rfl (by decide) (Nat.le_of_ble_eq_true rfl) rfl (fun p e s m args below meth c Z E hZ hnm => ?_)
  refine hp_sub (lv' := [(0, .ref (ad 35)), (1, .int a1)]) [0, 1] rfl ?_
  unfold q_X2_movesFrom at hq
  refine hp_aload_n E 0 dX2_movesFrom_0 rfl rfl ?_
  refine hp_gR E g_RX2_24 fB_35_8 dX2_movesFrom_1 ?_
  refine hp_iload_n E 1 dX2_movesFrom_4 rfl rfl ?_
  refine hp_iconst E (nI 1) dX2_movesFrom_5 (by decide) ?_
  refine hp_iadd E dX2_movesFrom_6 ?_
  refine hp_iald E 36 aB_36 hq.1 dX2_movesFrom_7 ?_
  replace hq := hq.2
  refine hp_aload_n E 0 dX2_movesFrom_8 rfl rfl ?_
  refine hp_gR E g_RX2_24 fB_35_8 dX2_movesFrom_9 ?_
  refine hp_iload_n E 1 dX2_movesFrom_12 rfl rfl ?_
  refine hp_iald E 36 aB_36 hq.1 dX2_movesFrom_13 ?_
  replace hq := hq.2
  refine hp_isub E dX2_movesFrom_14 ?_
  exact hp_iret E ⟨hq, rfl⟩ hZ dX2_movesFrom_15
theorem dX2_roleOfMove_0 : decode cX2_roleOfMove 0 = .ok (.aload_n 0, 1) := by decide +kernel
theorem dX2_roleOfMove_1 : decode cX2_roleOfMove 1 = .ok (.getfield 40, 3) := by decide +kernel
theorem dX2_roleOfMove_4 : decode cX2_roleOfMove 4 = .ok (.iload_n 1, 1) := by decide +kernel
theorem dX2_roleOfMove_5 : decode cX2_roleOfMove 5 = .ok (.iaload, 1) := by decide +kernel
theorem dX2_roleOfMove_6 : decode cX2_roleOfMove 6 = .ok (.iconst (-1), 1) := by decide +kernel
theorem dX2_roleOfMove_7 : decode cX2_roleOfMove 7 = .ok (.if_icmp .ne 7, 3) := by decide +kernel
theorem dX2_roleOfMove_10 : decode cX2_roleOfMove 10 = .ok (.iconst (-1), 1) := by decide +kernel
theorem dX2_roleOfMove_11 : decode cX2_roleOfMove 11 = .ok (.goto 12, 3) := by decide +kernel
theorem dX2_roleOfMove_14 : decode cX2_roleOfMove 14 = .ok (.aload_n 0, 1) := by decide +kernel
theorem dX2_roleOfMove_15 : decode cX2_roleOfMove 15 = .ok (.getfield 40, 3) := by decide +kernel
theorem dX2_roleOfMove_18 : decode cX2_roleOfMove 18 = .ok (.iload_n 1, 1) := by decide +kernel
theorem dX2_roleOfMove_19 : decode cX2_roleOfMove 19 = .ok (.iaload, 1) := by decide +kernel
theorem dX2_roleOfMove_20 : decode cX2_roleOfMove 20 = .ok (.bipush 72, 2) := by decide +kernel
theorem dX2_roleOfMove_22 : decode cX2_roleOfMove 22 = .ok (.idiv, 1) := by decide +kernel
theorem dX2_roleOfMove_23 : decode cX2_roleOfMove 23 = .ok (.ireturn, 1) := by decide +kernel
set_option maxHeartbeats 4000000 in
set_option maxRecDepth 100000 in
theorem c_X2_roleOfMove (l : Launch) {cs : Nat → ClassId} {ad : Nat → Nat} {A : Nat → Prop} {D : va_G} (hJ : hp_J SB ad A)   {h : hp_H} {a1 : Int32} {Q : Int32 → Prop} (hq : q_X2_roleOfMove h a1 Q) : hp_Mi l yX2_roleOfMove cX2_roleOfMove 2 (some .int) rm_X2_roleOfMove [.ref (ad 35), .int a1] SB cs ad A D h (fun r h' => Q r ∧ h' = h) := by
  refine hp_met (own := RX2) rfl (by decide) (Nat.le_of_ble_eq_true rfl) rfl (fun p e s m args below meth c Z E hZ hnm => ?_)
  refine hp_sub (lv' := [(0, .ref (ad 35)), (1, .int a1)]) [0, 1] rfl ?_
  unfold q_X2_roleOfMove at hq
  refine hp_aload_n E 0 dX2_roleOfMove_0 rfl rfl ?_
  refine hp_gR E g_RX2_40 fB_35_13 dX2_roleOfMove_1 ?_
  refine hp_iload_n E 1 dX2_roleOfMove_4 rfl rfl ?_
  refine hp_iald E 41 aB_41 hq.1 dX2_roleOfMove_5 ?_
  replace hq := hq.2
  refine hp_iconst E (-1) dX2_roleOfMove_6 (by decide) ?_
  refine hp_icmp_ne E 14 dX2_roleOfMove_7 (by decide) (fun c1 => ?_) (fun c1 => ?_)
  · replace hq := hq.2 c1
    refine hp_aload_n E 0 dX2_roleOfMove_14 rfl rfl ?_
    refine hp_gR E g_RX2_40 fB_35_13 dX2_roleOfMove_15 ?_
    refine hp_iload_n E 1 dX2_roleOfMove_18 rfl rfl ?_
    refine hp_iald E 41 aB_41 hq.1 dX2_roleOfMove_19 ?_
    replace hq := hq.2
    refine hp_bipush E (nI 72) dX2_roleOfMove_20 (by decide) ?_
    refine hp_idiv E (by decide) dX2_roleOfMove_22 ?_
    exact hp_iret E ⟨hq, rfl⟩ hZ dX2_roleOfMove_23
  · replace hq := hq.1 c1
    refine hp_iconst E (-1) dX2_roleOfMove_10 (by decide) ?_
    refine hp_goto E 23 dX2_roleOfMove_11 (by decide) ?_
    exact hp_iret E ⟨hq, rfl⟩ hZ dX2_roleOfMove_23
theorem dX2_memberOfMove_0 : decode cX2_memberOfMove 0 = .ok (.aload_n 0, 1) := by decide +kernel
theorem dX2_memberOfMove_1 : decode cX2_memberOfMove 1 = .ok (.getfield 40, 3) := by decide +kernel
theorem dX2_memberOfMove_4 : decode cX2_memberOfMove 4 = .ok (.iload_n 1, 1) := by decide +kernel
theorem dX2_memberOfMove_5 : decode cX2_memberOfMove 5 = .ok (.iaload, 1) := by decide +kernel
theorem dX2_memberOfMove_6 : decode cX2_memberOfMove 6 = .ok (.iconst (-1), 1) := by decide +kernel
theorem dX2_memberOfMove_7 : decode cX2_memberOfMove 7 = .ok (.if_icmp .ne 7, 3) := by decide +kernel
theorem dX2_memberOfMove_10 : decode cX2_memberOfMove 10 = .ok (.iconst (-1), 1) := by decide +kernel
theorem dX2_memberOfMove_11 : decode cX2_memberOfMove 11 = .ok (.goto 14, 3) := by decide +kernel
theorem dX2_memberOfMove_14 : decode cX2_memberOfMove 14 = .ok (.aload_n 0, 1) := by decide +kernel
theorem dX2_memberOfMove_15 : decode cX2_memberOfMove 15 = .ok (.getfield 40, 3) := by decide +kernel
theorem dX2_memberOfMove_18 : decode cX2_memberOfMove 18 = .ok (.iload_n 1, 1) := by decide +kernel
theorem dX2_memberOfMove_19 : decode cX2_memberOfMove 19 = .ok (.iaload, 1) := by decide +kernel
theorem dX2_memberOfMove_20 : decode cX2_memberOfMove 20 = .ok (.bipush 24, 2) := by decide +kernel
theorem dX2_memberOfMove_22 : decode cX2_memberOfMove 22 = .ok (.idiv, 1) := by decide +kernel
theorem dX2_memberOfMove_23 : decode cX2_memberOfMove 23 = .ok (.iconst 3, 1) := by decide +kernel
theorem dX2_memberOfMove_24 : decode cX2_memberOfMove 24 = .ok (.irem, 1) := by decide +kernel
theorem dX2_memberOfMove_25 : decode cX2_memberOfMove 25 = .ok (.ireturn, 1) := by decide +kernel
set_option maxHeartbeats 4000000 in
set_option maxRecDepth 100000 in
theorem c_X2_memberOfMove (l : Launch) {cs : Nat → ClassId} {ad : Nat → Nat} {A : Nat → Prop} {D : va_G} (hJ : hp_J SB ad A)   {h : hp_H} {a1 : Int32} {Q : Int32 → Prop} (hq : q_X2_memberOfMove h a1 Q) : hp_Mi l yX2_memberOfMove cX2_memberOfMove 2 (some .int) rm_X2_memberOfMove [.ref (ad 35), .int a1] SB cs ad A D h (fun r h' => Q r ∧ h' = h) := by
  refine hp_met (own := RX2) rfl (by decide) (Nat.le_of_ble_eq_true rfl) rfl (fun p e s m args below meth c Z E hZ hnm => ?_)
  refine hp_sub (lv' := [(0, .ref (ad 35)), (1, .int a1)]) [0, 1] rfl ?_
  unfold q_X2_memberOfMove at hq
  refine hp_aload_n E 0 dX2_memberOfMove_0 rfl rfl ?_
  refine hp_gR E g_RX2_40 fB_35_13 dX2_memberOfMove_1 ?_
  refine hp_iload_n E 1 dX2_memberOfMove_4 rfl rfl ?_
  refine hp_iald E 41 aB_41 hq.1 dX2_memberOfMove_5 ?_
  replace hq := hq.2
  refine hp_iconst E (-1) dX2_memberOfMove_6 (by decide) ?_
  refine hp_icmp_ne E 14 dX2_memberOfMove_7 (by decide) (fun c1 => ?_) (fun c1 => ?_)
  · replace hq := hq.2 c1
    refine hp_aload_n E 0 dX2_memberOfMove_14 rfl rfl ?_
    refine hp_gR E g_RX2_40 fB_35_13 dX2_memberOfMove_15 ?_
    refine hp_iload_n E 1 dX2_memberOfMove_18 rfl rfl ?_
    refine hp_iald E 41 aB_41 hq.1 dX2_memberOfMove_19 ?_
    replace hq := hq.2
    refine hp_bipush E (nI 24) dX2_memberOfMove_20 (by decide) ?_
    refine hp_idiv E (by decide) dX2_memberOfMove_22 ?_
    refine hp_iconst E (nI 3) dX2_memberOfMove_23 (by decide) ?_
    refine hp_irem E (by decide) dX2_memberOfMove_24 ?_
    exact hp_iret E ⟨hq, rfl⟩ hZ dX2_memberOfMove_25
  · replace hq := hq.1 c1
    refine hp_iconst E (-1) dX2_memberOfMove_10 (by decide) ?_
    refine hp_goto E 25 dX2_memberOfMove_11 (by decide) ?_
    exact hp_iret E ⟨hq, rfl⟩ hZ dX2_memberOfMove_25
theorem dX2_stepOfMove_0 : decode cX2_stepOfMove 0 = .ok (.aload_n 0, 1) := by decide +kernel
theorem dX2_stepOfMove_1 : decode cX2_stepOfMove 1 = .ok (.getfield 40, 3) := by decide +kernel
theorem dX2_stepOfMove_4 : decode cX2_stepOfMove 4 = .ok (.iload_n 1, 1) := by decide +kernel
theorem dX2_stepOfMove_5 : decode cX2_stepOfMove 5 = .ok (.iaload, 1) := by decide +kernel
theorem dX2_stepOfMove_6 : decode cX2_stepOfMove 6 = .ok (.iconst (-1), 1) := by decide +kernel
theorem dX2_stepOfMove_7 : decode cX2_stepOfMove 7 = .ok (.if_icmp .ne 7, 3) := by decide +kernel
theorem dX2_stepOfMove_10 : decode cX2_stepOfMove 10 = .ok (.iconst (-1), 1) := by decide +kernel
theorem dX2_stepOfMove_11 : decode cX2_stepOfMove 11 = .ok (.goto 12, 3) := by decide +kernel
theorem dX2_stepOfMove_14 : decode cX2_stepOfMove 14 = .ok (.aload_n 0, 1) := by decide +kernel
theorem dX2_stepOfMove_15 : decode cX2_stepOfMove 15 = .ok (.getfield 40, 3) := by decide +kernel
theorem dX2_stepOfMove_18 : decode cX2_stepOfMove 18 = .ok (.iload_n 1, 1) := by decide +kernel
theorem dX2_stepOfMove_19 : decode cX2_stepOfMove 19 = .ok (.iaload, 1) := by decide +kernel
theorem dX2_stepOfMove_20 : decode cX2_stepOfMove 20 = .ok (.bipush 24, 2) := by decide +kernel
theorem dX2_stepOfMove_22 : decode cX2_stepOfMove 22 = .ok (.irem, 1) := by decide +kernel
theorem dX2_stepOfMove_23 : decode cX2_stepOfMove 23 = .ok (.ireturn, 1) := by decide +kernel
set_option maxHeartbeats 4000000 in
set_option maxRecDepth 100000 in
theorem c_X2_stepOfMove (l : Launch) {cs : Nat → ClassId} {ad : Nat → Nat} {A : Nat → Prop} {D : va_G} (hJ : hp_J SB ad A)   {h : hp_H} {a1 : Int32} {Q : Int32 → Prop} (hq : q_X2_stepOfMove h a1 Q) : hp_Mi l yX2_stepOfMove cX2_stepOfMove 2 (some .int) rm_X2_stepOfMove [.ref (ad 35), .int a1] SB cs ad A D h (fun r h' => Q r ∧ h' = h) := by
  refine hp_met (own := RX2) rfl (by decide) (Nat.le_of_ble_eq_true rfl) rfl (fun p e s m args below meth c Z E hZ hnm => ?_)
  refine hp_sub (lv' := [(0, .ref (ad 35)), (1, .int a1)]) [0, 1] rfl ?_
  unfold q_X2_stepOfMove at hq
  refine hp_aload_n E 0 dX2_stepOfMove_0 rfl rfl ?_
  refine hp_gR E g_RX2_40 fB_35_13 dX2_stepOfMove_1 ?_
  refine hp_iload_n E 1 dX2_stepOfMove_4 rfl rfl ?_
  refine hp_iald E 41 aB_41 hq.1 dX2_stepOfMove_5 ?_
  replace hq := hq.2
  refine hp_iconst E (-1) dX2_stepOfMove_6 (by decide) ?_
  refine hp_icmp_ne E 14 dX2_stepOfMove_7 (by decide) (fun c1 => ?_) (fun c1 => ?_)
  · replace hq := hq.2 c1
    refine hp_aload_n E 0 dX2_stepOfMove_14 rfl rfl ?_
    refine hp_gR E g_RX2_40 fB_35_13 dX2_stepOfMove_15 ?_
    refine hp_iload_n E 1 dX2_stepOfMove_18 rfl rfl ?_
    refine hp_iald E 41 aB_41 hq.1 dX2_stepOfMove_19 ?_
    replace hq := hq.2
    refine hp_bipush E (nI 24) dX2_stepOfMove_20 (by decide) ?_
    refine hp_irem E (by decide) dX2_stepOfMove_22 ?_
    exact hp_iret E ⟨hq, rfl⟩ hZ dX2_stepOfMove_23
  · replace hq := hq.1 c1
    refine hp_iconst E (-1) dX2_stepOfMove_10 (by decide) ?_
    refine hp_goto E 23 dX2_stepOfMove_11 (by decide) ?_
    exact hp_iret E ⟨hq, rfl⟩ hZ dX2_stepOfMove_23
theorem dX2_moverBit_0 : decode cX2_moverBit 0 = .ok (.aload_n 0, 1) := by decide +kernel
theorem dX2_moverBit_1 : decode cX2_moverBit 1 = .ok (.getfield 40, 3) := by decide +kernel
theorem dX2_moverBit_4 : decode cX2_moverBit 4 = .ok (.iload_n 1, 1) := by decide +kernel
theorem dX2_moverBit_5 : decode cX2_moverBit 5 = .ok (.iaload, 1) := by decide +kernel
theorem dX2_moverBit_6 : decode cX2_moverBit 6 = .ok (.iconst (-1), 1) := by decide +kernel
theorem dX2_moverBit_7 : decode cX2_moverBit 7 = .ok (.if_icmp .ne 7, 3) := by decide +kernel
theorem dX2_moverBit_10 : decode cX2_moverBit 10 = .ok (.iconst 0, 1) := by decide +kernel
theorem dX2_moverBit_11 : decode cX2_moverBit 11 = .ok (.goto 14, 3) := by decide +kernel
theorem dX2_moverBit_14 : decode cX2_moverBit 14 = .ok (.iconst 1, 1) := by decide +kernel
theorem dX2_moverBit_15 : decode cX2_moverBit 15 = .ok (.aload_n 0, 1) := by decide +kernel
theorem dX2_moverBit_16 : decode cX2_moverBit 16 = .ok (.getfield 40, 3) := by decide +kernel
theorem dX2_moverBit_19 : decode cX2_moverBit 19 = .ok (.iload_n 1, 1) := by decide +kernel
theorem dX2_moverBit_20 : decode cX2_moverBit 20 = .ok (.iaload, 1) := by decide +kernel
theorem dX2_moverBit_21 : decode cX2_moverBit 21 = .ok (.bipush 24, 2) := by decide +kernel
theorem dX2_moverBit_23 : decode cX2_moverBit 23 = .ok (.idiv, 1) := by decide +kernel
theorem dX2_moverBit_24 : decode cX2_moverBit 24 = .ok (.ishl, 1) := by decide +kernel
theorem dX2_moverBit_25 : decode cX2_moverBit 25 = .ok (.ireturn, 1) := by decide +kernel
set_option maxHeartbeats 4000000 in
set_option maxRecDepth 100000 in
theorem c_X2_moverBit (l : Launch) {cs : Nat → ClassId} {ad : Nat → Nat} {A : Nat → Prop} {D : va_G} (hJ : hp_J SB ad A)   {h : hp_H} {a1 : Int32} {Q : Int32 → Prop} (hq : q_X2_moverBit h a1 Q) : hp_Mi l yX2_moverBit cX2_moverBit 2 (some .int) rm_X2_moverBit [.ref (ad 35), .int a1] SB cs ad A D h (fun r h' => Q r ∧ h' = h) := by
  refine hp_met (own := RX2) rfl (by decide) (Nat.le_of_ble_eq_true rfl) rfl (fun p e s m args below meth c Z E hZ hnm => ?_)
  refine hp_sub (lv' := [(0, .ref (ad 35)), (1, .int a1)]) [0, 1] rfl ?_
  unfold q_X2_moverBit at hq
  refine hp_aload_n E 0 dX2_moverBit_0 rfl rfl ?_
  refine hp_gR E g_RX2_40 fB_35_13 dX2_moverBit_1 ?_
  refine hp_iload_n E 1 dX2_moverBit_4 rfl rfl ?_
  refine hp_iald E 41 aB_41 hq.1 dX2_moverBit_5 ?_
  replace hq := hq.2
  refine hp_iconst E (-1) dX2_moverBit_6 (by decide) ?_
  refine hp_icmp_ne E 14 dX2_moverBit_7 (by decide) (fun c1 => ?_) (fun c1 => ?_)
  · replace hq := hq.2 c1
    refine hp_iconst E (nI 1) dX2_moverBit_14 (by decide) ?_
    refine hp_aload_n E 0 dX2_moverBit_15 rfl rfl ?_
    refine hp_gR E g_RX2_40 fB_35_13 dX2_moverBit_16 ?_
    refine hp_iload_n E 1 dX2_moverBit_19 rfl rfl ?_
    refine hp_iald E 41 aB_41 hq.1 dX2_moverBit_20 ?_
    replace hq := hq.2
    refine hp_bipush E (nI 24) dX2_moverBit_21 (by decide) ?_
    refine hp_idiv E (by decide) dX2_moverBit_23 ?_
    refine hp_ishl E dX2_moverBit_24 ?_
    exact hp_iret E ⟨hq, rfl⟩ hZ dX2_moverBit_25
  · replace hq := hq.1 c1
    refine hp_iconst E (nI 0) dX2_moverBit_10 (by decide) ?_
    refine hp_goto E 25 dX2_moverBit_11 (by decide) ?_
    exact hp_iret E ⟨hq, rfl⟩ hZ dX2_moverBit_25
theorem dX2_hasMemberMove_0 : decode cX2_hasMemberMove 0 = .ok (.aload_n 0, 1) := by decide +kernel
theorem dX2_hasMemberMove_1 : decode cX2_hasMemberMove 1 = .ok (.iload_n 1, 1) := by decide +kernel
theorem dX2_hasMemberMove_2 : decode cX2_hasMemberMove 2 = .ok (.invokevirtual 92, 3) := by decide +kernel
theorem dX2_hasMemberMove_5 : decode cX2_hasMemberMove 5 = .ok (.ifCond .le 20, 3) := by decide +kernel
theorem dX2_hasMemberMove_8 : decode cX2_hasMemberMove 8 = .ok (.aload_n 0, 1) := by decide +kernel
theorem dX2_hasMemberMove_9 : decode cX2_hasMemberMove 9 = .ok (.aload_n 0, 1) := by decide +kernel
theorem dX2_hasMemberMove_10 : decode cX2_hasMemberMove 10 = .ok (.getfield 24, 3) := by decide +kernel
theorem dX2_hasMemberMove_13 : decode cX2_hasMemberMove 13 = .ok (.iload_n 1, 1) := by decide +kernel
theorem dX2_hasMemberMove_14 : decode cX2_hasMemberMove 14 = .ok (.iaload, 1) := by decide +kernel
theorem dX2_hasMemberMove_15 : decode cX2_hasMemberMove 15 = .ok (.invokevirtual 96, 3) := by decide +kernel
theorem dX2_hasMemberMove_18 : decode cX2_hasMemberMove 18 = .ok (.ifCond .eq 7, 3) := by decide +kernel
theorem dX2_hasMemberMove_21 : decode cX2_hasMemberMove 21 = .ok (.iconst 1, 1) := by decide +kernel
theorem dX2_hasMemberMove_22 : decode cX2_hasMemberMove 22 = .ok (.goto 4, 3) := by decide +kernel
theorem dX2_hasMemberMove_25 : decode cX2_hasMemberMove 25 = .ok (.iconst 0, 1) := by decide +kernel
theorem dX2_hasMemberMove_26 : decode cX2_hasMemberMove 26 = .ok (.ireturn, 1) := by decide +kernel
set_option maxHeartbeats 4000000 in
set_option maxRecDepth 100000 in
theorem c_X2_hasMemberMove (l : Launch) {cs : Nat → ClassId} {ad : Nat → Nat} {A : Nat → Prop} {D : va_G} (hJ : hp_J SB ad A)   {h : hp_H} {a1 : Int32} {Q : Int32 → Prop} (hq : q_X2_hasMemberMove h a1 Q) : hp_Mi l yX2_hasMemberMove cX2_hasMemberMove 2 (some .boolean) rm_X2_hasMemberMove [.ref (ad 35), .int a1] SB cs ad A D h (fun r h' => Q r ∧ h' = h) := by
  refine hp_met (own := RX2) rfl (by decide) (Nat.le_of_ble_eq_true rfl) rfl (fun p e s m args below meth c Z E hZ hnm => ?_)
  refine hp_sub (lv' := [(0, .ref (ad 35)), (1, .int a1)]) [0, 1] rfl ?_
  unfold q_X2_hasMemberMove at hq
  refine hp_aload_n E 0 dX2_hasMemberMove_0 rfl rfl ?_
  refine hp_iload_n E 1 dX2_hasMemberMove_1 rfl rfl ?_
  refine hp_callVip (rest := []) E 35 fB_35_0 vcl_2 (c_X2_movesFrom l hJ hq) F_X2_movesFrom m_RX2_92 ⟨rfl, rfl⟩ ⟨Nat.le_of_ble_eq_true rfl, Nat.le_of_ble_eq_true rfl⟩ ⟨Nat.zero_le _, Nat.zero_le _⟩ rfl rfl (Nat.le_of_ble_eq_true rfl) dX2_hasMemberMove_2 (fun r1 hq => ?_)
  refine hp_if_le E 25 dX2_hasMemberMove_5 (by decide) (fun c2 => ?_) (fun c2 => ?_)
  · replace hq := hq.1 c2
    refine hp_iconst E (nI 0) dX2_hasMemberMove_25 (by decide) ?_
    exact hp_zret E (by unfold hp_bz; decide) ⟨hq, rfl⟩ hZ dX2_hasMemberMove_26
  · replace hq := hq.2 c2
    refine hp_aload_n E 0 dX2_hasMemberMove_8 rfl rfl ?_
    refine hp_aload_n E 0 dX2_hasMemberMove_9 rfl rfl ?_
    refine hp_gR E g_RX2_24 fB_35_8 dX2_hasMemberMove_10 ?_
    refine hp_iload_n E 1 dX2_hasMemberMove_13 rfl rfl ?_
    refine hp_iald E 36 aB_36 hq.1 dX2_hasMemberMove_14 ?_
    replace hq := hq.2
    refine hp_callVip (rest := []) E 35 fB_35_0 vcl_2 (c_X2_moverBit l hJ hq) F_X2_moverBit m_RX2_96 ⟨rfl, rfl⟩ ⟨Nat.le_of_ble_eq_true rfl, Nat.le_of_ble_eq_true rfl⟩ ⟨Nat.zero_le _, Nat.zero_le _⟩ rfl rfl (Nat.le_of_ble_eq_true rfl) dX2_hasMemberMove_15 (fun r3 hq => ?_)
    refine hp_if_eq E 25 dX2_hasMemberMove_18 (by decide) (fun c4 => ?_) (fun c4 => ?_)
    · replace hq := hq.1 c4
      refine hp_iconst E (nI 0) dX2_hasMemberMove_25 (by decide) ?_
      exact hp_zret E (by unfold hp_bz; decide) ⟨hq, rfl⟩ hZ dX2_hasMemberMove_26
    · replace hq := hq.2 c4
      refine hp_iconst E (nI 1) dX2_hasMemberMove_21 (by decide) ?_
      refine hp_goto E 26 dX2_hasMemberMove_22 (by decide) ?_
      exact hp_zret E (by unfold hp_bz; decide) ⟨hq, rfl⟩ hZ dX2_hasMemberMove_26
theorem dX2_mover_0 : decode cX2_mover 0 = .ok (.iload_n 0, 1) := by decide +kernel
theorem dX2_mover_1 : decode cX2_mover 1 = .ok (.iconst 3, 1) := by decide +kernel
theorem dX2_mover_2 : decode cX2_mover 2 = .ok (.imul, 1) := by decide +kernel
theorem dX2_mover_3 : decode cX2_mover 3 = .ok (.iload_n 1, 1) := by decide +kernel
theorem dX2_mover_4 : decode cX2_mover 4 = .ok (.iadd, 1) := by decide +kernel
theorem dX2_mover_5 : decode cX2_mover 5 = .ok (.bipush 24, 2) := by decide +kernel
theorem dX2_mover_7 : decode cX2_mover 7 = .ok (.imul, 1) := by decide +kernel
theorem dX2_mover_8 : decode cX2_mover 8 = .ok (.iload_n 2, 1) := by decide +kernel
theorem dX2_mover_9 : decode cX2_mover 9 = .ok (.iadd, 1) := by decide +kernel
theorem dX2_mover_10 : decode cX2_mover 10 = .ok (.ireturn, 1) := by decide +kernel
set_option maxHeartbeats 4000000 in
set_option maxRecDepth 100000 in
theorem c_X2_mover (l : Launch) {cs : Nat → ClassId} {ad : Nat → Nat} {A : Nat → Prop} {D : va_G} (hJ : hp_J SB ad A)   {h : hp_H} {a0 a1 a2 : Int32} {Q : Int32 → Prop} (hq : q_X2_mover a0 a1 a2 Q) : hp_Mi l yX2_mover cX2_mover 3 (some .int) rm_X2_mover [.int a0, .int a1, .int a2] SB cs ad A D h (fun r h' => Q r ∧ h' = h) := by
  refine hp_met (own := RX2) rfl (by decide) (Nat.le_of_ble_eq_true rfl) rfl (fun p e s m args below meth c Z E hZ hnm => ?_)
  refine hp_sub (lv' := [(0, .int a0), (1, .int a1), (2, .int a2)]) [0, 1, 2] rfl ?_
  unfold q_X2_mover at hq
  refine hp_iload_n E 0 dX2_mover_0 rfl rfl ?_
  refine hp_iconst E (nI 3) dX2_mover_1 (by decide) ?_
  refine hp_imul E dX2_mover_2 ?_
  refine hp_iload_n E 1 dX2_mover_3 rfl rfl ?_
  refine hp_iadd E dX2_mover_4 ?_
  refine hp_bipush E (nI 24) dX2_mover_5 (by decide) ?_
  refine hp_imul E dX2_mover_7 ?_
  refine hp_iload_n E 2 dX2_mover_8 rfl rfl ?_
  refine hp_iadd E dX2_mover_9 ?_
  exact hp_iret E ⟨hq, rfl⟩ hZ dX2_mover_10
theorem dX2_noteFault_0 : decode cX2_noteFault 0 = .ok (.aload_n 0, 1) := by decide +kernel
theorem dX2_noteFault_1 : decode cX2_noteFault 1 = .ok (.getfield 9, 3) := by decide +kernel
theorem dX2_noteFault_4 : decode cX2_noteFault 4 = .ok (.iconst (-1), 1) := by decide +kernel
theorem dX2_noteFault_5 : decode cX2_noteFault 5 = .ok (.if_icmp .ne 24, 3) := by decide +kernel
theorem dX2_noteFault_8 : decode cX2_noteFault 8 = .ok (.aload_n 0, 1) := by decide +kernel
theorem dX2_noteFault_9 : decode cX2_noteFault 9 = .ok (.iload_n 1, 1) := by decide +kernel
theorem dX2_noteFault_10 : decode cX2_noteFault 10 = .ok (.putfield 9, 3) := by decide +kernel
theorem dX2_noteFault_13 : decode cX2_noteFault 13 = .ok (.aload_n 0, 1) := by decide +kernel
theorem dX2_noteFault_14 : decode cX2_noteFault 14 = .ok (.iload_n 2, 1) := by decide +kernel
theorem dX2_noteFault_15 : decode cX2_noteFault 15 = .ok (.putfield 15, 3) := by decide +kernel
theorem dX2_noteFault_18 : decode cX2_noteFault 18 = .ok (.aload_n 0, 1) := by decide +kernel
theorem dX2_noteFault_19 : decode cX2_noteFault 19 = .ok (.iload_n 3, 1) := by decide +kernel
theorem dX2_noteFault_20 : decode cX2_noteFault 20 = .ok (.putfield 18, 3) := by decide +kernel
theorem dX2_noteFault_23 : decode cX2_noteFault 23 = .ok (.aload_n 0, 1) := by decide +kernel
theorem dX2_noteFault_24 : decode cX2_noteFault 24 = .ok (.iload 4, 2) := by decide +kernel
theorem dX2_noteFault_26 : decode cX2_noteFault 26 = .ok (.putfield 21, 3) := by decide +kernel
theorem dX2_noteFault_29 : decode cX2_noteFault 29 = .ok (.return_, 1) := by decide +kernel
set_option maxHeartbeats 4000000 in
set_option maxRecDepth 100000 in
theorem c_X2_noteFault (l : Launch) {cs : Nat → ClassId} {ad : Nat → Nat} {A : Nat → Prop} {D : va_G} (hJ : hp_J SB ad A)   {h : hp_H} {a1 a2 a3 a4 : Int32} {Q : hp_H → Prop} (hq : q_X2_noteFault h a1 a2 a3 a4 Q) : hp_Mv l yX2_noteFault cX2_noteFault 5 none rm_X2_noteFault [.ref (ad 35), .int a1, .int a2, .int a3, .int a4] SB cs ad A D h Q := by
  refine hp_met (own := RX2) rfl (by decide) (Nat.le_of_ble_eq_true rfl) rfl (fun p e s m args below meth c Z E hZ hnm => ?_)
  refine hp_sub (lv' := [(0, .ref (ad 35)), (1, .int a1), (2, .int a2), (3, .int a3), (4, .int a4)]) [0, 1, 2, 3, 4] rfl ?_
  unfold q_X2_noteFault at hq
  refine hp_aload_n E 0 dX2_noteFault_0 rfl rfl ?_
  refine hp_gI E g_RX2_9 fB_35_4 dX2_noteFault_1 ?_
  refine hp_iconst E (-1) dX2_noteFault_4 (by decide) ?_
  refine hp_icmp_ne E 29 dX2_noteFault_5 (by decide) (fun c1 => ?_) (fun c1 => ?_)
  · replace hq := hq.2 c1
    exact hp_vret E hq hZ dX2_noteFault_29
  · replace hq := hq.1 c1
    refine hp_aload_n E 0 dX2_noteFault_8 rfl rfl ?_
    refine hp_iload_n E 1 dX2_noteFault_9 rfl rfl ?_
    refine hp_pI E p_RX2_9 fB_35_4 (by decide) hJ dX2_noteFault_10 ?_
    refine hp_toph (fun h2 eh2 => ?_)
    replace hq := hq h2 eh2
    refine hp_aload_n E 0 dX2_noteFault_13 rfl rfl ?_
    refine hp_iload_n E 2 dX2_noteFault_14 rfl rfl ?_
    refine hp_pI E p_RX2_15 fB_35_5 (by decide) hJ dX2_noteFault_15 ?_
    refine hp_toph (fun h3 eh3 => ?_)
    replace hq := hq h3 eh3
    refine hp_aload_n E 0 dX2_noteFault_18 rfl rfl ?_
    refine hp_iload_n E 3 dX2_noteFault_19 rfl rfl ?_
    refine hp_pI E p_RX2_18 fB_35_6 (by decide) hJ dX2_noteFault_20 ?_
    refine hp_toph (fun h4 eh4 => ?_)
    replace hq := hq h4 eh4
    refine hp_aload_n E 0 dX2_noteFault_23 rfl rfl ?_
    refine hp_iload E 4 dX2_noteFault_24 rfl ?_
    refine hp_pI E p_RX2_21 fB_35_7 (by decide) hJ dX2_noteFault_26 ?_
    refine hp_toph (fun h5 eh5 => ?_)
    replace hq := hq h5 eh5
    exact hp_vret E hq hZ dX2_noteFault_29
theorem dX2_addMove_0 : decode cX2_addMove 0 = .ok (.aload_n 0, 1) := by decide +kernel
theorem dX2_addMove_1 : decode cX2_addMove 1 = .ok (.aload_n 2, 1) := by decide +kernel
theorem dX2_addMove_2 : decode cX2_addMove 2 = .ok (.invokevirtual 73, 3) := by decide +kernel
theorem dX2_addMove_5 : decode cX2_addMove 5 = .ok (.istore 4, 2) := by decide +kernel
theorem dX2_addMove_7 : decode cX2_addMove 7 = .ok (.aload_n 0, 1) := by decide +kernel
theorem dX2_addMove_8 : decode cX2_addMove 8 = .ok (.getfield 48, 3) := by decide +kernel
theorem dX2_addMove_11 : decode cX2_addMove 11 = .ok (.iload 4, 2) := by decide +kernel
theorem dX2_addMove_13 : decode cX2_addMove 13 = .ok (.iaload, 1) := by decide +kernel
theorem dX2_addMove_14 : decode cX2_addMove 14 = .ok (.ifCond .ne 7, 3) := by decide +kernel
theorem dX2_addMove_17 : decode cX2_addMove 17 = .ok (.iconst 1, 1) := by decide +kernel
theorem dX2_addMove_18 : decode cX2_addMove 18 = .ok (.goto 4, 3) := by decide +kernel
theorem dX2_addMove_21 : decode cX2_addMove 21 = .ok (.iconst 0, 1) := by decide +kernel
theorem dX2_addMove_22 : decode cX2_addMove 22 = .ok (.istore 5, 2) := by decide +kernel
theorem dX2_addMove_24 : decode cX2_addMove 24 = .ok (.aload_n 0, 1) := by decide +kernel
theorem dX2_addMove_25 : decode cX2_addMove 25 = .ok (.getfield 61, 3) := by decide +kernel
theorem dX2_addMove_28 : decode cX2_addMove 28 = .ok (.sipush 6000, 3) := by decide +kernel
theorem dX2_addMove_31 : decode cX2_addMove 31 = .ok (.if_icmp .eq 18, 3) := by decide +kernel
theorem dX2_addMove_34 : decode cX2_addMove 34 = .ok (.iload 5, 2) := by decide +kernel
theorem dX2_addMove_36 : decode cX2_addMove 36 = .ok (.ifCond .eq 19, 3) := by decide +kernel
theorem dX2_addMove_39 : decode cX2_addMove 39 = .ok (.aload_n 0, 1) := by decide +kernel
theorem dX2_addMove_40 : decode cX2_addMove 40 = .ok (.getfield 58, 3) := by decide +kernel
theorem dX2_addMove_43 : decode cX2_addMove 43 = .ok (.sipush 400, 3) := by decide +kernel
theorem dX2_addMove_46 : decode cX2_addMove 46 = .ok (.if_icmp .ne 9, 3) := by decide +kernel
theorem dX2_addMove_49 : decode cX2_addMove 49 = .ok (.aload_n 0, 1) := by decide +kernel
theorem dX2_addMove_50 : decode cX2_addMove 50 = .ok (.iconst 1, 1) := by decide +kernel
theorem dX2_addMove_51 : decode cX2_addMove 51 = .ok (.putfield 55, 3) := by decide +kernel
theorem dX2_addMove_54 : decode cX2_addMove 54 = .ok (.return_, 1) := by decide +kernel
theorem dX2_addMove_55 : decode cX2_addMove 55 = .ok (.iload 5, 2) := by decide +kernel
theorem dX2_addMove_57 : decode cX2_addMove 57 = .ok (.ifCond .eq 22, 3) := by decide +kernel
theorem dX2_addMove_60 : decode cX2_addMove 60 = .ok (.aload_n 0, 1) := by decide +kernel
theorem dX2_addMove_61 : decode cX2_addMove 61 = .ok (.aload_n 2, 1) := by decide +kernel
theorem dX2_addMove_62 : decode cX2_addMove 62 = .ok (.iload 4, 2) := by decide +kernel
theorem dX2_addMove_64 : decode cX2_addMove 64 = .ok (.iload_n 1, 1) := by decide +kernel
theorem dX2_addMove_65 : decode cX2_addMove 65 = .ok (.aload_n 0, 1) := by decide +kernel
theorem dX2_addMove_66 : decode cX2_addMove 66 = .ok (.getfield 61, 3) := by decide +kernel
theorem dX2_addMove_69 : decode cX2_addMove 69 = .ok (.aload_n 0, 1) := by decide +kernel
theorem dX2_addMove_70 : decode cX2_addMove 70 = .ok (.getfield 24, 3) := by decide +kernel
theorem dX2_addMove_73 : decode cX2_addMove 73 = .ok (.iload_n 1, 1) := by decide +kernel
theorem dX2_addMove_74 : decode cX2_addMove 74 = .ok (.iaload, 1) := by decide +kernel
theorem dX2_addMove_75 : decode cX2_addMove 75 = .ok (.isub, 1) := by decide +kernel
theorem dX2_addMove_76 : decode cX2_addMove 76 = .ok (.invokevirtual 77, 3) := by decide +kernel
theorem dX2_addMove_79 : decode cX2_addMove 79 = .ok (.aload_n 0, 1) := by decide +kernel
theorem dX2_addMove_80 : decode cX2_addMove 80 = .ok (.getfield 28, 3) := by decide +kernel
theorem dX2_addMove_83 : decode cX2_addMove 83 = .ok (.aload_n 0, 1) := by decide +kernel
theorem dX2_addMove_84 : decode cX2_addMove 84 = .ok (.getfield 61, 3) := by decide +kernel
theorem dX2_addMove_87 : decode cX2_addMove 87 = .ok (.aload_n 0, 1) := by decide +kernel
theorem dX2_addMove_88 : decode cX2_addMove 88 = .ok (.getfield 48, 3) := by decide +kernel
theorem dX2_addMove_91 : decode cX2_addMove 91 = .ok (.iload 4, 2) := by decide +kernel
theorem dX2_addMove_93 : decode cX2_addMove 93 = .ok (.iaload, 1) := by decide +kernel
theorem dX2_addMove_94 : decode cX2_addMove 94 = .ok (.iconst 1, 1) := by decide +kernel
theorem dX2_addMove_95 : decode cX2_addMove 95 = .ok (.isub, 1) := by decide +kernel
theorem dX2_addMove_96 : decode cX2_addMove 96 = .ok (.iastore, 1) := by decide +kernel
theorem dX2_addMove_97 : decode cX2_addMove 97 = .ok (.aload_n 0, 1) := by decide +kernel
theorem dX2_addMove_98 : decode cX2_addMove 98 = .ok (.getfield 40, 3) := by decide +kernel
theorem dX2_addMove_101 : decode cX2_addMove 101 = .ok (.aload_n 0, 1) := by decide +kernel
theorem dX2_addMove_102 : decode cX2_addMove 102 = .ok (.getfield 61, 3) := by decide +kernel
theorem dX2_addMove_105 : decode cX2_addMove 105 = .ok (.iload_n 3, 1) := by decide +kernel
theorem dX2_addMove_106 : decode cX2_addMove 106 = .ok (.iastore, 1) := by decide +kernel
theorem dX2_addMove_107 : decode cX2_addMove 107 = .ok (.aload_n 0, 1) := by decide +kernel
theorem dX2_addMove_108 : decode cX2_addMove 108 = .ok (.dup, 1) := by decide +kernel
theorem dX2_addMove_109 : decode cX2_addMove 109 = .ok (.getfield 61, 3) := by decide +kernel
theorem dX2_addMove_112 : decode cX2_addMove 112 = .ok (.iconst 1, 1) := by decide +kernel
theorem dX2_addMove_113 : decode cX2_addMove 113 = .ok (.iadd, 1) := by decide +kernel
theorem dX2_addMove_114 : decode cX2_addMove 114 = .ok (.putfield 61, 3) := by decide +kernel
theorem dX2_addMove_117 : decode cX2_addMove 117 = .ok (.return_, 1) := by decide +kernel
set_option maxHeartbeats 4000000 in
set_option maxRecDepth 100000 in
theorem c_X2_addMove (l : Launch) {cs : Nat → ClassId} {ad : Nat → Nat} {A : Nat → Prop} {D : va_G} (hJ : hp_J SB ad A)   {h : hp_H} {a1 a3 : Int32} {Q : hp_H → Prop} (hq : q_X2_addMove h a1 a3 Q) : hp_Mv l yX2_addMove cX2_addMove 6 none rm_X2_addMove [.ref (ad 35), .int a1, .ref (ad 47), .int a3] SB cs ad A D h Q := by
  refine hp_met (own := RX2) rfl (by decide) (Nat.le_of_ble_eq_true rfl) rfl (fun p e s m args below meth c Z E hZ hnm => ?_)
  refine hp_sub (lv' := [(0, .ref (ad 35)), (1, .int a1), (2, .ref (ad 47)), (3, .int a3)]) [0, 1, 2, 3] rfl ?_
  unfold q_X2_addMove at hq
  refine hp_aload_n E 0 dX2_addMove_0 rfl rfl ?_
  refine hp_aload_n E 2 dX2_addMove_1 rfl rfl ?_
  refine hp_callVip (rest := []) E 35 fB_35_0 vcl_2 (c_X2_slotOf l hJ hq) F_X2_slotOf m_RX2_73 ⟨rfl, rfl⟩ ⟨Nat.le_of_ble_eq_true rfl, Nat.le_of_ble_eq_true rfl⟩ ⟨Nat.zero_le _, Nat.zero_le _⟩ rfl rfl (Nat.le_of_ble_eq_true rfl) dX2_addMove_2 (fun r1 hq => ?_)
  refine hp_istore (lv' := [(0, .ref (ad 35)), (1, .int a1), (2, .ref (ad 47)), (3, .int a3), (4, .int r1)]) E dX2_addMove_5 (by decide) rfl rfl ?_
  refine hp_aload_n E 0 dX2_addMove_7 rfl rfl ?_
  refine hp_gR E g_RX2_48 fB_35_15 dX2_addMove_8 ?_
  refine hp_iload E 4 dX2_addMove_11 rfl ?_
  refine hp_iald E 43 aB_43 hq.1 dX2_addMove_13 ?_
  replace hq := hq.2
  obtain ⟨K3, hq, hK3⟩ := hq
  have jK3 : ∀ (v4 : Int32), K3 v4 → hp_G p l e rm_X2_addMove s m args below meth c SB cs ad A D 6 0 0 Z 22 [(0, .ref (ad 35)), (1, .int a1), (2, .ref (ad 47)), (3, .int a3), (4, .int r1)] [.int v4] h := by
    intro v4 hq
    replace hq := hK3 v4 hq
    refine hp_istore (lv' := [(0, .ref (ad 35)), (1, .int a1), (2, .ref (ad 47)), (3, .int a3), (4, .int r1), (5, .int v4)]) E dX2_addMove_22 (by decide) rfl rfl ?_
    refine hp_aload_n E 0 dX2_addMove_24 rfl rfl ?_
    refine hp_gI E g_RX2_61 fB_35_3 dX2_addMove_25 ?_
    refine hp_sipush E (nI 6000) dX2_addMove_28 (by decide) ?_
    refine hp_icmp_eq E 49 dX2_addMove_31 (by decide) (fun c5 => ?_) (fun c5 => ?_)
    · replace hq := hq.1 c5
      refine hp_aload_n E 0 dX2_addMove_49 rfl rfl ?_
      refine hp_iconst E (nI 1) dX2_addMove_50 (by decide) ?_
      refine hp_pZ E p_RX2_55 fB_35_1 (by decide) hJ (by unfold hp_bz; decide) dX2_addMove_51 ?_
      refine hp_toph (fun h6 eh6 => ?_)
      replace hq := hq h6 eh6
      exact hp_vret E hq hZ dX2_addMove_54
    · replace hq := hq.2 c5
      refine hp_iload E 5 dX2_addMove_34 rfl ?_
      obtain ⟨K8, hq, hK8⟩ := hq
      have jK8 : K8 → hp_G p l e rm_X2_addMove s m args below meth c SB cs ad A D 6 0 0 Z 55 [(0, .ref (ad 35)), (1, .int a1), (2, .ref (ad 47)), (3, .int a3), (4, .int r1), (5, .int v4)] [] h := by
        intro  hq
        replace hq := hK8  hq
        refine hp_iload E 5 dX2_addMove_55 rfl ?_
        obtain ⟨K12, hq, hK12⟩ := hq
        have jK12 : ∀  (h13 : hp_H), K12 h13 → hp_G p l e rm_X2_addMove s m args below meth c SB cs ad A D 6 0 0 Z 79 [(0, .ref (ad 35)), (3, .int a3), (4, .int r1)] [] h13 := by
          intro h13 hq
          replace hq := hK12 h13 hq
          refine hp_aload_n E 0 dX2_addMove_79 rfl rfl ?_
          refine hp_gR E g_RX2_28 fB_35_9 dX2_addMove_80 ?_
          refine hp_aload_n E 0 dX2_addMove_83 rfl rfl ?_
          refine hp_gI E g_RX2_61 fB_35_3 dX2_addMove_84 ?_
          refine hp_aload_n E 0 dX2_addMove_87 rfl rfl ?_
          refine hp_gR E g_RX2_48 fB_35_15 dX2_addMove_88 ?_
          refine hp_iload E 2 dX2_addMove_91 rfl ?_
          refine hp_iald E 43 aB_43 hq.1 dX2_addMove_93 ?_
          replace hq := hq.2
          refine hp_iconst E (nI 1) dX2_addMove_94 (by decide) ?_
          refine hp_isub E dX2_addMove_95 ?_
          have hin := hq.1
          replace hq := hq.2
          refine hp_iast E 37 aB_37 zB_37 hJ hin dX2_addMove_96 ?_
          refine hp_toph (fun h15 eh15 => ?_)
          replace hq := hq h15 eh15
          refine hp_aload_n E 0 dX2_addMove_97 rfl rfl ?_
          refine hp_gR E g_RX2_40 fB_35_13 dX2_addMove_98 ?_
          refine hp_aload_n E 0 dX2_addMove_101 rfl rfl ?_
          refine hp_gI E g_RX2_61 fB_35_3 dX2_addMove_102 ?_
          refine hp_iload_n E 1 dX2_addMove_105 rfl rfl ?_
          have hin := hq.1
          replace hq := hq.2
          refine hp_iast E 41 aB_41 zB_41 hJ hin dX2_addMove_106 ?_
          refine hp_toph (fun h16 eh16 => ?_)
          replace hq := hq h16 eh16
          refine hp_aload_n E 0 dX2_addMove_107 rfl rfl ?_
          refine hp_dup E rfl dX2_addMove_108 ?_
          refine hp_gI E g_RX2_61 fB_35_3 dX2_addMove_109 ?_
          refine hp_iconst E (nI 1) dX2_addMove_112 (by decide) ?_
          refine hp_iadd E dX2_addMove_113 ?_
          refine hp_pI E p_RX2_61 fB_35_3 (by decide) hJ dX2_addMove_114 ?_
          refine hp_toph (fun h17 eh17 => ?_)
          replace hq := hq h17 eh17
          exact hp_vret E hq hZ dX2_addMove_117
        refine hp_if_eq E 79 dX2_addMove_57 (by decide) (fun c11 => ?_) (fun c11 => ?_)
        · replace hq := hq.1 c11
          refine hp_sub (lv' := [(0, .ref (ad 35)), (3, .int a3), (4, .int r1)]) [0, 3, 4] rfl ?_
          exact jK12 _ hq
        · replace hq := hq.2 c11
          refine hp_aload_n E 0 dX2_addMove_60 rfl rfl ?_
          refine hp_aload_n E 2 dX2_addMove_61 rfl rfl ?_
          refine hp_iload E 4 dX2_addMove_62 rfl ?_
          refine hp_iload_n E 1 dX2_addMove_64 rfl rfl ?_
          refine hp_aload_n E 0 dX2_addMove_65 rfl rfl ?_
          refine hp_gI E g_RX2_61 fB_35_3 dX2_addMove_66 ?_
          refine hp_aload_n E 0 dX2_addMove_69 rfl rfl ?_
          refine hp_gR E g_RX2_24 fB_35_8 dX2_addMove_70 ?_
          refine hp_iload_n E 1 dX2_addMove_73 rfl rfl ?_
          refine hp_iald E 36 aB_36 hq.1 dX2_addMove_74 ?_
          replace hq := hq.2
          refine hp_isub E dX2_addMove_75 ?_
          refine hp_callVv' (rest := []) E 35 fB_35_0 vcl_2 (c_X2_addState l hJ hq) F_X2_addState m_RX2_77 ⟨rfl, rfl⟩ ⟨Nat.le_of_ble_eq_true rfl, Nat.le_of_ble_eq_true rfl⟩ ⟨Nat.zero_le _, Nat.zero_le _⟩ rfl rfl (Nat.le_of_ble_eq_true rfl) dX2_addMove_76 (fun h14 hq => ?_)
          refine hp_sub (lv' := [(0, .ref (ad 35)), (3, .int a3), (4, .int r1)]) [0, 3, 4] rfl ?_
          exact jK12 _ hq
      refine hp_if_eq E 55 dX2_addMove_36 (by decide) (fun c7 => ?_) (fun c7 => ?_)
      · replace hq := hq.1 c7
        exact jK8  hq
      · replace hq := hq.2 c7
        refine hp_aload_n E 0 dX2_addMove_39 rfl rfl ?_
        refine hp_gI E g_RX2_58 fB_35_2 dX2_addMove_40 ?_
        refine hp_sipush E (nI 400) dX2_addMove_43 (by decide) ?_
        refine hp_icmp_ne E 55 dX2_addMove_46 (by decide) (fun c9 => ?_) (fun c9 => ?_)
        · replace hq := hq.2 c9
          exact jK8  hq
        · replace hq := hq.1 c9
          refine hp_aload_n E 0 dX2_addMove_49 rfl rfl ?_
          refine hp_iconst E (nI 1) dX2_addMove_50 (by decide) ?_
          refine hp_pZ E p_RX2_55 fB_35_1 (by decide) hJ (by unfold hp_bz; decide) dX2_addMove_51 ?_
          refine hp_toph (fun h10 eh10 => ?_)
          replace hq := hq h10 eh10
          exact hp_vret E hq hZ dX2_addMove_54
  refine hp_if_ne E 21 dX2_addMove_14 (by decide) (fun c2 => ?_) (fun c2 => ?_)
  · replace hq := hq.2 c2
    refine hp_iconst E (nI 0) dX2_addMove_21 (by decide) ?_
    exact jK3 _ hq
  · replace hq := hq.1 c2
    refine hp_iconst E (nI 1) dX2_addMove_17 (by decide) ?_
    refine hp_goto E 22 dX2_addMove_18 (by decide) ?_
    exact jK3 _ hq
theorem dX5_ask_0 : decode cX5_ask 0 = .ok (.aload_n 0, 1) := by decide +kernel
theorem dX5_ask_1 : decode cX5_ask 1 = .ok (.invokevirtual 51, 3) := by decide +kernel
theorem dX5_ask_4 : decode cX5_ask 4 = .ok (.aload_n 0, 1) := by decide +kernel
theorem dX5_ask_5 : decode cX5_ask 5 = .ok (.iload_n 1, 1) := by decide +kernel
theorem dX5_ask_6 : decode cX5_ask 6 = .ok (.invokevirtual 54, 3) := by decide +kernel
theorem dX5_ask_9 : decode cX5_ask 9 = .ok (.return_, 1) := by decide +kernel
set_option maxHeartbeats 4000000 in
set_option maxRecDepth 100000 in
theorem c_X5_ask (l : Launch) {cs : Nat → ClassId} {ad : Nat → Nat} {A : Nat → Prop} {D : va_G} (hJ : hp_J SB ad A)   {h : hp_H} {a1 : Int32} {Q : hp_H → Prop} (hq : q_X5_ask h a1 Q) : hp_Mv l yX5_ask cX5_ask 2 none rm_X5_ask [.ref (ad 50), .int a1] SB cs ad A D h Q := by
  refine hp_met (own := RX5) rfl (by decide) (Nat.le_of_ble_eq_true rfl) rfl (fun p e s m args below meth c Z E hZ hnm => ?_)
  refine hp_sub (lv' := [(0, .ref (ad 50)), (1, .int a1)]) [0, 1] rfl ?_
  unfold q_X5_ask at hq
  refine hp_aload_n E 0 dX5_ask_0 rfl rfl ?_
  refine hp_callVv' (rest := []) E 50 fB_50_0 vcl_5 (c_X5_askNothing l hJ hq) F_X5_askNothing m_RX5_51 ⟨rfl, rfl⟩ ⟨Nat.le_of_ble_eq_true rfl, Nat.le_of_ble_eq_true rfl⟩ ⟨Nat.zero_le _, Nat.zero_le _⟩ rfl rfl (Nat.le_of_ble_eq_true rfl) dX5_ask_1 (fun h1 hq => ?_)
  refine hp_aload_n E 0 dX5_ask_4 rfl rfl ?_
  refine hp_iload_n E 1 dX5_ask_5 rfl rfl ?_
  refine hp_callVv' (rest := []) E 50 fB_50_0 vcl_5 (c_X5_askToo l hJ hq) F_X5_askToo m_RX5_54 ⟨rfl, rfl⟩ ⟨Nat.le_of_ble_eq_true rfl, Nat.le_of_ble_eq_true rfl⟩ ⟨Nat.zero_le _, Nat.zero_le _⟩ rfl rfl (Nat.le_of_ble_eq_true rfl) dX5_ask_6 (fun h2 hq => ?_)
  exact hp_vret E hq hZ dX5_ask_9
theorem dX6_everyoneBits_0 : decode cX6_everyoneBits 0 = .ok (.iconst 0, 1) := by decide +kernel
theorem dX6_everyoneBits_1 : decode cX6_everyoneBits 1 = .ok (.istore_n 1, 1) := by decide +kernel
theorem dX6_everyoneBits_2 : decode cX6_everyoneBits 2 = .ok (.iconst 0, 1) := by decide +kernel
theorem dX6_everyoneBits_3 : decode cX6_everyoneBits 3 = .ok (.istore_n 2, 1) := by decide +kernel
theorem dX6_everyoneBits_4 : decode cX6_everyoneBits 4 = .ok (.iload_n 2, 1) := by decide +kernel
theorem dX6_everyoneBits_5 : decode cX6_everyoneBits 5 = .ok (.aload_n 0, 1) := by decide +kernel
theorem dX6_everyoneBits_6 : decode cX6_everyoneBits 6 = .ok (.getfield 18, 3) := by decide +kernel
theorem dX6_everyoneBits_9 : decode cX6_everyoneBits 9 = .ok (.if_icmp .ge 26, 3) := by decide +kernel
theorem dX6_everyoneBits_12 : decode cX6_everyoneBits 12 = .ok (.iload_n 1, 1) := by decide +kernel
theorem dX6_everyoneBits_13 : decode cX6_everyoneBits 13 = .ok (.iconst 1, 1) := by decide +kernel
theorem dX6_everyoneBits_14 : decode cX6_everyoneBits 14 = .ok (.aload_n 0, 1) := by decide +kernel
theorem dX6_everyoneBits_15 : decode cX6_everyoneBits 15 = .ok (.getfield 9, 3) := by decide +kernel
theorem dX6_everyoneBits_18 : decode cX6_everyoneBits 18 = .ok (.iload_n 2, 1) := by decide +kernel
theorem dX6_everyoneBits_19 : decode cX6_everyoneBits 19 = .ok (.iaload, 1) := by decide +kernel
theorem dX6_everyoneBits_20 : decode cX6_everyoneBits 20 = .ok (.ishl, 1) := by decide +kernel
theorem dX6_everyoneBits_21 : decode cX6_everyoneBits 21 = .ok (.iconst 1, 1) := by decide +kernel
theorem dX6_everyoneBits_22 : decode cX6_everyoneBits 22 = .ok (.isub, 1) := by decide +kernel
theorem dX6_everyoneBits_23 : decode cX6_everyoneBits 23 = .ok (.iload_n 2, 1) := by decide +kernel
theorem dX6_everyoneBits_24 : decode cX6_everyoneBits 24 = .ok (.iconst 3, 1) := by decide +kernel
theorem dX6_everyoneBits_25 : decode cX6_everyoneBits 25 = .ok (.imul, 1) := by decide +kernel
theorem dX6_everyoneBits_26 : decode cX6_everyoneBits 26 = .ok (.ishl, 1) := by decide +kernel
theorem dX6_everyoneBits_27 : decode cX6_everyoneBits 27 = .ok (.ior, 1) := by decide +kernel
theorem dX6_everyoneBits_28 : decode cX6_everyoneBits 28 = .ok (.istore_n 1, 1) := by decide +kernel
theorem dX6_everyoneBits_29 : decode cX6_everyoneBits 29 = .ok (.iinc 2 1, 3) := by decide +kernel
theorem dX6_everyoneBits_32 : decode cX6_everyoneBits 32 = .ok (.goto (-28), 3) := by decide +kernel
theorem dX6_everyoneBits_35 : decode cX6_everyoneBits 35 = .ok (.iload_n 1, 1) := by decide +kernel
theorem dX6_everyoneBits_36 : decode cX6_everyoneBits 36 = .ok (.ireturn, 1) := by decide +kernel
set_option maxHeartbeats 4000000 in
set_option maxRecDepth 100000 in
theorem c_X6_everyoneBits (l : Launch) {cs : Nat → ClassId} {ad : Nat → Nat} {A : Nat → Prop} {D : va_G} (hJ : hp_J SB ad A)   {h : hp_H} {Q : Int32 → Prop} (hq : q_X6_everyoneBits h Q) : hp_Mi l yX6_everyoneBits cX6_everyoneBits 3 (some .int) rm_X6_everyoneBits [.ref (ad 12)] SB cs ad A D h (fun r h' => Q r ∧ h' = h) := by
  refine hp_met (own := RX6) rfl (by decide) (Nat.le_of_ble_eq_true rfl) rfl (fun p e s m args below meth c Z E hZ hnm => ?_)
  refine hp_sub (lv' := [(0, .ref (ad 12))]) [0] rfl ?_
  unfold q_X6_everyoneBits at hq
  refine hp_iconst E (nI 0) dX6_everyoneBits_0 (by decide) ?_
  refine hp_istore_n (lv' := [(0, .ref (ad 12)), (1, .int (nI 0))]) E dX6_everyoneBits_1 rfl (by decide) rfl rfl ?_
  refine hp_iconst E (nI 0) dX6_everyoneBits_2 (by decide) ?_
  refine hp_istore_n (lv' := [(0, .ref (ad 12)), (1, .int (nI 0)), (2, .int (nI 0))]) E dX6_everyoneBits_3 rfl (by decide) rfl rfl ?_
  refine hq (fun v2 v3 => hp_G p l e rm_X6_everyoneBits s m args below meth c SB cs ad A D 3 0 0 Z 4 [(0, .ref (ad 12)), (1, .int v2), (2, .int v3)] [] h) (fun v2 v3 hB => ?_)
  obtain ⟨B1, hq, hB1⟩ := hB
  refine hp_iload_n E 2 dX6_everyoneBits_4 rfl rfl ?_
  refine hp_aload_n E 0 dX6_everyoneBits_5 rfl rfl ?_
  refine hp_gI E g_RX6_18 fB_12_1 dX6_everyoneBits_6 ?_
  refine hp_icmp_ge E 35 dX6_everyoneBits_9 (by decide) (fun c4 => ?_) (fun c4 => ?_)
  · replace hq := hq.1 c4
    refine hp_iload_n E 1 dX6_everyoneBits_35 rfl rfl ?_
    exact hp_iret E ⟨hq, rfl⟩ hZ dX6_everyoneBits_36
  · replace hq := hq.2 c4
    refine hp_iload_n E 1 dX6_everyoneBits_12 rfl rfl ?_
    refine hp_iconst E (nI 1) dX6_everyoneBits_13 (by decide) ?_
    refine hp_aload_n E 0 dX6_everyoneBits_14 rfl rfl ?_
    refine hp_gR E g_RX6_9 fB_12_0 dX6_everyoneBits_15 ?_
    refine hp_iload_n E 2 dX6_everyoneBits_18 rfl rfl ?_
    refine hp_iald E 13 aB_13 hq.1 dX6_everyoneBits_19 ?_
    replace hq := hq.2
    refine hp_ishl E dX6_everyoneBits_20 ?_
    refine hp_iconst E (nI 1) dX6_everyoneBits_21 (by decide) ?_
    refine hp_isub E dX6_everyoneBits_22 ?_
    refine hp_iload_n E 2 dX6_everyoneBits_23 rfl rfl ?_
    refine hp_iconst E (nI 3) dX6_everyoneBits_24 (by decide) ?_
    refine hp_imul E dX6_everyoneBits_25 ?_
    refine hp_ishl E dX6_everyoneBits_26 ?_
    refine hp_ior E dX6_everyoneBits_27 ?_
    refine hp_topi (fun v5 ev5 => ?_)
    replace hq := hq v5 ev5
    refine hp_istore_n (lv' := [(0, .ref (ad 12)), (1, .int v5), (2, .int v3)]) E dX6_everyoneBits_28 rfl (by decide) rfl rfl ?_
    obtain ⟨v6, ev6⟩ : ∃ z : Int32, z = v3 + (nI 1) := ⟨_, rfl⟩
    replace hq := hq v6 ev6
    refine hp_iinc (lv' := [(0, .ref (ad 12)), (1, .int v5), (2, .int v6)]) E 2 v6 dX6_everyoneBits_29 rfl (by rw [ev6]; rfl) (by decide) rfl rfl ?_
    refine hp_goto E 4 dX6_everyoneBits_32 (by decide) ?_
    exact hB1 _ _ hq
theorem dX3_enter_0 : decode cX3_enter 0 = .ok (.aload_n 0, 1) := by decide +kernel
theorem dX3_enter_1 : decode cX3_enter 1 = .ok (.dup, 1) := by decide +kernel
theorem dX3_enter_2 : decode cX3_enter 2 = .ok (.getfield 110, 3) := by decide +kernel
theorem dX3_enter_5 : decode cX3_enter 5 = .ok (.iconst 1, 1) := by decide +kernel
theorem dX3_enter_6 : decode cX3_enter 6 = .ok (.iadd, 1) := by decide +kernel
theorem dX3_enter_7 : decode cX3_enter 7 = .ok (.putfield 110, 3) := by decide +kernel
theorem dX3_enter_10 : decode cX3_enter 10 = .ok (.aload_n 0, 1) := by decide +kernel
theorem dX3_enter_11 : decode cX3_enter 11 = .ok (.getfield 24, 3) := by decide +kernel
theorem dX3_enter_14 : decode cX3_enter 14 = .ok (.iload_n 1, 1) := by decide +kernel
theorem dX3_enter_15 : decode cX3_enter 15 = .ok (.aload_n 0, 1) := by decide +kernel
theorem dX3_enter_16 : decode cX3_enter 16 = .ok (.getfield 110, 3) := by decide +kernel
theorem dX3_enter_19 : decode cX3_enter 19 = .ok (.iastore, 1) := by decide +kernel
theorem dX3_enter_20 : decode cX3_enter 20 = .ok (.aload_n 0, 1) := by decide +kernel
theorem dX3_enter_21 : decode cX3_enter 21 = .ok (.getfield 28, 3) := by decide +kernel
theorem dX3_enter_24 : decode cX3_enter 24 = .ok (.iload_n 1, 1) := by decide +kernel
theorem dX3_enter_25 : decode cX3_enter 25 = .ok (.aload_n 0, 1) := by decide +kernel
theorem dX3_enter_26 : decode cX3_enter 26 = .ok (.getfield 110, 3) := by decide +kernel
theorem dX3_enter_29 : decode cX3_enter 29 = .ok (.iastore, 1) := by decide +kernel
theorem dX3_enter_30 : decode cX3_enter 30 = .ok (.aload_n 0, 1) := by decide +kernel
theorem dX3_enter_31 : decode cX3_enter 31 = .ok (.getfield 31, 3) := by decide +kernel
theorem dX3_enter_34 : decode cX3_enter 34 = .ok (.iload_n 1, 1) := by decide +kernel
theorem dX3_enter_35 : decode cX3_enter 35 = .ok (.aload_n 0, 1) := by decide +kernel
theorem dX3_enter_36 : decode cX3_enter 36 = .ok (.getfield 47, 3) := by decide +kernel
theorem dX3_enter_39 : decode cX3_enter 39 = .ok (.getfield 119, 3) := by decide +kernel
theorem dX3_enter_42 : decode cX3_enter 42 = .ok (.iload_n 1, 1) := by decide +kernel
theorem dX3_enter_43 : decode cX3_enter 43 = .ok (.iaload, 1) := by decide +kernel
theorem dX3_enter_44 : decode cX3_enter 44 = .ok (.iastore, 1) := by decide +kernel
theorem dX3_enter_45 : decode cX3_enter 45 = .ok (.aload_n 0, 1) := by decide +kernel
theorem dX3_enter_46 : decode cX3_enter 46 = .ok (.getfield 37, 3) := by decide +kernel
theorem dX3_enter_49 : decode cX3_enter 49 = .ok (.aload_n 0, 1) := by decide +kernel
theorem dX3_enter_50 : decode cX3_enter 50 = .ok (.dup, 1) := by decide +kernel
theorem dX3_enter_51 : decode cX3_enter 51 = .ok (.getfield 104, 3) := by decide +kernel
theorem dX3_enter_54 : decode cX3_enter 54 = .ok (.dup_x1, 1) := by decide +kernel
theorem dX3_enter_55 : decode cX3_enter 55 = .ok (.iconst 1, 1) := by decide +kernel
theorem dX3_enter_56 : decode cX3_enter 56 = .ok (.iadd, 1) := by decide +kernel
theorem dX3_enter_57 : decode cX3_enter 57 = .ok (.putfield 104, 3) := by decide +kernel
theorem dX3_enter_60 : decode cX3_enter 60 = .ok (.iload_n 1, 1) := by decide +kernel
theorem dX3_enter_61 : decode cX3_enter 61 = .ok (.iastore, 1) := by decide +kernel
theorem dX3_enter_62 : decode cX3_enter 62 = .ok (.aload_n 0, 1) := by decide +kernel
theorem dX3_enter_63 : decode cX3_enter 63 = .ok (.getfield 40, 3) := by decide +kernel
theorem dX3_enter_66 : decode cX3_enter 66 = .ok (.aload_n 0, 1) := by decide +kernel
theorem dX3_enter_67 : decode cX3_enter 67 = .ok (.dup, 1) := by decide +kernel
theorem dX3_enter_68 : decode cX3_enter 68 = .ok (.getfield 107, 3) := by decide +kernel
theorem dX3_enter_71 : decode cX3_enter 71 = .ok (.dup_x1, 1) := by decide +kernel
theorem dX3_enter_72 : decode cX3_enter 72 = .ok (.iconst 1, 1) := by decide +kernel
theorem dX3_enter_73 : decode cX3_enter 73 = .ok (.iadd, 1) := by decide +kernel
theorem dX3_enter_74 : decode cX3_enter 74 = .ok (.putfield 107, 3) := by decide +kernel
theorem dX3_enter_77 : decode cX3_enter 77 = .ok (.iload_n 1, 1) := by decide +kernel
theorem dX3_enter_78 : decode cX3_enter 78 = .ok (.iastore, 1) := by decide +kernel
theorem dX3_enter_79 : decode cX3_enter 79 = .ok (.return_, 1) := by decide +kernel
set_option maxHeartbeats 4000000 in
set_option maxRecDepth 100000 in
theorem c_X3_enter (l : Launch) {cs : Nat → ClassId} {ad : Nat → Nat} {A : Nat → Prop} {D : va_G} (hJ : hp_J SB ad A)   {h : hp_H} {a1 : Int32} {Q : hp_H → Prop} (hq : q_X3_enter h a1 Q) : hp_Mv l yX3_enter cX3_enter 2 none rm_X3_enter [.ref (ad 53), .int a1] SB cs ad A D h Q := by
  refine hp_met (own := RX3) rfl (by decide) (Nat.le_of_ble_eq_true rfl) rfl (fun p e s m args below meth c Z E hZ hnm => ?_)
  refine hp_sub (lv' := [(0, .ref (ad 53)), (1, .int a1)]) [0, 1] rfl ?_
  unfold q_X3_enter at hq
  refine hp_aload_n E 0 dX3_enter_0 rfl rfl ?_
  refine hp_dup E rfl dX3_enter_1 ?_
  refine hp_gI E g_RX3_110 fB_53_15 dX3_enter_2 ?_
  refine hp_iconst E (nI 1) dX3_enter_5 (by decide) ?_
  refine hp_iadd E dX3_enter_6 ?_
  refine hp_pI E p_RX3_110 fB_53_15 (by decide) hJ dX3_enter_7 ?_
  refine hp_toph (fun h1 eh1 => ?_)
  replace hq := hq h1 eh1
  refine hp_aload_n E 0 dX3_enter_10 rfl rfl ?_
  refine hp_gR E g_RX3_24 fB_53_7 dX3_enter_11 ?_
  refine hp_iload_n E 1 dX3_enter_14 rfl rfl ?_
  refine hp_aload_n E 0 dX3_enter_15 rfl rfl ?_
  refine hp_gI E g_RX3_110 fB_53_15 dX3_enter_16 ?_
  have hin := hq.1
  replace hq := hq.2
  refine hp_iast E 58 aB_58 zB_58 hJ hin dX3_enter_19 ?_
  refine hp_toph (fun h2 eh2 => ?_)
  replace hq := hq h2 eh2
  refine hp_aload_n E 0 dX3_enter_20 rfl rfl ?_
  refine hp_gR E g_RX3_28 fB_53_8 dX3_enter_21 ?_
  refine hp_iload_n E 1 dX3_enter_24 rfl rfl ?_
  refine hp_aload_n E 0 dX3_enter_25 rfl rfl ?_
  refine hp_gI E g_RX3_110 fB_53_15 dX3_enter_26 ?_
  have hin := hq.1
  replace hq := hq.2
  refine hp_iast E 59 aB_59 zB_59 hJ hin dX3_enter_29 ?_
  refine hp_toph (fun h3 eh3 => ?_)
  replace hq := hq h3 eh3
  refine hp_aload_n E 0 dX3_enter_30 rfl rfl ?_
  refine hp_gR E g_RX3_31 fB_53_9 dX3_enter_31 ?_
  refine hp_iload_n E 1 dX3_enter_34 rfl rfl ?_
  refine hp_aload_n E 0 dX3_enter_35 rfl rfl ?_
  refine hp_gR E g_RX3_47 fB_53_1 dX3_enter_36 ?_
  refine hp_gR E g_RX3_119 fB_35_8 dX3_enter_39 ?_
  refine hp_iload_n E 1 dX3_enter_42 rfl rfl ?_
  refine hp_iald E 36 aB_36 hq.1 dX3_enter_43 ?_
  replace hq := hq.2
  have hin := hq.1
  replace hq := hq.2
  refine hp_iast E 60 aB_60 zB_60 hJ hin dX3_enter_44 ?_
  refine hp_toph (fun h4 eh4 => ?_)
  replace hq := hq h4 eh4
  refine hp_aload_n E 0 dX3_enter_45 rfl rfl ?_
  refine hp_gR E g_RX3_37 fB_53_11 dX3_enter_46 ?_
  refine hp_aload_n E 0 dX3_enter_49 rfl rfl ?_
  refine hp_dup E rfl dX3_enter_50 ?_
  refine hp_gI E g_RX3_104 fB_53_13 dX3_enter_51 ?_
  refine hp_topi (fun v5 ev5 => ?_)
  replace hq := hq v5 ev5
  refine hp_dup_x1 E rfl rfl dX3_enter_54 ?_
  refine hp_iconst E (nI 1) dX3_enter_55 (by decide) ?_
  refine hp_iadd E dX3_enter_56 ?_
  refine hp_pI E p_RX3_104 fB_53_13 (by decide) hJ dX3_enter_57 ?_
  refine hp_toph (fun h6 eh6 => ?_)
  replace hq := hq h6 eh6
  refine hp_iload_n E 1 dX3_enter_60 rfl rfl ?_
  have hin := hq.1
  replace hq := hq.2
  refine hp_iast E 62 aB_62 zB_62 hJ hin dX3_enter_61 ?_
  refine hp_toph (fun h7 eh7 => ?_)
  replace hq := hq h7 eh7
  refine hp_aload_n E 0 dX3_enter_62 rfl rfl ?_
  refine hp_gR E g_RX3_40 fB_53_12 dX3_enter_63 ?_
  refine hp_aload_n E 0 dX3_enter_66 rfl rfl ?_
  refine hp_dup E rfl dX3_enter_67 ?_
  refine hp_gI E g_RX3_107 fB_53_14 dX3_enter_68 ?_
  refine hp_topi (fun v8 ev8 => ?_)
  replace hq := hq v8 ev8
  refine hp_dup_x1 E rfl rfl dX3_enter_71 ?_
  refine hp_iconst E (nI 1) dX3_enter_72 (by decide) ?_
  refine hp_iadd E dX3_enter_73 ?_
  refine hp_pI E p_RX3_107 fB_53_14 (by decide) hJ dX3_enter_74 ?_
  refine hp_toph (fun h9 eh9 => ?_)
  replace hq := hq h9 eh9
  refine hp_iload_n E 1 dX3_enter_77 rfl rfl ?_
  have hin := hq.1
  replace hq := hq.2
  refine hp_iast E 63 aB_63 zB_63 hJ hin dX3_enter_78 ?_
  refine hp_toph (fun h10 eh10 => ?_)
  replace hq := hq h10 eh10
  exact hp_vret E hq hZ dX3_enter_79
