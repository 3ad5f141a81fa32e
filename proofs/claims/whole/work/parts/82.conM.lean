theorem dX12_hasNextWay_0 : decode cX12_hasNextWay 0 = .ok (.aload_n 0, 1) := by decide +kernel
theorem dX12_hasNextWay_1 : decode cX12_hasNextWay 1 = .ok (.getfield 74, 3) := by decide +kernel
theorem dX12_hasNextWay_4 : decode cX12_hasNextWay 4 = .ok (.iload_n 2, 1) := by decide +kernel
theorem dX12_hasNextWay_5 : decode cX12_hasNextWay 5 = .ok (.iaload, 1) := by decide +kernel
theorem dX12_hasNextWay_6 : decode cX12_hasNextWay 6 = .ok (.iconst 1, 1) := by decide +kernel
theorem dX12_hasNextWay_7 : decode cX12_hasNextWay 7 = .ok (.isub, 1) := by decide +kernel
theorem dX12_hasNextWay_8 : decode cX12_hasNextWay 8 = .ok (.istore_n 3, 1) := by decide +kernel
theorem dX12_hasNextWay_9 : decode cX12_hasNextWay 9 = .ok (.iload_n 3, 1) := by decide +kernel
theorem dX12_hasNextWay_10 : decode cX12_hasNextWay 10 = .ok (.ifCond .lt 67, 3) := by decide +kernel
theorem dX12_hasNextWay_13 : decode cX12_hasNextWay 13 = .ok (.iconst 4, 1) := by decide +kernel
theorem dX12_hasNextWay_14 : decode cX12_hasNextWay 14 = .ok (.iload_n 2, 1) := by decide +kernel
theorem dX12_hasNextWay_15 : decode cX12_hasNextWay 15 = .ok (.imul, 1) := by decide +kernel
theorem dX12_hasNextWay_16 : decode cX12_hasNextWay 16 = .ok (.iload_n 3, 1) := by decide +kernel
theorem dX12_hasNextWay_17 : decode cX12_hasNextWay 17 = .ok (.iadd, 1) := by decide +kernel
theorem dX12_hasNextWay_18 : decode cX12_hasNextWay 18 = .ok (.istore 4, 2) := by decide +kernel
theorem dX12_hasNextWay_20 : decode cX12_hasNextWay 20 = .ok (.aload_n 0, 1) := by decide +kernel
theorem dX12_hasNextWay_21 : decode cX12_hasNextWay 21 = .ok (.getfield 77, 3) := by decide +kernel
theorem dX12_hasNextWay_24 : decode cX12_hasNextWay 24 = .ok (.iload 4, 2) := by decide +kernel
theorem dX12_hasNextWay_26 : decode cX12_hasNextWay 26 = .ok (.iaload, 1) := by decide +kernel
theorem dX12_hasNextWay_27 : decode cX12_hasNextWay 27 = .ok (.iconst 3, 1) := by decide +kernel
theorem dX12_hasNextWay_28 : decode cX12_hasNextWay 28 = .ok (.if_icmp .ne 43, 3) := by decide +kernel
theorem dX12_hasNextWay_31 : decode cX12_hasNextWay 31 = .ok (.aload_n 0, 1) := by decide +kernel
theorem dX12_hasNextWay_32 : decode cX12_hasNextWay 32 = .ok (.iload_n 1, 1) := by decide +kernel
theorem dX12_hasNextWay_33 : decode cX12_hasNextWay 33 = .ok (.iload 4, 2) := by decide +kernel
theorem dX12_hasNextWay_35 : decode cX12_hasNextWay 35 = .ok (.aload_n 0, 1) := by decide +kernel
theorem dX12_hasNextWay_36 : decode cX12_hasNextWay 36 = .ok (.getfield 122, 3) := by decide +kernel
theorem dX12_hasNextWay_39 : decode cX12_hasNextWay 39 = .ok (.iload_n 3, 1) := by decide +kernel
theorem dX12_hasNextWay_40 : decode cX12_hasNextWay 40 = .ok (.iaload, 1) := by decide +kernel
theorem dX12_hasNextWay_41 : decode cX12_hasNextWay 41 = .ok (.iconst 1, 1) := by decide +kernel
theorem dX12_hasNextWay_42 : decode cX12_hasNextWay 42 = .ok (.iadd, 1) := by decide +kernel
theorem dX12_hasNextWay_43 : decode cX12_hasNextWay 43 = .ok (.invokevirtual 240, 3) := by decide +kernel
theorem dX12_hasNextWay_46 : decode cX12_hasNextWay 46 = .ok (.istore 5, 2) := by decide +kernel
theorem dX12_hasNextWay_48 : decode cX12_hasNextWay 48 = .ok (.iload 5, 2) := by decide +kernel
theorem dX12_hasNextWay_50 : decode cX12_hasNextWay 50 = .ok (.iconst (-1), 1) := by decide +kernel
theorem dX12_hasNextWay_51 : decode cX12_hasNextWay 51 = .ok (.if_icmp .eq 13, 3) := by decide +kernel
theorem dX12_hasNextWay_54 : decode cX12_hasNextWay 54 = .ok (.aload_n 0, 1) := by decide +kernel
theorem dX12_hasNextWay_55 : decode cX12_hasNextWay 55 = .ok (.getfield 122, 3) := by decide +kernel
theorem dX12_hasNextWay_58 : decode cX12_hasNextWay 58 = .ok (.iload_n 3, 1) := by decide +kernel
theorem dX12_hasNextWay_59 : decode cX12_hasNextWay 59 = .ok (.iload 5, 2) := by decide +kernel
theorem dX12_hasNextWay_61 : decode cX12_hasNextWay 61 = .ok (.iastore, 1) := by decide +kernel
theorem dX12_hasNextWay_62 : decode cX12_hasNextWay 62 = .ok (.iconst 1, 1) := by decide +kernel
theorem dX12_hasNextWay_63 : decode cX12_hasNextWay 63 = .ok (.ireturn, 1) := by decide +kernel
theorem dX12_hasNextWay_64 : decode cX12_hasNextWay 64 = .ok (.aload_n 0, 1) := by decide +kernel
theorem dX12_hasNextWay_65 : decode cX12_hasNextWay 65 = .ok (.getfield 122, 3) := by decide +kernel
theorem dX12_hasNextWay_68 : decode cX12_hasNextWay 68 = .ok (.iload_n 3, 1) := by decide +kernel
theorem dX12_hasNextWay_69 : decode cX12_hasNextWay 69 = .ok (.iconst 0, 1) := by decide +kernel
theorem dX12_hasNextWay_70 : decode cX12_hasNextWay 70 = .ok (.iastore, 1) := by decide +kernel
theorem dX12_hasNextWay_71 : decode cX12_hasNextWay 71 = .ok (.iinc 3 (-1), 3) := by decide +kernel
theorem dX12_hasNextWay_74 : decode cX12_hasNextWay 74 = .ok (.goto (-65), 3) := by decide +kernel
theorem dX12_hasNextWay_77 : decode cX12_hasNextWay 77 = .ok (.iconst 0, 1) := by decide +kernel
theorem dX12_hasNextWay_78 : decode cX12_hasNextWay 78 = .ok (.ireturn, 1) := by decide +kernel
set_option maxHeartbeats 4000000 in
set_option maxRecDepth 100000 in
theorem c_X12_hasNextWay (l : Launch) {cs : Nat → ClassId} {ad : Nat → Nat} {A : Nat → Prop} {D : va_G} (hJ : hp_J SM ad A)   {h : hp_H} {a1 a2 : Int32} {Q : Int32 → hp_H → Prop} (hq : q_X12_hasNextWay h a1 a2 Q) : hp_Mi l yX12_hasNextWay cX12_hasNextWay 6 (some .boolean) rm_X12_hasNextWay [.ref (ad 0), .int a1, .int a2] SM cs ad A D h Q := by
  refine hp_met (own := RX12) rfl (by decide) (Nat.le_of_ble_eq_true rfl) rfl (fun p e s m args below meth c Z E hZ hnm => ?_)
  refine hp_sub (lv' := [(0, .ref (ad 0)), (1, .int a1), (2, .int a2)]) [0, 1, 2] rfl ?_
  unfold q_X12_hasNextWay at hq
  refine hp_aload_n E 0 dX12_hasNextWay_0 rfl rfl ?_
  refine hp_gR E g_RX12_74 fM_0_26 dX12_hasNextWay_1 ?_
  refine hp_iload_n E 2 dX12_hasNextWay_4 rfl rfl ?_
  refine hp_iald E 22 aM_22 hq.1 dX12_hasNextWay_5 ?_
  replace hq := hq.2
  refine hp_iconst E (nI 1) dX12_hasNextWay_6 (by decide) ?_
  refine hp_isub E dX12_hasNextWay_7 ?_
  refine hp_topi (fun v1 ev1 => ?_)
  replace hq := hq v1 ev1
  refine hp_istore_n (lv' := [(0, .ref (ad 0)), (1, .int a1), (2, .int a2), (3, .int v1)]) E dX12_hasNextWay_8 rfl (by decide) rfl rfl ?_
  refine hq (fun v3 h4 => hp_G p l e rm_X12_hasNextWay s m args below meth c SM cs ad A D 6 0 0 Z 9 [(0, .ref (ad 0)), (1, .int a1), (2, .int a2), (3, .int v3)] [] h4) (fun v3 h4 hB => ?_)
  obtain ⟨B2, hq, hB2⟩ := hB
  refine hp_iload_n E 3 dX12_hasNextWay_9 rfl rfl ?_
  refine hp_if_lt E 77 dX12_hasNextWay_10 (by decide) (fun c5 => ?_) (fun c5 => ?_)
  · replace hq := hq.1 c5
    refine hp_iconst E (nI 0) dX12_hasNextWay_77 (by decide) ?_
    exact hp_zret E (by unfold hp_bz; decide) hq hZ dX12_hasNextWay_78
  · replace hq := hq.2 c5
    refine hp_iconst E (nI 4) dX12_hasNextWay_13 (by decide) ?_
    refine hp_iload_n E 2 dX12_hasNextWay_14 rfl rfl ?_
    refine hp_imul E dX12_hasNextWay_15 ?_
    refine hp_iload_n E 3 dX12_hasNextWay_16 rfl rfl ?_
    refine hp_iadd E dX12_hasNextWay_17 ?_
    refine hp_topi (fun v6 ev6 => ?_)
    replace hq := hq v6 ev6
    refine hp_istore (lv' := [(0, .ref (ad 0)), (1, .int a1), (2, .int a2), (3, .int v3), (4, .int v6)]) E dX12_hasNextWay_18 (by decide) rfl rfl ?_
    refine hp_aload_n E 0 dX12_hasNextWay_20 rfl rfl ?_
    refine hp_gR E g_RX12_77 fM_0_27 dX12_hasNextWay_21 ?_
    refine hp_iload E 4 dX12_hasNextWay_24 rfl ?_
    refine hp_iald E 23 aM_23 hq.1 dX12_hasNextWay_26 ?_
    replace hq := hq.2
    refine hp_iconst E (nI 3) dX12_hasNextWay_27 (by decide) ?_
    obtain ⟨K8, hq, hK8⟩ := hq
    have jK8 : ∀  (h9 : hp_H), K8 h9 → hp_G p l e rm_X12_hasNextWay s m args below meth c SM cs ad A D 6 0 0 Z 71 [(0, .ref (ad 0)), (1, .int a1), (2, .int a2), (3, .int v3)] [] h9 := by
      intro h9 hq
      replace hq := hK8 h9 hq
      obtain ⟨v14, ev14⟩ : ∃ z : Int32, z = v3 + (-1) := ⟨_, rfl⟩
      replace hq := hq v14 ev14
      refine hp_iinc (lv' := [(0, .ref (ad 0)), (1, .int a1), (2, .int a2), (3, .int v14)]) E 3 v14 dX12_hasNextWay_71 rfl (by rw [ev14]; rfl) (by decide) rfl rfl ?_
      refine hp_goto E 9 dX12_hasNextWay_74 (by decide) ?_
      exact hB2 _ _ hq
    refine hp_icmp_ne E 71 dX12_hasNextWay_28 (by decide) (fun c7 => ?_) (fun c7 => ?_)
    · replace hq := hq.2 c7
      refine hp_sub (lv' := [(0, .ref (ad 0)), (1, .int a1), (2, .int a2), (3, .int v3)]) [0, 1, 2, 3] rfl ?_
      exact jK8 _ hq
    · replace hq := hq.1 c7
      refine hp_aload_n E 0 dX12_hasNextWay_31 rfl rfl ?_
      refine hp_iload_n E 1 dX12_hasNextWay_32 rfl rfl ?_
      refine hp_iload E 4 dX12_hasNextWay_33 rfl ?_
      refine hp_aload_n E 0 dX12_hasNextWay_35 rfl rfl ?_
      refine hp_gR E g_RX12_122 fM_0_53 dX12_hasNextWay_36 ?_
      refine hp_iload_n E 3 dX12_hasNextWay_39 rfl rfl ?_
      refine hp_iald E 38 aM_38 hq.1 dX12_hasNextWay_40 ?_
      replace hq := hq.2
      refine hp_iconst E (nI 1) dX12_hasNextWay_41 (by decide) ?_
      refine hp_iadd E dX12_hasNextWay_42 ?_
      refine hp_callVip (rest := []) E 0 fM_0_0 vcl_12 (c_X12_nextChoice l hJ hq) F_X12_nextChoice m_RX12_240 ⟨rfl, rfl⟩ ⟨Nat.le_of_ble_eq_true rfl, Nat.le_of_ble_eq_true rfl⟩ ⟨Nat.zero_le _, Nat.zero_le _⟩ rfl rfl (Nat.le_of_ble_eq_true rfl) dX12_hasNextWay_43 (fun r10 hq => ?_)
      refine hp_istore (lv' := [(0, .ref (ad 0)), (1, .int a1), (2, .int a2), (3, .int v3), (4, .int v6), (5, .int r10)]) E dX12_hasNextWay_46 (by decide) rfl rfl ?_
      refine hp_iload E 5 dX12_hasNextWay_48 rfl ?_
      refine hp_iconst E (-1) dX12_hasNextWay_50 (by decide) ?_
      refine hp_icmp_eq E 64 dX12_hasNextWay_51 (by decide) (fun c11 => ?_) (fun c11 => ?_)
      · replace hq := hq.1 c11
        refine hp_aload_n E 0 dX12_hasNextWay_64 rfl rfl ?_
        refine hp_gR E g_RX12_122 fM_0_53 dX12_hasNextWay_65 ?_
        refine hp_iload_n E 3 dX12_hasNextWay_68 rfl rfl ?_
        refine hp_iconst E (nI 0) dX12_hasNextWay_69 (by decide) ?_
        have hin := hq.1
        replace hq := hq.2
        refine hp_iast E 38 aM_38 zM_38 hJ hin dX12_hasNextWay_70 ?_
        refine hp_toph (fun h12 eh12 => ?_)
        replace hq := hq h12 eh12
        refine hp_sub (lv' := [(0, .ref (ad 0)), (1, .int a1), (2, .int a2), (3, .int v3)]) [0, 1, 2, 3] rfl ?_
        exact jK8 _ hq
      · replace hq := hq.2 c11
        refine hp_aload_n E 0 dX12_hasNextWay_54 rfl rfl ?_
        refine hp_gR E g_RX12_122 fM_0_53 dX12_hasNextWay_55 ?_
        refine hp_iload_n E 3 dX12_hasNextWay_58 rfl rfl ?_
        refine hp_iload E 5 dX12_hasNextWay_59 rfl ?_
        have hin := hq.1
        replace hq := hq.2
        refine hp_iast E 38 aM_38 zM_38 hJ hin dX12_hasNextWay_61 ?_
        refine hp_toph (fun h13 eh13 => ?_)
        replace hq := hq h13 eh13
        refine hp_iconst E (nI 1) dX12_hasNextWay_62 (by decide) ?_
        exact hp_zret E (by unfold hp_bz; decide) hq hZ dX12_hasNextWay_63
theorem dX12_letterGoes_0 : decode cX12_letterGoes 0 = .ok (.iload_n 1, 1) := by decide +kernel
theorem dX12_letterGoes_1 : decode cX12_letterGoes 1 = .ok (.invokestatic 223, 3) := by decide +kernel
theorem dX12_letterGoes_4 : decode cX12_letterGoes 4 = .ok (.istore_n 3, 1) := by decide +kernel
theorem dX12_letterGoes_5 : decode cX12_letterGoes 5 = .ok (.iload_n 2, 1) := by decide +kernel
theorem dX12_letterGoes_6 : decode cX12_letterGoes 6 = .ok (.istore 4, 2) := by decide +kernel
theorem dX12_letterGoes_8 : decode cX12_letterGoes 8 = .ok (.iload 4, 2) := by decide +kernel
theorem dX12_letterGoes_10 : decode cX12_letterGoes 10 = .ok (.iconst 1, 1) := by decide +kernel
theorem dX12_letterGoes_11 : decode cX12_letterGoes 11 = .ok (.iadd, 1) := by decide +kernel
theorem dX12_letterGoes_12 : decode cX12_letterGoes 12 = .ok (.aload_n 0, 1) := by decide +kernel
theorem dX12_letterGoes_13 : decode cX12_letterGoes 13 = .ok (.getfield 116, 3) := by decide +kernel
theorem dX12_letterGoes_16 : decode cX12_letterGoes 16 = .ok (.iload_n 3, 1) := by decide +kernel
theorem dX12_letterGoes_17 : decode cX12_letterGoes 17 = .ok (.iaload, 1) := by decide +kernel
theorem dX12_letterGoes_18 : decode cX12_letterGoes 18 = .ok (.if_icmp .ge 31, 3) := by decide +kernel
theorem dX12_letterGoes_21 : decode cX12_letterGoes 21 = .ok (.aload_n 0, 1) := by decide +kernel
theorem dX12_letterGoes_22 : decode cX12_letterGoes 22 = .ok (.getfield 116, 3) := by decide +kernel
theorem dX12_letterGoes_25 : decode cX12_letterGoes 25 = .ok (.iload_n 3, 1) := by decide +kernel
theorem dX12_letterGoes_26 : decode cX12_letterGoes 26 = .ok (.iconst 1, 1) := by decide +kernel
theorem dX12_letterGoes_27 : decode cX12_letterGoes 27 = .ok (.iadd, 1) := by decide +kernel
theorem dX12_letterGoes_28 : decode cX12_letterGoes 28 = .ok (.iload 4, 2) := by decide +kernel
theorem dX12_letterGoes_30 : decode cX12_letterGoes 30 = .ok (.iadd, 1) := by decide +kernel
theorem dX12_letterGoes_31 : decode cX12_letterGoes 31 = .ok (.aload_n 0, 1) := by decide +kernel
theorem dX12_letterGoes_32 : decode cX12_letterGoes 32 = .ok (.getfield 116, 3) := by decide +kernel
theorem dX12_letterGoes_35 : decode cX12_letterGoes 35 = .ok (.iload_n 3, 1) := by decide +kernel
theorem dX12_letterGoes_36 : decode cX12_letterGoes 36 = .ok (.iconst 2, 1) := by decide +kernel
theorem dX12_letterGoes_37 : decode cX12_letterGoes 37 = .ok (.iadd, 1) := by decide +kernel
theorem dX12_letterGoes_38 : decode cX12_letterGoes 38 = .ok (.iload 4, 2) := by decide +kernel
theorem dX12_letterGoes_40 : decode cX12_letterGoes 40 = .ok (.iadd, 1) := by decide +kernel
theorem dX12_letterGoes_41 : decode cX12_letterGoes 41 = .ok (.iaload, 1) := by decide +kernel
theorem dX12_letterGoes_42 : decode cX12_letterGoes 42 = .ok (.iastore, 1) := by decide +kernel
theorem dX12_letterGoes_43 : decode cX12_letterGoes 43 = .ok (.iinc 4 1, 3) := by decide +kernel
theorem dX12_letterGoes_46 : decode cX12_letterGoes 46 = .ok (.goto (-38), 3) := by decide +kernel
theorem dX12_letterGoes_49 : decode cX12_letterGoes 49 = .ok (.aload_n 0, 1) := by decide +kernel
theorem dX12_letterGoes_50 : decode cX12_letterGoes 50 = .ok (.getfield 116, 3) := by decide +kernel
theorem dX12_letterGoes_53 : decode cX12_letterGoes 53 = .ok (.iload_n 3, 1) := by decide +kernel
theorem dX12_letterGoes_54 : decode cX12_letterGoes 54 = .ok (.aload_n 0, 1) := by decide +kernel
theorem dX12_letterGoes_55 : decode cX12_letterGoes 55 = .ok (.getfield 116, 3) := by decide +kernel
theorem dX12_letterGoes_58 : decode cX12_letterGoes 58 = .ok (.iload_n 3, 1) := by decide +kernel
theorem dX12_letterGoes_59 : decode cX12_letterGoes 59 = .ok (.iaload, 1) := by decide +kernel
theorem dX12_letterGoes_60 : decode cX12_letterGoes 60 = .ok (.iadd, 1) := by decide +kernel
theorem dX12_letterGoes_61 : decode cX12_letterGoes 61 = .ok (.iconst 0, 1) := by decide +kernel
theorem dX12_letterGoes_62 : decode cX12_letterGoes 62 = .ok (.iastore, 1) := by decide +kernel
theorem dX12_letterGoes_63 : decode cX12_letterGoes 63 = .ok (.aload_n 0, 1) := by decide +kernel
theorem dX12_letterGoes_64 : decode cX12_letterGoes 64 = .ok (.getfield 116, 3) := by decide +kernel
theorem dX12_letterGoes_67 : decode cX12_letterGoes 67 = .ok (.iload_n 3, 1) := by decide +kernel
theorem dX12_letterGoes_68 : decode cX12_letterGoes 68 = .ok (.dup2, 1) := by decide +kernel
theorem dX12_letterGoes_69 : decode cX12_letterGoes 69 = .ok (.iaload, 1) := by decide +kernel
theorem dX12_letterGoes_70 : decode cX12_letterGoes 70 = .ok (.iconst 1, 1) := by decide +kernel
theorem dX12_letterGoes_71 : decode cX12_letterGoes 71 = .ok (.isub, 1) := by decide +kernel
theorem dX12_letterGoes_72 : decode cX12_letterGoes 72 = .ok (.iastore, 1) := by decide +kernel
theorem dX12_letterGoes_73 : decode cX12_letterGoes 73 = .ok (.return_, 1) := by decide +kernel
set_option maxHeartbeats 4000000 in
set_option maxRecDepth 100000 in
theorem c_X12_letterGoes (l : Launch) {cs : Nat → ClassId} {ad : Nat → Nat} {A : Nat → Prop} {D : va_G} (hJ : hp_J SM ad A)   {h : hp_H} {a1 a2 : Int32} {Q : hp_H → Prop} (hq : q_X12_letterGoes h a1 a2 Q) : hp_Mv l yX12_letterGoes cX12_letterGoes 5 none rm_X12_letterGoes [.ref (ad 0), .int a1, .int a2] SM cs ad A D h Q := by
  refine hp_met (own := RX12) rfl (by decide) (Nat.le_of_ble_eq_true rfl) rfl (fun p e s m args below meth c Z E hZ hnm => ?_)
  refine hp_sub (lv' := [(0, .ref (ad 0)), (1, .int a1), (2, .int a2)]) [0, 1, 2] rfl ?_
  unfold q_X12_letterGoes at hq
  refine hp_iload_n E 1 dX12_letterGoes_0 rfl rfl ?_
  refine hp_callSip (rest := []) E (c_X12_channelAt l hJ hq) F_X12_channelAt m_RX12_223 ⟨rfl, rfl⟩ ⟨Nat.le_of_ble_eq_true rfl, Nat.le_of_ble_eq_true rfl⟩ ⟨Nat.zero_le _, Nat.zero_le _⟩ rfl rfl (Nat.le_of_ble_eq_true rfl) dX12_letterGoes_1 (fun r1 hq => ?_)
  refine hp_istore_n (lv' := [(0, .ref (ad 0)), (1, .int a1), (2, .int a2), (3, .int r1)]) E dX12_letterGoes_4 rfl (by decide) rfl rfl ?_
  refine hp_iload_n E 2 dX12_letterGoes_5 rfl rfl ?_
  refine hp_istore (lv' := [(0, .ref (ad 0)), (1, .int a1), (2, .int a2), (3, .int r1), (4, .int a2)]) E dX12_letterGoes_6 (by decide) rfl rfl ?_
  refine hp_sub (lv' := [(0, .ref (ad 0)), (3, .int r1), (4, .int a2)]) [0, 3, 4] rfl ?_
  refine hq (fun v3 h4 => hp_G p l e rm_X12_letterGoes s m args below meth c SM cs ad A D 5 0 0 Z 8 [(0, .ref (ad 0)), (3, .int r1), (4, .int v3)] [] h4) (fun v3 h4 hB => ?_)
  obtain ⟨B2, hq, hB2⟩ := hB
  refine hp_iload E 2 dX12_letterGoes_8 rfl ?_
  refine hp_iconst E (nI 1) dX12_letterGoes_10 (by decide) ?_
  refine hp_iadd E dX12_letterGoes_11 ?_
  refine hp_aload_n E 0 dX12_letterGoes_12 rfl rfl ?_
  refine hp_gR E g_RX12_116 fM_0_51 dX12_letterGoes_13 ?_
  refine hp_iload_n E 1 dX12_letterGoes_16 rfl rfl ?_
  refine hp_iald E 36 aM_36 hq.1 dX12_letterGoes_17 ?_
  replace hq := hq.2
  refine hp_icmp_ge E 49 dX12_letterGoes_18 (by decide) (fun c5 => ?_) (fun c5 => ?_)
  · replace hq := hq.1 c5
    refine hp_aload_n E 0 dX12_letterGoes_49 rfl rfl ?_
    refine hp_gR E g_RX12_116 fM_0_51 dX12_letterGoes_50 ?_
    refine hp_iload_n E 1 dX12_letterGoes_53 rfl rfl ?_
    refine hp_aload_n E 0 dX12_letterGoes_54 rfl rfl ?_
    refine hp_gR E g_RX12_116 fM_0_51 dX12_letterGoes_55 ?_
    refine hp_iload_n E 1 dX12_letterGoes_58 rfl rfl ?_
    refine hp_iald E 36 aM_36 hq.1 dX12_letterGoes_59 ?_
    replace hq := hq.2
    refine hp_iadd E dX12_letterGoes_60 ?_
    refine hp_iconst E (nI 0) dX12_letterGoes_61 (by decide) ?_
    have hin := hq.1
    replace hq := hq.2
    refine hp_iast E 36 aM_36 zM_36 hJ hin dX12_letterGoes_62 ?_
    refine hp_toph (fun h6 eh6 => ?_)
    replace hq := hq h6 eh6
    refine hp_aload_n E 0 dX12_letterGoes_63 rfl rfl ?_
    refine hp_gR E g_RX12_116 fM_0_51 dX12_letterGoes_64 ?_
    refine hp_iload_n E 1 dX12_letterGoes_67 rfl rfl ?_
    refine hp_dup2 E rfl rfl dX12_letterGoes_68 ?_
    refine hp_iald E 36 aM_36 hq.1 dX12_letterGoes_69 ?_
    replace hq := hq.2
    refine hp_iconst E (nI 1) dX12_letterGoes_70 (by decide) ?_
    refine hp_isub E dX12_letterGoes_71 ?_
    have hin := hq.1
    replace hq := hq.2
    refine hp_iast E 36 aM_36 zM_36 hJ hin dX12_letterGoes_72 ?_
    refine hp_toph (fun h7 eh7 => ?_)
    replace hq := hq h7 eh7
    exact hp_vret E hq hZ dX12_letterGoes_73
  · replace hq := hq.2 c5
    refine hp_aload_n E 0 dX12_letterGoes_21 rfl rfl ?_
    refine hp_gR E g_RX12_116 fM_0_51 dX12_letterGoes_22 ?_
    refine hp_iload_n E 1 dX12_letterGoes_25 rfl rfl ?_
    refine hp_iconst E (nI 1) dX12_letterGoes_26 (by decide) ?_
    refine hp_iadd E dX12_letterGoes_27 ?_
    refine hp_iload E 2 dX12_letterGoes_28 rfl ?_
    refine hp_iadd E dX12_letterGoes_30 ?_
    refine hp_aload_n E 0 dX12_letterGoes_31 rfl rfl ?_
    refine hp_gR E g_RX12_116 fM_0_51 dX12_letterGoes_32 ?_
    refine hp_iload_n E 1 dX12_letterGoes_35 rfl rfl ?_
    refine hp_iconst E (nI 2) dX12_letterGoes_36 (by decide) ?_
    refine hp_iadd E dX12_letterGoes_37 ?_
    refine hp_iload E 2 dX12_letterGoes_38 rfl ?_
    refine hp_iadd E dX12_letterGoes_40 ?_
    refine hp_iald E 36 aM_36 hq.1 dX12_letterGoes_41 ?_
    replace hq := hq.2
    have hin := hq.1
    replace hq := hq.2
    refine hp_iast E 36 aM_36 zM_36 hJ hin dX12_letterGoes_42 ?_
    refine hp_toph (fun h8 eh8 => ?_)
    replace hq := hq h8 eh8
    obtain ⟨v9, ev9⟩ : ∃ z : Int32, z = v3 + (nI 1) := ⟨_, rfl⟩
    replace hq := hq v9 ev9
    refine hp_iinc (lv' := [(0, .ref (ad 0)), (3, .int r1), (4, .int v9)]) E 2 v9 dX12_letterGoes_43 rfl (by rw [ev9]; rfl) (by decide) rfl rfl ?_
    refine hp_goto E 8 dX12_letterGoes_46 (by decide) ?_
    exact hB2 _ _ hq
theorem dX12_isDone_0 : decode cX12_isDone 0 = .ok (.aload_n 0, 1) := by decide +kernel
theorem dX12_isDone_1 : decode cX12_isDone 1 = .ok (.getfield 62, 3) := by decide +kernel
theorem dX12_isDone_4 : decode cX12_isDone 4 = .ok (.iload_n 3, 1) := by decide +kernel
theorem dX12_isDone_5 : decode cX12_isDone 5 = .ok (.iaload, 1) := by decide +kernel
theorem dX12_isDone_6 : decode cX12_isDone 6 = .ok (.istore 4, 2) := by decide +kernel
theorem dX12_isDone_8 : decode cX12_isDone 8 = .ok (.iload 4, 2) := by decide +kernel
theorem dX12_isDone_10 : decode cX12_isDone 10 = .ok (.iload_n 2, 1) := by decide +kernel
theorem dX12_isDone_11 : decode cX12_isDone 11 = .ok (.invokestatic 212, 3) := by decide +kernel
theorem dX12_isDone_14 : decode cX12_isDone 14 = .ok (.istore 5, 2) := by decide +kernel
theorem dX12_isDone_16 : decode cX12_isDone 16 = .ok (.iconst 0, 1) := by decide +kernel
theorem dX12_isDone_17 : decode cX12_isDone 17 = .ok (.istore 6, 2) := by decide +kernel
theorem dX12_isDone_19 : decode cX12_isDone 19 = .ok (.iload 6, 2) := by decide +kernel
theorem dX12_isDone_21 : decode cX12_isDone 21 = .ok (.aload_n 0, 1) := by decide +kernel
theorem dX12_isDone_22 : decode cX12_isDone 22 = .ok (.getfield 74, 3) := by decide +kernel
theorem dX12_isDone_25 : decode cX12_isDone 25 = .ok (.iload_n 3, 1) := by decide +kernel
theorem dX12_isDone_26 : decode cX12_isDone 26 = .ok (.iaload, 1) := by decide +kernel
theorem dX12_isDone_27 : decode cX12_isDone 27 = .ok (.if_icmp .ge 279, 3) := by decide +kernel
theorem dX12_isDone_30 : decode cX12_isDone 30 = .ok (.iconst 4, 1) := by decide +kernel
theorem dX12_isDone_31 : decode cX12_isDone 31 = .ok (.iload_n 3, 1) := by decide +kernel
theorem dX12_isDone_32 : decode cX12_isDone 32 = .ok (.imul, 1) := by decide +kernel
theorem dX12_isDone_33 : decode cX12_isDone 33 = .ok (.iload 6, 2) := by decide +kernel
theorem dX12_isDone_35 : decode cX12_isDone 35 = .ok (.iadd, 1) := by decide +kernel
theorem dX12_isDone_36 : decode cX12_isDone 36 = .ok (.istore 7, 2) := by decide +kernel
theorem dX12_isDone_38 : decode cX12_isDone 38 = .ok (.aload_n 0, 1) := by decide +kernel
theorem dX12_isDone_39 : decode cX12_isDone 39 = .ok (.getfield 80, 3) := by decide +kernel
theorem dX12_isDone_42 : decode cX12_isDone 42 = .ok (.iload 7, 2) := by decide +kernel
theorem dX12_isDone_44 : decode cX12_isDone 44 = .ok (.iaload, 1) := by decide +kernel
theorem dX12_isDone_45 : decode cX12_isDone 45 = .ok (.istore 8, 2) := by decide +kernel
theorem dX12_isDone_47 : decode cX12_isDone 47 = .ok (.aload_n 0, 1) := by decide +kernel
theorem dX12_isDone_48 : decode cX12_isDone 48 = .ok (.getfield 77, 3) := by decide +kernel
theorem dX12_isDone_51 : decode cX12_isDone 51 = .ok (.iload 7, 2) := by decide +kernel
theorem dX12_isDone_53 : decode cX12_isDone 53 = .ok (.iaload, 1) := by decide +kernel
theorem dX12_isDone_54 : decode cX12_isDone 54 = .ok (.iconst 3, 1) := by decide +kernel
theorem dX12_isDone_55 : decode cX12_isDone 55 = .ok (.if_icmp .ne 26, 3) := by decide +kernel
theorem dX12_isDone_58 : decode cX12_isDone 58 = .ok (.aload_n 0, 1) := by decide +kernel
theorem dX12_isDone_59 : decode cX12_isDone 59 = .ok (.iload_n 1, 1) := by decide +kernel
theorem dX12_isDone_60 : decode cX12_isDone 60 = .ok (.iload 8, 2) := by decide +kernel
theorem dX12_isDone_62 : decode cX12_isDone 62 = .ok (.invokestatic 223, 3) := by decide +kernel
theorem dX12_isDone_65 : decode cX12_isDone 65 = .ok (.iconst 1, 1) := by decide +kernel
theorem dX12_isDone_66 : decode cX12_isDone 66 = .ok (.iadd, 1) := by decide +kernel
theorem dX12_isDone_67 : decode cX12_isDone 67 = .ok (.aload_n 0, 1) := by decide +kernel
theorem dX12_isDone_68 : decode cX12_isDone 68 = .ok (.getfield 122, 3) := by decide +kernel
theorem dX12_isDone_71 : decode cX12_isDone 71 = .ok (.iload 6, 2) := by decide +kernel
theorem dX12_isDone_73 : decode cX12_isDone 73 = .ok (.iaload, 1) := by decide +kernel
theorem dX12_isDone_74 : decode cX12_isDone 74 = .ok (.iadd, 1) := by decide +kernel
theorem dX12_isDone_75 : decode cX12_isDone 75 = .ok (.invokevirtual 216, 3) := by decide +kernel
theorem dX12_isDone_78 : decode cX12_isDone 78 = .ok (.goto 15, 3) := by decide +kernel
theorem dX12_isDone_81 : decode cX12_isDone 81 = .ok (.aload_n 0, 1) := by decide +kernel
theorem dX12_isDone_82 : decode cX12_isDone 82 = .ok (.getfield 119, 3) := by decide +kernel
theorem dX12_isDone_85 : decode cX12_isDone 85 = .ok (.aload_n 0, 1) := by decide +kernel
theorem dX12_isDone_86 : decode cX12_isDone 86 = .ok (.getfield 83, 3) := by decide +kernel
theorem dX12_isDone_89 : decode cX12_isDone 89 = .ok (.iload 7, 2) := by decide +kernel
theorem dX12_isDone_91 : decode cX12_isDone 91 = .ok (.iaload, 1) := by decide +kernel
theorem dX12_isDone_92 : decode cX12_isDone 92 = .ok (.iaload, 1) := by decide +kernel
theorem dX12_isDone_93 : decode cX12_isDone 93 = .ok (.istore 9, 2) := by decide +kernel
theorem dX12_isDone_95 : decode cX12_isDone 95 = .ok (.aload_n 0, 1) := by decide +kernel
theorem dX12_isDone_96 : decode cX12_isDone 96 = .ok (.getfield 77, 3) := by decide +kernel
theorem dX12_isDone_99 : decode cX12_isDone 99 = .ok (.iload 7, 2) := by decide +kernel
theorem dX12_isDone_101 : decode cX12_isDone 101 = .ok (.iaload, 1) := by decide +kernel
theorem dX12_isDone_102 : decode cX12_isDone 102 = .ok (.ifCond .ne 39, 3) := by decide +kernel
theorem dX12_isDone_105 : decode cX12_isDone 105 = .ok (.iload 9, 2) := by decide +kernel
theorem dX12_isDone_107 : decode cX12_isDone 107 = .ok (.aload_n 0, 1) := by decide +kernel
theorem dX12_isDone_108 : decode cX12_isDone 108 = .ok (.getfield 7, 3) := by decide +kernel
theorem dX12_isDone_111 : decode cX12_isDone 111 = .ok (.iload 8, 2) := by decide +kernel
theorem dX12_isDone_113 : decode cX12_isDone 113 = .ok (.iaload, 1) := by decide +kernel
theorem dX12_isDone_114 : decode cX12_isDone 114 = .ok (.aload_n 0, 1) := by decide +kernel
theorem dX12_isDone_115 : decode cX12_isDone 115 = .ok (.getfield 13, 3) := by decide +kernel
theorem dX12_isDone_118 : decode cX12_isDone 118 = .ok (.iload 8, 2) := by decide +kernel
theorem dX12_isDone_120 : decode cX12_isDone 120 = .ok (.iaload, 1) := by decide +kernel
theorem dX12_isDone_121 : decode cX12_isDone 121 = .ok (.invokestatic 156, 3) := by decide +kernel
theorem dX12_isDone_124 : decode cX12_isDone 124 = .ok (.ifCond .ne 5, 3) := by decide +kernel
theorem dX12_isDone_127 : decode cX12_isDone 127 = .ok (.iconst 0, 1) := by decide +kernel
theorem dX12_isDone_128 : decode cX12_isDone 128 = .ok (.ireturn, 1) := by decide +kernel
theorem dX12_isDone_129 : decode cX12_isDone 129 = .ok (.aload_n 0, 1) := by decide +kernel
theorem dX12_isDone_130 : decode cX12_isDone 130 = .ok (.getfield 116, 3) := by decide +kernel
theorem dX12_isDone_133 : decode cX12_isDone 133 = .ok (.iload 8, 2) := by decide +kernel
theorem dX12_isDone_135 : decode cX12_isDone 135 = .ok (.iload 9, 2) := by decide +kernel
theorem dX12_isDone_137 : decode cX12_isDone 137 = .ok (.iastore, 1) := by decide +kernel
theorem dX12_isDone_138 : decode cX12_isDone 138 = .ok (.goto 162, 3) := by decide +kernel
theorem dX12_isDone_141 : decode cX12_isDone 141 = .ok (.aload_n 0, 1) := by decide +kernel
theorem dX12_isDone_142 : decode cX12_isDone 142 = .ok (.getfield 77, 3) := by decide +kernel
theorem dX12_isDone_145 : decode cX12_isDone 145 = .ok (.iload 7, 2) := by decide +kernel
theorem dX12_isDone_147 : decode cX12_isDone 147 = .ok (.iaload, 1) := by decide +kernel
theorem dX12_isDone_148 : decode cX12_isDone 148 = .ok (.iconst 2, 1) := by decide +kernel
theorem dX12_isDone_149 : decode cX12_isDone 149 = .ok (.if_icmp .ne 54, 3) := by decide +kernel
theorem dX12_isDone_152 : decode cX12_isDone 152 = .ok (.iload 9, 2) := by decide +kernel
theorem dX12_isDone_154 : decode cX12_isDone 154 = .ok (.iconst 0, 1) := by decide +kernel
theorem dX12_isDone_155 : decode cX12_isDone 155 = .ok (.bipush 9, 2) := by decide +kernel
theorem dX12_isDone_157 : decode cX12_isDone 157 = .ok (.invokestatic 156, 3) := by decide +kernel
theorem dX12_isDone_160 : decode cX12_isDone 160 = .ok (.ifCond .ne 5, 3) := by decide +kernel
theorem dX12_isDone_163 : decode cX12_isDone 163 = .ok (.iconst 0, 1) := by decide +kernel
theorem dX12_isDone_164 : decode cX12_isDone 164 = .ok (.ireturn, 1) := by decide +kernel
theorem dX12_isDone_165 : decode cX12_isDone 165 = .ok (.iload 8, 2) := by decide +kernel
theorem dX12_isDone_167 : decode cX12_isDone 167 = .ok (.invokestatic 223, 3) := by decide +kernel
theorem dX12_isDone_170 : decode cX12_isDone 170 = .ok (.istore 10, 2) := by decide +kernel
theorem dX12_isDone_172 : decode cX12_isDone 172 = .ok (.aload_n 0, 1) := by decide +kernel
theorem dX12_isDone_173 : decode cX12_isDone 173 = .ok (.getfield 116, 3) := by decide +kernel
theorem dX12_isDone_176 : decode cX12_isDone 176 = .ok (.iload 10, 2) := by decide +kernel
theorem dX12_isDone_178 : decode cX12_isDone 178 = .ok (.dup2, 1) := by decide +kernel
theorem dX12_isDone_179 : decode cX12_isDone 179 = .ok (.iaload, 1) := by decide +kernel
theorem dX12_isDone_180 : decode cX12_isDone 180 = .ok (.iconst 1, 1) := by decide +kernel
theorem dX12_isDone_181 : decode cX12_isDone 181 = .ok (.iadd, 1) := by decide +kernel
theorem dX12_isDone_182 : decode cX12_isDone 182 = .ok (.iastore, 1) := by decide +kernel
theorem dX12_isDone_183 : decode cX12_isDone 183 = .ok (.aload_n 0, 1) := by decide +kernel
theorem dX12_isDone_184 : decode cX12_isDone 184 = .ok (.getfield 116, 3) := by decide +kernel
theorem dX12_isDone_187 : decode cX12_isDone 187 = .ok (.iload 10, 2) := by decide +kernel
theorem dX12_isDone_189 : decode cX12_isDone 189 = .ok (.aload_n 0, 1) := by decide +kernel
theorem dX12_isDone_190 : decode cX12_isDone 190 = .ok (.getfield 116, 3) := by decide +kernel
theorem dX12_isDone_193 : decode cX12_isDone 193 = .ok (.iload 10, 2) := by decide +kernel
theorem dX12_isDone_195 : decode cX12_isDone 195 = .ok (.iaload, 1) := by decide +kernel
theorem dX12_isDone_196 : decode cX12_isDone 196 = .ok (.iadd, 1) := by decide +kernel
theorem dX12_isDone_197 : decode cX12_isDone 197 = .ok (.iload 9, 2) := by decide +kernel
theorem dX12_isDone_199 : decode cX12_isDone 199 = .ok (.iastore, 1) := by decide +kernel
theorem dX12_isDone_200 : decode cX12_isDone 200 = .ok (.goto 100, 3) := by decide +kernel
theorem dX12_isDone_203 : decode cX12_isDone 203 = .ok (.aload_n 0, 1) := by decide +kernel
theorem dX12_isDone_204 : decode cX12_isDone 204 = .ok (.getfield 77, 3) := by decide +kernel
theorem dX12_isDone_207 : decode cX12_isDone 207 = .ok (.iload 7, 2) := by decide +kernel
theorem dX12_isDone_209 : decode cX12_isDone 209 = .ok (.iaload, 1) := by decide +kernel
theorem dX12_isDone_210 : decode cX12_isDone 210 = .ok (.iconst 1, 1) := by decide +kernel
theorem dX12_isDone_211 : decode cX12_isDone 211 = .ok (.if_icmp .ne 8, 3) := by decide +kernel
theorem dX12_isDone_214 : decode cX12_isDone 214 = .ok (.iload 8, 2) := by decide +kernel
theorem dX12_isDone_216 : decode cX12_isDone 216 = .ok (.goto 10, 3) := by decide +kernel
theorem dX12_isDone_219 : decode cX12_isDone 219 = .ok (.aload_n 0, 1) := by decide +kernel
theorem dX12_isDone_220 : decode cX12_isDone 220 = .ok (.getfield 83, 3) := by decide +kernel
theorem dX12_isDone_223 : decode cX12_isDone 223 = .ok (.iload 7, 2) := by decide +kernel
theorem dX12_isDone_225 : decode cX12_isDone 225 = .ok (.iaload, 1) := by decide +kernel
theorem dX12_isDone_226 : decode cX12_isDone 226 = .ok (.istore 10, 2) := by decide +kernel
theorem dX12_isDone_228 : decode cX12_isDone 228 = .ok (.iload 9, 2) := by decide +kernel
theorem dX12_isDone_230 : decode cX12_isDone 230 = .ok (.aload_n 0, 1) := by decide +kernel
theorem dX12_isDone_231 : decode cX12_isDone 231 = .ok (.getfield 25, 3) := by decide +kernel
theorem dX12_isDone_234 : decode cX12_isDone 234 = .ok (.iconst 3, 1) := by decide +kernel
theorem dX12_isDone_235 : decode cX12_isDone 235 = .ok (.iload 4, 2) := by decide +kernel
theorem dX12_isDone_237 : decode cX12_isDone 237 = .ok (.imul, 1) := by decide +kernel
theorem dX12_isDone_238 : decode cX12_isDone 238 = .ok (.iload 10, 2) := by decide +kernel
theorem dX12_isDone_240 : decode cX12_isDone 240 = .ok (.iadd, 1) := by decide +kernel
theorem dX12_isDone_241 : decode cX12_isDone 241 = .ok (.iaload, 1) := by decide +kernel
theorem dX12_isDone_242 : decode cX12_isDone 242 = .ok (.aload_n 0, 1) := by decide +kernel
theorem dX12_isDone_243 : decode cX12_isDone 243 = .ok (.getfield 28, 3) := by decide +kernel
theorem dX12_isDone_246 : decode cX12_isDone 246 = .ok (.iconst 3, 1) := by decide +kernel
theorem dX12_isDone_247 : decode cX12_isDone 247 = .ok (.iload 4, 2) := by decide +kernel
theorem dX12_isDone_249 : decode cX12_isDone 249 = .ok (.imul, 1) := by decide +kernel
theorem dX12_isDone_250 : decode cX12_isDone 250 = .ok (.iload 10, 2) := by decide +kernel
theorem dX12_isDone_252 : decode cX12_isDone 252 = .ok (.iadd, 1) := by decide +kernel
theorem dX12_isDone_253 : decode cX12_isDone 253 = .ok (.iaload, 1) := by decide +kernel
theorem dX12_isDone_254 : decode cX12_isDone 254 = .ok (.invokestatic 156, 3) := by decide +kernel
theorem dX12_isDone_257 : decode cX12_isDone 257 = .ok (.ifCond .ne 5, 3) := by decide +kernel
theorem dX12_isDone_260 : decode cX12_isDone 260 = .ok (.iconst 0, 1) := by decide +kernel
theorem dX12_isDone_261 : decode cX12_isDone 261 = .ok (.ireturn, 1) := by decide +kernel
theorem dX12_isDone_262 : decode cX12_isDone 262 = .ok (.aload_n 0, 1) := by decide +kernel
theorem dX12_isDone_263 : decode cX12_isDone 263 = .ok (.getfield 116, 3) := by decide +kernel
theorem dX12_isDone_266 : decode cX12_isDone 266 = .ok (.iload 5, 2) := by decide +kernel
theorem dX12_isDone_268 : decode cX12_isDone 268 = .ok (.iconst 1, 1) := by decide +kernel
theorem dX12_isDone_269 : decode cX12_isDone 269 = .ok (.iadd, 1) := by decide +kernel
theorem dX12_isDone_270 : decode cX12_isDone 270 = .ok (.iload 10, 2) := by decide +kernel
theorem dX12_isDone_272 : decode cX12_isDone 272 = .ok (.iadd, 1) := by decide +kernel
theorem dX12_isDone_273 : decode cX12_isDone 273 = .ok (.iload 9, 2) := by decide +kernel
theorem dX12_isDone_275 : decode cX12_isDone 275 = .ok (.iastore, 1) := by decide +kernel
theorem dX12_isDone_276 : decode cX12_isDone 276 = .ok (.aload_n 0, 1) := by decide +kernel
theorem dX12_isDone_277 : decode cX12_isDone 277 = .ok (.getfield 77, 3) := by decide +kernel
theorem dX12_isDone_280 : decode cX12_isDone 280 = .ok (.iload 7, 2) := by decide +kernel
theorem dX12_isDone_282 : decode cX12_isDone 282 = .ok (.iaload, 1) := by decide +kernel
theorem dX12_isDone_283 : decode cX12_isDone 283 = .ok (.iconst 3, 1) := by decide +kernel
theorem dX12_isDone_284 : decode cX12_isDone 284 = .ok (.if_icmp .ne 16, 3) := by decide +kernel
theorem dX12_isDone_287 : decode cX12_isDone 287 = .ok (.aload_n 0, 1) := by decide +kernel
theorem dX12_isDone_288 : decode cX12_isDone 288 = .ok (.iload 8, 2) := by decide +kernel
theorem dX12_isDone_290 : decode cX12_isDone 290 = .ok (.aload_n 0, 1) := by decide +kernel
theorem dX12_isDone_291 : decode cX12_isDone 291 = .ok (.getfield 122, 3) := by decide +kernel
theorem dX12_isDone_294 : decode cX12_isDone 294 = .ok (.iload 6, 2) := by decide +kernel
theorem dX12_isDone_296 : decode cX12_isDone 296 = .ok (.iaload, 1) := by decide +kernel
theorem dX12_isDone_297 : decode cX12_isDone 297 = .ok (.invokevirtual 243, 3) := by decide +kernel
theorem dX12_isDone_300 : decode cX12_isDone 300 = .ok (.iinc 6 1, 3) := by decide +kernel
theorem dX12_isDone_303 : decode cX12_isDone 303 = .ok (.goto (-284), 3) := by decide +kernel
theorem dX12_isDone_306 : decode cX12_isDone 306 = .ok (.aload_n 0, 1) := by decide +kernel
theorem dX12_isDone_307 : decode cX12_isDone 307 = .ok (.getfield 116, 3) := by decide +kernel
theorem dX12_isDone_310 : decode cX12_isDone 310 = .ok (.iload 5, 2) := by decide +kernel
theorem dX12_isDone_312 : decode cX12_isDone 312 = .ok (.aload_n 0, 1) := by decide +kernel
theorem dX12_isDone_313 : decode cX12_isDone 313 = .ok (.getfield 68, 3) := by decide +kernel
theorem dX12_isDone_316 : decode cX12_isDone 316 = .ok (.iload_n 3, 1) := by decide +kernel
theorem dX12_isDone_317 : decode cX12_isDone 317 = .ok (.iaload, 1) := by decide +kernel
theorem dX12_isDone_318 : decode cX12_isDone 318 = .ok (.iastore, 1) := by decide +kernel
theorem dX12_isDone_319 : decode cX12_isDone 319 = .ok (.iconst 1, 1) := by decide +kernel
theorem dX12_isDone_320 : decode cX12_isDone 320 = .ok (.ireturn, 1) := by decide +kernel
set_option maxHeartbeats 4000000 in
set_option maxRecDepth 100000 in
theorem c_X12_isDone (l : Launch) {cs : Nat → ClassId} {ad : Nat → Nat} {A : Nat → Prop} {D : va_G} (hJ : hp_J SM ad A)   {h : hp_H} {a1 a2 a3 : Int32} {Q : Int32 → hp_H → Prop} (hq : q_X12_isDone h a1 a2 a3 Q) : hp_Mi l yX12_isDone cX12_isDone 11 (some .boolean) rm_X12_isDone [.ref (ad 0), .int a1, .int a2, .int a3] SM cs ad A D h Q := by
  refine hp_met (own := RX12) rfl (by decide) (Nat.le_of_ble_eq_true rfl) rfl (fun p e s m args below meth c Z E hZ hnm => ?_)
  refine hp_sub (lv' := [(0, .ref (ad 0)), (1, .int a1), (2, .int a2), (3, .int a3)]) [0, 1, 2, 3] rfl ?_
  unfold q_X12_isDone at hq
  refine hp_aload_n E 0 dX12_isDone_0 rfl rfl ?_
  refine hp_gR E g_RX12_62 fM_0_22 dX12_isDone_1 ?_
  refine hp_iload_n E 3 dX12_isDone_4 rfl rfl ?_
  refine hp_iald E 18 aM_18 hq.1 dX12_isDone_5 ?_
  replace hq := hq.2
  refine hp_topi (fun v1 ev1 => ?_)
  replace hq := hq v1 ev1
  refine hp_istore (lv' := [(0, .ref (ad 0)), (1, .int a1), (2, .int a2), (3, .int a3), (4, .int v1)]) E dX12_isDone_6 (by decide) rfl rfl ?_
  refine hp_iload E 4 dX12_isDone_8 rfl ?_
  refine hp_iload_n E 2 dX12_isDone_10 rfl rfl ?_
  refine hp_callSip (rest := []) E (c_X12_memberAt l hJ hq) F_X12_memberAt m_RX12_212 ⟨rfl, rfl⟩ ⟨Nat.le_of_ble_eq_true rfl, Nat.le_of_ble_eq_true rfl⟩ ⟨Nat.zero_le _, Nat.zero_le _⟩ rfl rfl (Nat.le_of_ble_eq_true rfl) dX12_isDone_11 (fun r2 hq => ?_)
  refine hp_istore (lv' := [(0, .ref (ad 0)), (1, .int a1), (2, .int a2), (3, .int a3), (4, .int v1), (5, .int r2)]) E dX12_isDone_14 (by decide) rfl rfl ?_
  refine hp_iconst E (nI 0) dX12_isDone_16 (by decide) ?_
  refine hp_istore (lv' := [(0, .ref (ad 0)), (1, .int a1), (2, .int a2), (3, .int a3), (4, .int v1), (5, .int r2), (6, .int (nI 0))]) E dX12_isDone_17 (by decide) rfl rfl ?_
  refine hp_sub (lv' := [(0, .ref (ad 0)), (1, .int a1), (3, .int a3), (4, .int v1), (5, .int r2), (6, .int (nI 0))]) [0, 1, 3, 4, 5, 6] rfl ?_
  refine hq (fun v4 h5 => hp_G p l e rm_X12_isDone s m args below meth c SM cs ad A D 11 0 0 Z 19 [(0, .ref (ad 0)), (1, .int a1), (3, .int a3), (4, .int v1), (5, .int r2), (6, .int v4)] [] h5) (fun v4 h5 hB => ?_)
  obtain ⟨B3, hq, hB3⟩ := hB
  refine hp_iload E 5 dX12_isDone_19 rfl ?_
  refine hp_aload_n E 0 dX12_isDone_21 rfl rfl ?_
  refine hp_gR E g_RX12_74 fM_0_26 dX12_isDone_22 ?_
  refine hp_iload_n E 2 dX12_isDone_25 rfl rfl ?_
  refine hp_iald E 22 aM_22 hq.1 dX12_isDone_26 ?_
  replace hq := hq.2
  refine hp_icmp_ge E 306 dX12_isDone_27 (by decide) (fun c6 => ?_) (fun c6 => ?_)
  · replace hq := hq.1 c6
    refine hp_aload_n E 0 dX12_isDone_306 rfl rfl ?_
    refine hp_gR E g_RX12_116 fM_0_51 dX12_isDone_307 ?_
    refine hp_iload E 4 dX12_isDone_310 rfl ?_
    refine hp_aload_n E 0 dX12_isDone_312 rfl rfl ?_
    refine hp_gR E g_RX12_68 fM_0_24 dX12_isDone_313 ?_
    refine hp_iload_n E 2 dX12_isDone_316 rfl rfl ?_
    refine hp_iald E 20 aM_20 hq.1 dX12_isDone_317 ?_
    replace hq := hq.2
    have hin := hq.1
    replace hq := hq.2
    refine hp_iast E 36 aM_36 zM_36 hJ hin dX12_isDone_318 ?_
    refine hp_toph (fun h7 eh7 => ?_)
    replace hq := hq h7 eh7
    refine hp_iconst E (nI 1) dX12_isDone_319 (by decide) ?_
    exact hp_zret E (by unfold hp_bz; decide) hq hZ dX12_isDone_320
  · replace hq := hq.2 c6
    refine hp_iconst E (nI 4) dX12_isDone_30 (by decide) ?_
    refine hp_iload_n E 2 dX12_isDone_31 rfl rfl ?_
    refine hp_imul E dX12_isDone_32 ?_
    refine hp_iload E 5 dX12_isDone_33 rfl ?_
    refine hp_iadd E dX12_isDone_35 ?_
    refine hp_topi (fun v8 ev8 => ?_)
    replace hq := hq v8 ev8
    refine hp_istore (lv' := [(0, .ref (ad 0)), (1, .int a1), (3, .int a3), (4, .int v1), (5, .int r2), (6, .int v4), (7, .int v8)]) E dX12_isDone_36 (by decide) rfl rfl ?_
    refine hp_aload_n E 0 dX12_isDone_38 rfl rfl ?_
    refine hp_gR E g_RX12_80 fM_0_28 dX12_isDone_39 ?_
    refine hp_iload E 6 dX12_isDone_42 rfl ?_
    refine hp_iald E 24 aM_24 hq.1 dX12_isDone_44 ?_
    replace hq := hq.2
    refine hp_topi (fun v9 ev9 => ?_)
    replace hq := hq v9 ev9
    refine hp_istore (lv' := [(0, .ref (ad 0)), (1, .int a1), (3, .int a3), (4, .int v1), (5, .int r2), (6, .int v4), (7, .int v8), (8, .int v9)]) E dX12_isDone_45 (by decide) rfl rfl ?_
    refine hp_aload_n E 0 dX12_isDone_47 rfl rfl ?_
    refine hp_gR E g_RX12_77 fM_0_27 dX12_isDone_48 ?_
    refine hp_iload E 6 dX12_isDone_51 rfl ?_
    refine hp_iald E 23 aM_23 hq.1 dX12_isDone_53 ?_
    replace hq := hq.2
    refine hp_iconst E (nI 3) dX12_isDone_54 (by decide) ?_
    obtain ⟨K11, hq, hK11⟩ := hq
    have jK11 : ∀ (v12 : Int32), K11 v12 → hp_G p l e rm_X12_isDone s m args below meth c SM cs ad A D 11 0 0 Z 93 [(0, .ref (ad 0)), (1, .int a1), (3, .int a3), (4, .int v1), (5, .int r2), (6, .int v4), (7, .int v8), (8, .int v9)] [.int v12] h5 := by
      intro v12 hq
      replace hq := hK11 v12 hq
      refine hp_istore (lv' := [(0, .ref (ad 0)), (1, .int a1), (3, .int a3), (4, .int v1), (5, .int r2), (6, .int v4), (7, .int v8), (8, .int v9), (9, .int v12)]) E dX12_isDone_93 (by decide) rfl rfl ?_
      refine hp_aload_n E 0 dX12_isDone_95 rfl rfl ?_
      refine hp_gR E g_RX12_77 fM_0_27 dX12_isDone_96 ?_
      refine hp_iload E 6 dX12_isDone_99 rfl ?_
      refine hp_iald E 23 aM_23 hq.1 dX12_isDone_101 ?_
      replace hq := hq.2
      obtain ⟨K16, hq, hK16⟩ := hq
      have jK16 : ∀  (h17 : hp_H), K16 h17 → hp_G p l e rm_X12_isDone s m args below meth c SM cs ad A D 11 0 0 Z 300 [(0, .ref (ad 0)), (1, .int a1), (3, .int a3), (4, .int v1), (5, .int r2), (6, .int v4)] [] h17 := by
        intro h17 hq
        replace hq := hK16 h17 hq
        obtain ⟨v35, ev35⟩ : ∃ z : Int32, z = v4 + (nI 1) := ⟨_, rfl⟩
        replace hq := hq v35 ev35
        refine hp_iinc (lv' := [(0, .ref (ad 0)), (1, .int a1), (3, .int a3), (4, .int v1), (5, .int r2), (6, .int v35)]) E 5 v35 dX12_isDone_300 rfl (by rw [ev35]; rfl) (by decide) rfl rfl ?_
        refine hp_goto E 19 dX12_isDone_303 (by decide) ?_
        exact hB3 _ _ hq
      refine hp_if_ne E 141 dX12_isDone_102 (by decide) (fun c15 => ?_) (fun c15 => ?_)
      · replace hq := hq.2 c15
        refine hp_aload_n E 0 dX12_isDone_141 rfl rfl ?_
        refine hp_gR E g_RX12_77 fM_0_27 dX12_isDone_142 ?_
        refine hp_iload E 6 dX12_isDone_145 rfl ?_
        refine hp_iald E 23 aM_23 hq.1 dX12_isDone_147 ?_
        replace hq := hq.2
        refine hp_iconst E (nI 2) dX12_isDone_148 (by decide) ?_
        refine hp_icmp_ne E 203 dX12_isDone_149 (by decide) (fun c18 => ?_) (fun c18 => ?_)
        · replace hq := hq.2 c18
          refine hp_aload_n E 0 dX12_isDone_203 rfl rfl ?_
          refine hp_gR E g_RX12_77 fM_0_27 dX12_isDone_204 ?_
          refine hp_iload E 6 dX12_isDone_207 rfl ?_
          refine hp_iald E 23 aM_23 hq.1 dX12_isDone_209 ?_
          replace hq := hq.2
          refine hp_iconst E (nI 1) dX12_isDone_210 (by decide) ?_
          obtain ⟨K20, hq, hK20⟩ := hq
          have jK20 : ∀ (v21 : Int32), K20 v21 → hp_G p l e rm_X12_isDone s m args below meth c SM cs ad A D 11 0 0 Z 226 [(0, .ref (ad 0)), (1, .int a1), (3, .int a3), (4, .int v1), (5, .int r2), (6, .int v4), (7, .int v8), (8, .int v9), (9, .int v12)] [.int v21] h5 := by
            intro v21 hq
            replace hq := hK20 v21 hq
            refine hp_istore (lv' := [(0, .ref (ad 0)), (1, .int a1), (3, .int a3), (4, .int v1), (5, .int r2), (6, .int v4), (7, .int v8), (8, .int v9), (9, .int v12), (10, .int v21)]) E dX12_isDone_226 (by decide) rfl rfl ?_
            refine hp_iload E 8 dX12_isDone_228 rfl ?_
            refine hp_aload_n E 0 dX12_isDone_230 rfl rfl ?_
            refine hp_gR E g_RX12_25 fM_0_7 dX12_isDone_231 ?_
            refine hp_iconst E (nI 3) dX12_isDone_234 (by decide) ?_
            refine hp_iload E 3 dX12_isDone_235 rfl ?_
            refine hp_imul E dX12_isDone_237 ?_
            refine hp_iload E 9 dX12_isDone_238 rfl ?_
            refine hp_iadd E dX12_isDone_240 ?_
            refine hp_iald E 6 aM_6 hq.1 dX12_isDone_241 ?_
            replace hq := hq.2
            refine hp_aload_n E 0 dX12_isDone_242 rfl rfl ?_
            refine hp_gR E g_RX12_28 fM_0_8 dX12_isDone_243 ?_
            refine hp_iconst E (nI 3) dX12_isDone_246 (by decide) ?_
            refine hp_iload E 3 dX12_isDone_247 rfl ?_
            refine hp_imul E dX12_isDone_249 ?_
            refine hp_iload E 9 dX12_isDone_250 rfl ?_
            refine hp_iadd E dX12_isDone_252 ?_
            refine hp_iald E 7 aM_7 hq.1 dX12_isDone_253 ?_
            replace hq := hq.2
            refine hp_callSip (rest := []) E (c_X12_in l hJ hq) F_X12_in m_RX12_156 ⟨rfl, rfl⟩ ⟨Nat.le_of_ble_eq_true rfl, Nat.le_of_ble_eq_true rfl⟩ ⟨Nat.zero_le _, Nat.zero_le _⟩ rfl rfl (Nat.le_of_ble_eq_true rfl) dX12_isDone_254 (fun r22 hq => ?_)
            refine hp_if_ne E 262 dX12_isDone_257 (by decide) (fun c23 => ?_) (fun c23 => ?_)
            · replace hq := hq.2 c23
              refine hp_aload_n E 0 dX12_isDone_262 rfl rfl ?_
              refine hp_gR E g_RX12_116 fM_0_51 dX12_isDone_263 ?_
              refine hp_iload E 4 dX12_isDone_266 rfl ?_
              refine hp_iconst E (nI 1) dX12_isDone_268 (by decide) ?_
              refine hp_iadd E dX12_isDone_269 ?_
              refine hp_iload E 9 dX12_isDone_270 rfl ?_
              refine hp_iadd E dX12_isDone_272 ?_
              refine hp_iload E 8 dX12_isDone_273 rfl ?_
              have hin := hq.1
              replace hq := hq.2
              refine hp_iast E 36 aM_36 zM_36 hJ hin dX12_isDone_275 ?_
              refine hp_toph (fun h24 eh24 => ?_)
              replace hq := hq h24 eh24
              refine hp_aload_n E 0 dX12_isDone_276 rfl rfl ?_
              refine hp_gR E g_RX12_77 fM_0_27 dX12_isDone_277 ?_
              refine hp_iload E 6 dX12_isDone_280 rfl ?_
              refine hp_iald E 23 aM_23 hq.1 dX12_isDone_282 ?_
              replace hq := hq.2
              refine hp_iconst E (nI 3) dX12_isDone_283 (by decide) ?_
              refine hp_icmp_ne E 300 dX12_isDone_284 (by decide) (fun c25 => ?_) (fun c25 => ?_)
              · replace hq := hq.2 c25
                refine hp_sub (lv' := [(0, .ref (ad 0)), (1, .int a1), (3, .int a3), (4, .int v1), (5, .int r2), (6, .int v4)]) [0, 1, 2, 3, 4, 5] rfl ?_
                exact jK16 _ hq
              · replace hq := hq.1 c25
                refine hp_aload_n E 0 dX12_isDone_287 rfl rfl ?_
                refine hp_iload E 7 dX12_isDone_288 rfl ?_
                refine hp_aload_n E 0 dX12_isDone_290 rfl rfl ?_
                refine hp_gR E g_RX12_122 fM_0_53 dX12_isDone_291 ?_
                refine hp_iload E 5 dX12_isDone_294 rfl ?_
                refine hp_iald E 38 aM_38 hq.1 dX12_isDone_296 ?_
                replace hq := hq.2
                refine hp_callVv' (rest := []) E 0 fM_0_0 vcl_12 (c_X12_letterGoes l hJ hq) F_X12_letterGoes m_RX12_243 ⟨rfl, rfl⟩ ⟨Nat.le_of_ble_eq_true rfl, Nat.le_of_ble_eq_true rfl⟩ ⟨Nat.zero_le _, Nat.zero_le _⟩ rfl rfl (Nat.le_of_ble_eq_true rfl) dX12_isDone_297 (fun h26 hq => ?_)
                refine hp_sub (lv' := [(0, .ref (ad 0)), (1, .int a1), (3, .int a3), (4, .int v1), (5, .int r2), (6, .int v4)]) [0, 1, 2, 3, 4, 5] rfl ?_
                exact jK16 _ hq
            · replace hq := hq.1 c23
              refine hp_iconst E (nI 0) dX12_isDone_260 (by decide) ?_
              exact hp_zret E (by unfold hp_bz; decide) hq hZ dX12_isDone_261
          refine hp_icmp_ne E 219 dX12_isDone_211 (by decide) (fun c19 => ?_) (fun c19 => ?_)
          · replace hq := hq.2 c19
            refine hp_aload_n E 0 dX12_isDone_219 rfl rfl ?_
            refine hp_gR E g_RX12_83 fM_0_29 dX12_isDone_220 ?_
            refine hp_iload E 6 dX12_isDone_223 rfl ?_
            refine hp_iald E 25 aM_25 hq.1 dX12_isDone_225 ?_
            replace hq := hq.2
            exact jK20 _ hq
          · replace hq := hq.1 c19
            refine hp_iload E 7 dX12_isDone_214 rfl ?_
            refine hp_goto E 226 dX12_isDone_216 (by decide) ?_
            exact jK20 _ hq
        · replace hq := hq.1 c18
          refine hp_iload E 8 dX12_isDone_152 rfl ?_
          refine hp_iconst E (nI 0) dX12_isDone_154 (by decide) ?_
          refine hp_bipush E (nI 9) dX12_isDone_155 (by decide) ?_
          refine hp_callSip (rest := []) E (c_X12_in l hJ hq) F_X12_in m_RX12_156 ⟨rfl, rfl⟩ ⟨Nat.le_of_ble_eq_true rfl, Nat.le_of_ble_eq_true rfl⟩ ⟨Nat.zero_le _, Nat.zero_le _⟩ rfl rfl (Nat.le_of_ble_eq_true rfl) dX12_isDone_157 (fun r27 hq => ?_)
          refine hp_if_ne E 165 dX12_isDone_160 (by decide) (fun c28 => ?_) (fun c28 => ?_)
          · replace hq := hq.2 c28
            refine hp_iload E 7 dX12_isDone_165 rfl ?_
            refine hp_callSip (rest := []) E (c_X12_channelAt l hJ hq) F_X12_channelAt m_RX12_223 ⟨rfl, rfl⟩ ⟨Nat.le_of_ble_eq_true rfl, Nat.le_of_ble_eq_true rfl⟩ ⟨Nat.zero_le _, Nat.zero_le _⟩ rfl rfl (Nat.le_of_ble_eq_true rfl) dX12_isDone_167 (fun r29 hq => ?_)
            refine hp_istore (lv' := [(0, .ref (ad 0)), (1, .int a1), (3, .int a3), (4, .int v1), (5, .int r2), (6, .int v4), (7, .int v8), (8, .int v9), (9, .int v12), (10, .int r29)]) E dX12_isDone_170 (by decide) rfl rfl ?_
            refine hp_aload_n E 0 dX12_isDone_172 rfl rfl ?_
            refine hp_gR E g_RX12_116 fM_0_51 dX12_isDone_173 ?_
            refine hp_iload E 9 dX12_isDone_176 rfl ?_
            refine hp_dup2 E rfl rfl dX12_isDone_178 ?_
            refine hp_iald E 36 aM_36 hq.1 dX12_isDone_179 ?_
            replace hq := hq.2
            refine hp_iconst E (nI 1) dX12_isDone_180 (by decide) ?_
            refine hp_iadd E dX12_isDone_181 ?_
            have hin := hq.1
            replace hq := hq.2
            refine hp_iast E 36 aM_36 zM_36 hJ hin dX12_isDone_182 ?_
            refine hp_toph (fun h30 eh30 => ?_)
            replace hq := hq h30 eh30
            refine hp_aload_n E 0 dX12_isDone_183 rfl rfl ?_
            refine hp_gR E g_RX12_116 fM_0_51 dX12_isDone_184 ?_
            refine hp_iload E 9 dX12_isDone_187 rfl ?_
            refine hp_aload_n E 0 dX12_isDone_189 rfl rfl ?_
            refine hp_gR E g_RX12_116 fM_0_51 dX12_isDone_190 ?_
            refine hp_iload E 9 dX12_isDone_193 rfl ?_
            refine hp_iald E 36 aM_36 hq.1 dX12_isDone_195 ?_
            replace hq := hq.2
            refine hp_iadd E dX12_isDone_196 ?_
            refine hp_iload E 8 dX12_isDone_197 rfl ?_
            have hin := hq.1
            replace hq := hq.2
            refine hp_iast E 36 aM_36 zM_36 hJ hin dX12_isDone_199 ?_
            refine hp_toph (fun h31 eh31 => ?_)
            replace hq := hq h31 eh31
            refine hp_goto E 300 dX12_isDone_200 (by decide) ?_
            refine hp_sub (lv' := [(0, .ref (ad 0)), (1, .int a1), (3, .int a3), (4, .int v1), (5, .int r2), (6, .int v4)]) [0, 1, 2, 3, 4, 5] rfl ?_
            exact jK16 _ hq
          · replace hq := hq.1 c28
            refine hp_iconst E (nI 0) dX12_isDone_163 (by decide) ?_
            exact hp_zret E (by unfold hp_bz; decide) hq hZ dX12_isDone_164
      · replace hq := hq.1 c15
        refine hp_iload E 8 dX12_isDone_105 rfl ?_
        refine hp_aload_n E 0 dX12_isDone_107 rfl rfl ?_
        refine hp_gR E g_RX12_7 fM_0_1 dX12_isDone_108 ?_
        refine hp_iload E 7 dX12_isDone_111 rfl ?_
        refine hp_iald E 1 aM_1 hq.1 dX12_isDone_113 ?_
        replace hq := hq.2
        refine hp_aload_n E 0 dX12_isDone_114 rfl rfl ?_
        refine hp_gR E g_RX12_13 fM_0_2 dX12_isDone_115 ?_
        refine hp_iload E 7 dX12_isDone_118 rfl ?_
        refine hp_iald E 2 aM_2 hq.1 dX12_isDone_120 ?_
        replace hq := hq.2
        refine hp_callSip (rest := []) E (c_X12_in l hJ hq) F_X12_in m_RX12_156 ⟨rfl, rfl⟩ ⟨Nat.le_of_ble_eq_true rfl, Nat.le_of_ble_eq_true rfl⟩ ⟨Nat.zero_le _, Nat.zero_le _⟩ rfl rfl (Nat.le_of_ble_eq_true rfl) dX12_isDone_121 (fun r32 hq => ?_)
        refine hp_if_ne E 129 dX12_isDone_124 (by decide) (fun c33 => ?_) (fun c33 => ?_)
        · replace hq := hq.2 c33
          refine hp_aload_n E 0 dX12_isDone_129 rfl rfl ?_
          refine hp_gR E g_RX12_116 fM_0_51 dX12_isDone_130 ?_
          refine hp_iload E 7 dX12_isDone_133 rfl ?_
          refine hp_iload E 8 dX12_isDone_135 rfl ?_
          have hin := hq.1
          replace hq := hq.2
          refine hp_iast E 36 aM_36 zM_36 hJ hin dX12_isDone_137 ?_
          refine hp_toph (fun h34 eh34 => ?_)
          replace hq := hq h34 eh34
          refine hp_goto E 300 dX12_isDone_138 (by decide) ?_
          refine hp_sub (lv' := [(0, .ref (ad 0)), (1, .int a1), (3, .int a3), (4, .int v1), (5, .int r2), (6, .int v4)]) [0, 1, 2, 3, 4, 5] rfl ?_
          exact jK16 _ hq
        · replace hq := hq.1 c33
          refine hp_iconst E (nI 0) dX12_isDone_127 (by decide) ?_
          exact hp_zret E (by unfold hp_bz; decide) hq hZ dX12_isDone_128
    refine hp_icmp_ne E 81 dX12_isDone_55 (by decide) (fun c10 => ?_) (fun c10 => ?_)
    · replace hq := hq.2 c10
      refine hp_aload_n E 0 dX12_isDone_81 rfl rfl ?_
      refine hp_gR E g_RX12_119 fM_0_52 dX12_isDone_82 ?_
      refine hp_aload_n E 0 dX12_isDone_85 rfl rfl ?_
      refine hp_gR E g_RX12_83 fM_0_29 dX12_isDone_86 ?_
      refine hp_iload E 6 dX12_isDone_89 rfl ?_
      refine hp_iald E 25 aM_25 hq.1 dX12_isDone_91 ?_
      replace hq := hq.2
      refine hp_iald E 37 aM_37 hq.1 dX12_isDone_92 ?_
      replace hq := hq.2
      exact jK11 _ hq
    · replace hq := hq.1 c10
      refine hp_aload_n E 0 dX12_isDone_58 rfl rfl ?_
      refine hp_iload_n E 1 dX12_isDone_59 rfl rfl ?_
      refine hp_iload E 7 dX12_isDone_60 rfl ?_
      refine hp_callSip (rest := [.int a1, .ref (ad 0)]) E (c_X12_channelAt l hJ hq) F_X12_channelAt m_RX12_223 ⟨rfl, rfl⟩ ⟨Nat.le_of_ble_eq_true rfl, Nat.le_of_ble_eq_true rfl⟩ ⟨Nat.zero_le _, Nat.zero_le _⟩ rfl rfl (Nat.le_of_ble_eq_true rfl) dX12_isDone_62 (fun r13 hq => ?_)
      refine hp_iconst E (nI 1) dX12_isDone_65 (by decide) ?_
      refine hp_iadd E dX12_isDone_66 ?_
      refine hp_aload_n E 0 dX12_isDone_67 rfl rfl ?_
      refine hp_gR E g_RX12_122 fM_0_53 dX12_isDone_68 ?_
      refine hp_iload E 5 dX12_isDone_71 rfl ?_
      refine hp_iald E 38 aM_38 hq.1 dX12_isDone_73 ?_
      replace hq := hq.2
      refine hp_iadd E dX12_isDone_74 ?_
      refine hp_callVip (rest := []) E 0 fM_0_0 vcl_12 (c_X12_cell l hJ hq) F_X12_cell m_RX12_216 ⟨rfl, rfl⟩ ⟨Nat.le_of_ble_eq_true rfl, Nat.le_of_ble_eq_true rfl⟩ ⟨Nat.zero_le _, Nat.zero_le _⟩ rfl rfl (Nat.le_of_ble_eq_true rfl) dX12_isDone_75 (fun r14 hq => ?_)
      refine hp_goto E 93 dX12_isDone_78 (by decide) ?_
      exact jK11 _ hq
theorem dX12_fault_0 : decode cX12_fault 0 = .ok (.aload_n 0, 1) := by decide +kernel
theorem dX12_fault_1 : decode cX12_fault 1 = .ok (.getfield 247, 3) := by decide +kernel
theorem dX12_fault_4 : decode cX12_fault 4 = .ok (.ifCond .ne 29, 3) := by decide +kernel
theorem dX12_fault_7 : decode cX12_fault 7 = .ok (.aload_n 0, 1) := by decide +kernel
theorem dX12_fault_8 : decode cX12_fault 8 = .ok (.iconst 1, 1) := by decide +kernel
theorem dX12_fault_9 : decode cX12_fault 9 = .ok (.putfield 247, 3) := by decide +kernel
theorem dX12_fault_12 : decode cX12_fault 12 = .ok (.aload_n 0, 1) := by decide +kernel
theorem dX12_fault_13 : decode cX12_fault 13 = .ok (.iload_n 1, 1) := by decide +kernel
theorem dX12_fault_14 : decode cX12_fault 14 = .ok (.putfield 250, 3) := by decide +kernel
theorem dX12_fault_17 : decode cX12_fault 17 = .ok (.aload_n 0, 1) := by decide +kernel
theorem dX12_fault_18 : decode cX12_fault 18 = .ok (.iload_n 2, 1) := by decide +kernel
theorem dX12_fault_19 : decode cX12_fault 19 = .ok (.putfield 253, 3) := by decide +kernel
theorem dX12_fault_22 : decode cX12_fault 22 = .ok (.aload_n 0, 1) := by decide +kernel
theorem dX12_fault_23 : decode cX12_fault 23 = .ok (.iload_n 3, 1) := by decide +kernel
theorem dX12_fault_24 : decode cX12_fault 24 = .ok (.putfield 256, 3) := by decide +kernel
theorem dX12_fault_27 : decode cX12_fault 27 = .ok (.aload_n 0, 1) := by decide +kernel
theorem dX12_fault_28 : decode cX12_fault 28 = .ok (.iload 4, 2) := by decide +kernel
theorem dX12_fault_30 : decode cX12_fault 30 = .ok (.putfield 259, 3) := by decide +kernel
theorem dX12_fault_33 : decode cX12_fault 33 = .ok (.return_, 1) := by decide +kernel
set_option maxHeartbeats 4000000 in
set_option maxRecDepth 100000 in
theorem c_X12_fault (l : Launch) {cs : Nat → ClassId} {ad : Nat → Nat} {A : Nat → Prop} {D : va_G} (hJ : hp_J SM ad A)   {h : hp_H} {a1 a2 a3 a4 : Int32} {Q : hp_H → Prop} (hq : q_X12_fault h a1 a2 a3 a4 Q) : hp_Mv l yX12_fault cX12_fault 5 none rm_X12_fault [.ref (ad 0), .int a1, .int a2, .int a3, .int a4] SM cs ad A D h Q := by
  refine hp_met (own := RX12) rfl (by decide) (Nat.le_of_ble_eq_true rfl) rfl (fun p e s m args below meth c Z E hZ hnm => ?_)
  refine hp_sub (lv' := [(0, .ref (ad 0)), (1, .int a1), (2, .int a2), (3, .int a3), (4, .int a4)]) [0, 1, 2, 3, 4] rfl ?_
  unfold q_X12_fault at hq
  refine hp_aload_n E 0 dX12_fault_0 rfl rfl ?_
  refine hp_gI E g_RX12_247 fM_0_46 dX12_fault_1 ?_
  refine hp_if_ne E 33 dX12_fault_4 (by decide) (fun c1 => ?_) (fun c1 => ?_)
  · replace hq := hq.2 c1
    exact hp_vret E hq hZ dX12_fault_33
  · replace hq := hq.1 c1
    refine hp_aload_n E 0 dX12_fault_7 rfl rfl ?_
    refine hp_iconst E (nI 1) dX12_fault_8 (by decide) ?_
    refine hp_pZ E p_RX12_247 fM_0_46 (by decide) hJ (by unfold hp_bz; decide) dX12_fault_9 ?_
    refine hp_toph (fun h2 eh2 => ?_)
    replace hq := hq h2 eh2
    refine hp_aload_n E 0 dX12_fault_12 rfl rfl ?_
    refine hp_iload_n E 1 dX12_fault_13 rfl rfl ?_
    refine hp_pI E p_RX12_250 fM_0_47 (by decide) hJ dX12_fault_14 ?_
    refine hp_toph (fun h3 eh3 => ?_)
    replace hq := hq h3 eh3
    refine hp_aload_n E 0 dX12_fault_17 rfl rfl ?_
    refine hp_iload_n E 2 dX12_fault_18 rfl rfl ?_
    refine hp_pI E p_RX12_253 fM_0_48 (by decide) hJ dX12_fault_19 ?_
    refine hp_toph (fun h4 eh4 => ?_)
    replace hq := hq h4 eh4
    refine hp_aload_n E 0 dX12_fault_22 rfl rfl ?_
    refine hp_iload_n E 3 dX12_fault_23 rfl rfl ?_
    refine hp_pI E p_RX12_256 fM_0_49 (by decide) hJ dX12_fault_24 ?_
    refine hp_toph (fun h5 eh5 => ?_)
    replace hq := hq h5 eh5
    refine hp_aload_n E 0 dX12_fault_27 rfl rfl ?_
    refine hp_iload E 4 dX12_fault_28 rfl ?_
    refine hp_pI E p_RX12_259 fM_0_50 (by decide) hJ dX12_fault_30 ?_
    refine hp_toph (fun h6 eh6 => ?_)
    replace hq := hq h6 eh6
    exact hp_vret E hq hZ dX12_fault_33
theorem dX12_goWays_0 : decode cX12_goWays 0 = .ok (.iconst 0, 1) := by decide +kernel
theorem dX12_goWays_1 : decode cX12_goWays 1 = .ok (.istore 4, 2) := by decide +kernel
theorem dX12_goWays_3 : decode cX12_goWays 3 = .ok (.iload 4, 2) := by decide +kernel
theorem dX12_goWays_5 : decode cX12_goWays 5 = .ok (.iconst 4, 1) := by decide +kernel
theorem dX12_goWays_6 : decode cX12_goWays 6 = .ok (.if_icmp .ge 17, 3) := by decide +kernel
theorem dX12_goWays_9 : decode cX12_goWays 9 = .ok (.aload_n 0, 1) := by decide +kernel
theorem dX12_goWays_10 : decode cX12_goWays 10 = .ok (.getfield 122, 3) := by decide +kernel
theorem dX12_goWays_13 : decode cX12_goWays 13 = .ok (.iload 4, 2) := by decide +kernel
theorem dX12_goWays_15 : decode cX12_goWays 15 = .ok (.iconst 0, 1) := by decide +kernel
theorem dX12_goWays_16 : decode cX12_goWays 16 = .ok (.iastore, 1) := by decide +kernel
theorem dX12_goWays_17 : decode cX12_goWays 17 = .ok (.iinc 4 1, 3) := by decide +kernel
theorem dX12_goWays_20 : decode cX12_goWays 20 = .ok (.goto (-17), 3) := by decide +kernel
theorem dX12_goWays_23 : decode cX12_goWays 23 = .ok (.iconst 1, 1) := by decide +kernel
theorem dX12_goWays_24 : decode cX12_goWays 24 = .ok (.istore 4, 2) := by decide +kernel
theorem dX12_goWays_26 : decode cX12_goWays 26 = .ok (.iload 4, 2) := by decide +kernel
theorem dX12_goWays_28 : decode cX12_goWays 28 = .ok (.ifCond .eq 60, 3) := by decide +kernel
theorem dX12_goWays_31 : decode cX12_goWays 31 = .ok (.aload_n 0, 1) := by decide +kernel
theorem dX12_goWays_32 : decode cX12_goWays 32 = .ok (.iload_n 1, 1) := by decide +kernel
theorem dX12_goWays_33 : decode cX12_goWays 33 = .ok (.invokevirtual 262, 3) := by decide +kernel
theorem dX12_goWays_36 : decode cX12_goWays 36 = .ok (.aload_n 0, 1) := by decide +kernel
theorem dX12_goWays_37 : decode cX12_goWays 37 = .ok (.iload_n 1, 1) := by decide +kernel
theorem dX12_goWays_38 : decode cX12_goWays 38 = .ok (.iload_n 2, 1) := by decide +kernel
theorem dX12_goWays_39 : decode cX12_goWays 39 = .ok (.iload_n 3, 1) := by decide +kernel
theorem dX12_goWays_40 : decode cX12_goWays 40 = .ok (.invokevirtual 266, 3) := by decide +kernel
theorem dX12_goWays_43 : decode cX12_goWays 43 = .ok (.ifCond .eq 21, 3) := by decide +kernel
theorem dX12_goWays_46 : decode cX12_goWays 46 = .ok (.aload_n 0, 1) := by decide +kernel
theorem dX12_goWays_47 : decode cX12_goWays 47 = .ok (.iload_n 1, 1) := by decide +kernel
theorem dX12_goWays_48 : decode cX12_goWays 48 = .ok (.aload_n 0, 1) := by decide +kernel
theorem dX12_goWays_49 : decode cX12_goWays 49 = .ok (.getfield 62, 3) := by decide +kernel
theorem dX12_goWays_52 : decode cX12_goWays 52 = .ok (.iload_n 3, 1) := by decide +kernel
theorem dX12_goWays_53 : decode cX12_goWays 53 = .ok (.iaload, 1) := by decide +kernel
theorem dX12_goWays_54 : decode cX12_goWays 54 = .ok (.iload_n 2, 1) := by decide +kernel
theorem dX12_goWays_55 : decode cX12_goWays 55 = .ok (.iload_n 3, 1) := by decide +kernel
theorem dX12_goWays_56 : decode cX12_goWays 56 = .ok (.invokevirtual 269, 3) := by decide +kernel
theorem dX12_goWays_59 : decode cX12_goWays 59 = .ok (.ifCond .ne 18, 3) := by decide +kernel
theorem dX12_goWays_62 : decode cX12_goWays 62 = .ok (.iconst 0, 1) := by decide +kernel
theorem dX12_goWays_63 : decode cX12_goWays 63 = .ok (.ireturn, 1) := by decide +kernel
theorem dX12_goWays_64 : decode cX12_goWays 64 = .ok (.aload_n 0, 1) := by decide +kernel
theorem dX12_goWays_65 : decode cX12_goWays 65 = .ok (.iload_n 1, 1) := by decide +kernel
theorem dX12_goWays_66 : decode cX12_goWays 66 = .ok (.aload_n 0, 1) := by decide +kernel
theorem dX12_goWays_67 : decode cX12_goWays 67 = .ok (.getfield 62, 3) := by decide +kernel
theorem dX12_goWays_70 : decode cX12_goWays 70 = .ok (.iload_n 3, 1) := by decide +kernel
theorem dX12_goWays_71 : decode cX12_goWays 71 = .ok (.iaload, 1) := by decide +kernel
theorem dX12_goWays_72 : decode cX12_goWays 72 = .ok (.iload_n 2, 1) := by decide +kernel
theorem dX12_goWays_73 : decode cX12_goWays 73 = .ok (.iload_n 3, 1) := by decide +kernel
theorem dX12_goWays_74 : decode cX12_goWays 74 = .ok (.invokevirtual 272, 3) := by decide +kernel
theorem dX12_goWays_77 : decode cX12_goWays 77 = .ok (.aload_n 0, 1) := by decide +kernel
theorem dX12_goWays_78 : decode cX12_goWays 78 = .ok (.iload_n 1, 1) := by decide +kernel
theorem dX12_goWays_79 : decode cX12_goWays 79 = .ok (.iload_n 3, 1) := by decide +kernel
theorem dX12_goWays_80 : decode cX12_goWays 80 = .ok (.invokevirtual 276, 3) := by decide +kernel
theorem dX12_goWays_83 : decode cX12_goWays 83 = .ok (.istore 4, 2) := by decide +kernel
theorem dX12_goWays_85 : decode cX12_goWays 85 = .ok (.goto (-59), 3) := by decide +kernel
theorem dX12_goWays_88 : decode cX12_goWays 88 = .ok (.iconst 1, 1) := by decide +kernel
theorem dX12_goWays_89 : decode cX12_goWays 89 = .ok (.ireturn, 1) := by decide +kernel
set_option maxHeartbeats 4000000 in
set_option maxRecDepth 100000 in
theorem c_X12_goWays (l : Launch) {cs : Nat → ClassId} {ad : Nat → Nat} {A : Nat → Prop} {D : va_G} (hJ : hp_J SM ad A)   {h : hp_H} {a1 a2 a3 : Int32} {Q : Int32 → hp_H → Prop} (hq : q_X12_goWays h a1 a2 a3 Q) : hp_Mi l yX12_goWays cX12_goWays 5 (some .boolean) rm_X12_goWays [.ref (ad 0), .int a1, .int a2, .int a3] SM cs ad A D h Q := by
  refine hp_met (own := RX12) rfl (by decide) (Nat.le_of_ble_eq_true rfl) rfl (fun p e s m args below meth c Z E hZ hnm => ?_)
  refine hp_sub (lv' := [(0, .ref (ad 0)), (1, .int a1), (2, .int a2), (3, .int a3)]) [0, 1, 2, 3] rfl ?_
  unfold q_X12_goWays at hq
  refine hp_iconst E (nI 0) dX12_goWays_0 (by decide) ?_
  refine hp_istore (lv' := [(0, .ref (ad 0)), (1, .int a1), (2, .int a2), (3, .int a3), (4, .int (nI 0))]) E dX12_goWays_1 (by decide) rfl rfl ?_
  refine hq (fun v2 h3 => hp_G p l e rm_X12_goWays s m args below meth c SM cs ad A D 5 0 0 Z 3 [(0, .ref (ad 0)), (1, .int a1), (2, .int a2), (3, .int a3), (4, .int v2)] [] h3) (fun v2 h3 hB => ?_)
  obtain ⟨B1, hq, hB1⟩ := hB
  refine hp_iload E 4 dX12_goWays_3 rfl ?_
  refine hp_iconst E (nI 4) dX12_goWays_5 (by decide) ?_
  refine hp_icmp_ge E 23 dX12_goWays_6 (by decide) (fun c4 => ?_) (fun c4 => ?_)
  · replace hq := hq.1 c4
    refine hp_iconst E (nI 1) dX12_goWays_23 (by decide) ?_
    refine hp_istore (lv' := [(0, .ref (ad 0)), (1, .int a1), (2, .int a2), (3, .int a3), (4, .int (nI 1))]) E dX12_goWays_24 (by decide) rfl rfl ?_
    refine hq (fun v6 h7 => hp_G p l e rm_X12_goWays s m args below meth c SM cs ad A D 5 0 0 Z 26 [(0, .ref (ad 0)), (1, .int a1), (2, .int a2), (3, .int a3), (4, .int v6)] [] h7) (fun v6 h7 hB => ?_)
    obtain ⟨B5, hq, hB5⟩ := hB
    refine hp_iload E 4 dX12_goWays_26 rfl ?_
    refine hp_if_eq E 88 dX12_goWays_28 (by decide) (fun c8 => ?_) (fun c8 => ?_)
    · replace hq := hq.1 c8
      refine hp_iconst E (nI 1) dX12_goWays_88 (by decide) ?_
      exact hp_zret E (by unfold hp_bz; decide) hq hZ dX12_goWays_89
    · replace hq := hq.2 c8
      refine hp_aload_n E 0 dX12_goWays_31 rfl rfl ?_
      refine hp_iload_n E 1 dX12_goWays_32 rfl rfl ?_
      refine hp_callVv' (rest := []) E 0 fM_0_0 vcl_12 (c_X12_take l hJ hq) F_X12_take m_RX12_262 ⟨rfl, rfl⟩ ⟨Nat.le_of_ble_eq_true rfl, Nat.le_of_ble_eq_true rfl⟩ ⟨Nat.zero_le _, Nat.zero_le _⟩ rfl rfl (Nat.le_of_ble_eq_true rfl) dX12_goWays_33 (fun h9 hq => ?_)
      refine hp_aload_n E 0 dX12_goWays_36 rfl rfl ?_
      refine hp_iload_n E 1 dX12_goWays_37 rfl rfl ?_
      refine hp_iload_n E 2 dX12_goWays_38 rfl rfl ?_
      refine hp_iload_n E 3 dX12_goWays_39 rfl rfl ?_
      refine hp_callVi' (rest := []) E 0 fM_0_0 vcl_12 (c_X12_isDone l hJ hq) F_X12_isDone m_RX12_266 ⟨rfl, rfl⟩ ⟨Nat.le_of_ble_eq_true rfl, Nat.le_of_ble_eq_true rfl⟩ ⟨Nat.zero_le _, Nat.zero_le _⟩ rfl rfl (Nat.le_of_ble_eq_true rfl) dX12_goWays_40 (fun r10 h11 hq => ?_)
      obtain ⟨K13, hq, hK13⟩ := hq
      have jK13 : ∀  (h14 : hp_H), K13 h14 → hp_G p l e rm_X12_goWays s m args below meth c SM cs ad A D 5 0 0 Z 77 [(0, .ref (ad 0)), (1, .int a1), (2, .int a2), (3, .int a3)] [] h14 := by
        intro h14 hq
        replace hq := hK13 h14 hq
        refine hp_aload_n E 0 dX12_goWays_77 rfl rfl ?_
        refine hp_iload_n E 1 dX12_goWays_78 rfl rfl ?_
        refine hp_iload_n E 3 dX12_goWays_79 rfl rfl ?_
        refine hp_callVi' (rest := []) E 0 fM_0_0 vcl_12 (c_X12_hasNextWay l hJ hq) F_X12_hasNextWay m_RX12_276 ⟨rfl, rfl⟩ ⟨Nat.le_of_ble_eq_true rfl, Nat.le_of_ble_eq_true rfl⟩ ⟨Nat.zero_le _, Nat.zero_le _⟩ rfl rfl (Nat.le_of_ble_eq_true rfl) dX12_goWays_80 (fun r19 h20 hq => ?_)
        refine hp_istore (lv' := [(0, .ref (ad 0)), (1, .int a1), (2, .int a2), (3, .int a3), (4, .int r19)]) E dX12_goWays_83 (by decide) rfl rfl ?_
        refine hp_goto E 26 dX12_goWays_85 (by decide) ?_
        exact hB5 _ _ hq
      refine hp_if_eq E 64 dX12_goWays_43 (by decide) (fun c12 => ?_) (fun c12 => ?_)
      · replace hq := hq.1 c12
        refine hp_aload_n E 0 dX12_goWays_64 rfl rfl ?_
        refine hp_iload_n E 1 dX12_goWays_65 rfl rfl ?_
        refine hp_aload_n E 0 dX12_goWays_66 rfl rfl ?_
        refine hp_gR E g_RX12_62 fM_0_22 dX12_goWays_67 ?_
        refine hp_iload_n E 3 dX12_goWays_70 rfl rfl ?_
        refine hp_iald E 18 aM_18 hq.1 dX12_goWays_71 ?_
        replace hq := hq.2
        refine hp_iload_n E 2 dX12_goWays_72 rfl rfl ?_
        refine hp_iload_n E 3 dX12_goWays_73 rfl rfl ?_
        refine hp_callVv' (rest := []) E 0 fM_0_0 vcl_12 (c_X12_fault l hJ hq) F_X12_fault m_RX12_272 ⟨rfl, rfl⟩ ⟨Nat.le_of_ble_eq_true rfl, Nat.le_of_ble_eq_true rfl⟩ ⟨Nat.zero_le _, Nat.zero_le _⟩ rfl rfl (Nat.le_of_ble_eq_true rfl) dX12_goWays_74 (fun h15 hq => ?_)
        refine hp_sub (lv' := [(0, .ref (ad 0)), (1, .int a1), (2, .int a2), (3, .int a3)]) [0, 1, 2, 3] rfl ?_
        exact jK13 _ hq
      · replace hq := hq.2 c12
        refine hp_aload_n E 0 dX12_goWays_46 rfl rfl ?_
        refine hp_iload_n E 1 dX12_goWays_47 rfl rfl ?_
        refine hp_aload_n E 0 dX12_goWays_48 rfl rfl ?_
        refine hp_gR E g_RX12_62 fM_0_22 dX12_goWays_49 ?_
        refine hp_iload_n E 3 dX12_goWays_52 rfl rfl ?_
        refine hp_iald E 18 aM_18 hq.1 dX12_goWays_53 ?_
        replace hq := hq.2
        refine hp_iload_n E 2 dX12_goWays_54 rfl rfl ?_
        refine hp_iload_n E 3 dX12_goWays_55 rfl rfl ?_
        refine hp_callVi' (rest := []) E 0 fM_0_0 vcl_12 (c_X12_comes l hJ hq) F_X12_comes m_RX12_269 ⟨rfl, rfl⟩ ⟨Nat.le_of_ble_eq_true rfl, Nat.le_of_ble_eq_true rfl⟩ ⟨Nat.zero_le _, Nat.zero_le _⟩ rfl rfl (Nat.le_of_ble_eq_true rfl) dX12_goWays_56 (fun r16 h17 hq => ?_)
        refine hp_if_ne E 77 dX12_goWays_59 (by decide) (fun c18 => ?_) (fun c18 => ?_)
        · replace hq := hq.2 c18
          refine hp_sub (lv' := [(0, .ref (ad 0)), (1, .int a1), (2, .int a2), (3, .int a3)]) [0, 1, 2, 3] rfl ?_
          exact jK13 _ hq
        · replace hq := hq.1 c18
          refine hp_iconst E (nI 0) dX12_goWays_62 (by decide) ?_
          exact hp_zret E (by unfold hp_bz; decide) hq hZ dX12_goWays_63
  · replace hq := hq.2 c4
    refine hp_aload_n E 0 dX12_goWays_9 rfl rfl ?_
    refine hp_gR E g_RX12_122 fM_0_53 dX12_goWays_10 ?_
    refine hp_iload E 4 dX12_goWays_13 rfl ?_
    refine hp_iconst E (nI 0) dX12_goWays_15 (by decide) ?_
    have hin := hq.1
    replace hq := hq.2
    refine hp_iast E 38 aM_38 zM_38 hJ hin dX12_goWays_16 ?_
    refine hp_toph (fun h21 eh21 => ?_)
    replace hq := hq h21 eh21
    obtain ⟨v22, ev22⟩ : ∃ z : Int32, z = v2 + (nI 1) := ⟨_, rfl⟩
    replace hq := hq v22 ev22
    refine hp_iinc (lv' := [(0, .ref (ad 0)), (1, .int a1), (2, .int a2), (3, .int a3), (4, .int v22)]) E 4 v22 dX12_goWays_17 rfl (by rw [ev22]; rfl) (by decide) rfl rfl ?_
    refine hp_goto E 3 dX12_goWays_20 (by decide) ?_
    exact hB1 _ _ hq
theorem dX12_goThrough_0 : decode cX12_goThrough 0 = .ok (.aload_n 0, 1) := by decide +kernel
theorem dX12_goThrough_1 : decode cX12_goThrough 1 = .ok (.getfield 101, 3) := by decide +kernel
theorem dX12_goThrough_4 : decode cX12_goThrough 4 = .ok (.iload_n 1, 1) := by decide +kernel
theorem dX12_goThrough_5 : decode cX12_goThrough 5 = .ok (.aload_n 0, 1) := by decide +kernel
theorem dX12_goThrough_6 : decode cX12_goThrough 6 = .ok (.getfield 171, 3) := by decide +kernel
theorem dX12_goThrough_9 : decode cX12_goThrough 9 = .ok (.iastore, 1) := by decide +kernel
theorem dX12_goThrough_10 : decode cX12_goThrough 10 = .ok (.iconst 0, 1) := by decide +kernel
theorem dX12_goThrough_11 : decode cX12_goThrough 11 = .ok (.istore_n 2, 1) := by decide +kernel
theorem dX12_goThrough_12 : decode cX12_goThrough 12 = .ok (.iload_n 2, 1) := by decide +kernel
theorem dX12_goThrough_13 : decode cX12_goThrough 13 = .ok (.aload_n 0, 1) := by decide +kernel
theorem dX12_goThrough_14 : decode cX12_goThrough 14 = .ok (.getfield 183, 3) := by decide +kernel
theorem dX12_goThrough_17 : decode cX12_goThrough 17 = .ok (.if_icmp .ge 87, 3) := by decide +kernel
theorem dX12_goThrough_20 : decode cX12_goThrough 20 = .ok (.iconst 0, 1) := by decide +kernel
theorem dX12_goThrough_21 : decode cX12_goThrough 21 = .ok (.istore_n 3, 1) := by decide +kernel
theorem dX12_goThrough_22 : decode cX12_goThrough 22 = .ok (.iload_n 3, 1) := by decide +kernel
theorem dX12_goThrough_23 : decode cX12_goThrough 23 = .ok (.aload_n 0, 1) := by decide +kernel
theorem dX12_goThrough_24 : decode cX12_goThrough 24 = .ok (.getfield 19, 3) := by decide +kernel
theorem dX12_goThrough_27 : decode cX12_goThrough 27 = .ok (.iload_n 2, 1) := by decide +kernel
theorem dX12_goThrough_28 : decode cX12_goThrough 28 = .ok (.iaload, 1) := by decide +kernel
theorem dX12_goThrough_29 : decode cX12_goThrough 29 = .ok (.if_icmp .ge 69, 3) := by decide +kernel
theorem dX12_goThrough_32 : decode cX12_goThrough 32 = .ok (.aload_n 0, 1) := by decide +kernel
theorem dX12_goThrough_33 : decode cX12_goThrough 33 = .ok (.iload_n 1, 1) := by decide +kernel
theorem dX12_goThrough_34 : decode cX12_goThrough 34 = .ok (.iload_n 2, 1) := by decide +kernel
theorem dX12_goThrough_35 : decode cX12_goThrough 35 = .ok (.iload_n 3, 1) := by decide +kernel
theorem dX12_goThrough_36 : decode cX12_goThrough 36 = .ok (.invokevirtual 280, 3) := by decide +kernel
theorem dX12_goThrough_39 : decode cX12_goThrough 39 = .ok (.iconst 0, 1) := by decide +kernel
theorem dX12_goThrough_40 : decode cX12_goThrough 40 = .ok (.istore 4, 2) := by decide +kernel
theorem dX12_goThrough_42 : decode cX12_goThrough 42 = .ok (.iload 4, 2) := by decide +kernel
theorem dX12_goThrough_44 : decode cX12_goThrough 44 = .ok (.aload_n 0, 1) := by decide +kernel
theorem dX12_goThrough_45 : decode cX12_goThrough 45 = .ok (.getfield 206, 3) := by decide +kernel
theorem dX12_goThrough_48 : decode cX12_goThrough 48 = .ok (.if_icmp .ge 44, 3) := by decide +kernel
theorem dX12_goThrough_51 : decode cX12_goThrough 51 = .ok (.aload_n 0, 1) := by decide +kernel
theorem dX12_goThrough_52 : decode cX12_goThrough 52 = .ok (.getfield 62, 3) := by decide +kernel
theorem dX12_goThrough_55 : decode cX12_goThrough 55 = .ok (.iload 4, 2) := by decide +kernel
theorem dX12_goThrough_57 : decode cX12_goThrough 57 = .ok (.iaload, 1) := by decide +kernel
theorem dX12_goThrough_58 : decode cX12_goThrough 58 = .ok (.iload_n 2, 1) := by decide +kernel
theorem dX12_goThrough_59 : decode cX12_goThrough 59 = .ok (.if_icmp .ne 27, 3) := by decide +kernel
theorem dX12_goThrough_62 : decode cX12_goThrough 62 = .ok (.aload_n 0, 1) := by decide +kernel
theorem dX12_goThrough_63 : decode cX12_goThrough 63 = .ok (.iload_n 1, 1) := by decide +kernel
theorem dX12_goThrough_64 : decode cX12_goThrough 64 = .ok (.iload_n 3, 1) := by decide +kernel
theorem dX12_goThrough_65 : decode cX12_goThrough 65 = .ok (.iload 4, 2) := by decide +kernel
theorem dX12_goThrough_67 : decode cX12_goThrough 67 = .ok (.invokevirtual 284, 3) := by decide +kernel
theorem dX12_goThrough_70 : decode cX12_goThrough 70 = .ok (.ifCond .eq 16, 3) := by decide +kernel
theorem dX12_goThrough_73 : decode cX12_goThrough 73 = .ok (.aload_n 0, 1) := by decide +kernel
theorem dX12_goThrough_74 : decode cX12_goThrough 74 = .ok (.iload_n 1, 1) := by decide +kernel
theorem dX12_goThrough_75 : decode cX12_goThrough 75 = .ok (.iload_n 3, 1) := by decide +kernel
theorem dX12_goThrough_76 : decode cX12_goThrough 76 = .ok (.iload 4, 2) := by decide +kernel
theorem dX12_goThrough_78 : decode cX12_goThrough 78 = .ok (.invokevirtual 287, 3) := by decide +kernel
theorem dX12_goThrough_81 : decode cX12_goThrough 81 = .ok (.ifCond .ne 5, 3) := by decide +kernel
theorem dX12_goThrough_84 : decode cX12_goThrough 84 = .ok (.iconst 0, 1) := by decide +kernel
theorem dX12_goThrough_85 : decode cX12_goThrough 85 = .ok (.ireturn, 1) := by decide +kernel
theorem dX12_goThrough_86 : decode cX12_goThrough 86 = .ok (.iinc 4 1, 3) := by decide +kernel
theorem dX12_goThrough_89 : decode cX12_goThrough 89 = .ok (.goto (-47), 3) := by decide +kernel
theorem dX12_goThrough_92 : decode cX12_goThrough 92 = .ok (.iinc 3 1, 3) := by decide +kernel
theorem dX12_goThrough_95 : decode cX12_goThrough 95 = .ok (.goto (-73), 3) := by decide +kernel
theorem dX12_goThrough_98 : decode cX12_goThrough 98 = .ok (.iinc 2 1, 3) := by decide +kernel
theorem dX12_goThrough_101 : decode cX12_goThrough 101 = .ok (.goto (-89), 3) := by decide +kernel
theorem dX12_goThrough_104 : decode cX12_goThrough 104 = .ok (.iconst 0, 1) := by decide +kernel
theorem dX12_goThrough_105 : decode cX12_goThrough 105 = .ok (.istore_n 2, 1) := by decide +kernel
theorem dX12_goThrough_106 : decode cX12_goThrough 106 = .ok (.iload_n 2, 1) := by decide +kernel
theorem dX12_goThrough_107 : decode cX12_goThrough 107 = .ok (.aload_n 0, 1) := by decide +kernel
theorem dX12_goThrough_108 : decode cX12_goThrough 108 = .ok (.getfield 190, 3) := by decide +kernel
theorem dX12_goThrough_111 : decode cX12_goThrough 111 = .ok (.if_icmp .ge 73, 3) := by decide +kernel
theorem dX12_goThrough_114 : decode cX12_goThrough 114 = .ok (.iconst 0, 1) := by decide +kernel
theorem dX12_goThrough_115 : decode cX12_goThrough 115 = .ok (.istore_n 3, 1) := by decide +kernel
theorem dX12_goThrough_116 : decode cX12_goThrough 116 = .ok (.iload_n 3, 1) := by decide +kernel
theorem dX12_goThrough_117 : decode cX12_goThrough 117 = .ok (.aload_n 0, 1) := by decide +kernel
theorem dX12_goThrough_118 : decode cX12_goThrough 118 = .ok (.iload_n 1, 1) := by decide +kernel
theorem dX12_goThrough_119 : decode cX12_goThrough 119 = .ok (.iload_n 2, 1) := by decide +kernel
theorem dX12_goThrough_120 : decode cX12_goThrough 120 = .ok (.invokestatic 223, 3) := by decide +kernel
theorem dX12_goThrough_123 : decode cX12_goThrough 123 = .ok (.invokevirtual 216, 3) := by decide +kernel
theorem dX12_goThrough_126 : decode cX12_goThrough 126 = .ok (.if_icmp .ge 52, 3) := by decide +kernel
theorem dX12_goThrough_129 : decode cX12_goThrough 129 = .ok (.aload_n 0, 1) := by decide +kernel
theorem dX12_goThrough_130 : decode cX12_goThrough 130 = .ok (.getfield 44, 3) := by decide +kernel
theorem dX12_goThrough_133 : decode cX12_goThrough 133 = .ok (.iload_n 2, 1) := by decide +kernel
theorem dX12_goThrough_134 : decode cX12_goThrough 134 = .ok (.baload, 1) := by decide +kernel
theorem dX12_goThrough_135 : decode cX12_goThrough 135 = .ok (.ifCond .eq 43, 3) := by decide +kernel
theorem dX12_goThrough_138 : decode cX12_goThrough 138 = .ok (.aload_n 0, 1) := by decide +kernel
theorem dX12_goThrough_139 : decode cX12_goThrough 139 = .ok (.iload_n 1, 1) := by decide +kernel
theorem dX12_goThrough_140 : decode cX12_goThrough 140 = .ok (.iload_n 2, 1) := by decide +kernel
theorem dX12_goThrough_141 : decode cX12_goThrough 141 = .ok (.iload_n 3, 1) := by decide +kernel
theorem dX12_goThrough_142 : decode cX12_goThrough 142 = .ok (.invokevirtual 237, 3) := by decide +kernel
theorem dX12_goThrough_145 : decode cX12_goThrough 145 = .ok (.ifCond .eq 27, 3) := by decide +kernel
theorem dX12_goThrough_148 : decode cX12_goThrough 148 = .ok (.aload_n 0, 1) := by decide +kernel
theorem dX12_goThrough_149 : decode cX12_goThrough 149 = .ok (.iload_n 1, 1) := by decide +kernel
theorem dX12_goThrough_150 : decode cX12_goThrough 150 = .ok (.invokevirtual 262, 3) := by decide +kernel
theorem dX12_goThrough_153 : decode cX12_goThrough 153 = .ok (.aload_n 0, 1) := by decide +kernel
theorem dX12_goThrough_154 : decode cX12_goThrough 154 = .ok (.iload_n 2, 1) := by decide +kernel
theorem dX12_goThrough_155 : decode cX12_goThrough 155 = .ok (.iload_n 3, 1) := by decide +kernel
theorem dX12_goThrough_156 : decode cX12_goThrough 156 = .ok (.invokevirtual 243, 3) := by decide +kernel
theorem dX12_goThrough_159 : decode cX12_goThrough 159 = .ok (.aload_n 0, 1) := by decide +kernel
theorem dX12_goThrough_160 : decode cX12_goThrough 160 = .ok (.iload_n 1, 1) := by decide +kernel
theorem dX12_goThrough_161 : decode cX12_goThrough 161 = .ok (.iconst (-1), 1) := by decide +kernel
theorem dX12_goThrough_162 : decode cX12_goThrough 162 = .ok (.iconst (-1), 1) := by decide +kernel
theorem dX12_goThrough_163 : decode cX12_goThrough 163 = .ok (.iconst (-1), 1) := by decide +kernel
theorem dX12_goThrough_164 : decode cX12_goThrough 164 = .ok (.invokevirtual 269, 3) := by decide +kernel
theorem dX12_goThrough_167 : decode cX12_goThrough 167 = .ok (.ifCond .ne 5, 3) := by decide +kernel
theorem dX12_goThrough_170 : decode cX12_goThrough 170 = .ok (.iconst 0, 1) := by decide +kernel
theorem dX12_goThrough_171 : decode cX12_goThrough 171 = .ok (.ireturn, 1) := by decide +kernel
theorem dX12_goThrough_172 : decode cX12_goThrough 172 = .ok (.iinc 3 1, 3) := by decide +kernel
theorem dX12_goThrough_175 : decode cX12_goThrough 175 = .ok (.goto (-59), 3) := by decide +kernel
theorem dX12_goThrough_178 : decode cX12_goThrough 178 = .ok (.iinc 2 1, 3) := by decide +kernel
theorem dX12_goThrough_181 : decode cX12_goThrough 181 = .ok (.goto (-75), 3) := by decide +kernel
theorem dX12_goThrough_184 : decode cX12_goThrough 184 = .ok (.iconst 1, 1) := by decide +kernel
theorem dX12_goThrough_185 : decode cX12_goThrough 185 = .ok (.ireturn, 1) := by decide +kernel
set_option maxHeartbeats 4000000 in
set_option maxRecDepth 100000 in
theorem c_X12_goThrough (l : Launch) {cs : Nat → ClassId} {ad : Nat → Nat} {A : Nat → Prop} {D : va_G} (hJ : hp_J SM ad A)   {h : hp_H} {a1 : Int32} {Q : Int32 → hp_H → Prop} (hq : q_X12_goThrough h a1 Q) : hp_Mi l yX12_goThrough cX12_goThrough 5 (some .boolean) rm_X12_goThrough [.ref (ad 0), .int a1] SM cs ad A D h Q := by
  refine hp_met (own := RX12) rfl (by decide) (Nat.le_of_ble_eq_true rfl) rfl (fun p e s m args below meth c Z E hZ hnm => ?_)
  refine hp_sub (lv' := [(0, .ref (ad 0)), (1, .int a1)]) [0, 1] rfl ?_
  unfold q_X12_goThrough at hq
  refine hp_aload_n E 0 dX12_goThrough_0 rfl rfl ?_
  refine hp_gR E g_RX12_101 fM_0_41 dX12_goThrough_1 ?_
  refine hp_iload_n E 1 dX12_goThrough_4 rfl rfl ?_
  refine hp_aload_n E 0 dX12_goThrough_5 rfl rfl ?_
  refine hp_gI E g_RX12_171 fM_0_40 dX12_goThrough_6 ?_
  have hin := hq.1
  replace hq := hq.2
  refine hp_iast E 31 aM_31 zM_31 hJ hin dX12_goThrough_9 ?_
  refine hp_toph (fun h1 eh1 => ?_)
  replace hq := hq h1 eh1
  refine hp_iconst E (nI 0) dX12_goThrough_10 (by decide) ?_
  refine hp_istore_n (lv' := [(0, .ref (ad 0)), (1, .int a1), (2, .int (nI 0))]) E dX12_goThrough_11 rfl (by decide) rfl rfl ?_
  refine hq (fun v3 h4 => hp_G p l e rm_X12_goThrough s m args below meth c SM cs ad A D 5 0 0 Z 12 [(0, .ref (ad 0)), (1, .int a1), (2, .int v3)] [] h4) (fun v3 h4 hB => ?_)
  obtain ⟨B2, hq, hB2⟩ := hB
  refine hp_iload_n E 2 dX12_goThrough_12 rfl rfl ?_
  refine hp_aload_n E 0 dX12_goThrough_13 rfl rfl ?_
  refine hp_gI E g_RX12_183 fM_0_4 dX12_goThrough_14 ?_
  refine hp_icmp_ge E 104 dX12_goThrough_17 (by decide) (fun c5 => ?_) (fun c5 => ?_)
  · replace hq := hq.1 c5
    refine hp_iconst E (nI 0) dX12_goThrough_104 (by decide) ?_
    refine hp_istore_n (lv' := [(0, .ref (ad 0)), (1, .int a1), (2, .int (nI 0))]) E dX12_goThrough_105 rfl (by decide) rfl rfl ?_
    refine hq (fun v7 h8 => hp_G p l e rm_X12_goThrough s m args below meth c SM cs ad A D 5 0 0 Z 106 [(0, .ref (ad 0)), (1, .int a1), (2, .int v7)] [] h8) (fun v7 h8 hB => ?_)
    obtain ⟨B6, hq, hB6⟩ := hB
    refine hp_iload_n E 2 dX12_goThrough_106 rfl rfl ?_
    refine hp_aload_n E 0 dX12_goThrough_107 rfl rfl ?_
    refine hp_gI E g_RX12_190 fM_0_11 dX12_goThrough_108 ?_
    refine hp_icmp_ge E 184 dX12_goThrough_111 (by decide) (fun c9 => ?_) (fun c9 => ?_)
    · replace hq := hq.1 c9
      refine hp_iconst E (nI 1) dX12_goThrough_184 (by decide) ?_
      exact hp_zret E (by unfold hp_bz; decide) hq hZ dX12_goThrough_185
    · replace hq := hq.2 c9
      refine hp_iconst E (nI 0) dX12_goThrough_114 (by decide) ?_
      refine hp_istore_n (lv' := [(0, .ref (ad 0)), (1, .int a1), (2, .int v7), (3, .int (nI 0))]) E dX12_goThrough_115 rfl (by decide) rfl rfl ?_
      refine hq (fun v11 h12 => hp_G p l e rm_X12_goThrough s m args below meth c SM cs ad A D 5 0 0 Z 116 [(0, .ref (ad 0)), (1, .int a1), (2, .int v7), (3, .int v11)] [] h12) (fun v11 h12 hB => ?_)
      obtain ⟨B10, hq, hB10⟩ := hB
      refine hp_iload_n E 3 dX12_goThrough_116 rfl rfl ?_
      refine hp_aload_n E 0 dX12_goThrough_117 rfl rfl ?_
      refine hp_iload_n E 1 dX12_goThrough_118 rfl rfl ?_
      refine hp_iload_n E 2 dX12_goThrough_119 rfl rfl ?_
      refine hp_callSip (rest := [.int a1, .ref (ad 0), .int v11]) E (c_X12_channelAt l hJ hq) F_X12_channelAt m_RX12_223 ⟨rfl, rfl⟩ ⟨Nat.le_of_ble_eq_true rfl, Nat.le_of_ble_eq_true rfl⟩ ⟨Nat.zero_le _, Nat.zero_le _⟩ rfl rfl (Nat.le_of_ble_eq_true rfl) dX12_goThrough_120 (fun r13 hq => ?_)
      refine hp_callVip (rest := [.int v11]) E 0 fM_0_0 vcl_12 (c_X12_cell l hJ hq) F_X12_cell m_RX12_216 ⟨rfl, rfl⟩ ⟨Nat.le_of_ble_eq_true rfl, Nat.le_of_ble_eq_true rfl⟩ ⟨Nat.zero_le _, Nat.zero_le _⟩ rfl rfl (Nat.le_of_ble_eq_true rfl) dX12_goThrough_123 (fun r14 hq => ?_)
      obtain ⟨K16, hq, hK16⟩ := hq
      have jK16 : K16 → hp_G p l e rm_X12_goThrough s m args below meth c SM cs ad A D 5 0 0 Z 178 [(0, .ref (ad 0)), (1, .int a1), (2, .int v7)] [] h12 := by
        intro  hq
        replace hq := hK16  hq
        obtain ⟨v28, ev28⟩ : ∃ z : Int32, z = v7 + (nI 1) := ⟨_, rfl⟩
        replace hq := hq v28 ev28
        refine hp_iinc (lv' := [(0, .ref (ad 0)), (1, .int a1), (2, .int v28)]) E 2 v28 dX12_goThrough_178 rfl (by rw [ev28]; rfl) (by decide) rfl rfl ?_
        refine hp_goto E 106 dX12_goThrough_181 (by decide) ?_
        exact hB6 _ _ hq
      refine hp_icmp_ge E 178 dX12_goThrough_126 (by decide) (fun c15 => ?_) (fun c15 => ?_)
      · replace hq := hq.1 c15
        refine hp_sub (lv' := [(0, .ref (ad 0)), (1, .int a1), (2, .int v7)]) [0, 1, 2] rfl ?_
        exact jK16  hq
      · replace hq := hq.2 c15
        refine hp_aload_n E 0 dX12_goThrough_129 rfl rfl ?_
        refine hp_gR E g_RX12_44 fM_0_14 dX12_goThrough_130 ?_
        refine hp_iload_n E 2 dX12_goThrough_133 rfl rfl ?_
        refine hp_zald E 12 aM_12 hq.1 dX12_goThrough_134 ?_
        replace hq := hq.2
        refine hp_if_eq E 178 dX12_goThrough_135 (by decide) (fun c17 => ?_) (fun c17 => ?_)
        · replace hq := hq.1 c17
          refine hp_sub (lv' := [(0, .ref (ad 0)), (1, .int a1), (2, .int v7)]) [0, 1, 2] rfl ?_
          exact jK16  hq
        · replace hq := hq.2 c17
          refine hp_aload_n E 0 dX12_goThrough_138 rfl rfl ?_
          refine hp_iload_n E 1 dX12_goThrough_139 rfl rfl ?_
          refine hp_iload_n E 2 dX12_goThrough_140 rfl rfl ?_
          refine hp_iload_n E 3 dX12_goThrough_141 rfl rfl ?_
          refine hp_callVip (rest := []) E 0 fM_0_0 vcl_12 (c_X12_isFirst l hJ hq) F_X12_isFirst m_RX12_237 ⟨rfl, rfl⟩ ⟨Nat.le_of_ble_eq_true rfl, Nat.le_of_ble_eq_true rfl⟩ ⟨Nat.zero_le _, Nat.zero_le _⟩ rfl rfl (Nat.le_of_ble_eq_true rfl) dX12_goThrough_142 (fun r18 hq => ?_)
          obtain ⟨K20, hq, hK20⟩ := hq
          have jK20 : ∀  (h21 : hp_H), K20 h21 → hp_G p l e rm_X12_goThrough s m args below meth c SM cs ad A D 5 0 0 Z 172 [(0, .ref (ad 0)), (1, .int a1), (2, .int v7), (3, .int v11)] [] h21 := by
            intro h21 hq
            replace hq := hK20 h21 hq
            obtain ⟨v27, ev27⟩ : ∃ z : Int32, z = v11 + (nI 1) := ⟨_, rfl⟩
            replace hq := hq v27 ev27
            refine hp_iinc (lv' := [(0, .ref (ad 0)), (1, .int a1), (2, .int v7), (3, .int v27)]) E 3 v27 dX12_goThrough_172 rfl (by rw [ev27]; rfl) (by decide) rfl rfl ?_
            refine hp_goto E 116 dX12_goThrough_175 (by decide) ?_
            exact hB10 _ _ hq
          refine hp_if_eq E 172 dX12_goThrough_145 (by decide) (fun c19 => ?_) (fun c19 => ?_)
          · replace hq := hq.1 c19
            exact jK20 _ hq
          · replace hq := hq.2 c19
            refine hp_aload_n E 0 dX12_goThrough_148 rfl rfl ?_
            refine hp_iload_n E 1 dX12_goThrough_149 rfl rfl ?_
            refine hp_callVv' (rest := []) E 0 fM_0_0 vcl_12 (c_X12_take l hJ hq) F_X12_take m_RX12_262 ⟨rfl, rfl⟩ ⟨Nat.le_of_ble_eq_true rfl, Nat.le_of_ble_eq_true rfl⟩ ⟨Nat.zero_le _, Nat.zero_le _⟩ rfl rfl (Nat.le_of_ble_eq_true rfl) dX12_goThrough_150 (fun h22 hq => ?_)
            refine hp_aload_n E 0 dX12_goThrough_153 rfl rfl ?_
            refine hp_iload_n E 2 dX12_goThrough_154 rfl rfl ?_
            refine hp_iload_n E 3 dX12_goThrough_155 rfl rfl ?_
            refine hp_callVv' (rest := []) E 0 fM_0_0 vcl_12 (c_X12_letterGoes l hJ hq) F_X12_letterGoes m_RX12_243 ⟨rfl, rfl⟩ ⟨Nat.le_of_ble_eq_true rfl, Nat.le_of_ble_eq_true rfl⟩ ⟨Nat.zero_le _, Nat.zero_le _⟩ rfl rfl (Nat.le_of_ble_eq_true rfl) dX12_goThrough_156 (fun h23 hq => ?_)
            refine hp_aload_n E 0 dX12_goThrough_159 rfl rfl ?_
            refine hp_iload_n E 1 dX12_goThrough_160 rfl rfl ?_
            refine hp_iconst E (-1) dX12_goThrough_161 (by decide) ?_
            refine hp_iconst E (-1) dX12_goThrough_162 (by decide) ?_
            refine hp_iconst E (-1) dX12_goThrough_163 (by decide) ?_
            refine hp_callVi' (rest := []) E 0 fM_0_0 vcl_12 (c_X12_comes l hJ hq) F_X12_comes m_RX12_269 ⟨rfl, rfl⟩ ⟨Nat.le_of_ble_eq_true rfl, Nat.le_of_ble_eq_true rfl⟩ ⟨Nat.zero_le _, Nat.zero_le _⟩ rfl rfl (Nat.le_of_ble_eq_true rfl) dX12_goThrough_164 (fun r24 h25 hq => ?_)
            refine hp_if_ne E 172 dX12_goThrough_167 (by decide) (fun c26 => ?_) (fun c26 => ?_)
            · replace hq := hq.2 c26
              exact jK20 _ hq
            · replace hq := hq.1 c26
              refine hp_iconst E (nI 0) dX12_goThrough_170 (by decide) ?_
              exact hp_zret E (by unfold hp_bz; decide) hq hZ dX12_goThrough_171
  · replace hq := hq.2 c5
    refine hp_iconst E (nI 0) dX12_goThrough_20 (by decide) ?_
    refine hp_istore_n (lv' := [(0, .ref (ad 0)), (1, .int a1), (2, .int v3), (3, .int (nI 0))]) E dX12_goThrough_21 rfl (by decide) rfl rfl ?_
    refine hq (fun v30 h31 => hp_G p l e rm_X12_goThrough s m args below meth c SM cs ad A D 5 0 0 Z 22 [(0, .ref (ad 0)), (1, .int a1), (2, .int v3), (3, .int v30)] [] h31) (fun v30 h31 hB => ?_)
    obtain ⟨B29, hq, hB29⟩ := hB
    refine hp_iload_n E 3 dX12_goThrough_22 rfl rfl ?_
    refine hp_aload_n E 0 dX12_goThrough_23 rfl rfl ?_
    refine hp_gR E g_RX12_19 fM_0_5 dX12_goThrough_24 ?_
    refine hp_iload_n E 2 dX12_goThrough_27 rfl rfl ?_
    refine hp_iald E 4 aM_4 hq.1 dX12_goThrough_28 ?_
    replace hq := hq.2
    refine hp_icmp_ge E 98 dX12_goThrough_29 (by decide) (fun c32 => ?_) (fun c32 => ?_)
    · replace hq := hq.1 c32
      obtain ⟨v33, ev33⟩ : ∃ z : Int32, z = v3 + (nI 1) := ⟨_, rfl⟩
      replace hq := hq v33 ev33
      refine hp_iinc (lv' := [(0, .ref (ad 0)), (1, .int a1), (2, .int v33), (3, .int v30)]) E 2 v33 dX12_goThrough_98 rfl (by rw [ev33]; rfl) (by decide) rfl rfl ?_
      refine hp_goto E 12 dX12_goThrough_101 (by decide) ?_
      refine hp_sub (lv' := [(0, .ref (ad 0)), (1, .int a1), (2, .int v33)]) [0, 1, 2] rfl ?_
      exact hB2 _ _ hq
    · replace hq := hq.2 c32
      refine hp_aload_n E 0 dX12_goThrough_32 rfl rfl ?_
      refine hp_iload_n E 1 dX12_goThrough_33 rfl rfl ?_
      refine hp_iload_n E 2 dX12_goThrough_34 rfl rfl ?_
      refine hp_iload_n E 3 dX12_goThrough_35 rfl rfl ?_
      refine hp_callVv' (rest := []) E 0 fM_0_0 vcl_12 (c_X12_reckon l hJ hq) F_X12_reckon m_RX12_280 ⟨rfl, rfl⟩ ⟨Nat.le_of_ble_eq_true rfl, Nat.le_of_ble_eq_true rfl⟩ ⟨Nat.zero_le _, Nat.zero_le _⟩ rfl rfl (Nat.le_of_ble_eq_true rfl) dX12_goThrough_36 (fun h34 hq => ?_)
      refine hp_iconst E (nI 0) dX12_goThrough_39 (by decide) ?_
      refine hp_istore (lv' := [(0, .ref (ad 0)), (1, .int a1), (2, .int v3), (3, .int v30), (4, .int (nI 0))]) E dX12_goThrough_40 (by decide) rfl rfl ?_
      refine hq (fun v36 h37 => hp_G p l e rm_X12_goThrough s m args below meth c SM cs ad A D 5 0 0 Z 42 [(0, .ref (ad 0)), (1, .int a1), (2, .int v3), (3, .int v30), (4, .int v36)] [] h37) (fun v36 h37 hB => ?_)
      obtain ⟨B35, hq, hB35⟩ := hB
      refine hp_iload E 4 dX12_goThrough_42 rfl ?_
      refine hp_aload_n E 0 dX12_goThrough_44 rfl rfl ?_
      refine hp_gI E g_RX12_206 fM_0_21 dX12_goThrough_45 ?_
      refine hp_icmp_ge E 92 dX12_goThrough_48 (by decide) (fun c38 => ?_) (fun c38 => ?_)
      · replace hq := hq.1 c38
        obtain ⟨v39, ev39⟩ : ∃ z : Int32, z = v30 + (nI 1) := ⟨_, rfl⟩
        replace hq := hq v39 ev39
        refine hp_iinc (lv' := [(0, .ref (ad 0)), (1, .int a1), (2, .int v3), (3, .int v39), (4, .int v36)]) E 3 v39 dX12_goThrough_92 rfl (by rw [ev39]; rfl) (by decide) rfl rfl ?_
        refine hp_goto E 22 dX12_goThrough_95 (by decide) ?_
        refine hp_sub (lv' := [(0, .ref (ad 0)), (1, .int a1), (2, .int v3), (3, .int v39)]) [0, 1, 2, 3] rfl ?_
        exact hB29 _ _ hq
      · replace hq := hq.2 c38
        refine hp_aload_n E 0 dX12_goThrough_51 rfl rfl ?_
        refine hp_gR E g_RX12_62 fM_0_22 dX12_goThrough_52 ?_
        refine hp_iload E 4 dX12_goThrough_55 rfl ?_
        refine hp_iald E 18 aM_18 hq.1 dX12_goThrough_57 ?_
        replace hq := hq.2
        refine hp_iload_n E 2 dX12_goThrough_58 rfl rfl ?_
        obtain ⟨K41, hq, hK41⟩ := hq
        have jK41 : ∀  (h42 : hp_H), K41 h42 → hp_G p l e rm_X12_goThrough s m args below meth c SM cs ad A D 5 0 0 Z 86 [(0, .ref (ad 0)), (1, .int a1), (2, .int v3), (3, .int v30), (4, .int v36)] [] h42 := by
          intro h42 hq
          replace hq := hK41 h42 hq
          obtain ⟨v48, ev48⟩ : ∃ z : Int32, z = v36 + (nI 1) := ⟨_, rfl⟩
          replace hq := hq v48 ev48
          refine hp_iinc (lv' := [(0, .ref (ad 0)), (1, .int a1), (2, .int v3), (3, .int v30), (4, .int v48)]) E 4 v48 dX12_goThrough_86 rfl (by rw [ev48]; rfl) (by decide) rfl rfl ?_
          refine hp_goto E 42 dX12_goThrough_89 (by decide) ?_
          exact hB35 _ _ hq
        refine hp_icmp_ne E 86 dX12_goThrough_59 (by decide) (fun c40 => ?_) (fun c40 => ?_)
        · replace hq := hq.2 c40
          exact jK41 _ hq
        · replace hq := hq.1 c40
          refine hp_aload_n E 0 dX12_goThrough_62 rfl rfl ?_
          refine hp_iload_n E 1 dX12_goThrough_63 rfl rfl ?_
          refine hp_iload_n E 3 dX12_goThrough_64 rfl rfl ?_
          refine hp_iload E 4 dX12_goThrough_65 rfl ?_
          refine hp_callVip (rest := []) E 0 fM_0_0 vcl_12 (c_X12_can l hJ hq) F_X12_can m_RX12_284 ⟨rfl, rfl⟩ ⟨Nat.le_of_ble_eq_true rfl, Nat.le_of_ble_eq_true rfl⟩ ⟨Nat.zero_le _, Nat.zero_le _⟩ rfl rfl (Nat.le_of_ble_eq_true rfl) dX12_goThrough_67 (fun r43 hq => ?_)
          refine hp_if_eq E 86 dX12_goThrough_70 (by decide) (fun c44 => ?_) (fun c44 => ?_)
          · replace hq := hq.1 c44
            exact jK41 _ hq
          · replace hq := hq.2 c44
            refine hp_aload_n E 0 dX12_goThrough_73 rfl rfl ?_
            refine hp_iload_n E 1 dX12_goThrough_74 rfl rfl ?_
            refine hp_iload_n E 3 dX12_goThrough_75 rfl rfl ?_
            refine hp_iload E 4 dX12_goThrough_76 rfl ?_
            refine hp_callVi' (rest := []) E 0 fM_0_0 vcl_12 (c_X12_goWays l hJ hq) F_X12_goWays m_RX12_287 ⟨rfl, rfl⟩ ⟨Nat.le_of_ble_eq_true rfl, Nat.le_of_ble_eq_true rfl⟩ ⟨Nat.zero_le _, Nat.zero_le _⟩ rfl rfl (Nat.le_of_ble_eq_true rfl) dX12_goThrough_78 (fun r45 h46 hq => ?_)
            refine hp_if_ne E 86 dX12_goThrough_81 (by decide) (fun c47 => ?_) (fun c47 => ?_)
            · replace hq := hq.2 c47
              exact jK41 _ hq
            · replace hq := hq.1 c47
              refine hp_iconst E (nI 0) dX12_goThrough_84 (by decide) ?_
              exact hp_zret E (by unfold hp_bz; decide) hq hZ dX12_goThrough_85
theorem dX12_use_0 : decode cX12_use 0 = .ok (.iload_n 1, 1) := by decide +kernel
theorem dX12_use_1 : decode cX12_use 1 = .ok (.iconst (-1), 1) := by decide +kernel
theorem dX12_use_2 : decode cX12_use 2 = .ok (.if_icmp .eq 10, 3) := by decide +kernel
theorem dX12_use_5 : decode cX12_use 5 = .ok (.aload_n 0, 1) := by decide +kernel
theorem dX12_use_6 : decode cX12_use 6 = .ok (.getfield 125, 3) := by decide +kernel
theorem dX12_use_9 : decode cX12_use 9 = .ok (.iload_n 1, 1) := by decide +kernel
theorem dX12_use_10 : decode cX12_use 10 = .ok (.iconst 1, 1) := by decide +kernel
theorem dX12_use_11 : decode cX12_use 11 = .ok (.bastore, 1) := by decide +kernel
theorem dX12_use_12 : decode cX12_use 12 = .ok (.return_, 1) := by decide +kernel
set_option maxHeartbeats 4000000 in
set_option maxRecDepth 100000 in
theorem c_X12_use (l : Launch) {cs : Nat → ClassId} {ad : Nat → Nat} {A : Nat → Prop} {D : va_G} (hJ : hp_J SM ad A)   {h : hp_H} {a1 : Int32} {Q : hp_H → Prop} (hq : q_X12_use h a1 Q) : hp_Mv l yX12_use cX12_use 2 none rm_X12_use [.ref (ad 0), .int a1] SM cs ad A D h Q := by
  refine hp_met (own := RX12) rfl (by decide) (Nat.le_of_ble_eq_true rfl) rfl (fun p e s m args below meth c Z E hZ hnm => ?_)
  refine hp_sub (lv' := [(0, .ref (ad 0)), (1, .int a1)]) [0, 1] rfl ?_
  unfold q_X12_use at hq
  refine hp_iload_n E 1 dX12_use_0 rfl rfl ?_
  refine hp_iconst E (-1) dX12_use_1 (by decide) ?_
  refine hp_icmp_eq E 12 dX12_use_2 (by decide) (fun c1 => ?_) (fun c1 => ?_)
  · replace hq := hq.1 c1
    exact hp_vret E hq hZ dX12_use_12
  · replace hq := hq.2 c1
    refine hp_aload_n E 0 dX12_use_5 rfl rfl ?_
    refine hp_gR E g_RX12_125 fM_0_54 dX12_use_6 ?_
    refine hp_iload_n E 1 dX12_use_9 rfl rfl ?_
    refine hp_iconst E (nI 1) dX12_use_10 (by decide) ?_
    have hin := hq.1
    replace hq := hq.2
    refine hp_zast E 39 aM_39 zM_39 hJ hin (by unfold hp_bz; decide) dX12_use_11 ?_
    refine hp_toph (fun h2 eh2 => ?_)
    replace hq := hq h2 eh2
    exact hp_vret E hq hZ dX12_use_12
theorem dX12_isFit_0 : decode cX12_isFit 0 = .ok (.iconst 0, 1) := by decide +kernel
theorem dX12_isFit_1 : decode cX12_isFit 1 = .ok (.istore_n 2, 1) := by decide +kernel
theorem dX12_isFit_2 : decode cX12_isFit 2 = .ok (.iload_n 2, 1) := by decide +kernel
theorem dX12_isFit_3 : decode cX12_isFit 3 = .ok (.aload_n 0, 1) := by decide +kernel
theorem dX12_isFit_4 : decode cX12_isFit 4 = .ok (.getfield 193, 3) := by decide +kernel
theorem dX12_isFit_7 : decode cX12_isFit 7 = .ok (.if_icmp .ge 16, 3) := by decide +kernel
theorem dX12_isFit_10 : decode cX12_isFit 10 = .ok (.aload_n 0, 1) := by decide +kernel
theorem dX12_isFit_11 : decode cX12_isFit 11 = .ok (.getfield 125, 3) := by decide +kernel
theorem dX12_isFit_14 : decode cX12_isFit 14 = .ok (.iload_n 2, 1) := by decide +kernel
theorem dX12_isFit_15 : decode cX12_isFit 15 = .ok (.iconst 0, 1) := by decide +kernel
theorem dX12_isFit_16 : decode cX12_isFit 16 = .ok (.bastore, 1) := by decide +kernel
theorem dX12_isFit_17 : decode cX12_isFit 17 = .ok (.iinc 2 1, 3) := by decide +kernel
theorem dX12_isFit_20 : decode cX12_isFit 20 = .ok (.goto (-18), 3) := by decide +kernel
theorem dX12_isFit_23 : decode cX12_isFit 23 = .ok (.aload_n 0, 1) := by decide +kernel
theorem dX12_isFit_24 : decode cX12_isFit 24 = .ok (.aload_n 0, 1) := by decide +kernel
theorem dX12_isFit_25 : decode cX12_isFit 25 = .ok (.getfield 71, 3) := by decide +kernel
theorem dX12_isFit_28 : decode cX12_isFit 28 = .ok (.iload_n 1, 1) := by decide +kernel
theorem dX12_isFit_29 : decode cX12_isFit 29 = .ok (.iaload, 1) := by decide +kernel
theorem dX12_isFit_30 : decode cX12_isFit 30 = .ok (.invokevirtual 290, 3) := by decide +kernel
theorem dX12_isFit_33 : decode cX12_isFit 33 = .ok (.iconst 0, 1) := by decide +kernel
theorem dX12_isFit_34 : decode cX12_isFit 34 = .ok (.istore_n 2, 1) := by decide +kernel
theorem dX12_isFit_35 : decode cX12_isFit 35 = .ok (.iload_n 2, 1) := by decide +kernel
theorem dX12_isFit_36 : decode cX12_isFit 36 = .ok (.aload_n 0, 1) := by decide +kernel
theorem dX12_isFit_37 : decode cX12_isFit 37 = .ok (.getfield 74, 3) := by decide +kernel
theorem dX12_isFit_40 : decode cX12_isFit 40 = .ok (.iload_n 1, 1) := by decide +kernel
theorem dX12_isFit_41 : decode cX12_isFit 41 = .ok (.iaload, 1) := by decide +kernel
theorem dX12_isFit_42 : decode cX12_isFit 42 = .ok (.if_icmp .ge 41, 3) := by decide +kernel
theorem dX12_isFit_45 : decode cX12_isFit 45 = .ok (.aload_n 0, 1) := by decide +kernel
theorem dX12_isFit_46 : decode cX12_isFit 46 = .ok (.aload_n 0, 1) := by decide +kernel
theorem dX12_isFit_47 : decode cX12_isFit 47 = .ok (.getfield 77, 3) := by decide +kernel
theorem dX12_isFit_50 : decode cX12_isFit 50 = .ok (.iconst 4, 1) := by decide +kernel
theorem dX12_isFit_51 : decode cX12_isFit 51 = .ok (.iload_n 1, 1) := by decide +kernel
theorem dX12_isFit_52 : decode cX12_isFit 52 = .ok (.imul, 1) := by decide +kernel
theorem dX12_isFit_53 : decode cX12_isFit 53 = .ok (.iload_n 2, 1) := by decide +kernel
theorem dX12_isFit_54 : decode cX12_isFit 54 = .ok (.iadd, 1) := by decide +kernel
theorem dX12_isFit_55 : decode cX12_isFit 55 = .ok (.iaload, 1) := by decide +kernel
theorem dX12_isFit_56 : decode cX12_isFit 56 = .ok (.iconst 3, 1) := by decide +kernel
theorem dX12_isFit_57 : decode cX12_isFit 57 = .ok (.if_icmp .ge 16, 3) := by decide +kernel
theorem dX12_isFit_60 : decode cX12_isFit 60 = .ok (.aload_n 0, 1) := by decide +kernel
theorem dX12_isFit_61 : decode cX12_isFit 61 = .ok (.getfield 83, 3) := by decide +kernel
theorem dX12_isFit_64 : decode cX12_isFit 64 = .ok (.iconst 4, 1) := by decide +kernel
theorem dX12_isFit_65 : decode cX12_isFit 65 = .ok (.iload_n 1, 1) := by decide +kernel
theorem dX12_isFit_66 : decode cX12_isFit 66 = .ok (.imul, 1) := by decide +kernel
theorem dX12_isFit_67 : decode cX12_isFit 67 = .ok (.iload_n 2, 1) := by decide +kernel
theorem dX12_isFit_68 : decode cX12_isFit 68 = .ok (.iadd, 1) := by decide +kernel
theorem dX12_isFit_69 : decode cX12_isFit 69 = .ok (.iaload, 1) := by decide +kernel
theorem dX12_isFit_70 : decode cX12_isFit 70 = .ok (.goto 4, 3) := by decide +kernel
theorem dX12_isFit_73 : decode cX12_isFit 73 = .ok (.iconst (-1), 1) := by decide +kernel
theorem dX12_isFit_74 : decode cX12_isFit 74 = .ok (.invokevirtual 290, 3) := by decide +kernel
theorem dX12_isFit_77 : decode cX12_isFit 77 = .ok (.iinc 2 1, 3) := by decide +kernel
theorem dX12_isFit_80 : decode cX12_isFit 80 = .ok (.goto (-45), 3) := by decide +kernel
theorem dX12_isFit_83 : decode cX12_isFit 83 = .ok (.aload_n 0, 1) := by decide +kernel
theorem dX12_isFit_84 : decode cX12_isFit 84 = .ok (.getfield 193, 3) := by decide +kernel
theorem dX12_isFit_87 : decode cX12_isFit 87 = .ok (.iconst 1, 1) := by decide +kernel
theorem dX12_isFit_88 : decode cX12_isFit 88 = .ok (.isub, 1) := by decide +kernel
theorem dX12_isFit_89 : decode cX12_isFit 89 = .ok (.istore_n 2, 1) := by decide +kernel
theorem dX12_isFit_90 : decode cX12_isFit 90 = .ok (.iload_n 2, 1) := by decide +kernel
theorem dX12_isFit_91 : decode cX12_isFit 91 = .ok (.ifCond .lt 105, 3) := by decide +kernel
theorem dX12_isFit_94 : decode cX12_isFit 94 = .ok (.aload_n 0, 1) := by decide +kernel
theorem dX12_isFit_95 : decode cX12_isFit 95 = .ok (.getfield 125, 3) := by decide +kernel
theorem dX12_isFit_98 : decode cX12_isFit 98 = .ok (.iload_n 2, 1) := by decide +kernel
theorem dX12_isFit_99 : decode cX12_isFit 99 = .ok (.baload, 1) := by decide +kernel
theorem dX12_isFit_100 : decode cX12_isFit 100 = .ok (.ifCond .eq 49, 3) := by decide +kernel
theorem dX12_isFit_103 : decode cX12_isFit 103 = .ok (.aload_n 0, 1) := by decide +kernel
theorem dX12_isFit_104 : decode cX12_isFit 104 = .ok (.getfield 47, 3) := by decide +kernel
theorem dX12_isFit_107 : decode cX12_isFit 107 = .ok (.iload_n 2, 1) := by decide +kernel
theorem dX12_isFit_108 : decode cX12_isFit 108 = .ok (.iaload, 1) := by decide +kernel
theorem dX12_isFit_109 : decode cX12_isFit 109 = .ok (.bipush 6, 2) := by decide +kernel
theorem dX12_isFit_111 : decode cX12_isFit 111 = .ok (.if_icmp .le 38, 3) := by decide +kernel
theorem dX12_isFit_114 : decode cX12_isFit 114 = .ok (.aload_n 0, 1) := by decide +kernel
theorem dX12_isFit_115 : decode cX12_isFit 115 = .ok (.aload_n 0, 1) := by decide +kernel
theorem dX12_isFit_116 : decode cX12_isFit 116 = .ok (.getfield 50, 3) := by decide +kernel
theorem dX12_isFit_119 : decode cX12_isFit 119 = .ok (.iload_n 2, 1) := by decide +kernel
theorem dX12_isFit_120 : decode cX12_isFit 120 = .ok (.iaload, 1) := by decide +kernel
theorem dX12_isFit_121 : decode cX12_isFit 121 = .ok (.invokevirtual 290, 3) := by decide +kernel
theorem dX12_isFit_124 : decode cX12_isFit 124 = .ok (.aload_n 0, 1) := by decide +kernel
theorem dX12_isFit_125 : decode cX12_isFit 125 = .ok (.aload_n 0, 1) := by decide +kernel
theorem dX12_isFit_126 : decode cX12_isFit 126 = .ok (.getfield 47, 3) := by decide +kernel
theorem dX12_isFit_129 : decode cX12_isFit 129 = .ok (.iload_n 2, 1) := by decide +kernel
theorem dX12_isFit_130 : decode cX12_isFit 130 = .ok (.iaload, 1) := by decide +kernel
theorem dX12_isFit_131 : decode cX12_isFit 131 = .ok (.bipush 14, 2) := by decide +kernel
theorem dX12_isFit_133 : decode cX12_isFit 133 = .ok (.if_icmp .ge 12, 3) := by decide +kernel
theorem dX12_isFit_136 : decode cX12_isFit 136 = .ok (.aload_n 0, 1) := by decide +kernel
theorem dX12_isFit_137 : decode cX12_isFit 137 = .ok (.getfield 53, 3) := by decide +kernel
theorem dX12_isFit_140 : decode cX12_isFit 140 = .ok (.iload_n 2, 1) := by decide +kernel
theorem dX12_isFit_141 : decode cX12_isFit 141 = .ok (.iaload, 1) := by decide +kernel
theorem dX12_isFit_142 : decode cX12_isFit 142 = .ok (.goto 4, 3) := by decide +kernel
theorem dX12_isFit_145 : decode cX12_isFit 145 = .ok (.iconst (-1), 1) := by decide +kernel
theorem dX12_isFit_146 : decode cX12_isFit 146 = .ok (.invokevirtual 290, 3) := by decide +kernel
theorem dX12_isFit_149 : decode cX12_isFit 149 = .ok (.aload_n 0, 1) := by decide +kernel
theorem dX12_isFit_150 : decode cX12_isFit 150 = .ok (.getfield 125, 3) := by decide +kernel
theorem dX12_isFit_153 : decode cX12_isFit 153 = .ok (.iload_n 2, 1) := by decide +kernel
theorem dX12_isFit_154 : decode cX12_isFit 154 = .ok (.baload, 1) := by decide +kernel
theorem dX12_isFit_155 : decode cX12_isFit 155 = .ok (.ifCond .eq 35, 3) := by decide +kernel
theorem dX12_isFit_158 : decode cX12_isFit 158 = .ok (.aload_n 0, 1) := by decide +kernel
theorem dX12_isFit_159 : decode cX12_isFit 159 = .ok (.getfield 47, 3) := by decide +kernel
theorem dX12_isFit_162 : decode cX12_isFit 162 = .ok (.iload_n 2, 1) := by decide +kernel
theorem dX12_isFit_163 : decode cX12_isFit 163 = .ok (.iaload, 1) := by decide +kernel
theorem dX12_isFit_164 : decode cX12_isFit 164 = .ok (.iconst 2, 1) := by decide +kernel
theorem dX12_isFit_165 : decode cX12_isFit 165 = .ok (.if_icmp .ne 25, 3) := by decide +kernel
theorem dX12_isFit_168 : decode cX12_isFit 168 = .ok (.aload_n 0, 1) := by decide +kernel
theorem dX12_isFit_169 : decode cX12_isFit 169 = .ok (.getfield 50, 3) := by decide +kernel
theorem dX12_isFit_172 : decode cX12_isFit 172 = .ok (.iload_n 2, 1) := by decide +kernel
theorem dX12_isFit_173 : decode cX12_isFit 173 = .ok (.iaload, 1) := by decide +kernel
theorem dX12_isFit_174 : decode cX12_isFit 174 = .ok (.aload_n 0, 1) := by decide +kernel
theorem dX12_isFit_175 : decode cX12_isFit 175 = .ok (.getfield 22, 3) := by decide +kernel
theorem dX12_isFit_178 : decode cX12_isFit 178 = .ok (.aload_n 0, 1) := by decide +kernel
theorem dX12_isFit_179 : decode cX12_isFit 179 = .ok (.getfield 62, 3) := by decide +kernel
theorem dX12_isFit_182 : decode cX12_isFit 182 = .ok (.iload_n 1, 1) := by decide +kernel
theorem dX12_isFit_183 : decode cX12_isFit 183 = .ok (.iaload, 1) := by decide +kernel
theorem dX12_isFit_184 : decode cX12_isFit 184 = .ok (.iaload, 1) := by decide +kernel
theorem dX12_isFit_185 : decode cX12_isFit 185 = .ok (.if_icmp .lt 5, 3) := by decide +kernel
theorem dX12_isFit_188 : decode cX12_isFit 188 = .ok (.iconst 0, 1) := by decide +kernel
theorem dX12_isFit_189 : decode cX12_isFit 189 = .ok (.ireturn, 1) := by decide +kernel
theorem dX12_isFit_190 : decode cX12_isFit 190 = .ok (.iinc 2 (-1), 3) := by decide +kernel
theorem dX12_isFit_193 : decode cX12_isFit 193 = .ok (.goto (-103), 3) := by decide +kernel
theorem dX12_isFit_196 : decode cX12_isFit 196 = .ok (.iconst 1, 1) := by decide +kernel
theorem dX12_isFit_197 : decode cX12_isFit 197 = .ok (.ireturn, 1) := by decide +kernel
set_option maxHeartbeats 4000000 in
set_option maxRecDepth 100000 in
theorem c_X12_isFit (l : Launch) {cs : Nat → ClassId} {ad : Nat → Nat} {A : Nat → Prop} {D : va_G} (hJ : hp_J SM ad A)   {h : hp_H} {a1 : Int32} {Q : Int32 → hp_H → Prop} (hq : q_X12_isFit h a1 Q) : hp_Mi l yX12_isFit cX12_isFit 3 (some .boolean) rm_X12_isFit [.ref (ad 0), .int a1] SM cs ad A D h Q := by
  refine hp_met (own := RX12) rfl (by decide) (Nat.le_of_ble_eq_true rfl) rfl (fun p e s m args below meth c Z E hZ hnm => ?_)
  refine hp_sub (lv' := [(0, .ref (ad 0)), (1, .int a1)]) [0, 1] rfl ?_
  unfold q_X12_isFit at hq
  refine hp_iconst E (nI 0) dX12_isFit_0 (by decide) ?_
  refine hp_istore_n (lv' := [(0, .ref (ad 0)), (1, .int a1), (2, .int (nI 0))]) E dX12_isFit_1 rfl (by decide) rfl rfl ?_
  refine hq (fun v2 h3 => hp_G p l e rm_X12_isFit s m args below meth c SM cs ad A D 3 0 0 Z 2 [(0, .ref (ad 0)), (1, .int a1), (2, .int v2)] [] h3) (fun v2 h3 hB => ?_)
  obtain ⟨B1, hq, hB1⟩ := hB
  refine hp_iload_n E 2 dX12_isFit_2 rfl rfl ?_
  refine hp_aload_n E 0 dX12_isFit_3 rfl rfl ?_
  refine hp_gI E g_RX12_193 fM_0_15 dX12_isFit_4 ?_
  refine hp_icmp_ge E 23 dX12_isFit_7 (by decide) (fun c4 => ?_) (fun c4 => ?_)
  · replace hq := hq.1 c4
    refine hp_aload_n E 0 dX12_isFit_23 rfl rfl ?_
    refine hp_aload_n E 0 dX12_isFit_24 rfl rfl ?_
    refine hp_gR E g_RX12_71 fM_0_25 dX12_isFit_25 ?_
    refine hp_iload_n E 1 dX12_isFit_28 rfl rfl ?_
    refine hp_iald E 21 aM_21 hq.1 dX12_isFit_29 ?_
    replace hq := hq.2
    refine hp_callVv' (rest := []) E 0 fM_0_0 vcl_12 (c_X12_use l hJ hq) F_X12_use m_RX12_290 ⟨rfl, rfl⟩ ⟨Nat.le_of_ble_eq_true rfl, Nat.le_of_ble_eq_true rfl⟩ ⟨Nat.zero_le _, Nat.zero_le _⟩ rfl rfl (Nat.le_of_ble_eq_true rfl) dX12_isFit_30 (fun h5 hq => ?_)
    refine hp_iconst E (nI 0) dX12_isFit_33 (by decide) ?_
    refine hp_istore_n (lv' := [(0, .ref (ad 0)), (1, .int a1), (2, .int (nI 0))]) E dX12_isFit_34 rfl (by decide) rfl rfl ?_
    refine hq (fun v7 h8 => hp_G p l e rm_X12_isFit s m args below meth c SM cs ad A D 3 0 0 Z 35 [(0, .ref (ad 0)), (1, .int a1), (2, .int v7)] [] h8) (fun v7 h8 hB => ?_)
    obtain ⟨B6, hq, hB6⟩ := hB
    refine hp_iload_n E 2 dX12_isFit_35 rfl rfl ?_
    refine hp_aload_n E 0 dX12_isFit_36 rfl rfl ?_
    refine hp_gR E g_RX12_74 fM_0_26 dX12_isFit_37 ?_
    refine hp_iload_n E 1 dX12_isFit_40 rfl rfl ?_
    refine hp_iald E 22 aM_22 hq.1 dX12_isFit_41 ?_
    replace hq := hq.2
    refine hp_icmp_ge E 83 dX12_isFit_42 (by decide) (fun c9 => ?_) (fun c9 => ?_)
    · replace hq := hq.1 c9
      refine hp_aload_n E 0 dX12_isFit_83 rfl rfl ?_
      refine hp_gI E g_RX12_193 fM_0_15 dX12_isFit_84 ?_
      refine hp_iconst E (nI 1) dX12_isFit_87 (by decide) ?_
      refine hp_isub E dX12_isFit_88 ?_
      refine hp_topi (fun v10 ev10 => ?_)
      replace hq := hq v10 ev10
      refine hp_istore_n (lv' := [(0, .ref (ad 0)), (1, .int a1), (2, .int v10)]) E dX12_isFit_89 rfl (by decide) rfl rfl ?_
      refine hq (fun v12 h13 => hp_G p l e rm_X12_isFit s m args below meth c SM cs ad A D 3 0 0 Z 90 [(0, .ref (ad 0)), (1, .int a1), (2, .int v12)] [] h13) (fun v12 h13 hB => ?_)
      obtain ⟨B11, hq, hB11⟩ := hB
      refine hp_iload_n E 2 dX12_isFit_90 rfl rfl ?_
      refine hp_if_lt E 196 dX12_isFit_91 (by decide) (fun c14 => ?_) (fun c14 => ?_)
      · replace hq := hq.1 c14
        refine hp_iconst E (nI 1) dX12_isFit_196 (by decide) ?_
        exact hp_zret E (by unfold hp_bz; decide) hq hZ dX12_isFit_197
      · replace hq := hq.2 c14
        refine hp_aload_n E 0 dX12_isFit_94 rfl rfl ?_
        refine hp_gR E g_RX12_125 fM_0_54 dX12_isFit_95 ?_
        refine hp_iload_n E 2 dX12_isFit_98 rfl rfl ?_
        refine hp_zald E 39 aM_39 hq.1 dX12_isFit_99 ?_
        replace hq := hq.2
        obtain ⟨K16, hq, hK16⟩ := hq
        have jK16 : ∀  (h17 : hp_H), K16 h17 → hp_G p l e rm_X12_isFit s m args below meth c SM cs ad A D 3 0 0 Z 149 [(0, .ref (ad 0)), (1, .int a1), (2, .int v12)] [] h17 := by
          intro h17 hq
          replace hq := hK16 h17 hq
          refine hp_aload_n E 0 dX12_isFit_149 rfl rfl ?_
          refine hp_gR E g_RX12_125 fM_0_54 dX12_isFit_150 ?_
          refine hp_iload_n E 2 dX12_isFit_153 rfl rfl ?_
          refine hp_zald E 39 aM_39 hq.1 dX12_isFit_154 ?_
          replace hq := hq.2
          obtain ⟨K25, hq, hK25⟩ := hq
          have jK25 : K25 → hp_G p l e rm_X12_isFit s m args below meth c SM cs ad A D 3 0 0 Z 190 [(0, .ref (ad 0)), (1, .int a1), (2, .int v12)] [] h17 := by
            intro  hq
            replace hq := hK25  hq
            obtain ⟨v28, ev28⟩ : ∃ z : Int32, z = v12 + (-1) := ⟨_, rfl⟩
            replace hq := hq v28 ev28
            refine hp_iinc (lv' := [(0, .ref (ad 0)), (1, .int a1), (2, .int v28)]) E 2 v28 dX12_isFit_190 rfl (by rw [ev28]; rfl) (by decide) rfl rfl ?_
            refine hp_goto E 90 dX12_isFit_193 (by decide) ?_
            exact hB11 _ _ hq
          refine hp_if_eq E 190 dX12_isFit_155 (by decide) (fun c24 => ?_) (fun c24 => ?_)
          · replace hq := hq.1 c24
            exact jK25  hq
          · replace hq := hq.2 c24
            refine hp_aload_n E 0 dX12_isFit_158 rfl rfl ?_
            refine hp_gR E g_RX12_47 fM_0_16 dX12_isFit_159 ?_
            refine hp_iload_n E 2 dX12_isFit_162 rfl rfl ?_
            refine hp_iald E 13 aM_13 hq.1 dX12_isFit_163 ?_
            replace hq := hq.2
            refine hp_iconst E (nI 2) dX12_isFit_164 (by decide) ?_
            refine hp_icmp_ne E 190 dX12_isFit_165 (by decide) (fun c26 => ?_) (fun c26 => ?_)
            · replace hq := hq.2 c26
              exact jK25  hq
            · replace hq := hq.1 c26
              refine hp_aload_n E 0 dX12_isFit_168 rfl rfl ?_
              refine hp_gR E g_RX12_50 fM_0_17 dX12_isFit_169 ?_
              refine hp_iload_n E 2 dX12_isFit_172 rfl rfl ?_
              refine hp_iald E 14 aM_14 hq.1 dX12_isFit_173 ?_
              replace hq := hq.2
              refine hp_aload_n E 0 dX12_isFit_174 rfl rfl ?_
              refine hp_gR E g_RX12_22 fM_0_6 dX12_isFit_175 ?_
              refine hp_aload_n E 0 dX12_isFit_178 rfl rfl ?_
              refine hp_gR E g_RX12_62 fM_0_22 dX12_isFit_179 ?_
              refine hp_iload_n E 1 dX12_isFit_182 rfl rfl ?_
              refine hp_iald E 18 aM_18 hq.1 dX12_isFit_183 ?_
              replace hq := hq.2
              refine hp_iald E 5 aM_5 hq.1 dX12_isFit_184 ?_
              replace hq := hq.2
              refine hp_icmp_lt E 190 dX12_isFit_185 (by decide) (fun c27 => ?_) (fun c27 => ?_)
              · replace hq := hq.1 c27
                exact jK25  hq
              · replace hq := hq.2 c27
                refine hp_iconst E (nI 0) dX12_isFit_188 (by decide) ?_
                exact hp_zret E (by unfold hp_bz; decide) hq hZ dX12_isFit_189
        refine hp_if_eq E 149 dX12_isFit_100 (by decide) (fun c15 => ?_) (fun c15 => ?_)
        · replace hq := hq.1 c15
          exact jK16 _ hq
        · replace hq := hq.2 c15
          refine hp_aload_n E 0 dX12_isFit_103 rfl rfl ?_
          refine hp_gR E g_RX12_47 fM_0_16 dX12_isFit_104 ?_
          refine hp_iload_n E 2 dX12_isFit_107 rfl rfl ?_
          refine hp_iald E 13 aM_13 hq.1 dX12_isFit_108 ?_
          replace hq := hq.2
          refine hp_bipush E (nI 6) dX12_isFit_109 (by decide) ?_
          refine hp_icmp_le E 149 dX12_isFit_111 (by decide) (fun c18 => ?_) (fun c18 => ?_)
          · replace hq := hq.1 c18
            exact jK16 _ hq
          · replace hq := hq.2 c18
            refine hp_aload_n E 0 dX12_isFit_114 rfl rfl ?_
            refine hp_aload_n E 0 dX12_isFit_115 rfl rfl ?_
            refine hp_gR E g_RX12_50 fM_0_17 dX12_isFit_116 ?_
            refine hp_iload_n E 2 dX12_isFit_119 rfl rfl ?_
            refine hp_iald E 14 aM_14 hq.1 dX12_isFit_120 ?_
            replace hq := hq.2
            refine hp_callVv' (rest := []) E 0 fM_0_0 vcl_12 (c_X12_use l hJ hq) F_X12_use m_RX12_290 ⟨rfl, rfl⟩ ⟨Nat.le_of_ble_eq_true rfl, Nat.le_of_ble_eq_true rfl⟩ ⟨Nat.zero_le _, Nat.zero_le _⟩ rfl rfl (Nat.le_of_ble_eq_true rfl) dX12_isFit_121 (fun h19 hq => ?_)
            refine hp_aload_n E 0 dX12_isFit_124 rfl rfl ?_
            refine hp_aload_n E 0 dX12_isFit_125 rfl rfl ?_
            refine hp_gR E g_RX12_47 fM_0_16 dX12_isFit_126 ?_
            refine hp_iload_n E 2 dX12_isFit_129 rfl rfl ?_
            refine hp_iald E 13 aM_13 hq.1 dX12_isFit_130 ?_
            replace hq := hq.2
            refine hp_bipush E (nI 14) dX12_isFit_131 (by decide) ?_
            obtain ⟨K21, hq, hK21⟩ := hq
            have jK21 : ∀ (v22 : Int32), K21 v22 → hp_G p l e rm_X12_isFit s m args below meth c SM cs ad A D 3 0 0 Z 146 [(0, .ref (ad 0)), (1, .int a1), (2, .int v12)] [.int v22, .ref (ad 0)] h19 := by
              intro v22 hq
              replace hq := hK21 v22 hq
              refine hp_callVv' (rest := []) E 0 fM_0_0 vcl_12 (c_X12_use l hJ hq) F_X12_use m_RX12_290 ⟨rfl, rfl⟩ ⟨Nat.le_of_ble_eq_true rfl, Nat.le_of_ble_eq_true rfl⟩ ⟨Nat.zero_le _, Nat.zero_le _⟩ rfl rfl (Nat.le_of_ble_eq_true rfl) dX12_isFit_146 (fun h23 hq => ?_)
              exact jK16 _ hq
            refine hp_icmp_ge E 145 dX12_isFit_133 (by decide) (fun c20 => ?_) (fun c20 => ?_)
            · replace hq := hq.1 c20
              refine hp_iconst E (-1) dX12_isFit_145 (by decide) ?_
              exact jK21 _ hq
            · replace hq := hq.2 c20
              refine hp_aload_n E 0 dX12_isFit_136 rfl rfl ?_
              refine hp_gR E g_RX12_53 fM_0_18 dX12_isFit_137 ?_
              refine hp_iload_n E 2 dX12_isFit_140 rfl rfl ?_
              refine hp_iald E 15 aM_15 hq.1 dX12_isFit_141 ?_
              replace hq := hq.2
              refine hp_goto E 146 dX12_isFit_142 (by decide) ?_
              exact jK21 _ hq
    · replace hq := hq.2 c9
      refine hp_aload_n E 0 dX12_isFit_45 rfl rfl ?_
      refine hp_aload_n E 0 dX12_isFit_46 rfl rfl ?_
      refine hp_gR E g_RX12_77 fM_0_27 dX12_isFit_47 ?_
      refine hp_iconst E (nI 4) dX12_isFit_50 (by decide) ?_
      refine hp_iload_n E 1 dX12_isFit_51 rfl rfl ?_
      refine hp_imul E dX12_isFit_52 ?_
      refine hp_iload_n E 2 dX12_isFit_53 rfl rfl ?_
      refine hp_iadd E dX12_isFit_54 ?_
      refine hp_iald E 23 aM_23 hq.1 dX12_isFit_55 ?_
      replace hq := hq.2
      refine hp_iconst E (nI 3) dX12_isFit_56 (by decide) ?_
      obtain ⟨K30, hq, hK30⟩ := hq
      have jK30 : ∀ (v31 : Int32), K30 v31 → hp_G p l e rm_X12_isFit s m args below meth c SM cs ad A D 3 0 0 Z 74 [(0, .ref (ad 0)), (1, .int a1), (2, .int v7)] [.int v31, .ref (ad 0)] h8 := by
        intro v31 hq
        replace hq := hK30 v31 hq
        refine hp_callVv' (rest := []) E 0 fM_0_0 vcl_12 (c_X12_use l hJ hq) F_X12_use m_RX12_290 ⟨rfl, rfl⟩ ⟨Nat.le_of_ble_eq_true rfl, Nat.le_of_ble_eq_true rfl⟩ ⟨Nat.zero_le _, Nat.zero_le _⟩ rfl rfl (Nat.le_of_ble_eq_true rfl) dX12_isFit_74 (fun h32 hq => ?_)
        obtain ⟨v33, ev33⟩ : ∃ z : Int32, z = v7 + (nI 1) := ⟨_, rfl⟩
        replace hq := hq v33 ev33
        refine hp_iinc (lv' := [(0, .ref (ad 0)), (1, .int a1), (2, .int v33)]) E 2 v33 dX12_isFit_77 rfl (by rw [ev33]; rfl) (by decide) rfl rfl ?_
        refine hp_goto E 35 dX12_isFit_80 (by decide) ?_
        exact hB6 _ _ hq
      refine hp_icmp_ge E 73 dX12_isFit_57 (by decide) (fun c29 => ?_) (fun c29 => ?_)
      · replace hq := hq.1 c29
        refine hp_iconst E (-1) dX12_isFit_73 (by decide) ?_
        exact jK30 _ hq
      · replace hq := hq.2 c29
        refine hp_aload_n E 0 dX12_isFit_60 rfl rfl ?_
        refine hp_gR E g_RX12_83 fM_0_29 dX12_isFit_61 ?_
        refine hp_iconst E (nI 4) dX12_isFit_64 (by decide) ?_
        refine hp_iload_n E 1 dX12_isFit_65 rfl rfl ?_
        refine hp_imul E dX12_isFit_66 ?_
        refine hp_iload_n E 2 dX12_isFit_67 rfl rfl ?_
        refine hp_iadd E dX12_isFit_68 ?_
        refine hp_iald E 25 aM_25 hq.1 dX12_isFit_69 ?_
        replace hq := hq.2
        refine hp_goto E 74 dX12_isFit_70 (by decide) ?_
        exact jK30 _ hq
  · replace hq := hq.2 c4
    refine hp_aload_n E 0 dX12_isFit_10 rfl rfl ?_
    refine hp_gR E g_RX12_125 fM_0_54 dX12_isFit_11 ?_
    refine hp_iload_n E 2 dX12_isFit_14 rfl rfl ?_
    refine hp_iconst E (nI 0) dX12_isFit_15 (by decide) ?_
    have hin := hq.1
    replace hq := hq.2
    refine hp_zast E 39 aM_39 zM_39 hJ hin (by unfold hp_bz; decide) dX12_isFit_16 ?_
    refine hp_toph (fun h34 eh34 => ?_)
    replace hq := hq h34 eh34
    obtain ⟨v35, ev35⟩ : ∃ z : Int32, z = v2 + (nI 1) := ⟨_, rfl⟩
    replace hq := hq v35 ev35
    refine hp_iinc (lv' := [(0, .ref (ad 0)), (1, .int a1), (2, .int v35)]) E 2 v35 dX12_isFit_17 rfl (by rw [ev35]; rfl) (by decide) rfl rfl ?_
    refine hp_goto E 2 dX12_isFit_20 (by decide) ?_
    exact hB1 _ _ hq
theorem dX12_maySearch_0 : decode cX12_maySearch 0 = .ok (.iconst 0, 1) := by decide +kernel
theorem dX12_maySearch_1 : decode cX12_maySearch 1 = .ok (.istore_n 1, 1) := by decide +kernel
theorem dX12_maySearch_2 : decode cX12_maySearch 2 = .ok (.iload_n 1, 1) := by decide +kernel
theorem dX12_maySearch_3 : decode cX12_maySearch 3 = .ok (.aload_n 0, 1) := by decide +kernel
theorem dX12_maySearch_4 : decode cX12_maySearch 4 = .ok (.getfield 193, 3) := by decide +kernel
theorem dX12_maySearch_7 : decode cX12_maySearch 7 = .ok (.if_icmp .ge 39, 3) := by decide +kernel
theorem dX12_maySearch_10 : decode cX12_maySearch 10 = .ok (.aload_n 0, 1) := by decide +kernel
theorem dX12_maySearch_11 : decode cX12_maySearch 11 = .ok (.getfield 209, 3) := by decide +kernel
theorem dX12_maySearch_14 : decode cX12_maySearch 14 = .ok (.ifCond .eq 32, 3) := by decide +kernel
theorem dX12_maySearch_17 : decode cX12_maySearch 17 = .ok (.aload_n 0, 1) := by decide +kernel
theorem dX12_maySearch_18 : decode cX12_maySearch 18 = .ok (.getfield 47, 3) := by decide +kernel
theorem dX12_maySearch_21 : decode cX12_maySearch 21 = .ok (.iload_n 1, 1) := by decide +kernel
theorem dX12_maySearch_22 : decode cX12_maySearch 22 = .ok (.iaload, 1) := by decide +kernel
theorem dX12_maySearch_23 : decode cX12_maySearch 23 = .ok (.iconst 3, 1) := by decide +kernel
theorem dX12_maySearch_24 : decode cX12_maySearch 24 = .ok (.if_icmp .eq 14, 3) := by decide +kernel
theorem dX12_maySearch_27 : decode cX12_maySearch 27 = .ok (.aload_n 0, 1) := by decide +kernel
theorem dX12_maySearch_28 : decode cX12_maySearch 28 = .ok (.getfield 47, 3) := by decide +kernel
theorem dX12_maySearch_31 : decode cX12_maySearch 31 = .ok (.iload_n 1, 1) := by decide +kernel
theorem dX12_maySearch_32 : decode cX12_maySearch 32 = .ok (.iaload, 1) := by decide +kernel
theorem dX12_maySearch_33 : decode cX12_maySearch 33 = .ok (.bipush 6, 2) := by decide +kernel
theorem dX12_maySearch_35 : decode cX12_maySearch 35 = .ok (.if_icmp .ne 5, 3) := by decide +kernel
theorem dX12_maySearch_38 : decode cX12_maySearch 38 = .ok (.iconst 0, 1) := by decide +kernel
theorem dX12_maySearch_39 : decode cX12_maySearch 39 = .ok (.ireturn, 1) := by decide +kernel
theorem dX12_maySearch_40 : decode cX12_maySearch 40 = .ok (.iinc 1 1, 3) := by decide +kernel
theorem dX12_maySearch_43 : decode cX12_maySearch 43 = .ok (.goto (-41), 3) := by decide +kernel
theorem dX12_maySearch_46 : decode cX12_maySearch 46 = .ok (.iconst 0, 1) := by decide +kernel
theorem dX12_maySearch_47 : decode cX12_maySearch 47 = .ok (.istore_n 1, 1) := by decide +kernel
theorem dX12_maySearch_48 : decode cX12_maySearch 48 = .ok (.iload_n 1, 1) := by decide +kernel
theorem dX12_maySearch_49 : decode cX12_maySearch 49 = .ok (.aload_n 0, 1) := by decide +kernel
theorem dX12_maySearch_50 : decode cX12_maySearch 50 = .ok (.getfield 206, 3) := by decide +kernel
theorem dX12_maySearch_53 : decode cX12_maySearch 53 = .ok (.if_icmp .ge 19, 3) := by decide +kernel
theorem dX12_maySearch_56 : decode cX12_maySearch 56 = .ok (.aload_n 0, 1) := by decide +kernel
theorem dX12_maySearch_57 : decode cX12_maySearch 57 = .ok (.iload_n 1, 1) := by decide +kernel
theorem dX12_maySearch_58 : decode cX12_maySearch 58 = .ok (.invokevirtual 293, 3) := by decide +kernel
theorem dX12_maySearch_61 : decode cX12_maySearch 61 = .ok (.ifCond .ne 5, 3) := by decide +kernel
theorem dX12_maySearch_64 : decode cX12_maySearch 64 = .ok (.iconst 0, 1) := by decide +kernel
theorem dX12_maySearch_65 : decode cX12_maySearch 65 = .ok (.ireturn, 1) := by decide +kernel
theorem dX12_maySearch_66 : decode cX12_maySearch 66 = .ok (.iinc 1 1, 3) := by decide +kernel
theorem dX12_maySearch_69 : decode cX12_maySearch 69 = .ok (.goto (-21), 3) := by decide +kernel
theorem dX12_maySearch_72 : decode cX12_maySearch 72 = .ok (.iconst 1, 1) := by decide +kernel
theorem dX12_maySearch_73 : decode cX12_maySearch 73 = .ok (.ireturn, 1) := by decide +kernel
set_option maxHeartbeats 4000000 in
set_option maxRecDepth 100000 in
theorem c_X12_maySearch (l : Launch) {cs : Nat → ClassId} {ad : Nat → Nat} {A : Nat → Prop} {D : va_G} (hJ : hp_J SM ad A)   {h : hp_H} {Q : Int32 → hp_H → Prop} (hq : q_X12_maySearch h Q) : hp_Mi l yX12_maySearch cX12_maySearch 2 (some .boolean) rm_X12_maySearch [.ref (ad 0)] SM cs ad A D h Q := by
  refine hp_met (own := RX12) rfl (by decide) (Nat.le_of_ble_eq_true rfl) rfl (fun p e s m args below meth c Z E hZ hnm => ?_)
  refine hp_sub (lv' := [(0, .ref (ad 0))]) [0] rfl ?_
  unfold q_X12_maySearch at hq
  refine hp_iconst E (nI 0) dX12_maySearch_0 (by decide) ?_
  refine hp_istore_n (lv' := [(0, .ref (ad 0)), (1, .int (nI 0))]) E dX12_maySearch_1 rfl (by decide) rfl rfl ?_
  refine hq (fun v2 => hp_G p l e rm_X12_maySearch s m args below meth c SM cs ad A D 2 0 0 Z 2 [(0, .ref (ad 0)), (1, .int v2)] [] h) (fun v2 hB => ?_)
  obtain ⟨B1, hq, hB1⟩ := hB
  refine hp_iload_n E 1 dX12_maySearch_2 rfl rfl ?_
  refine hp_aload_n E 0 dX12_maySearch_3 rfl rfl ?_
  refine hp_gI E g_RX12_193 fM_0_15 dX12_maySearch_4 ?_
  obtain ⟨K4, hq, hK4⟩ := hq
  have jK4 : K4 → hp_G p l e rm_X12_maySearch s m args below meth c SM cs ad A D 2 0 0 Z 46 [(0, .ref (ad 0))] [] h := by
    intro  hq
    replace hq := hK4  hq
    refine hp_iconst E (nI 0) dX12_maySearch_46 (by decide) ?_
    refine hp_istore_n (lv' := [(0, .ref (ad 0)), (1, .int (nI 0))]) E dX12_maySearch_47 rfl (by decide) rfl rfl ?_
    refine hq (fun v10 h11 => hp_G p l e rm_X12_maySearch s m args below meth c SM cs ad A D 2 0 0 Z 48 [(0, .ref (ad 0)), (1, .int v10)] [] h11) (fun v10 h11 hB => ?_)
    obtain ⟨B9, hq, hB9⟩ := hB
    refine hp_iload_n E 1 dX12_maySearch_48 rfl rfl ?_
    refine hp_aload_n E 0 dX12_maySearch_49 rfl rfl ?_
    refine hp_gI E g_RX12_206 fM_0_21 dX12_maySearch_50 ?_
    refine hp_icmp_ge E 72 dX12_maySearch_53 (by decide) (fun c12 => ?_) (fun c12 => ?_)
    · replace hq := hq.1 c12
      refine hp_iconst E (nI 1) dX12_maySearch_72 (by decide) ?_
      exact hp_zret E (by unfold hp_bz; decide) hq hZ dX12_maySearch_73
    · replace hq := hq.2 c12
      refine hp_aload_n E 0 dX12_maySearch_56 rfl rfl ?_
      refine hp_iload_n E 1 dX12_maySearch_57 rfl rfl ?_
      refine hp_callVi' (rest := []) E 0 fM_0_0 vcl_12 (c_X12_isFit l hJ hq) F_X12_isFit m_RX12_293 ⟨rfl, rfl⟩ ⟨Nat.le_of_ble_eq_true rfl, Nat.le_of_ble_eq_true rfl⟩ ⟨Nat.zero_le _, Nat.zero_le _⟩ rfl rfl (Nat.le_of_ble_eq_true rfl) dX12_maySearch_58 (fun r13 h14 hq => ?_)
      refine hp_if_ne E 66 dX12_maySearch_61 (by decide) (fun c15 => ?_) (fun c15 => ?_)
      · replace hq := hq.2 c15
        obtain ⟨v16, ev16⟩ : ∃ z : Int32, z = v10 + (nI 1) := ⟨_, rfl⟩
        replace hq := hq v16 ev16
        refine hp_iinc (lv' := [(0, .ref (ad 0)), (1, .int v16)]) E 1 v16 dX12_maySearch_66 rfl (by rw [ev16]; rfl) (by decide) rfl rfl ?_
        refine hp_goto E 48 dX12_maySearch_69 (by decide) ?_
        exact hB9 _ _ hq
      · replace hq := hq.1 c15
        refine hp_iconst E (nI 0) dX12_maySearch_64 (by decide) ?_
        exact hp_zret E (by unfold hp_bz; decide) hq hZ dX12_maySearch_65
  refine hp_icmp_ge E 46 dX12_maySearch_7 (by decide) (fun c3 => ?_) (fun c3 => ?_)
  · replace hq := hq.1 c3
    refine hp_sub (lv' := [(0, .ref (ad 0))]) [0] rfl ?_
    exact jK4  hq
  · replace hq := hq.2 c3
    refine hp_aload_n E 0 dX12_maySearch_10 rfl rfl ?_
    refine hp_gI E g_RX12_209 fM_0_30 dX12_maySearch_11 ?_
    refine hp_if_eq E 46 dX12_maySearch_14 (by decide) (fun c5 => ?_) (fun c5 => ?_)
    · replace hq := hq.1 c5
      refine hp_sub (lv' := [(0, .ref (ad 0))]) [0] rfl ?_
      exact jK4  hq
    · replace hq := hq.2 c5
      refine hp_aload_n E 0 dX12_maySearch_17 rfl rfl ?_
      refine hp_gR E g_RX12_47 fM_0_16 dX12_maySearch_18 ?_
      refine hp_iload_n E 1 dX12_maySearch_21 rfl rfl ?_
      refine hp_iald E 13 aM_13 hq.1 dX12_maySearch_22 ?_
      replace hq := hq.2
      refine hp_iconst E (nI 3) dX12_maySearch_23 (by decide) ?_
      refine hp_icmp_eq E 38 dX12_maySearch_24 (by decide) (fun c6 => ?_) (fun c6 => ?_)
      · replace hq := hq.1 c6
        refine hp_iconst E (nI 0) dX12_maySearch_38 (by decide) ?_
        exact hp_zret E (by unfold hp_bz; decide) hq hZ dX12_maySearch_39
      · replace hq := hq.2 c6
        refine hp_aload_n E 0 dX12_maySearch_27 rfl rfl ?_
        refine hp_gR E g_RX12_47 fM_0_16 dX12_maySearch_28 ?_
        refine hp_iload_n E 1 dX12_maySearch_31 rfl rfl ?_
        refine hp_iald E 13 aM_13 hq.1 dX12_maySearch_32 ?_
        replace hq := hq.2
        refine hp_bipush E (nI 6) dX12_maySearch_33 (by decide) ?_
        refine hp_icmp_ne E 40 dX12_maySearch_35 (by decide) (fun c7 => ?_) (fun c7 => ?_)
        · replace hq := hq.2 c7
          obtain ⟨v8, ev8⟩ : ∃ z : Int32, z = v2 + (nI 1) := ⟨_, rfl⟩
          replace hq := hq v8 ev8
          refine hp_iinc (lv' := [(0, .ref (ad 0)), (1, .int v8)]) E 1 v8 dX12_maySearch_40 rfl (by rw [ev8]; rfl) (by decide) rfl rfl ?_
          refine hp_goto E 2 dX12_maySearch_43 (by decide) ?_
          exact hB1 _ hq
        · replace hq := hq.1 c7
          refine hp_iconst E (nI 0) dX12_maySearch_38 (by decide) ?_
          exact hp_zret E (by unfold hp_bz; decide) hq hZ dX12_maySearch_39
theorem dX12_search_0 : decode cX12_search 0 = .ok (.aload_n 0, 1) := by decide +kernel
theorem dX12_search_1 : decode cX12_search 1 = .ok (.invokevirtual 296, 3) := by decide +kernel
theorem dX12_search_4 : decode cX12_search 4 = .ok (.ifCond .ne 6, 3) := by decide +kernel
theorem dX12_search_7 : decode cX12_search 7 = .ok (.bipush (-5), 2) := by decide +kernel
theorem dX12_search_9 : decode cX12_search 9 = .ok (.ireturn, 1) := by decide +kernel
theorem dX12_search_10 : decode cX12_search 10 = .ok (.iconst 0, 1) := by decide +kernel
theorem dX12_search_11 : decode cX12_search 11 = .ok (.istore_n 1, 1) := by decide +kernel
theorem dX12_search_12 : decode cX12_search 12 = .ok (.iload_n 1, 1) := by decide +kernel
theorem dX12_search_13 : decode cX12_search 13 = .ok (.bipush 54, 2) := by decide +kernel
theorem dX12_search_15 : decode cX12_search 15 = .ok (.if_icmp .ge 16, 3) := by decide +kernel
theorem dX12_search_18 : decode cX12_search 18 = .ok (.aload_n 0, 1) := by decide +kernel
theorem dX12_search_19 : decode cX12_search 19 = .ok (.getfield 89, 3) := by decide +kernel
theorem dX12_search_22 : decode cX12_search 22 = .ok (.iload_n 1, 1) := by decide +kernel
theorem dX12_search_23 : decode cX12_search 23 = .ok (.iconst 0, 1) := by decide +kernel
theorem dX12_search_24 : decode cX12_search 24 = .ok (.iastore, 1) := by decide +kernel
theorem dX12_search_25 : decode cX12_search 25 = .ok (.iinc 1 1, 3) := by decide +kernel
theorem dX12_search_28 : decode cX12_search 28 = .ok (.goto (-16), 3) := by decide +kernel
theorem dX12_search_31 : decode cX12_search 31 = .ok (.iconst 0, 1) := by decide +kernel
theorem dX12_search_32 : decode cX12_search 32 = .ok (.istore_n 1, 1) := by decide +kernel
theorem dX12_search_33 : decode cX12_search 33 = .ok (.iload_n 1, 1) := by decide +kernel
theorem dX12_search_34 : decode cX12_search 34 = .ok (.aload_n 0, 1) := by decide +kernel
theorem dX12_search_35 : decode cX12_search 35 = .ok (.getfield 177, 3) := by decide +kernel
theorem dX12_search_38 : decode cX12_search 38 = .ok (.if_icmp .ge 21, 3) := by decide +kernel
theorem dX12_search_41 : decode cX12_search 41 = .ok (.aload_n 0, 1) := by decide +kernel
theorem dX12_search_42 : decode cX12_search 42 = .ok (.getfield 89, 3) := by decide +kernel
theorem dX12_search_45 : decode cX12_search 45 = .ok (.iload_n 1, 1) := by decide +kernel
theorem dX12_search_46 : decode cX12_search 46 = .ok (.aload_n 0, 1) := by decide +kernel
theorem dX12_search_47 : decode cX12_search 47 = .ok (.getfield 16, 3) := by decide +kernel
theorem dX12_search_50 : decode cX12_search 50 = .ok (.iload_n 1, 1) := by decide +kernel
theorem dX12_search_51 : decode cX12_search 51 = .ok (.iaload, 1) := by decide +kernel
theorem dX12_search_52 : decode cX12_search 52 = .ok (.iastore, 1) := by decide +kernel
theorem dX12_search_53 : decode cX12_search 53 = .ok (.iinc 1 1, 3) := by decide +kernel
theorem dX12_search_56 : decode cX12_search 56 = .ok (.goto (-23), 3) := by decide +kernel
theorem dX12_search_59 : decode cX12_search 59 = .ok (.iconst 0, 1) := by decide +kernel
theorem dX12_search_60 : decode cX12_search 60 = .ok (.istore_n 1, 1) := by decide +kernel
theorem dX12_search_61 : decode cX12_search 61 = .ok (.iload_n 1, 1) := by decide +kernel
theorem dX12_search_62 : decode cX12_search 62 = .ok (.aload_n 0, 1) := by decide +kernel
theorem dX12_search_63 : decode cX12_search 63 = .ok (.getfield 183, 3) := by decide +kernel
theorem dX12_search_66 : decode cX12_search 66 = .ok (.if_icmp .ge 69, 3) := by decide +kernel
theorem dX12_search_69 : decode cX12_search 69 = .ok (.iconst 0, 1) := by decide +kernel
theorem dX12_search_70 : decode cX12_search 70 = .ok (.istore_n 2, 1) := by decide +kernel
theorem dX12_search_71 : decode cX12_search 71 = .ok (.iload_n 2, 1) := by decide +kernel
theorem dX12_search_72 : decode cX12_search 72 = .ok (.aload_n 0, 1) := by decide +kernel
theorem dX12_search_73 : decode cX12_search 73 = .ok (.getfield 19, 3) := by decide +kernel
theorem dX12_search_76 : decode cX12_search 76 = .ok (.iload_n 1, 1) := by decide +kernel
theorem dX12_search_77 : decode cX12_search 77 = .ok (.iaload, 1) := by decide +kernel
theorem dX12_search_78 : decode cX12_search 78 = .ok (.if_icmp .ge 51, 3) := by decide +kernel
theorem dX12_search_81 : decode cX12_search 81 = .ok (.iconst 0, 1) := by decide +kernel
theorem dX12_search_82 : decode cX12_search 82 = .ok (.istore_n 3, 1) := by decide +kernel
theorem dX12_search_83 : decode cX12_search 83 = .ok (.iload_n 3, 1) := by decide +kernel
theorem dX12_search_84 : decode cX12_search 84 = .ok (.aload_n 0, 1) := by decide +kernel
theorem dX12_search_85 : decode cX12_search 85 = .ok (.getfield 22, 3) := by decide +kernel
theorem dX12_search_88 : decode cX12_search 88 = .ok (.iload_n 1, 1) := by decide +kernel
theorem dX12_search_89 : decode cX12_search 89 = .ok (.iaload, 1) := by decide +kernel
theorem dX12_search_90 : decode cX12_search 90 = .ok (.if_icmp .ge 33, 3) := by decide +kernel
theorem dX12_search_93 : decode cX12_search 93 = .ok (.aload_n 0, 1) := by decide +kernel
theorem dX12_search_94 : decode cX12_search 94 = .ok (.getfield 89, 3) := by decide +kernel
theorem dX12_search_97 : decode cX12_search 97 = .ok (.iload_n 1, 1) := by decide +kernel
theorem dX12_search_98 : decode cX12_search 98 = .ok (.iload_n 2, 1) := by decide +kernel
theorem dX12_search_99 : decode cX12_search 99 = .ok (.invokestatic 212, 3) := by decide +kernel
theorem dX12_search_102 : decode cX12_search 102 = .ok (.iconst 1, 1) := by decide +kernel
theorem dX12_search_103 : decode cX12_search 103 = .ok (.iadd, 1) := by decide +kernel
theorem dX12_search_104 : decode cX12_search 104 = .ok (.iload_n 3, 1) := by decide +kernel
theorem dX12_search_105 : decode cX12_search 105 = .ok (.iadd, 1) := by decide +kernel
theorem dX12_search_106 : decode cX12_search 106 = .ok (.aload_n 0, 1) := by decide +kernel
theorem dX12_search_107 : decode cX12_search 107 = .ok (.getfield 31, 3) := by decide +kernel
theorem dX12_search_110 : decode cX12_search 110 = .ok (.iconst 3, 1) := by decide +kernel
theorem dX12_search_111 : decode cX12_search 111 = .ok (.iload_n 1, 1) := by decide +kernel
theorem dX12_search_112 : decode cX12_search 112 = .ok (.imul, 1) := by decide +kernel
theorem dX12_search_113 : decode cX12_search 113 = .ok (.iload_n 3, 1) := by decide +kernel
theorem dX12_search_114 : decode cX12_search 114 = .ok (.iadd, 1) := by decide +kernel
theorem dX12_search_115 : decode cX12_search 115 = .ok (.iaload, 1) := by decide +kernel
theorem dX12_search_116 : decode cX12_search 116 = .ok (.iastore, 1) := by decide +kernel
theorem dX12_search_117 : decode cX12_search 117 = .ok (.iinc 3 1, 3) := by decide +kernel
theorem dX12_search_120 : decode cX12_search 120 = .ok (.goto (-37), 3) := by decide +kernel
theorem dX12_search_123 : decode cX12_search 123 = .ok (.iinc 2 1, 3) := by decide +kernel
theorem dX12_search_126 : decode cX12_search 126 = .ok (.goto (-55), 3) := by decide +kernel
theorem dX12_search_129 : decode cX12_search 129 = .ok (.iinc 1 1, 3) := by decide +kernel
theorem dX12_search_132 : decode cX12_search 132 = .ok (.goto (-71), 3) := by decide +kernel
theorem dX12_search_135 : decode cX12_search 135 = .ok (.aload_n 0, 1) := by decide +kernel
theorem dX12_search_136 : decode cX12_search 136 = .ok (.iconst 1, 1) := by decide +kernel
theorem dX12_search_137 : decode cX12_search 137 = .ok (.putfield 160, 3) := by decide +kernel
theorem dX12_search_140 : decode cX12_search 140 = .ok (.aload_n 0, 1) := by decide +kernel
theorem dX12_search_141 : decode cX12_search 141 = .ok (.iconst 0, 1) := by decide +kernel
theorem dX12_search_142 : decode cX12_search 142 = .ok (.putfield 164, 3) := by decide +kernel
theorem dX12_search_145 : decode cX12_search 145 = .ok (.aload_n 0, 1) := by decide +kernel
theorem dX12_search_146 : decode cX12_search 146 = .ok (.iconst 0, 1) := by decide +kernel
theorem dX12_search_147 : decode cX12_search 147 = .ok (.putfield 247, 3) := by decide +kernel
theorem dX12_search_150 : decode cX12_search 150 = .ok (.aload_n 0, 1) := by decide +kernel
theorem dX12_search_151 : decode cX12_search 151 = .ok (.iconst 1, 1) := by decide +kernel
theorem dX12_search_152 : decode cX12_search 152 = .ok (.putfield 167, 3) := by decide +kernel
theorem dX12_search_155 : decode cX12_search 155 = .ok (.aload_n 0, 1) := by decide +kernel
theorem dX12_search_156 : decode cX12_search 156 = .ok (.iconst 0, 1) := by decide +kernel
theorem dX12_search_157 : decode cX12_search 157 = .ok (.putfield 171, 3) := by decide +kernel
theorem dX12_search_160 : decode cX12_search 160 = .ok (.aload_n 0, 1) := by decide +kernel
theorem dX12_search_161 : decode cX12_search 161 = .ok (.getfield 92, 3) := by decide +kernel
theorem dX12_search_164 : decode cX12_search 164 = .ok (.iconst 0, 1) := by decide +kernel
theorem dX12_search_165 : decode cX12_search 165 = .ok (.iconst (-1), 1) := by decide +kernel
theorem dX12_search_166 : decode cX12_search 166 = .ok (.iastore, 1) := by decide +kernel
theorem dX12_search_167 : decode cX12_search 167 = .ok (.aload_n 0, 1) := by decide +kernel
theorem dX12_search_168 : decode cX12_search 168 = .ok (.getfield 95, 3) := by decide +kernel
theorem dX12_search_171 : decode cX12_search 171 = .ok (.iconst 0, 1) := by decide +kernel
theorem dX12_search_172 : decode cX12_search 172 = .ok (.iconst (-1), 1) := by decide +kernel
theorem dX12_search_173 : decode cX12_search 173 = .ok (.iastore, 1) := by decide +kernel
theorem dX12_search_174 : decode cX12_search 174 = .ok (.aload_n 0, 1) := by decide +kernel
theorem dX12_search_175 : decode cX12_search 175 = .ok (.getfield 98, 3) := by decide +kernel
theorem dX12_search_178 : decode cX12_search 178 = .ok (.iconst 0, 1) := by decide +kernel
theorem dX12_search_179 : decode cX12_search 179 = .ok (.iconst 0, 1) := by decide +kernel
theorem dX12_search_180 : decode cX12_search 180 = .ok (.iastore, 1) := by decide +kernel
theorem dX12_search_181 : decode cX12_search 181 = .ok (.iconst 0, 1) := by decide +kernel
theorem dX12_search_182 : decode cX12_search 182 = .ok (.istore_n 1, 1) := by decide +kernel
theorem dX12_search_183 : decode cX12_search 183 = .ok (.iload_n 1, 1) := by decide +kernel
theorem dX12_search_184 : decode cX12_search 184 = .ok (.aload_n 0, 1) := by decide +kernel
theorem dX12_search_185 : decode cX12_search 185 = .ok (.getfield 167, 3) := by decide +kernel
theorem dX12_search_188 : decode cX12_search 188 = .ok (.if_icmp .ge 37, 3) := by decide +kernel
theorem dX12_search_191 : decode cX12_search 191 = .ok (.aload_n 0, 1) := by decide +kernel
theorem dX12_search_192 : decode cX12_search 192 = .ok (.iload_n 1, 1) := by decide +kernel
theorem dX12_search_193 : decode cX12_search 193 = .ok (.invokevirtual 300, 3) := by decide +kernel
theorem dX12_search_196 : decode cX12_search 196 = .ok (.ifCond .ne 11, 3) := by decide +kernel
theorem dX12_search_199 : decode cX12_search 199 = .ok (.aload_n 0, 1) := by decide +kernel
theorem dX12_search_200 : decode cX12_search 200 = .ok (.iconst 1, 1) := by decide +kernel
theorem dX12_search_201 : decode cX12_search 201 = .ok (.putfield 164, 3) := by decide +kernel
theorem dX12_search_204 : decode cX12_search 204 = .ok (.bipush (-7), 2) := by decide +kernel
theorem dX12_search_206 : decode cX12_search 206 = .ok (.ireturn, 1) := by decide +kernel
theorem dX12_search_207 : decode cX12_search 207 = .ok (.aload_n 0, 1) := by decide +kernel
theorem dX12_search_208 : decode cX12_search 208 = .ok (.getfield 101, 3) := by decide +kernel
theorem dX12_search_211 : decode cX12_search 211 = .ok (.iload_n 1, 1) := by decide +kernel
theorem dX12_search_212 : decode cX12_search 212 = .ok (.iconst 1, 1) := by decide +kernel
theorem dX12_search_213 : decode cX12_search 213 = .ok (.iadd, 1) := by decide +kernel
theorem dX12_search_214 : decode cX12_search 214 = .ok (.aload_n 0, 1) := by decide +kernel
theorem dX12_search_215 : decode cX12_search 215 = .ok (.getfield 171, 3) := by decide +kernel
theorem dX12_search_218 : decode cX12_search 218 = .ok (.iastore, 1) := by decide +kernel
theorem dX12_search_219 : decode cX12_search 219 = .ok (.iinc 1 1, 3) := by decide +kernel
theorem dX12_search_222 : decode cX12_search 222 = .ok (.goto (-39), 3) := by decide +kernel
theorem dX12_search_225 : decode cX12_search 225 = .ok (.aload_n 0, 1) := by decide +kernel
theorem dX12_search_226 : decode cX12_search 226 = .ok (.getfield 167, 3) := by decide +kernel
theorem dX12_search_229 : decode cX12_search 229 = .ok (.ireturn, 1) := by decide +kernel
set_option maxHeartbeats 4000000 in
set_option maxRecDepth 100000 in
theorem c_X12_search (l : Launch) {cs : Nat → ClassId} {ad : Nat → Nat} {A : Nat → Prop} {D : va_G} (hJ : hp_J SM ad A)   {h : hp_H} {Q : Int32 → hp_H → Prop} (hq : q_X12_search h Q) : hp_Mi l yX12_search cX12_search 4 (some .int) rm_X12_search [.ref (ad 0)] SM cs ad A D h Q := by
  refine hp_met (own := RX12) rfl (by decide) (Nat.le_of_ble_eq_true rfl) rfl (fun p e s m args below meth c Z E hZ hnm => ?_)
  refine hp_sub (lv' := [(0, .ref (ad 0))]) [0] rfl ?_
  unfold q_X12_search at hq
  refine hp_aload_n E 0 dX12_search_0 rfl rfl ?_
  refine hp_callVi' (rest := []) E 0 fM_0_0 vcl_12 (c_X12_maySearch l hJ hq) F_X12_maySearch m_RX12_296 ⟨rfl, rfl⟩ ⟨Nat.le_of_ble_eq_true rfl, Nat.le_of_ble_eq_true rfl⟩ ⟨Nat.zero_le _, Nat.zero_le _⟩ rfl rfl (Nat.le_of_ble_eq_true rfl) dX12_search_1 (fun r1 h2 hq => ?_)
  refine hp_if_ne E 10 dX12_search_4 (by decide) (fun c3 => ?_) (fun c3 => ?_)
  · replace hq := hq.2 c3
    refine hp_iconst E (nI 0) dX12_search_10 (by decide) ?_
    refine hp_istore_n (lv' := [(0, .ref (ad 0)), (1, .int (nI 0))]) E dX12_search_11 rfl (by decide) rfl rfl ?_
    refine hq (fun v5 h6 => hp_G p l e rm_X12_search s m args below meth c SM cs ad A D 4 0 0 Z 12 [(0, .ref (ad 0)), (1, .int v5)] [] h6) (fun v5 h6 hB => ?_)
    obtain ⟨B4, hq, hB4⟩ := hB
    refine hp_iload_n E 1 dX12_search_12 rfl rfl ?_
    refine hp_bipush E (nI 54) dX12_search_13 (by decide) ?_
    refine hp_icmp_ge E 31 dX12_search_15 (by decide) (fun c7 => ?_) (fun c7 => ?_)
    · replace hq := hq.1 c7
      refine hp_iconst E (nI 0) dX12_search_31 (by decide) ?_
      refine hp_istore_n (lv' := [(0, .ref (ad 0)), (1, .int (nI 0))]) E dX12_search_32 rfl (by decide) rfl rfl ?_
      refine hq (fun v9 h10 => hp_G p l e rm_X12_search s m args below meth c SM cs ad A D 4 0 0 Z 33 [(0, .ref (ad 0)), (1, .int v9)] [] h10) (fun v9 h10 hB => ?_)
      obtain ⟨B8, hq, hB8⟩ := hB
      refine hp_iload_n E 1 dX12_search_33 rfl rfl ?_
      refine hp_aload_n E 0 dX12_search_34 rfl rfl ?_
      refine hp_gI E g_RX12_177 fM_0_0 dX12_search_35 ?_
      refine hp_icmp_ge E 59 dX12_search_38 (by decide) (fun c11 => ?_) (fun c11 => ?_)
      · replace hq := hq.1 c11
        refine hp_iconst E (nI 0) dX12_search_59 (by decide) ?_
        refine hp_istore_n (lv' := [(0, .ref (ad 0)), (1, .int (nI 0))]) E dX12_search_60 rfl (by decide) rfl rfl ?_
        refine hq (fun v13 h14 => hp_G p l e rm_X12_search s m args below meth c SM cs ad A D 4 0 0 Z 61 [(0, .ref (ad 0)), (1, .int v13)] [] h14) (fun v13 h14 hB => ?_)
        obtain ⟨B12, hq, hB12⟩ := hB
        refine hp_iload_n E 1 dX12_search_61 rfl rfl ?_
        refine hp_aload_n E 0 dX12_search_62 rfl rfl ?_
        refine hp_gI E g_RX12_183 fM_0_4 dX12_search_63 ?_
        refine hp_icmp_ge E 135 dX12_search_66 (by decide) (fun c15 => ?_) (fun c15 => ?_)
        · replace hq := hq.1 c15
          refine hp_aload_n E 0 dX12_search_135 rfl rfl ?_
          refine hp_iconst E (nI 1) dX12_search_136 (by decide) ?_
          refine hp_pZ E p_RX12_160 fM_0_33 (by decide) hJ (by unfold hp_bz; decide) dX12_search_137 ?_
          refine hp_toph (fun h16 eh16 => ?_)
          replace hq := hq h16 eh16
          refine hp_aload_n E 0 dX12_search_140 rfl rfl ?_
          refine hp_iconst E (nI 0) dX12_search_141 (by decide) ?_
          refine hp_pZ E p_RX12_164 fM_0_34 (by decide) hJ (by unfold hp_bz; decide) dX12_search_142 ?_
          refine hp_toph (fun h17 eh17 => ?_)
          replace hq := hq h17 eh17
          refine hp_aload_n E 0 dX12_search_145 rfl rfl ?_
          refine hp_iconst E (nI 0) dX12_search_146 (by decide) ?_
          refine hp_pZ E p_RX12_247 fM_0_46 (by decide) hJ (by unfold hp_bz; decide) dX12_search_147 ?_
          refine hp_toph (fun h18 eh18 => ?_)
          replace hq := hq h18 eh18
          refine hp_aload_n E 0 dX12_search_150 rfl rfl ?_
          refine hp_iconst E (nI 1) dX12_search_151 (by decide) ?_
          refine hp_pI E p_RX12_167 fM_0_35 (by decide) hJ dX12_search_152 ?_
          refine hp_toph (fun h19 eh19 => ?_)
          replace hq := hq h19 eh19
          refine hp_aload_n E 0 dX12_search_155 rfl rfl ?_
          refine hp_iconst E (nI 0) dX12_search_156 (by decide) ?_
          refine hp_pI E p_RX12_171 fM_0_40 (by decide) hJ dX12_search_157 ?_
          refine hp_toph (fun h20 eh20 => ?_)
          replace hq := hq h20 eh20
          refine hp_aload_n E 0 dX12_search_160 rfl rfl ?_
          refine hp_gR E g_RX12_92 fM_0_37 dX12_search_161 ?_
          refine hp_iconst E (nI 0) dX12_search_164 (by decide) ?_
          refine hp_iconst E (-1) dX12_search_165 (by decide) ?_
          have hin := hq.1
          replace hq := hq.2
          refine hp_iast E 28 aM_28 zM_28 hJ hin dX12_search_166 ?_
          refine hp_toph (fun h21 eh21 => ?_)
          replace hq := hq h21 eh21
          refine hp_aload_n E 0 dX12_search_167 rfl rfl ?_
          refine hp_gR E g_RX12_95 fM_0_38 dX12_search_168 ?_
          refine hp_iconst E (nI 0) dX12_search_171 (by decide) ?_
          refine hp_iconst E (-1) dX12_search_172 (by decide) ?_
          have hin := hq.1
          replace hq := hq.2
          refine hp_iast E 29 aM_29 zM_29 hJ hin dX12_search_173 ?_
          refine hp_toph (fun h22 eh22 => ?_)
          replace hq := hq h22 eh22
          refine hp_aload_n E 0 dX12_search_174 rfl rfl ?_
          refine hp_gR E g_RX12_98 fM_0_39 dX12_search_175 ?_
          refine hp_iconst E (nI 0) dX12_search_178 (by decide) ?_
          refine hp_iconst E (nI 0) dX12_search_179 (by decide) ?_
          have hin := hq.1
          replace hq := hq.2
          refine hp_iast E 30 aM_30 zM_30 hJ hin dX12_search_180 ?_
          refine hp_toph (fun h23 eh23 => ?_)
          replace hq := hq h23 eh23
          refine hp_iconst E (nI 0) dX12_search_181 (by decide) ?_
          refine hp_istore_n (lv' := [(0, .ref (ad 0)), (1, .int (nI 0))]) E dX12_search_182 rfl (by decide) rfl rfl ?_
          refine hq (fun v25 h26 => hp_G p l e rm_X12_search s m args below meth c SM cs ad A D 4 0 0 Z 183 [(0, .ref (ad 0)), (1, .int v25)] [] h26) (fun v25 h26 hB => ?_)
          obtain ⟨B24, hq, hB24⟩ := hB
          refine hp_iload_n E 1 dX12_search_183 rfl rfl ?_
          refine hp_aload_n E 0 dX12_search_184 rfl rfl ?_
          refine hp_gI E g_RX12_167 fM_0_35 dX12_search_185 ?_
          refine hp_icmp_ge E 225 dX12_search_188 (by decide) (fun c27 => ?_) (fun c27 => ?_)
          · replace hq := hq.1 c27
            refine hp_aload_n E 0 dX12_search_225 rfl rfl ?_
            refine hp_gI E g_RX12_167 fM_0_35 dX12_search_226 ?_
            exact hp_iret E hq hZ dX12_search_229
          · replace hq := hq.2 c27
            refine hp_aload_n E 0 dX12_search_191 rfl rfl ?_
            refine hp_iload_n E 1 dX12_search_192 rfl rfl ?_
            refine hp_callVi' (rest := []) E 0 fM_0_0 vcl_12 (c_X12_goThrough l hJ hq) F_X12_goThrough m_RX12_300 ⟨rfl, rfl⟩ ⟨Nat.le_of_ble_eq_true rfl, Nat.le_of_ble_eq_true rfl⟩ ⟨Nat.zero_le _, Nat.zero_le _⟩ rfl rfl (Nat.le_of_ble_eq_true rfl) dX12_search_193 (fun r28 h29 hq => ?_)
            refine hp_if_ne E 207 dX12_search_196 (by decide) (fun c30 => ?_) (fun c30 => ?_)
            · replace hq := hq.2 c30
              refine hp_aload_n E 0 dX12_search_207 rfl rfl ?_
              refine hp_gR E g_RX12_101 fM_0_41 dX12_search_208 ?_
              refine hp_iload_n E 1 dX12_search_211 rfl rfl ?_
              refine hp_iconst E (nI 1) dX12_search_212 (by decide) ?_
              refine hp_iadd E dX12_search_213 ?_
              refine hp_aload_n E 0 dX12_search_214 rfl rfl ?_
              refine hp_gI E g_RX12_171 fM_0_40 dX12_search_215 ?_
              have hin := hq.1
              replace hq := hq.2
              refine hp_iast E 31 aM_31 zM_31 hJ hin dX12_search_218 ?_
              refine hp_toph (fun h31 eh31 => ?_)
              replace hq := hq h31 eh31
              obtain ⟨v32, ev32⟩ : ∃ z : Int32, z = v25 + (nI 1) := ⟨_, rfl⟩
              replace hq := hq v32 ev32
              refine hp_iinc (lv' := [(0, .ref (ad 0)), (1, .int v32)]) E 1 v32 dX12_search_219 rfl (by rw [ev32]; rfl) (by decide) rfl rfl ?_
              refine hp_goto E 183 dX12_search_222 (by decide) ?_
              exact hB24 _ _ hq
            · replace hq := hq.1 c30
              refine hp_aload_n E 0 dX12_search_199 rfl rfl ?_
              refine hp_iconst E (nI 1) dX12_search_200 (by decide) ?_
              refine hp_pZ E p_RX12_164 fM_0_34 (by decide) hJ (by unfold hp_bz; decide) dX12_search_201 ?_
              refine hp_toph (fun h33 eh33 => ?_)
              replace hq := hq h33 eh33
              refine hp_bipush E (-7) dX12_search_204 (by decide) ?_
              exact hp_iret E hq hZ dX12_search_206
        · replace hq := hq.2 c15
          refine hp_iconst E (nI 0) dX12_search_69 (by decide) ?_
          refine hp_istore_n (lv' := [(0, .ref (ad 0)), (1, .int v13), (2, .int (nI 0))]) E dX12_search_70 rfl (by decide) rfl rfl ?_
          refine hq (fun v35 h36 => hp_G p l e rm_X12_search s m args below meth c SM cs ad A D 4 0 0 Z 71 [(0, .ref (ad 0)), (1, .int v13), (2, .int v35)] [] h36) (fun v35 h36 hB => ?_)
          obtain ⟨B34, hq, hB34⟩ := hB
          refine hp_iload_n E 2 dX12_search_71 rfl rfl ?_
          refine hp_aload_n E 0 dX12_search_72 rfl rfl ?_
          refine hp_gR E g_RX12_19 fM_0_5 dX12_search_73 ?_
          refine hp_iload_n E 1 dX12_search_76 rfl rfl ?_
          refine hp_iald E 4 aM_4 hq.1 dX12_search_77 ?_
          replace hq := hq.2
          refine hp_icmp_ge E 129 dX12_search_78 (by decide) (fun c37 => ?_) (fun c37 => ?_)
          · replace hq := hq.1 c37
            obtain ⟨v38, ev38⟩ : ∃ z : Int32, z = v13 + (nI 1) := ⟨_, rfl⟩
            replace hq := hq v38 ev38
            refine hp_iinc (lv' := [(0, .ref (ad 0)), (1, .int v38), (2, .int v35)]) E 1 v38 dX12_search_129 rfl (by rw [ev38]; rfl) (by decide) rfl rfl ?_
            refine hp_goto E 61 dX12_search_132 (by decide) ?_
            refine hp_sub (lv' := [(0, .ref (ad 0)), (1, .int v38)]) [0, 1] rfl ?_
            exact hB12 _ _ hq
          · replace hq := hq.2 c37
            refine hp_iconst E (nI 0) dX12_search_81 (by decide) ?_
            refine hp_istore_n (lv' := [(0, .ref (ad 0)), (1, .int v13), (2, .int v35), (3, .int (nI 0))]) E dX12_search_82 rfl (by decide) rfl rfl ?_
            refine hq (fun v40 h41 => hp_G p l e rm_X12_search s m args below meth c SM cs ad A D 4 0 0 Z 83 [(0, .ref (ad 0)), (1, .int v13), (2, .int v35), (3, .int v40)] [] h41) (fun v40 h41 hB => ?_)
            obtain ⟨B39, hq, hB39⟩ := hB
            refine hp_iload_n E 3 dX12_search_83 rfl rfl ?_
            refine hp_aload_n E 0 dX12_search_84 rfl rfl ?_
            refine hp_gR E g_RX12_22 fM_0_6 dX12_search_85 ?_
            refine hp_iload_n E 1 dX12_search_88 rfl rfl ?_
            refine hp_iald E 5 aM_5 hq.1 dX12_search_89 ?_
            replace hq := hq.2
            refine hp_icmp_ge E 123 dX12_search_90 (by decide) (fun c42 => ?_) (fun c42 => ?_)
            · replace hq := hq.1 c42
              obtain ⟨v43, ev43⟩ : ∃ z : Int32, z = v35 + (nI 1) := ⟨_, rfl⟩
              replace hq := hq v43 ev43
              refine hp_iinc (lv' := [(0, .ref (ad 0)), (1, .int v13), (2, .int v43), (3, .int v40)]) E 2 v43 dX12_search_123 rfl (by rw [ev43]; rfl) (by decide) rfl rfl ?_
              refine hp_goto E 71 dX12_search_126 (by decide) ?_
              refine hp_sub (lv' := [(0, .ref (ad 0)), (1, .int v13), (2, .int v43)]) [0, 1, 2] rfl ?_
              exact hB34 _ _ hq
            · replace hq := hq.2 c42
              refine hp_aload_n E 0 dX12_search_93 rfl rfl ?_
              refine hp_gR E g_RX12_89 fM_0_36 dX12_search_94 ?_
              refine hp_iload_n E 1 dX12_search_97 rfl rfl ?_
              refine hp_iload_n E 2 dX12_search_98 rfl rfl ?_
              refine hp_callSip (rest := [.ref (ad 27)]) E (c_X12_memberAt l hJ hq) F_X12_memberAt m_RX12_212 ⟨rfl, rfl⟩ ⟨Nat.le_of_ble_eq_true rfl, Nat.le_of_ble_eq_true rfl⟩ ⟨Nat.zero_le _, Nat.zero_le _⟩ rfl rfl (Nat.le_of_ble_eq_true rfl) dX12_search_99 (fun r44 hq => ?_)
              refine hp_iconst E (nI 1) dX12_search_102 (by decide) ?_
              refine hp_iadd E dX12_search_103 ?_
              refine hp_iload_n E 3 dX12_search_104 rfl rfl ?_
              refine hp_iadd E dX12_search_105 ?_
              refine hp_aload_n E 0 dX12_search_106 rfl rfl ?_
              refine hp_gR E g_RX12_31 fM_0_9 dX12_search_107 ?_
              refine hp_iconst E (nI 3) dX12_search_110 (by decide) ?_
              refine hp_iload_n E 1 dX12_search_111 rfl rfl ?_
              refine hp_imul E dX12_search_112 ?_
              refine hp_iload_n E 3 dX12_search_113 rfl rfl ?_
              refine hp_iadd E dX12_search_114 ?_
              refine hp_iald E 8 aM_8 hq.1 dX12_search_115 ?_
              replace hq := hq.2
              have hin := hq.1
              replace hq := hq.2
              refine hp_iast E 27 aM_27 zM_27 hJ hin dX12_search_116 ?_
              refine hp_toph (fun h45 eh45 => ?_)
              replace hq := hq h45 eh45
              obtain ⟨v46, ev46⟩ : ∃ z : Int32, z = v40 + (nI 1) := ⟨_, rfl⟩
              replace hq := hq v46 ev46
              refine hp_iinc (lv' := [(0, .ref (ad 0)), (1, .int v13), (2, .int v35), (3, .int v46)]) E 3 v46 dX12_search_117 rfl (by rw [ev46]; rfl) (by decide) rfl rfl ?_
              refine hp_goto E 83 dX12_search_120 (by decide) ?_
              exact hB39 _ _ hq
      · replace hq := hq.2 c11
        refine hp_aload_n E 0 dX12_search_41 rfl rfl ?_
        refine hp_gR E g_RX12_89 fM_0_36 dX12_search_42 ?_
        refine hp_iload_n E 1 dX12_search_45 rfl rfl ?_
        refine hp_aload_n E 0 dX12_search_46 rfl rfl ?_
        refine hp_gR E g_RX12_16 fM_0_3 dX12_search_47 ?_
        refine hp_iload_n E 1 dX12_search_50 rfl rfl ?_
        refine hp_iald E 3 aM_3 hq.1 dX12_search_51 ?_
        replace hq := hq.2
        have hin := hq.1
        replace hq := hq.2
        refine hp_iast E 27 aM_27 zM_27 hJ hin dX12_search_52 ?_
        refine hp_toph (fun h47 eh47 => ?_)
        replace hq := hq h47 eh47
        obtain ⟨v48, ev48⟩ : ∃ z : Int32, z = v9 + (nI 1) := ⟨_, rfl⟩
        replace hq := hq v48 ev48
        refine hp_iinc (lv' := [(0, .ref (ad 0)), (1, .int v48)]) E 1 v48 dX12_search_53 rfl (by rw [ev48]; rfl) (by decide) rfl rfl ?_
        refine hp_goto E 33 dX12_search_56 (by decide) ?_
        exact hB8 _ _ hq
    · replace hq := hq.2 c7
      refine hp_aload_n E 0 dX12_search_18 rfl rfl ?_
      refine hp_gR E g_RX12_89 fM_0_36 dX12_search_19 ?_
      refine hp_iload_n E 1 dX12_search_22 rfl rfl ?_
      refine hp_iconst E (nI 0) dX12_search_23 (by decide) ?_
      have hin := hq.1
      replace hq := hq.2
      refine hp_iast E 27 aM_27 zM_27 hJ hin dX12_search_24 ?_
      refine hp_toph (fun h49 eh49 => ?_)
      replace hq := hq h49 eh49
      obtain ⟨v50, ev50⟩ : ∃ z : Int32, z = v5 + (nI 1) := ⟨_, rfl⟩
      replace hq := hq v50 ev50
      refine hp_iinc (lv' := [(0, .ref (ad 0)), (1, .int v50)]) E 1 v50 dX12_search_25 rfl (by rw [ev50]; rfl) (by decide) rfl rfl ?_
      refine hp_goto E 12 dX12_search_28 (by decide) ?_
      exact hB4 _ _ hq
  · replace hq := hq.1 c3
    refine hp_bipush E (-5) dX12_search_7 (by decide) ?_
    exact hp_iret E hq hZ dX12_search_9
