theorem dX3_follow_0 : decode cX3_follow 0 = .ok (.aload_n 0, 1) := by decide +kernel
theorem dX3_follow_1 : decode cX3_follow 1 = .ok (.getfield 31, 3) := by decide +kernel
theorem dX3_follow_4 : decode cX3_follow 4 = .ok (.iload_n 1, 1) := by decide +kernel
theorem dX3_follow_5 : decode cX3_follow 5 = .ok (.dup2, 1) := by decide +kernel
theorem dX3_follow_6 : decode cX3_follow 6 = .ok (.iaload, 1) := by decide +kernel
theorem dX3_follow_7 : decode cX3_follow 7 = .ok (.iconst 1, 1) := by decide +kernel
theorem dX3_follow_8 : decode cX3_follow 8 = .ok (.iadd, 1) := by decide +kernel
theorem dX3_follow_9 : decode cX3_follow 9 = .ok (.iastore, 1) := by decide +kernel
theorem dX3_follow_10 : decode cX3_follow 10 = .ok (.aload_n 0, 1) := by decide +kernel
theorem dX3_follow_11 : decode cX3_follow 11 = .ok (.getfield 9, 3) := by decide +kernel
theorem dX3_follow_14 : decode cX3_follow 14 = .ok (.iload_n 2, 1) := by decide +kernel
theorem dX3_follow_15 : decode cX3_follow 15 = .ok (.baload, 1) := by decide +kernel
theorem dX3_follow_16 : decode cX3_follow 16 = .ok (.ifCond .ne 4, 3) := by decide +kernel
theorem dX3_follow_19 : decode cX3_follow 19 = .ok (.return_, 1) := by decide +kernel
theorem dX3_follow_20 : decode cX3_follow 20 = .ok (.aload_n 0, 1) := by decide +kernel
theorem dX3_follow_21 : decode cX3_follow 21 = .ok (.getfield 24, 3) := by decide +kernel
theorem dX3_follow_24 : decode cX3_follow 24 = .ok (.iload_n 2, 1) := by decide +kernel
theorem dX3_follow_25 : decode cX3_follow 25 = .ok (.iaload, 1) := by decide +kernel
theorem dX3_follow_26 : decode cX3_follow 26 = .ok (.ifCond .ne 11, 3) := by decide +kernel
theorem dX3_follow_29 : decode cX3_follow 29 = .ok (.aload_n 0, 1) := by decide +kernel
theorem dX3_follow_30 : decode cX3_follow 30 = .ok (.iload_n 2, 1) := by decide +kernel
theorem dX3_follow_31 : decode cX3_follow 31 = .ok (.invokevirtual 116, 3) := by decide +kernel
theorem dX3_follow_34 : decode cX3_follow 34 = .ok (.goto 34, 3) := by decide +kernel
theorem dX3_follow_37 : decode cX3_follow 37 = .ok (.aload_n 0, 1) := by decide +kernel
theorem dX3_follow_38 : decode cX3_follow 38 = .ok (.getfield 34, 3) := by decide +kernel
theorem dX3_follow_41 : decode cX3_follow 41 = .ok (.iload_n 2, 1) := by decide +kernel
theorem dX3_follow_42 : decode cX3_follow 42 = .ok (.iaload, 1) := by decide +kernel
theorem dX3_follow_43 : decode cX3_follow 43 = .ok (.iconst (-1), 1) := by decide +kernel
theorem dX3_follow_44 : decode cX3_follow 44 = .ok (.if_icmp .ne 24, 3) := by decide +kernel
theorem dX3_follow_47 : decode cX3_follow 47 = .ok (.aload_n 0, 1) := by decide +kernel
theorem dX3_follow_48 : decode cX3_follow 48 = .ok (.getfield 28, 3) := by decide +kernel
theorem dX3_follow_51 : decode cX3_follow 51 = .ok (.iload_n 1, 1) := by decide +kernel
theorem dX3_follow_52 : decode cX3_follow 52 = .ok (.aload_n 0, 1) := by decide +kernel
theorem dX3_follow_53 : decode cX3_follow 53 = .ok (.getfield 28, 3) := by decide +kernel
theorem dX3_follow_56 : decode cX3_follow 56 = .ok (.iload_n 1, 1) := by decide +kernel
theorem dX3_follow_57 : decode cX3_follow 57 = .ok (.iaload, 1) := by decide +kernel
theorem dX3_follow_58 : decode cX3_follow 58 = .ok (.aload_n 0, 1) := by decide +kernel
theorem dX3_follow_59 : decode cX3_follow 59 = .ok (.getfield 24, 3) := by decide +kernel
theorem dX3_follow_62 : decode cX3_follow 62 = .ok (.iload_n 2, 1) := by decide +kernel
theorem dX3_follow_63 : decode cX3_follow 63 = .ok (.iaload, 1) := by decide +kernel
theorem dX3_follow_64 : decode cX3_follow 64 = .ok (.invokestatic 135, 3) := by decide +kernel
theorem dX3_follow_67 : decode cX3_follow 67 = .ok (.iastore, 1) := by decide +kernel
theorem dX3_follow_68 : decode cX3_follow 68 = .ok (.return_, 1) := by decide +kernel
set_option maxHeartbeats 4000000 in
set_option maxRecDepth 100000 in
theorem c_X3_follow (l : Launch) {cs : Nat → ClassId} {ad : Nat → Nat} {A : Nat → Prop} {D : va_G} (hJ : hp_J SB ad A)   {h : hp_H} {a1 a2 : Int32} {Q : hp_H → Prop} (hq : q_X3_follow h a1 a2 Q) : hp_Mv l yX3_follow cX3_follow 3 none rm_X3_follow [.ref (ad 53), .int a1, .int a2] SB cs ad A D h Q := by
  refine hp_met (own := RX3) rfl (by decide) (Nat.le_of_ble_eq_true rfl) rfl (fun p e s m args below meth c Z E hZ hnm => ?_)
  refine hp_sub (lv' := [(0, .ref (ad 53)), (1, .int a1), (2, .int a2)]) [0, 1, 2] rfl ?_
  unfold q_X3_follow at hq
  refine hp_aload_n E 0 dX3_follow_0 rfl rfl ?_
  refine hp_gR E g_RX3_31 fB_53_9 dX3_follow_1 ?_
  refine hp_iload_n E 1 dX3_follow_4 rfl rfl ?_
  refine hp_dup2 E rfl rfl dX3_follow_5 ?_
  refine hp_iald E 60 aB_60 hq.1 dX3_follow_6 ?_
  replace hq := hq.2
  refine hp_iconst E (nI 1) dX3_follow_7 (by decide) ?_
  refine hp_iadd E dX3_follow_8 ?_
  have hin := hq.1
  replace hq := hq.2
  refine hp_iast E 60 aB_60 zB_60 hJ hin dX3_follow_9 ?_
  refine hp_toph (fun h1 eh1 => ?_)
  replace hq := hq h1 eh1
  refine hp_aload_n E 0 dX3_follow_10 rfl rfl ?_
  refine hp_gR E g_RX3_9 fB_53_3 dX3_follow_11 ?_
  refine hp_iload_n E 2 dX3_follow_14 rfl rfl ?_
  refine hp_zald E 54 aB_54 hq.1 dX3_follow_15 ?_
  replace hq := hq.2
  refine hp_if_ne E 20 dX3_follow_16 (by decide) (fun c2 => ?_) (fun c2 => ?_)
  · replace hq := hq.2 c2
    refine hp_aload_n E 0 dX3_follow_20 rfl rfl ?_
    refine hp_gR E g_RX3_24 fB_53_7 dX3_follow_21 ?_
    refine hp_iload_n E 2 dX3_follow_24 rfl rfl ?_
    refine hp_iald E 58 aB_58 hq.1 dX3_follow_25 ?_
    replace hq := hq.2
    refine hp_if_ne E 37 dX3_follow_26 (by decide) (fun c3 => ?_) (fun c3 => ?_)
    · replace hq := hq.2 c3
      refine hp_aload_n E 0 dX3_follow_37 rfl rfl ?_
      refine hp_gR E g_RX3_34 fB_53_10 dX3_follow_38 ?_
      refine hp_iload_n E 2 dX3_follow_41 rfl rfl ?_
      refine hp_iald E 61 aB_61 hq.1 dX3_follow_42 ?_
      replace hq := hq.2
      refine hp_iconst E (-1) dX3_follow_43 (by decide) ?_
      refine hp_icmp_ne E 68 dX3_follow_44 (by decide) (fun c4 => ?_) (fun c4 => ?_)
      · replace hq := hq.2 c4
        exact hp_vret E hq hZ dX3_follow_68
      · replace hq := hq.1 c4
        refine hp_aload_n E 0 dX3_follow_47 rfl rfl ?_
        refine hp_gR E g_RX3_28 fB_53_8 dX3_follow_48 ?_
        refine hp_iload_n E 1 dX3_follow_51 rfl rfl ?_
        refine hp_aload_n E 0 dX3_follow_52 rfl rfl ?_
        refine hp_gR E g_RX3_28 fB_53_8 dX3_follow_53 ?_
        refine hp_iload_n E 1 dX3_follow_56 rfl rfl ?_
        refine hp_iald E 59 aB_59 hq.1 dX3_follow_57 ?_
        replace hq := hq.2
        refine hp_aload_n E 0 dX3_follow_58 rfl rfl ?_
        refine hp_gR E g_RX3_24 fB_53_7 dX3_follow_59 ?_
        refine hp_iload_n E 2 dX3_follow_62 rfl rfl ?_
        refine hp_iald E 58 aB_58 hq.1 dX3_follow_63 ?_
        replace hq := hq.2
        refine hp_mmin E m_RX3_135 mm_min (Nat.le_of_ble_eq_true rfl) (Nat.le_of_ble_eq_true rfl) (Nat.zero_le _) (Nat.zero_le _) dX3_follow_64 ?_
        have hin := hq.1
        replace hq := hq.2
        refine hp_iast E 59 aB_59 zB_59 hJ hin dX3_follow_67 ?_
        refine hp_toph (fun h5 eh5 => ?_)
        replace hq := hq h5 eh5
        exact hp_vret E hq hZ dX3_follow_68
    · replace hq := hq.1 c3
      refine hp_aload_n E 0 dX3_follow_29 rfl rfl ?_
      refine hp_iload_n E 2 dX3_follow_30 rfl rfl ?_
      refine hp_callVv' (rest := []) E 53 fB_53_0 vcl_3 (c_X3_enter l hJ hq) F_X3_enter m_RX3_116 ⟨rfl, rfl⟩ ⟨Nat.le_of_ble_eq_true rfl, Nat.le_of_ble_eq_true rfl⟩ ⟨Nat.zero_le _, Nat.zero_le _⟩ rfl rfl (Nat.le_of_ble_eq_true rfl) dX3_follow_31 (fun h6 hq => ?_)
      refine hp_goto E 68 dX3_follow_34 (by decide) ?_
      exact hp_vret E hq hZ dX3_follow_68
  · replace hq := hq.1 c2
    exact hp_vret E hq hZ dX3_follow_19
theorem dX3_handBack_0 : decode cX3_handBack 0 = .ok (.aload_n 0, 1) := by decide +kernel
theorem dX3_handBack_1 : decode cX3_handBack 1 = .ok (.getfield 104, 3) := by decide +kernel
theorem dX3_handBack_4 : decode cX3_handBack 4 = .ok (.ifCond .le 36, 3) := by decide +kernel
theorem dX3_handBack_7 : decode cX3_handBack 7 = .ok (.aload_n 0, 1) := by decide +kernel
theorem dX3_handBack_8 : decode cX3_handBack 8 = .ok (.getfield 37, 3) := by decide +kernel
theorem dX3_handBack_11 : decode cX3_handBack 11 = .ok (.aload_n 0, 1) := by decide +kernel
theorem dX3_handBack_12 : decode cX3_handBack 12 = .ok (.getfield 104, 3) := by decide +kernel
theorem dX3_handBack_15 : decode cX3_handBack 15 = .ok (.iconst 1, 1) := by decide +kernel
theorem dX3_handBack_16 : decode cX3_handBack 16 = .ok (.isub, 1) := by decide +kernel
theorem dX3_handBack_17 : decode cX3_handBack 17 = .ok (.iaload, 1) := by decide +kernel
theorem dX3_handBack_18 : decode cX3_handBack 18 = .ok (.istore_n 2, 1) := by decide +kernel
theorem dX3_handBack_19 : decode cX3_handBack 19 = .ok (.aload_n 0, 1) := by decide +kernel
theorem dX3_handBack_20 : decode cX3_handBack 20 = .ok (.getfield 28, 3) := by decide +kernel
theorem dX3_handBack_23 : decode cX3_handBack 23 = .ok (.iload_n 2, 1) := by decide +kernel
theorem dX3_handBack_24 : decode cX3_handBack 24 = .ok (.aload_n 0, 1) := by decide +kernel
theorem dX3_handBack_25 : decode cX3_handBack 25 = .ok (.getfield 28, 3) := by decide +kernel
theorem dX3_handBack_28 : decode cX3_handBack 28 = .ok (.iload_n 2, 1) := by decide +kernel
theorem dX3_handBack_29 : decode cX3_handBack 29 = .ok (.iaload, 1) := by decide +kernel
theorem dX3_handBack_30 : decode cX3_handBack 30 = .ok (.aload_n 0, 1) := by decide +kernel
theorem dX3_handBack_31 : decode cX3_handBack 31 = .ok (.getfield 28, 3) := by decide +kernel
theorem dX3_handBack_34 : decode cX3_handBack 34 = .ok (.iload_n 1, 1) := by decide +kernel
theorem dX3_handBack_35 : decode cX3_handBack 35 = .ok (.iaload, 1) := by decide +kernel
theorem dX3_handBack_36 : decode cX3_handBack 36 = .ok (.invokestatic 135, 3) := by decide +kernel
theorem dX3_handBack_39 : decode cX3_handBack 39 = .ok (.iastore, 1) := by decide +kernel
theorem dX3_handBack_40 : decode cX3_handBack 40 = .ok (.return_, 1) := by decide +kernel
set_option maxHeartbeats 4000000 in
set_option maxRecDepth 100000 in
theorem c_X3_handBack (l : Launch) {cs : Nat → ClassId} {ad : Nat → Nat} {A : Nat → Prop} {D : va_G} (hJ : hp_J SB ad A)   {h : hp_H} {a1 : Int32} {Q : hp_H → Prop} (hq : q_X3_handBack h a1 Q) : hp_Mv l yX3_handBack cX3_handBack 3 none rm_X3_handBack [.ref (ad 53), .int a1] SB cs ad A D h Q := by
  refine hp_met (own := RX3) rfl (by decide) (Nat.le_of_ble_eq_true rfl) rfl (fun p e s m args below meth c Z E hZ hnm => ?_)
  refine hp_sub (lv' := [(0, .ref (ad 53)), (1, .int a1)]) [0, 1] rfl ?_
  unfold q_X3_handBack at hq
  refine hp_aload_n E 0 dX3_handBack_0 rfl rfl ?_
  refine hp_gI E g_RX3_104 fB_53_13 dX3_handBack_1 ?_
  refine hp_if_le E 40 dX3_handBack_4 (by decide) (fun c1 => ?_) (fun c1 => ?_)
  · replace hq := hq.1 c1
    exact hp_vret E hq hZ dX3_handBack_40
  · replace hq := hq.2 c1
    refine hp_aload_n E 0 dX3_handBack_7 rfl rfl ?_
    refine hp_gR E g_RX3_37 fB_53_11 dX3_handBack_8 ?_
    refine hp_aload_n E 0 dX3_handBack_11 rfl rfl ?_
    refine hp_gI E g_RX3_104 fB_53_13 dX3_handBack_12 ?_
    refine hp_iconst E (nI 1) dX3_handBack_15 (by decide) ?_
    refine hp_isub E dX3_handBack_16 ?_
    refine hp_iald E 62 aB_62 hq.1 dX3_handBack_17 ?_
    replace hq := hq.2
    refine hp_topi (fun v2 ev2 => ?_)
    replace hq := hq v2 ev2
    refine hp_istore_n (lv' := [(0, .ref (ad 53)), (1, .int a1), (2, .int v2)]) E dX3_handBack_18 rfl (by decide) rfl rfl ?_
    refine hp_aload_n E 0 dX3_handBack_19 rfl rfl ?_
    refine hp_gR E g_RX3_28 fB_53_8 dX3_handBack_20 ?_
    refine hp_iload_n E 2 dX3_handBack_23 rfl rfl ?_
    refine hp_aload_n E 0 dX3_handBack_24 rfl rfl ?_
    refine hp_gR E g_RX3_28 fB_53_8 dX3_handBack_25 ?_
    refine hp_iload_n E 2 dX3_handBack_28 rfl rfl ?_
    refine hp_iald E 59 aB_59 hq.1 dX3_handBack_29 ?_
    replace hq := hq.2
    refine hp_aload_n E 0 dX3_handBack_30 rfl rfl ?_
    refine hp_gR E g_RX3_28 fB_53_8 dX3_handBack_31 ?_
    refine hp_iload_n E 1 dX3_handBack_34 rfl rfl ?_
    refine hp_iald E 59 aB_59 hq.1 dX3_handBack_35 ?_
    replace hq := hq.2
    refine hp_mmin E m_RX3_135 mm_min (Nat.le_of_ble_eq_true rfl) (Nat.le_of_ble_eq_true rfl) (Nat.zero_le _) (Nat.zero_le _) dX3_handBack_36 ?_
    have hin := hq.1
    replace hq := hq.2
    refine hp_iast E 59 aB_59 zB_59 hJ hin dX3_handBack_39 ?_
    refine hp_toph (fun h3 eh3 => ?_)
    replace hq := hq h3 eh3
    exact hp_vret E hq hZ dX3_handBack_40
theorem dX3_weigh_0 : decode cX3_weigh 0 = .ok (.iconst 0, 1) := by decide +kernel
theorem dX3_weigh_1 : decode cX3_weigh 1 = .ok (.istore_n 3, 1) := by decide +kernel
theorem dX3_weigh_2 : decode cX3_weigh 2 = .ok (.iconst 0, 1) := by decide +kernel
theorem dX3_weigh_3 : decode cX3_weigh 3 = .ok (.istore 4, 2) := by decide +kernel
theorem dX3_weigh_5 : decode cX3_weigh 5 = .ok (.aload_n 0, 1) := by decide +kernel
theorem dX3_weigh_6 : decode cX3_weigh 6 = .ok (.getfield 47, 3) := by decide +kernel
theorem dX3_weigh_9 : decode cX3_weigh 9 = .ok (.getfield 119, 3) := by decide +kernel
theorem dX3_weigh_12 : decode cX3_weigh 12 = .ok (.iload_n 1, 1) := by decide +kernel
theorem dX3_weigh_13 : decode cX3_weigh 13 = .ok (.iaload, 1) := by decide +kernel
theorem dX3_weigh_14 : decode cX3_weigh 14 = .ok (.istore 5, 2) := by decide +kernel
theorem dX3_weigh_16 : decode cX3_weigh 16 = .ok (.iload 5, 2) := by decide +kernel
theorem dX3_weigh_18 : decode cX3_weigh 18 = .ok (.aload_n 0, 1) := by decide +kernel
theorem dX3_weigh_19 : decode cX3_weigh 19 = .ok (.getfield 47, 3) := by decide +kernel
theorem dX3_weigh_22 : decode cX3_weigh 22 = .ok (.getfield 119, 3) := by decide +kernel
theorem dX3_weigh_25 : decode cX3_weigh 25 = .ok (.iload_n 1, 1) := by decide +kernel
theorem dX3_weigh_26 : decode cX3_weigh 26 = .ok (.iconst 1, 1) := by decide +kernel
theorem dX3_weigh_27 : decode cX3_weigh 27 = .ok (.iadd, 1) := by decide +kernel
theorem dX3_weigh_28 : decode cX3_weigh 28 = .ok (.iaload, 1) := by decide +kernel
theorem dX3_weigh_29 : decode cX3_weigh 29 = .ok (.if_icmp .ge 75, 3) := by decide +kernel
theorem dX3_weigh_32 : decode cX3_weigh 32 = .ok (.aload_n 0, 1) := by decide +kernel
theorem dX3_weigh_33 : decode cX3_weigh 33 = .ok (.getfield 47, 3) := by decide +kernel
theorem dX3_weigh_36 : decode cX3_weigh 36 = .ok (.iload 5, 2) := by decide +kernel
theorem dX3_weigh_38 : decode cX3_weigh 38 = .ok (.invokevirtual 151, 3) := by decide +kernel
theorem dX3_weigh_41 : decode cX3_weigh 41 = .ok (.istore 6, 2) := by decide +kernel
theorem dX3_weigh_43 : decode cX3_weigh 43 = .ok (.aload_n 0, 1) := by decide +kernel
theorem dX3_weigh_44 : decode cX3_weigh 44 = .ok (.getfield 47, 3) := by decide +kernel
theorem dX3_weigh_47 : decode cX3_weigh 47 = .ok (.getfield 122, 3) := by decide +kernel
theorem dX3_weigh_50 : decode cX3_weigh 50 = .ok (.iload 5, 2) := by decide +kernel
theorem dX3_weigh_52 : decode cX3_weigh 52 = .ok (.iaload, 1) := by decide +kernel
theorem dX3_weigh_53 : decode cX3_weigh 53 = .ok (.istore 7, 2) := by decide +kernel
theorem dX3_weigh_55 : decode cX3_weigh 55 = .ok (.iload_n 3, 1) := by decide +kernel
theorem dX3_weigh_56 : decode cX3_weigh 56 = .ok (.iload 6, 2) := by decide +kernel
theorem dX3_weigh_58 : decode cX3_weigh 58 = .ok (.ior, 1) := by decide +kernel
theorem dX3_weigh_59 : decode cX3_weigh 59 = .ok (.istore_n 3, 1) := by decide +kernel
theorem dX3_weigh_60 : decode cX3_weigh 60 = .ok (.aload_n 0, 1) := by decide +kernel
theorem dX3_weigh_61 : decode cX3_weigh 61 = .ok (.getfield 34, 3) := by decide +kernel
theorem dX3_weigh_64 : decode cX3_weigh 64 = .ok (.iload 7, 2) := by decide +kernel
theorem dX3_weigh_66 : decode cX3_weigh 66 = .ok (.iaload, 1) := by decide +kernel
theorem dX3_weigh_67 : decode cX3_weigh 67 = .ok (.iload_n 2, 1) := by decide +kernel
theorem dX3_weigh_68 : decode cX3_weigh 68 = .ok (.if_icmp .ne 17, 3) := by decide +kernel
theorem dX3_weigh_71 : decode cX3_weigh 71 = .ok (.aload_n 0, 1) := by decide +kernel
theorem dX3_weigh_72 : decode cX3_weigh 72 = .ok (.dup, 1) := by decide +kernel
theorem dX3_weigh_73 : decode cX3_weigh 73 = .ok (.getfield 141, 3) := by decide +kernel
theorem dX3_weigh_76 : decode cX3_weigh 76 = .ok (.iload 6, 2) := by decide +kernel
theorem dX3_weigh_78 : decode cX3_weigh 78 = .ok (.ior, 1) := by decide +kernel
theorem dX3_weigh_79 : decode cX3_weigh 79 = .ok (.putfield 141, 3) := by decide +kernel
theorem dX3_weigh_82 : decode cX3_weigh 82 = .ok (.goto 16, 3) := by decide +kernel
theorem dX3_weigh_85 : decode cX3_weigh 85 = .ok (.aload_n 0, 1) := by decide +kernel
theorem dX3_weigh_86 : decode cX3_weigh 86 = .ok (.getfield 21, 3) := by decide +kernel
theorem dX3_weigh_89 : decode cX3_weigh 89 = .ok (.iload 7, 2) := by decide +kernel
theorem dX3_weigh_91 : decode cX3_weigh 91 = .ok (.baload, 1) := by decide +kernel
theorem dX3_weigh_92 : decode cX3_weigh 92 = .ok (.ifCond .eq 6, 3) := by decide +kernel
theorem dX3_weigh_95 : decode cX3_weigh 95 = .ok (.iconst 1, 1) := by decide +kernel
theorem dX3_weigh_96 : decode cX3_weigh 96 = .ok (.istore 4, 2) := by decide +kernel
theorem dX3_weigh_98 : decode cX3_weigh 98 = .ok (.iinc 5 1, 3) := by decide +kernel
theorem dX3_weigh_101 : decode cX3_weigh 101 = .ok (.goto (-85), 3) := by decide +kernel
theorem dX3_weigh_104 : decode cX3_weigh 104 = .ok (.aload_n 0, 1) := by decide +kernel
theorem dX3_weigh_105 : decode cX3_weigh 105 = .ok (.dup, 1) := by decide +kernel
theorem dX3_weigh_106 : decode cX3_weigh 106 = .ok (.getfield 144, 3) := by decide +kernel
theorem dX3_weigh_109 : decode cX3_weigh 109 = .ok (.aload_n 0, 1) := by decide +kernel
theorem dX3_weigh_110 : decode cX3_weigh 110 = .ok (.getfield 101, 3) := by decide +kernel
theorem dX3_weigh_113 : decode cX3_weigh 113 = .ok (.iload_n 3, 1) := by decide +kernel
theorem dX3_weigh_114 : decode cX3_weigh 114 = .ok (.iconst (-1), 1) := by decide +kernel
theorem dX3_weigh_115 : decode cX3_weigh 115 = .ok (.ixor, 1) := by decide +kernel
theorem dX3_weigh_116 : decode cX3_weigh 116 = .ok (.iand, 1) := by decide +kernel
theorem dX3_weigh_117 : decode cX3_weigh 117 = .ok (.ior, 1) := by decide +kernel
theorem dX3_weigh_118 : decode cX3_weigh 118 = .ok (.putfield 144, 3) := by decide +kernel
theorem dX3_weigh_121 : decode cX3_weigh 121 = .ok (.iload 4, 2) := by decide +kernel
theorem dX3_weigh_123 : decode cX3_weigh 123 = .ok (.ireturn, 1) := by decide +kernel
set_option maxHeartbeats 4000000 in
set_option maxRecDepth 100000 in
theorem c_X3_weigh (l : Launch) {cs : Nat → ClassId} {ad : Nat → Nat} {A : Nat → Prop} {D : va_G} (hJ : hp_J SB ad A)   {h : hp_H} {a1 a2 : Int32} {Q : Int32 → hp_H → Prop} (hq : q_X3_weigh h a1 a2 Q) : hp_Mi l yX3_weigh cX3_weigh 8 (some .boolean) rm_X3_weigh [.ref (ad 53), .int a1, .int a2] SB cs ad A D h Q := by
  refine hp_met (own := RX3) rfl (by decide) (Nat.le_of_ble_eq_true rfl) rfl (fun p e s m args below meth c Z E hZ hnm => ?_)
  refine hp_sub (lv' := [(0, .ref (ad 53)), (1, .int a1), (2, .int a2)]) [0, 1, 2] rfl ?_
  unfold q_X3_weigh at hq
  refine hp_iconst E (nI 0) dX3_weigh_0 (by decide) ?_
  refine hp_istore_n (lv' := [(0, .ref (ad 53)), (1, .int a1), (2, .int a2), (3, .int (nI 0))]) E dX3_weigh_1 rfl (by decide) rfl rfl ?_
  refine hp_iconst E (nI 0) dX3_weigh_2 (by decide) ?_
  refine hp_istore (lv' := [(0, .ref (ad 53)), (1, .int a1), (2, .int a2), (3, .int (nI 0)), (4, .int (nI 0))]) E dX3_weigh_3 (by decide) rfl rfl ?_
  refine hp_aload_n E 0 dX3_weigh_5 rfl rfl ?_
  refine hp_gR E g_RX3_47 fB_53_1 dX3_weigh_6 ?_
  refine hp_gR E g_RX3_119 fB_35_8 dX3_weigh_9 ?_
  refine hp_iload_n E 1 dX3_weigh_12 rfl rfl ?_
  refine hp_iald E 36 aB_36 hq.1 dX3_weigh_13 ?_
  replace hq := hq.2
  refine hp_topi (fun v1 ev1 => ?_)
  replace hq := hq v1 ev1
  refine hp_istore (lv' := [(0, .ref (ad 53)), (1, .int a1), (2, .int a2), (3, .int (nI 0)), (4, .int (nI 0)), (5, .int v1)]) E dX3_weigh_14 (by decide) rfl rfl ?_
  refine hq (fun v3 v4 v5 h6 => hp_G p l e rm_X3_weigh s m args below meth c SB cs ad A D 8 0 0 Z 16 [(0, .ref (ad 53)), (1, .int a1), (2, .int a2), (3, .int v3), (4, .int v4), (5, .int v5)] [] h6) (fun v3 v4 v5 h6 hB => ?_)
  obtain ⟨B2, hq, hB2⟩ := hB
  refine hp_iload E 5 dX3_weigh_16 rfl ?_
  refine hp_aload_n E 0 dX3_weigh_18 rfl rfl ?_
  refine hp_gR E g_RX3_47 fB_53_1 dX3_weigh_19 ?_
  refine hp_gR E g_RX3_119 fB_35_8 dX3_weigh_22 ?_
  refine hp_iload_n E 1 dX3_weigh_25 rfl rfl ?_
  refine hp_iconst E (nI 1) dX3_weigh_26 (by decide) ?_
  refine hp_iadd E dX3_weigh_27 ?_
  refine hp_iald E 36 aB_36 hq.1 dX3_weigh_28 ?_
  replace hq := hq.2
  refine hp_icmp_ge E 104 dX3_weigh_29 (by decide) (fun c7 => ?_) (fun c7 => ?_)
  · replace hq := hq.1 c7
    refine hp_aload_n E 0 dX3_weigh_104 rfl rfl ?_
    refine hp_dup E rfl dX3_weigh_105 ?_
    refine hp_gI E g_RX3_144 fB_53_18 dX3_weigh_106 ?_
    refine hp_aload_n E 0 dX3_weigh_109 rfl rfl ?_
    refine hp_gI E g_RX3_101 fB_53_16 dX3_weigh_110 ?_
    refine hp_iload_n E 3 dX3_weigh_113 rfl rfl ?_
    refine hp_iconst E (-1) dX3_weigh_114 (by decide) ?_
    refine hp_ixor E dX3_weigh_115 ?_
    refine hp_iand E dX3_weigh_116 ?_
    refine hp_ior E dX3_weigh_117 ?_
    refine hp_pI E p_RX3_144 fB_53_18 (by decide) hJ dX3_weigh_118 ?_
    refine hp_toph (fun h8 eh8 => ?_)
    replace hq := hq h8 eh8
    refine hp_iload E 4 dX3_weigh_121 rfl ?_
    have hbz := hq.1
    replace hq := hq.2
    exact hp_zret E hbz hq hZ dX3_weigh_123
  · replace hq := hq.2 c7
    refine hp_aload_n E 0 dX3_weigh_32 rfl rfl ?_
    refine hp_gR E g_RX3_47 fB_53_1 dX3_weigh_33 ?_
    refine hp_iload E 5 dX3_weigh_36 rfl ?_
    refine hp_callVip (rest := []) E 35 fB_35_0 vcl_2 (c_X2_moverBit l hJ hq) F_X2_moverBit m_RX3_151 ⟨rfl, rfl⟩ ⟨Nat.le_of_ble_eq_true rfl, Nat.le_of_ble_eq_true rfl⟩ ⟨Nat.zero_le _, Nat.zero_le _⟩ rfl rfl (Nat.le_of_ble_eq_true rfl) dX3_weigh_38 (fun r9 hq => ?_)
    refine hp_istore (lv' := [(0, .ref (ad 53)), (1, .int a1), (2, .int a2), (3, .int v3), (4, .int v4), (5, .int v5), (6, .int r9)]) E dX3_weigh_41 (by decide) rfl rfl ?_
    refine hp_aload_n E 0 dX3_weigh_43 rfl rfl ?_
    refine hp_gR E g_RX3_47 fB_53_1 dX3_weigh_44 ?_
    refine hp_gR E g_RX3_122 fB_35_9 dX3_weigh_47 ?_
    refine hp_iload E 5 dX3_weigh_50 rfl ?_
    refine hp_iald E 37 aB_37 hq.1 dX3_weigh_52 ?_
    replace hq := hq.2
    refine hp_topi (fun v10 ev10 => ?_)
    replace hq := hq v10 ev10
    refine hp_istore (lv' := [(0, .ref (ad 53)), (1, .int a1), (2, .int a2), (3, .int v3), (4, .int v4), (5, .int v5), (6, .int r9), (7, .int v10)]) E dX3_weigh_53 (by decide) rfl rfl ?_
    refine hp_iload_n E 3 dX3_weigh_55 rfl rfl ?_
    refine hp_iload E 6 dX3_weigh_56 rfl ?_
    refine hp_ior E dX3_weigh_58 ?_
    refine hp_topi (fun v11 ev11 => ?_)
    replace hq := hq v11 ev11
    refine hp_istore_n (lv' := [(0, .ref (ad 53)), (1, .int a1), (2, .int a2), (3, .int v11), (4, .int v4), (5, .int v5), (6, .int r9), (7, .int v10)]) E dX3_weigh_59 rfl (by decide) rfl rfl ?_
    refine hp_aload_n E 0 dX3_weigh_60 rfl rfl ?_
    refine hp_gR E g_RX3_34 fB_53_10 dX3_weigh_61 ?_
    refine hp_iload E 7 dX3_weigh_64 rfl ?_
    refine hp_iald E 61 aB_61 hq.1 dX3_weigh_66 ?_
    replace hq := hq.2
    refine hp_iload_n E 2 dX3_weigh_67 rfl rfl ?_
    obtain ⟨K13, hq, hK13⟩ := hq
    have jK13 : ∀ (v14 : Int32) (h15 : hp_H), K13 v14 h15 → hp_G p l e rm_X3_weigh s m args below meth c SB cs ad A D 8 0 0 Z 98 [(0, .ref (ad 53)), (1, .int a1), (2, .int a2), (3, .int v11), (4, .int v14), (5, .int v5)] [] h15 := by
      intro v14 h15 hq
      replace hq := hK13 v14 h15 hq
      obtain ⟨v18, ev18⟩ : ∃ z : Int32, z = v5 + (nI 1) := ⟨_, rfl⟩
      replace hq := hq v18 ev18
      refine hp_iinc (lv' := [(0, .ref (ad 53)), (1, .int a1), (2, .int a2), (3, .int v11), (4, .int v14), (5, .int v18)]) E 5 v18 dX3_weigh_98 rfl (by rw [ev18]; rfl) (by decide) rfl rfl ?_
      refine hp_goto E 16 dX3_weigh_101 (by decide) ?_
      exact hB2 _ _ _ _ hq
    refine hp_icmp_ne E 85 dX3_weigh_68 (by decide) (fun c12 => ?_) (fun c12 => ?_)
    · replace hq := hq.2 c12
      refine hp_aload_n E 0 dX3_weigh_85 rfl rfl ?_
      refine hp_gR E g_RX3_21 fB_53_6 dX3_weigh_86 ?_
      refine hp_iload E 7 dX3_weigh_89 rfl ?_
      refine hp_zald E 57 aB_57 hq.1 dX3_weigh_91 ?_
      replace hq := hq.2
      refine hp_if_eq E 98 dX3_weigh_92 (by decide) (fun c16 => ?_) (fun c16 => ?_)
      · replace hq := hq.1 c16
        refine hp_sub (lv' := [(0, .ref (ad 53)), (1, .int a1), (2, .int a2), (3, .int v11), (4, .int v4), (5, .int v5)]) [0, 1, 2, 3, 4, 5] rfl ?_
        exact jK13 _ _ hq
      · replace hq := hq.2 c16
        refine hp_iconst E (nI 1) dX3_weigh_95 (by decide) ?_
        refine hp_istore (lv' := [(0, .ref (ad 53)), (1, .int a1), (2, .int a2), (3, .int v11), (4, .int (nI 1)), (5, .int v5), (6, .int r9), (7, .int v10)]) E dX3_weigh_96 (by decide) rfl rfl ?_
        refine hp_sub (lv' := [(0, .ref (ad 53)), (1, .int a1), (2, .int a2), (3, .int v11), (4, .int (nI 1)), (5, .int v5)]) [0, 1, 2, 3, 4, 5] rfl ?_
        exact jK13 _ _ hq
    · replace hq := hq.1 c12
      refine hp_aload_n E 0 dX3_weigh_71 rfl rfl ?_
      refine hp_dup E rfl dX3_weigh_72 ?_
      refine hp_gI E g_RX3_141 fB_53_17 dX3_weigh_73 ?_
      refine hp_iload E 6 dX3_weigh_76 rfl ?_
      refine hp_ior E dX3_weigh_78 ?_
      refine hp_pI E p_RX3_141 fB_53_17 (by decide) hJ dX3_weigh_79 ?_
      refine hp_toph (fun h17 eh17 => ?_)
      replace hq := hq h17 eh17
      refine hp_goto E 98 dX3_weigh_82 (by decide) ?_
      refine hp_sub (lv' := [(0, .ref (ad 53)), (1, .int a1), (2, .int a2), (3, .int v11), (4, .int v4), (5, .int v5)]) [0, 1, 2, 3, 4, 5] rfl ?_
      exact jK13 _ _ hq
theorem dX3_close_0 : decode cX3_close 0 = .ok (.aload_n 0, 1) := by decide +kernel
theorem dX3_close_1 : decode cX3_close 1 = .ok (.getfield 107, 3) := by decide +kernel
theorem dX3_close_4 : decode cX3_close 4 = .ok (.istore_n 2, 1) := by decide +kernel
theorem dX3_close_5 : decode cX3_close 5 = .ok (.iconst 1, 1) := by decide +kernel
theorem dX3_close_6 : decode cX3_close 6 = .ok (.istore_n 3, 1) := by decide +kernel
theorem dX3_close_7 : decode cX3_close 7 = .ok (.iload_n 3, 1) := by decide +kernel
theorem dX3_close_8 : decode cX3_close 8 = .ok (.ifCond .eq 41, 3) := by decide +kernel
theorem dX3_close_11 : decode cX3_close 11 = .ok (.iload_n 2, 1) := by decide +kernel
theorem dX3_close_12 : decode cX3_close 12 = .ok (.ifCond .le 37, 3) := by decide +kernel
theorem dX3_close_15 : decode cX3_close 15 = .ok (.iinc 2 (-1), 3) := by decide +kernel
theorem dX3_close_18 : decode cX3_close 18 = .ok (.aload_n 0, 1) := by decide +kernel
theorem dX3_close_19 : decode cX3_close 19 = .ok (.getfield 34, 3) := by decide +kernel
theorem dX3_close_22 : decode cX3_close 22 = .ok (.aload_n 0, 1) := by decide +kernel
theorem dX3_close_23 : decode cX3_close 23 = .ok (.getfield 40, 3) := by decide +kernel
theorem dX3_close_26 : decode cX3_close 26 = .ok (.iload_n 2, 1) := by decide +kernel
theorem dX3_close_27 : decode cX3_close 27 = .ok (.iaload, 1) := by decide +kernel
theorem dX3_close_28 : decode cX3_close 28 = .ok (.iload_n 1, 1) := by decide +kernel
theorem dX3_close_29 : decode cX3_close 29 = .ok (.iastore, 1) := by decide +kernel
theorem dX3_close_30 : decode cX3_close 30 = .ok (.aload_n 0, 1) := by decide +kernel
theorem dX3_close_31 : decode cX3_close 31 = .ok (.getfield 40, 3) := by decide +kernel
theorem dX3_close_34 : decode cX3_close 34 = .ok (.iload_n 2, 1) := by decide +kernel
theorem dX3_close_35 : decode cX3_close 35 = .ok (.iaload, 1) := by decide +kernel
theorem dX3_close_36 : decode cX3_close 36 = .ok (.iload_n 1, 1) := by decide +kernel
theorem dX3_close_37 : decode cX3_close 37 = .ok (.if_icmp .eq 7, 3) := by decide +kernel
theorem dX3_close_40 : decode cX3_close 40 = .ok (.iconst 1, 1) := by decide +kernel
theorem dX3_close_41 : decode cX3_close 41 = .ok (.goto 4, 3) := by decide +kernel
theorem dX3_close_44 : decode cX3_close 44 = .ok (.iconst 0, 1) := by decide +kernel
theorem dX3_close_45 : decode cX3_close 45 = .ok (.istore_n 3, 1) := by decide +kernel
theorem dX3_close_46 : decode cX3_close 46 = .ok (.goto (-39), 3) := by decide +kernel
theorem dX3_close_49 : decode cX3_close 49 = .ok (.aload_n 0, 1) := by decide +kernel
theorem dX3_close_50 : decode cX3_close 50 = .ok (.iconst 0, 1) := by decide +kernel
theorem dX3_close_51 : decode cX3_close 51 = .ok (.putfield 141, 3) := by decide +kernel
theorem dX3_close_54 : decode cX3_close 54 = .ok (.aload_n 0, 1) := by decide +kernel
theorem dX3_close_55 : decode cX3_close 55 = .ok (.iconst 0, 1) := by decide +kernel
theorem dX3_close_56 : decode cX3_close 56 = .ok (.putfield 144, 3) := by decide +kernel
theorem dX3_close_59 : decode cX3_close 59 = .ok (.iconst 0, 1) := by decide +kernel
theorem dX3_close_60 : decode cX3_close 60 = .ok (.istore 4, 2) := by decide +kernel
theorem dX3_close_62 : decode cX3_close 62 = .ok (.iload_n 2, 1) := by decide +kernel
theorem dX3_close_63 : decode cX3_close 63 = .ok (.istore 5, 2) := by decide +kernel
theorem dX3_close_65 : decode cX3_close 65 = .ok (.iload 5, 2) := by decide +kernel
theorem dX3_close_67 : decode cX3_close 67 = .ok (.aload_n 0, 1) := by decide +kernel
theorem dX3_close_68 : decode cX3_close 68 = .ok (.getfield 107, 3) := by decide +kernel
theorem dX3_close_71 : decode cX3_close 71 = .ok (.if_icmp .ge 27, 3) := by decide +kernel
theorem dX3_close_74 : decode cX3_close 74 = .ok (.aload_n 0, 1) := by decide +kernel
theorem dX3_close_75 : decode cX3_close 75 = .ok (.aload_n 0, 1) := by decide +kernel
theorem dX3_close_76 : decode cX3_close 76 = .ok (.getfield 40, 3) := by decide +kernel
theorem dX3_close_79 : decode cX3_close 79 = .ok (.iload 5, 2) := by decide +kernel
theorem dX3_close_81 : decode cX3_close 81 = .ok (.iaload, 1) := by decide +kernel
theorem dX3_close_82 : decode cX3_close 82 = .ok (.iload_n 1, 1) := by decide +kernel
theorem dX3_close_83 : decode cX3_close 83 = .ok (.invokevirtual 147, 3) := by decide +kernel
theorem dX3_close_86 : decode cX3_close 86 = .ok (.ifCond .eq 6, 3) := by decide +kernel
theorem dX3_close_89 : decode cX3_close 89 = .ok (.iconst 1, 1) := by decide +kernel
theorem dX3_close_90 : decode cX3_close 90 = .ok (.istore 4, 2) := by decide +kernel
theorem dX3_close_92 : decode cX3_close 92 = .ok (.iinc 5 1, 3) := by decide +kernel
theorem dX3_close_95 : decode cX3_close 95 = .ok (.goto (-30), 3) := by decide +kernel
theorem dX3_close_98 : decode cX3_close 98 = .ok (.aload_n 0, 1) := by decide +kernel
theorem dX3_close_99 : decode cX3_close 99 = .ok (.getfield 141, 3) := by decide +kernel
theorem dX3_close_102 : decode cX3_close 102 = .ok (.ifCond .eq 30, 3) := by decide +kernel
theorem dX3_close_105 : decode cX3_close 105 = .ok (.aload_n 0, 1) := by decide +kernel
theorem dX3_close_106 : decode cX3_close 106 = .ok (.getfield 85, 3) := by decide +kernel
theorem dX3_close_109 : decode cX3_close 109 = .ok (.ifCond .eq 19, 3) := by decide +kernel
theorem dX3_close_112 : decode cX3_close 112 = .ok (.aload_n 0, 1) := by decide +kernel
theorem dX3_close_113 : decode cX3_close 113 = .ok (.getfield 141, 3) := by decide +kernel
theorem dX3_close_116 : decode cX3_close 116 = .ok (.aload_n 0, 1) := by decide +kernel
theorem dX3_close_117 : decode cX3_close 117 = .ok (.getfield 144, 3) := by decide +kernel
theorem dX3_close_120 : decode cX3_close 120 = .ok (.ior, 1) := by decide +kernel
theorem dX3_close_121 : decode cX3_close 121 = .ok (.aload_n 0, 1) := by decide +kernel
theorem dX3_close_122 : decode cX3_close 122 = .ok (.getfield 101, 3) := by decide +kernel
theorem dX3_close_125 : decode cX3_close 125 = .ok (.if_icmp .ne 7, 3) := by decide +kernel
theorem dX3_close_128 : decode cX3_close 128 = .ok (.iconst 1, 1) := by decide +kernel
theorem dX3_close_129 : decode cX3_close 129 = .ok (.goto 4, 3) := by decide +kernel
theorem dX3_close_132 : decode cX3_close 132 = .ok (.iconst 0, 1) := by decide +kernel
theorem dX3_close_133 : decode cX3_close 133 = .ok (.istore 5, 2) := by decide +kernel
theorem dX3_close_135 : decode cX3_close 135 = .ok (.iload_n 2, 1) := by decide +kernel
theorem dX3_close_136 : decode cX3_close 136 = .ok (.istore 6, 2) := by decide +kernel
theorem dX3_close_138 : decode cX3_close 138 = .ok (.iload 6, 2) := by decide +kernel
theorem dX3_close_140 : decode cX3_close 140 = .ok (.aload_n 0, 1) := by decide +kernel
theorem dX3_close_141 : decode cX3_close 141 = .ok (.getfield 107, 3) := by decide +kernel
theorem dX3_close_144 : decode cX3_close 144 = .ok (.if_icmp .ge 50, 3) := by decide +kernel
theorem dX3_close_147 : decode cX3_close 147 = .ok (.aload_n 0, 1) := by decide +kernel
theorem dX3_close_148 : decode cX3_close 148 = .ok (.getfield 18, 3) := by decide +kernel
theorem dX3_close_151 : decode cX3_close 151 = .ok (.aload_n 0, 1) := by decide +kernel
theorem dX3_close_152 : decode cX3_close 152 = .ok (.getfield 40, 3) := by decide +kernel
theorem dX3_close_155 : decode cX3_close 155 = .ok (.iload 6, 2) := by decide +kernel
theorem dX3_close_157 : decode cX3_close 157 = .ok (.iaload, 1) := by decide +kernel
theorem dX3_close_158 : decode cX3_close 158 = .ok (.iload 5, 2) := by decide +kernel
theorem dX3_close_160 : decode cX3_close 160 = .ok (.bastore, 1) := by decide +kernel
theorem dX3_close_161 : decode cX3_close 161 = .ok (.aload_n 0, 1) := by decide +kernel
theorem dX3_close_162 : decode cX3_close 162 = .ok (.getfield 21, 3) := by decide +kernel
theorem dX3_close_165 : decode cX3_close 165 = .ok (.aload_n 0, 1) := by decide +kernel
theorem dX3_close_166 : decode cX3_close 166 = .ok (.getfield 40, 3) := by decide +kernel
theorem dX3_close_169 : decode cX3_close 169 = .ok (.iload 6, 2) := by decide +kernel
theorem dX3_close_171 : decode cX3_close 171 = .ok (.iaload, 1) := by decide +kernel
theorem dX3_close_172 : decode cX3_close 172 = .ok (.iload 5, 2) := by decide +kernel
theorem dX3_close_174 : decode cX3_close 174 = .ok (.ifCond .ne 8, 3) := by decide +kernel
theorem dX3_close_177 : decode cX3_close 177 = .ok (.iload 4, 2) := by decide +kernel
theorem dX3_close_179 : decode cX3_close 179 = .ok (.ifCond .eq 7, 3) := by decide +kernel
theorem dX3_close_182 : decode cX3_close 182 = .ok (.iconst 1, 1) := by decide +kernel
theorem dX3_close_183 : decode cX3_close 183 = .ok (.goto 4, 3) := by decide +kernel
theorem dX3_close_186 : decode cX3_close 186 = .ok (.iconst 0, 1) := by decide +kernel
theorem dX3_close_187 : decode cX3_close 187 = .ok (.bastore, 1) := by decide +kernel
theorem dX3_close_188 : decode cX3_close 188 = .ok (.iinc 6 1, 3) := by decide +kernel
theorem dX3_close_191 : decode cX3_close 191 = .ok (.goto (-53), 3) := by decide +kernel
theorem dX3_close_194 : decode cX3_close 194 = .ok (.aload_n 0, 1) := by decide +kernel
theorem dX3_close_195 : decode cX3_close 195 = .ok (.iload_n 2, 1) := by decide +kernel
theorem dX3_close_196 : decode cX3_close 196 = .ok (.putfield 107, 3) := by decide +kernel
theorem dX3_close_199 : decode cX3_close 199 = .ok (.return_, 1) := by decide +kernel
set_option maxHeartbeats 4000000 in
set_option maxRecDepth 100000 in
theorem c_X3_close (l : Launch) {cs : Nat → ClassId} {ad : Nat → Nat} {A : Nat → Prop} {D : va_G} (hJ : hp_J SB ad A)   {h : hp_H} {a1 : Int32} {Q : hp_H → Prop} (hq : q_X3_close h a1 Q) : hp_Mv l yX3_close cX3_close 7 none rm_X3_close [.ref (ad 53), .int a1] SB cs ad A D h Q := by
  refine hp_met (own := RX3) rfl (by decide) (Nat.le_of_ble_eq_true rfl) rfl (fun p e s m args below meth c Z E hZ hnm => ?_)
  refine hp_sub (lv' := [(0, .ref (ad 53)), (1, .int a1)]) [0, 1] rfl ?_
  unfold q_X3_close at hq
  refine hp_aload_n E 0 dX3_close_0 rfl rfl ?_
  refine hp_gI E g_RX3_107 fB_53_14 dX3_close_1 ?_
  refine hp_topi (fun v1 ev1 => ?_)
  replace hq := hq v1 ev1
  refine hp_istore_n (lv' := [(0, .ref (ad 53)), (1, .int a1), (2, .int v1)]) E dX3_close_4 rfl (by decide) rfl rfl ?_
  refine hp_iconst E (nI 1) dX3_close_5 (by decide) ?_
  refine hp_istore_n (lv' := [(0, .ref (ad 53)), (1, .int a1), (2, .int v1), (3, .int (nI 1))]) E dX3_close_6 rfl (by decide) rfl rfl ?_
  refine hq (fun v3 v4 h5 => hp_G p l e rm_X3_close s m args below meth c SB cs ad A D 7 0 0 Z 7 [(0, .ref (ad 53)), (1, .int a1), (2, .int v3), (3, .int v4)] [] h5) (fun v3 v4 h5 hB => ?_)
  obtain ⟨B2, hq, hB2⟩ := hB
  refine hp_iload_n E 3 dX3_close_7 rfl rfl ?_
  obtain ⟨K7, hq, hK7⟩ := hq
  have jK7 : K7 → hp_G p l e rm_X3_close s m args below meth c SB cs ad A D 7 0 0 Z 49 [(0, .ref (ad 53)), (1, .int a1), (2, .int v3)] [] h5 := by
    intro  hq
    replace hq := hK7  hq
    refine hp_aload_n E 0 dX3_close_49 rfl rfl ?_
    refine hp_iconst E (nI 0) dX3_close_50 (by decide) ?_
    refine hp_pI E p_RX3_141 fB_53_17 (by decide) hJ dX3_close_51 ?_
    refine hp_toph (fun h14 eh14 => ?_)
    replace hq := hq h14 eh14
    refine hp_aload_n E 0 dX3_close_54 rfl rfl ?_
    refine hp_iconst E (nI 0) dX3_close_55 (by decide) ?_
    refine hp_pI E p_RX3_144 fB_53_18 (by decide) hJ dX3_close_56 ?_
    refine hp_toph (fun h15 eh15 => ?_)
    replace hq := hq h15 eh15
    refine hp_iconst E (nI 0) dX3_close_59 (by decide) ?_
    refine hp_istore (lv' := [(0, .ref (ad 53)), (1, .int a1), (2, .int v3), (4, .int (nI 0))]) E dX3_close_60 (by decide) rfl rfl ?_
    refine hp_iload_n E 2 dX3_close_62 rfl rfl ?_
    refine hp_istore (lv' := [(0, .ref (ad 53)), (1, .int a1), (2, .int v3), (4, .int (nI 0)), (5, .int v3)]) E dX3_close_63 (by decide) rfl rfl ?_
    refine hq (fun v17 v18 h19 => hp_G p l e rm_X3_close s m args below meth c SB cs ad A D 7 0 0 Z 65 [(0, .ref (ad 53)), (1, .int a1), (2, .int v3), (4, .int v17), (5, .int v18)] [] h19) (fun v17 v18 h19 hB => ?_)
    obtain ⟨B16, hq, hB16⟩ := hB
    refine hp_iload E 4 dX3_close_65 rfl ?_
    refine hp_aload_n E 0 dX3_close_67 rfl rfl ?_
    refine hp_gI E g_RX3_107 fB_53_14 dX3_close_68 ?_
    refine hp_icmp_ge E 98 dX3_close_71 (by decide) (fun c20 => ?_) (fun c20 => ?_)
    · replace hq := hq.1 c20
      refine hp_aload_n E 0 dX3_close_98 rfl rfl ?_
      refine hp_gI E g_RX3_141 fB_53_17 dX3_close_99 ?_
      obtain ⟨K22, hq, hK22⟩ := hq
      have jK22 : ∀ (v23 : Int32), K22 v23 → hp_G p l e rm_X3_close s m args below meth c SB cs ad A D 7 0 0 Z 133 [(0, .ref (ad 53)), (2, .int v3), (4, .int v17)] [.int v23] h19 := by
        intro v23 hq
        replace hq := hK22 v23 hq
        refine hp_istore (lv' := [(0, .ref (ad 53)), (2, .int v3), (4, .int v17), (5, .int v23)]) E dX3_close_133 (by decide) rfl rfl ?_
        refine hp_iload_n E 1 dX3_close_135 rfl rfl ?_
        refine hp_istore (lv' := [(0, .ref (ad 53)), (2, .int v3), (4, .int v17), (5, .int v23), (6, .int v3)]) E dX3_close_136 (by decide) rfl rfl ?_
        refine hq (fun v29 h30 => hp_G p l e rm_X3_close s m args below meth c SB cs ad A D 7 0 0 Z 138 [(0, .ref (ad 53)), (2, .int v3), (4, .int v17), (5, .int v23), (6, .int v29)] [] h30) (fun v29 h30 hB => ?_)
        obtain ⟨B28, hq, hB28⟩ := hB
        refine hp_iload E 4 dX3_close_138 rfl ?_
        refine hp_aload_n E 0 dX3_close_140 rfl rfl ?_
        refine hp_gI E g_RX3_107 fB_53_14 dX3_close_141 ?_
        refine hp_icmp_ge E 194 dX3_close_144 (by decide) (fun c31 => ?_) (fun c31 => ?_)
        · replace hq := hq.1 c31
          refine hp_aload_n E 0 dX3_close_194 rfl rfl ?_
          refine hp_iload_n E 1 dX3_close_195 rfl rfl ?_
          refine hp_pI E p_RX3_107 fB_53_14 (by decide) hJ dX3_close_196 ?_
          refine hp_toph (fun h32 eh32 => ?_)
          replace hq := hq h32 eh32
          exact hp_vret E hq hZ dX3_close_199
        · replace hq := hq.2 c31
          refine hp_aload_n E 0 dX3_close_147 rfl rfl ?_
          refine hp_gR E g_RX3_18 fB_53_5 dX3_close_148 ?_
          refine hp_aload_n E 0 dX3_close_151 rfl rfl ?_
          refine hp_gR E g_RX3_40 fB_53_12 dX3_close_152 ?_
          refine hp_iload E 4 dX3_close_155 rfl ?_
          refine hp_iald E 63 aB_63 hq.1 dX3_close_157 ?_
          replace hq := hq.2
          refine hp_iload E 3 dX3_close_158 rfl ?_
          have hin := hq.1
          replace hq := hq.2
          have hbz := hq.1
          replace hq := hq.2
          refine hp_zast E 56 aB_56 zB_56 hJ hin hbz dX3_close_160 ?_
          refine hp_toph (fun h33 eh33 => ?_)
          replace hq := hq h33 eh33
          refine hp_aload_n E 0 dX3_close_161 rfl rfl ?_
          refine hp_gR E g_RX3_21 fB_53_6 dX3_close_162 ?_
          refine hp_aload_n E 0 dX3_close_165 rfl rfl ?_
          refine hp_gR E g_RX3_40 fB_53_12 dX3_close_166 ?_
          refine hp_iload E 4 dX3_close_169 rfl ?_
          refine hp_iald E 63 aB_63 hq.1 dX3_close_171 ?_
          replace hq := hq.2
          refine hp_iload E 3 dX3_close_172 rfl ?_
          obtain ⟨K35, hq, hK35⟩ := hq
          have jK35 : ∀ (v36 : Int32), K35 v36 → hp_G p l e rm_X3_close s m args below meth c SB cs ad A D 7 0 0 Z 187 [(0, .ref (ad 53)), (2, .int v3), (4, .int v17), (5, .int v23), (6, .int v29)] [.int v36, .int (h33 63 v29.toNatClampNeg), .ref (ad 57)] h33 := by
            intro v36 hq
            replace hq := hK35 v36 hq
            have hin := hq.1
            replace hq := hq.2
            have hbz := hq.1
            replace hq := hq.2
            refine hp_zast E 57 aB_57 zB_57 hJ hin hbz dX3_close_187 ?_
            refine hp_toph (fun h39 eh39 => ?_)
            replace hq := hq h39 eh39
            obtain ⟨v40, ev40⟩ : ∃ z : Int32, z = v29 + (nI 1) := ⟨_, rfl⟩
            replace hq := hq v40 ev40
            refine hp_iinc (lv' := [(0, .ref (ad 53)), (2, .int v3), (4, .int v17), (5, .int v23), (6, .int v40)]) E 4 v40 dX3_close_188 rfl (by rw [ev40]; rfl) (by decide) rfl rfl ?_
            refine hp_goto E 138 dX3_close_191 (by decide) ?_
            exact hB28 _ _ hq
          obtain ⟨K37, hq, hK37⟩ := hq
          have jK37 : K37 → hp_G p l e rm_X3_close s m args below meth c SB cs ad A D 7 0 0 Z 182 [(0, .ref (ad 53)), (2, .int v3), (4, .int v17), (5, .int v23), (6, .int v29)] [.int (h33 63 v29.toNatClampNeg), .ref (ad 57)] h33 := by
            intro  hq
            replace hq := hK37  hq
            refine hp_iconst E (nI 1) dX3_close_182 (by decide) ?_
            refine hp_goto E 187 dX3_close_183 (by decide) ?_
            exact jK35 _ hq
          refine hp_if_ne E 182 dX3_close_174 (by decide) (fun c34 => ?_) (fun c34 => ?_)
          · replace hq := hq.2 c34
            exact jK37  hq
          · replace hq := hq.1 c34
            refine hp_iload E 2 dX3_close_177 rfl ?_
            refine hp_if_eq E 186 dX3_close_179 (by decide) (fun c38 => ?_) (fun c38 => ?_)
            · replace hq := hq.1 c38
              refine hp_iconst E (nI 0) dX3_close_186 (by decide) ?_
              exact jK35 _ hq
            · replace hq := hq.2 c38
              exact jK37  hq
      obtain ⟨K24, hq, hK24⟩ := hq
      have jK24 : K24 → hp_G p l e rm_X3_close s m args below meth c SB cs ad A D 7 0 0 Z 132 [(0, .ref (ad 53)), (2, .int v3), (4, .int v17)] [] h19 := by
        intro  hq
        replace hq := hK24  hq
        refine hp_iconst E (nI 0) dX3_close_132 (by decide) ?_
        exact jK22 _ hq
      refine hp_if_eq E 132 dX3_close_102 (by decide) (fun c21 => ?_) (fun c21 => ?_)
      · replace hq := hq.1 c21
        refine hp_sub (lv' := [(0, .ref (ad 53)), (2, .int v3), (4, .int v17)]) [0, 2, 3] rfl ?_
        exact jK24  hq
      · replace hq := hq.2 c21
        refine hp_aload_n E 0 dX3_close_105 rfl rfl ?_
        refine hp_gI E g_RX3_85 fB_53_19 dX3_close_106 ?_
        obtain ⟨K26, hq, hK26⟩ := hq
        have jK26 : K26 → hp_G p l e rm_X3_close s m args below meth c SB cs ad A D 7 0 0 Z 128 [(0, .ref (ad 53)), (2, .int v3), (4, .int v17)] [] h19 := by
          intro  hq
          replace hq := hK26  hq
          refine hp_iconst E (nI 1) dX3_close_128 (by decide) ?_
          refine hp_goto E 133 dX3_close_129 (by decide) ?_
          exact jK22 _ hq
        refine hp_if_eq E 128 dX3_close_109 (by decide) (fun c25 => ?_) (fun c25 => ?_)
        · replace hq := hq.1 c25
          refine hp_sub (lv' := [(0, .ref (ad 53)), (2, .int v3), (4, .int v17)]) [0, 2, 3] rfl ?_
          exact jK26  hq
        · replace hq := hq.2 c25
          refine hp_aload_n E 0 dX3_close_112 rfl rfl ?_
          refine hp_gI E g_RX3_141 fB_53_17 dX3_close_113 ?_
          refine hp_aload_n E 0 dX3_close_116 rfl rfl ?_
          refine hp_gI E g_RX3_144 fB_53_18 dX3_close_117 ?_
          refine hp_ior E dX3_close_120 ?_
          refine hp_aload_n E 0 dX3_close_121 rfl rfl ?_
          refine hp_gI E g_RX3_101 fB_53_16 dX3_close_122 ?_
          refine hp_icmp_ne E 132 dX3_close_125 (by decide) (fun c27 => ?_) (fun c27 => ?_)
          · replace hq := hq.2 c27
            refine hp_sub (lv' := [(0, .ref (ad 53)), (2, .int v3), (4, .int v17)]) [0, 2, 3] rfl ?_
            exact jK24  hq
          · replace hq := hq.1 c27
            refine hp_sub (lv' := [(0, .ref (ad 53)), (2, .int v3), (4, .int v17)]) [0, 2, 3] rfl ?_
            exact jK26  hq
    · replace hq := hq.2 c20
      refine hp_aload_n E 0 dX3_close_74 rfl rfl ?_
      refine hp_aload_n E 0 dX3_close_75 rfl rfl ?_
      refine hp_gR E g_RX3_40 fB_53_12 dX3_close_76 ?_
      refine hp_iload E 4 dX3_close_79 rfl ?_
      refine hp_iald E 63 aB_63 hq.1 dX3_close_81 ?_
      replace hq := hq.2
      refine hp_iload_n E 1 dX3_close_82 rfl rfl ?_
      refine hp_callVi' (rest := []) E 53 fB_53_0 vcl_3 (c_X3_weigh l hJ hq) F_X3_weigh m_RX3_147 ⟨rfl, rfl⟩ ⟨Nat.le_of_ble_eq_true rfl, Nat.le_of_ble_eq_true rfl⟩ ⟨Nat.zero_le _, Nat.zero_le _⟩ rfl rfl (Nat.le_of_ble_eq_true rfl) dX3_close_83 (fun r41 h42 hq => ?_)
      obtain ⟨K44, hq, hK44⟩ := hq
      have jK44 : ∀ (v45 : Int32), K44 v45 → hp_G p l e rm_X3_close s m args below meth c SB cs ad A D 7 0 0 Z 92 [(0, .ref (ad 53)), (1, .int a1), (2, .int v3), (4, .int v45), (5, .int v18)] [] h42 := by
        intro v45 hq
        replace hq := hK44 v45 hq
        obtain ⟨v46, ev46⟩ : ∃ z : Int32, z = v18 + (nI 1) := ⟨_, rfl⟩
        replace hq := hq v46 ev46
        refine hp_iinc (lv' := [(0, .ref (ad 53)), (1, .int a1), (2, .int v3), (4, .int v45), (5, .int v46)]) E 4 v46 dX3_close_92 rfl (by rw [ev46]; rfl) (by decide) rfl rfl ?_
        refine hp_goto E 65 dX3_close_95 (by decide) ?_
        exact hB16 _ _ _ hq
      refine hp_if_eq E 92 dX3_close_86 (by decide) (fun c43 => ?_) (fun c43 => ?_)
      · replace hq := hq.1 c43
        exact jK44 _ hq
      · replace hq := hq.2 c43
        refine hp_iconst E (nI 1) dX3_close_89 (by decide) ?_
        refine hp_istore (lv' := [(0, .ref (ad 53)), (1, .int a1), (2, .int v3), (4, .int (nI 1)), (5, .int v18)]) E dX3_close_90 (by decide) rfl rfl ?_
        exact jK44 _ hq
  refine hp_if_eq E 49 dX3_close_8 (by decide) (fun c6 => ?_) (fun c6 => ?_)
  · replace hq := hq.1 c6
    refine hp_sub (lv' := [(0, .ref (ad 53)), (1, .int a1), (2, .int v3)]) [0, 1, 2] rfl ?_
    exact jK7  hq
  · replace hq := hq.2 c6
    refine hp_iload_n E 2 dX3_close_11 rfl rfl ?_
    refine hp_if_le E 49 dX3_close_12 (by decide) (fun c8 => ?_) (fun c8 => ?_)
    · replace hq := hq.1 c8
      refine hp_sub (lv' := [(0, .ref (ad 53)), (1, .int a1), (2, .int v3)]) [0, 1, 2] rfl ?_
      exact jK7  hq
    · replace hq := hq.2 c8
      obtain ⟨v9, ev9⟩ : ∃ z : Int32, z = v3 + (-1) := ⟨_, rfl⟩
      replace hq := hq v9 ev9
      refine hp_iinc (lv' := [(0, .ref (ad 53)), (1, .int a1), (2, .int v9), (3, .int v4)]) E 2 v9 dX3_close_15 rfl (by rw [ev9]; rfl) (by decide) rfl rfl ?_
      refine hp_aload_n E 0 dX3_close_18 rfl rfl ?_
      refine hp_gR E g_RX3_34 fB_53_10 dX3_close_19 ?_
      refine hp_aload_n E 0 dX3_close_22 rfl rfl ?_
      refine hp_gR E g_RX3_40 fB_53_12 dX3_close_23 ?_
      refine hp_iload_n E 2 dX3_close_26 rfl rfl ?_
      refine hp_iald E 63 aB_63 hq.1 dX3_close_27 ?_
      replace hq := hq.2
      refine hp_iload_n E 1 dX3_close_28 rfl rfl ?_
      have hin := hq.1
      replace hq := hq.2
      refine hp_iast E 61 aB_61 zB_61 hJ hin dX3_close_29 ?_
      refine hp_toph (fun h10 eh10 => ?_)
      replace hq := hq h10 eh10
      refine hp_aload_n E 0 dX3_close_30 rfl rfl ?_
      refine hp_gR E g_RX3_40 fB_53_12 dX3_close_31 ?_
      refine hp_iload_n E 2 dX3_close_34 rfl rfl ?_
      refine hp_iald E 63 aB_63 hq.1 dX3_close_35 ?_
      replace hq := hq.2
      refine hp_iload_n E 1 dX3_close_36 rfl rfl ?_
      obtain ⟨K12, hq, hK12⟩ := hq
      have jK12 : ∀ (v13 : Int32), K12 v13 → hp_G p l e rm_X3_close s m args below meth c SB cs ad A D 7 0 0 Z 45 [(0, .ref (ad 53)), (1, .int a1), (2, .int v9)] [.int v13] h10 := by
        intro v13 hq
        replace hq := hK12 v13 hq
        refine hp_istore_n (lv' := [(0, .ref (ad 53)), (1, .int a1), (2, .int v9), (3, .int v13)]) E dX3_close_45 rfl (by decide) rfl rfl ?_
        refine hp_goto E 7 dX3_close_46 (by decide) ?_
        exact hB2 _ _ _ hq
      refine hp_icmp_eq E 44 dX3_close_37 (by decide) (fun c11 => ?_) (fun c11 => ?_)
      · replace hq := hq.1 c11
        refine hp_iconst E (nI 0) dX3_close_44 (by decide) ?_
        refine hp_sub (lv' := [(0, .ref (ad 53)), (1, .int a1), (2, .int v9)]) [0, 1, 2] rfl ?_
        exact jK12 _ hq
      · replace hq := hq.2 c11
        refine hp_iconst E (nI 1) dX3_close_40 (by decide) ?_
        refine hp_goto E 45 dX3_close_41 (by decide) ?_
        refine hp_sub (lv' := [(0, .ref (ad 53)), (1, .int a1), (2, .int v9)]) [0, 1, 2] rfl ?_
        exact jK12 _ hq
theorem dX3_walk_0 : decode cX3_walk 0 = .ok (.aload_n 0, 1) := by decide +kernel
theorem dX3_walk_1 : decode cX3_walk 1 = .ok (.iload_n 1, 1) := by decide +kernel
theorem dX3_walk_2 : decode cX3_walk 2 = .ok (.invokevirtual 116, 3) := by decide +kernel
theorem dX3_walk_5 : decode cX3_walk 5 = .ok (.iconst 0, 1) := by decide +kernel
theorem dX3_walk_6 : decode cX3_walk 6 = .ok (.istore_n 2, 1) := by decide +kernel
theorem dX3_walk_7 : decode cX3_walk 7 = .ok (.iload_n 2, 1) := by decide +kernel
theorem dX3_walk_8 : decode cX3_walk 8 = .ok (.sipush 6400, 3) := by decide +kernel
theorem dX3_walk_11 : decode cX3_walk 11 = .ok (.if_icmp .ge 105, 3) := by decide +kernel
theorem dX3_walk_14 : decode cX3_walk 14 = .ok (.aload_n 0, 1) := by decide +kernel
theorem dX3_walk_15 : decode cX3_walk 15 = .ok (.getfield 104, 3) := by decide +kernel
theorem dX3_walk_18 : decode cX3_walk 18 = .ok (.ifCond .le 98, 3) := by decide +kernel
theorem dX3_walk_21 : decode cX3_walk 21 = .ok (.aload_n 0, 1) := by decide +kernel
theorem dX3_walk_22 : decode cX3_walk 22 = .ok (.getfield 37, 3) := by decide +kernel
theorem dX3_walk_25 : decode cX3_walk 25 = .ok (.aload_n 0, 1) := by decide +kernel
theorem dX3_walk_26 : decode cX3_walk 26 = .ok (.getfield 104, 3) := by decide +kernel
theorem dX3_walk_29 : decode cX3_walk 29 = .ok (.iconst 1, 1) := by decide +kernel
theorem dX3_walk_30 : decode cX3_walk 30 = .ok (.isub, 1) := by decide +kernel
theorem dX3_walk_31 : decode cX3_walk 31 = .ok (.iaload, 1) := by decide +kernel
theorem dX3_walk_32 : decode cX3_walk 32 = .ok (.istore_n 3, 1) := by decide +kernel
theorem dX3_walk_33 : decode cX3_walk 33 = .ok (.aload_n 0, 1) := by decide +kernel
theorem dX3_walk_34 : decode cX3_walk 34 = .ok (.getfield 31, 3) := by decide +kernel
theorem dX3_walk_37 : decode cX3_walk 37 = .ok (.iload_n 3, 1) := by decide +kernel
theorem dX3_walk_38 : decode cX3_walk 38 = .ok (.iaload, 1) := by decide +kernel
theorem dX3_walk_39 : decode cX3_walk 39 = .ok (.aload_n 0, 1) := by decide +kernel
theorem dX3_walk_40 : decode cX3_walk 40 = .ok (.getfield 47, 3) := by decide +kernel
theorem dX3_walk_43 : decode cX3_walk 43 = .ok (.getfield 119, 3) := by decide +kernel
theorem dX3_walk_46 : decode cX3_walk 46 = .ok (.iload_n 3, 1) := by decide +kernel
theorem dX3_walk_47 : decode cX3_walk 47 = .ok (.iconst 1, 1) := by decide +kernel
theorem dX3_walk_48 : decode cX3_walk 48 = .ok (.iadd, 1) := by decide +kernel
theorem dX3_walk_49 : decode cX3_walk 49 = .ok (.iaload, 1) := by decide +kernel
theorem dX3_walk_50 : decode cX3_walk 50 = .ok (.if_icmp .ge 25, 3) := by decide +kernel
theorem dX3_walk_53 : decode cX3_walk 53 = .ok (.aload_n 0, 1) := by decide +kernel
theorem dX3_walk_54 : decode cX3_walk 54 = .ok (.iload_n 3, 1) := by decide +kernel
theorem dX3_walk_55 : decode cX3_walk 55 = .ok (.aload_n 0, 1) := by decide +kernel
theorem dX3_walk_56 : decode cX3_walk 56 = .ok (.getfield 47, 3) := by decide +kernel
theorem dX3_walk_59 : decode cX3_walk 59 = .ok (.getfield 122, 3) := by decide +kernel
theorem dX3_walk_62 : decode cX3_walk 62 = .ok (.aload_n 0, 1) := by decide +kernel
theorem dX3_walk_63 : decode cX3_walk 63 = .ok (.getfield 31, 3) := by decide +kernel
theorem dX3_walk_66 : decode cX3_walk 66 = .ok (.iload_n 3, 1) := by decide +kernel
theorem dX3_walk_67 : decode cX3_walk 67 = .ok (.iaload, 1) := by decide +kernel
theorem dX3_walk_68 : decode cX3_walk 68 = .ok (.iaload, 1) := by decide +kernel
theorem dX3_walk_69 : decode cX3_walk 69 = .ok (.invokevirtual 125, 3) := by decide +kernel
theorem dX3_walk_72 : decode cX3_walk 72 = .ok (.goto 38, 3) := by decide +kernel
theorem dX3_walk_75 : decode cX3_walk 75 = .ok (.aload_n 0, 1) := by decide +kernel
theorem dX3_walk_76 : decode cX3_walk 76 = .ok (.dup, 1) := by decide +kernel
theorem dX3_walk_77 : decode cX3_walk 77 = .ok (.getfield 104, 3) := by decide +kernel
theorem dX3_walk_80 : decode cX3_walk 80 = .ok (.iconst 1, 1) := by decide +kernel
theorem dX3_walk_81 : decode cX3_walk 81 = .ok (.isub, 1) := by decide +kernel
theorem dX3_walk_82 : decode cX3_walk 82 = .ok (.putfield 104, 3) := by decide +kernel
theorem dX3_walk_85 : decode cX3_walk 85 = .ok (.aload_n 0, 1) := by decide +kernel
theorem dX3_walk_86 : decode cX3_walk 86 = .ok (.iload_n 3, 1) := by decide +kernel
theorem dX3_walk_87 : decode cX3_walk 87 = .ok (.invokevirtual 129, 3) := by decide +kernel
theorem dX3_walk_90 : decode cX3_walk 90 = .ok (.aload_n 0, 1) := by decide +kernel
theorem dX3_walk_91 : decode cX3_walk 91 = .ok (.getfield 28, 3) := by decide +kernel
theorem dX3_walk_94 : decode cX3_walk 94 = .ok (.iload_n 3, 1) := by decide +kernel
theorem dX3_walk_95 : decode cX3_walk 95 = .ok (.iaload, 1) := by decide +kernel
theorem dX3_walk_96 : decode cX3_walk 96 = .ok (.aload_n 0, 1) := by decide +kernel
theorem dX3_walk_97 : decode cX3_walk 97 = .ok (.getfield 24, 3) := by decide +kernel
theorem dX3_walk_100 : decode cX3_walk 100 = .ok (.iload_n 3, 1) := by decide +kernel
theorem dX3_walk_101 : decode cX3_walk 101 = .ok (.iaload, 1) := by decide +kernel
theorem dX3_walk_102 : decode cX3_walk 102 = .ok (.if_icmp .ne 8, 3) := by decide +kernel
theorem dX3_walk_105 : decode cX3_walk 105 = .ok (.aload_n 0, 1) := by decide +kernel
theorem dX3_walk_106 : decode cX3_walk 106 = .ok (.iload_n 3, 1) := by decide +kernel
theorem dX3_walk_107 : decode cX3_walk 107 = .ok (.invokevirtual 132, 3) := by decide +kernel
theorem dX3_walk_110 : decode cX3_walk 110 = .ok (.iinc 2 1, 3) := by decide +kernel
theorem dX3_walk_113 : decode cX3_walk 113 = .ok (.goto (-106), 3) := by decide +kernel
theorem dX3_walk_116 : decode cX3_walk 116 = .ok (.return_, 1) := by decide +kernel
set_option maxHeartbeats 4000000 in
set_option maxRecDepth 100000 in
theorem c_X3_walk (l : Launch) {cs : Nat → ClassId} {ad : Nat → Nat} {A : Nat → Prop} {D : va_G} (hJ : hp_J SB ad A)   {h : hp_H} {a1 : Int32} {Q : hp_H → Prop} (hq : q_X3_walk h a1 Q) : hp_Mv l yX3_walk cX3_walk 4 none rm_X3_walk [.ref (ad 53), .int a1] SB cs ad A D h Q := by
  refine hp_met (own := RX3) rfl (by decide) (Nat.le_of_ble_eq_true rfl) rfl (fun p e s m args below meth c Z E hZ hnm => ?_)
  refine hp_sub (lv' := [(0, .ref (ad 53)), (1, .int a1)]) [0, 1] rfl ?_
  unfold q_X3_walk at hq
  refine hp_aload_n E 0 dX3_walk_0 rfl rfl ?_
  refine hp_iload_n E 1 dX3_walk_1 rfl rfl ?_
  refine hp_callVv' (rest := []) E 53 fB_53_0 vcl_3 (c_X3_enter l hJ hq) F_X3_enter m_RX3_116 ⟨rfl, rfl⟩ ⟨Nat.le_of_ble_eq_true rfl, Nat.le_of_ble_eq_true rfl⟩ ⟨Nat.zero_le _, Nat.zero_le _⟩ rfl rfl (Nat.le_of_ble_eq_true rfl) dX3_walk_2 (fun h1 hq => ?_)
  refine hp_iconst E (nI 0) dX3_walk_5 (by decide) ?_
  refine hp_istore_n (lv' := [(0, .ref (ad 53)), (1, .int a1), (2, .int (nI 0))]) E dX3_walk_6 rfl (by decide) rfl rfl ?_
  refine hp_sub (lv' := [(0, .ref (ad 53)), (2, .int (nI 0))]) [0, 2] rfl ?_
  refine hq (fun v3 h4 => hp_G p l e rm_X3_walk s m args below meth c SB cs ad A D 4 0 0 Z 7 [(0, .ref (ad 53)), (2, .int v3)] [] h4) (fun v3 h4 hB => ?_)
  obtain ⟨B2, hq, hB2⟩ := hB
  refine hp_iload_n E 1 dX3_walk_7 rfl rfl ?_
  refine hp_sipush E (nI 6400) dX3_walk_8 (by decide) ?_
  refine hp_icmp_ge E 116 dX3_walk_11 (by decide) (fun c5 => ?_) (fun c5 => ?_)
  · replace hq := hq.1 c5
    exact hp_vret E hq hZ dX3_walk_116
  · replace hq := hq.2 c5
    refine hp_aload_n E 0 dX3_walk_14 rfl rfl ?_
    refine hp_gI E g_RX3_104 fB_53_13 dX3_walk_15 ?_
    refine hp_if_le E 116 dX3_walk_18 (by decide) (fun c6 => ?_) (fun c6 => ?_)
    · replace hq := hq.1 c6
      exact hp_vret E hq hZ dX3_walk_116
    · replace hq := hq.2 c6
      refine hp_aload_n E 0 dX3_walk_21 rfl rfl ?_
      refine hp_gR E g_RX3_37 fB_53_11 dX3_walk_22 ?_
      refine hp_aload_n E 0 dX3_walk_25 rfl rfl ?_
      refine hp_gI E g_RX3_104 fB_53_13 dX3_walk_26 ?_
      refine hp_iconst E (nI 1) dX3_walk_29 (by decide) ?_
      refine hp_isub E dX3_walk_30 ?_
      refine hp_iald E 62 aB_62 hq.1 dX3_walk_31 ?_
      replace hq := hq.2
      refine hp_topi (fun v7 ev7 => ?_)
      replace hq := hq v7 ev7
      refine hp_istore_n (lv' := [(0, .ref (ad 53)), (2, .int v3), (3, .int v7)]) E dX3_walk_32 rfl (by decide) rfl rfl ?_
      refine hp_aload_n E 0 dX3_walk_33 rfl rfl ?_
      refine hp_gR E g_RX3_31 fB_53_9 dX3_walk_34 ?_
      refine hp_iload_n E 2 dX3_walk_37 rfl rfl ?_
      refine hp_iald E 60 aB_60 hq.1 dX3_walk_38 ?_
      replace hq := hq.2
      refine hp_aload_n E 0 dX3_walk_39 rfl rfl ?_
      refine hp_gR E g_RX3_47 fB_53_1 dX3_walk_40 ?_
      refine hp_gR E g_RX3_119 fB_35_8 dX3_walk_43 ?_
      refine hp_iload_n E 2 dX3_walk_46 rfl rfl ?_
      refine hp_iconst E (nI 1) dX3_walk_47 (by decide) ?_
      refine hp_iadd E dX3_walk_48 ?_
      refine hp_iald E 36 aB_36 hq.1 dX3_walk_49 ?_
      replace hq := hq.2
      obtain ⟨K9, hq, hK9⟩ := hq
      have jK9 : ∀  (h10 : hp_H), K9 h10 → hp_G p l e rm_X3_walk s m args below meth c SB cs ad A D 4 0 0 Z 110 [(0, .ref (ad 53)), (2, .int v3)] [] h10 := by
        intro h10 hq
        replace hq := hK9 h10 hq
        obtain ⟨v16, ev16⟩ : ∃ z : Int32, z = v3 + (nI 1) := ⟨_, rfl⟩
        replace hq := hq v16 ev16
        refine hp_iinc (lv' := [(0, .ref (ad 53)), (2, .int v16)]) E 1 v16 dX3_walk_110 rfl (by rw [ev16]; rfl) (by decide) rfl rfl ?_
        refine hp_goto E 7 dX3_walk_113 (by decide) ?_
        exact hB2 _ _ hq
      refine hp_icmp_ge E 75 dX3_walk_50 (by decide) (fun c8 => ?_) (fun c8 => ?_)
      · replace hq := hq.1 c8
        refine hp_aload_n E 0 dX3_walk_75 rfl rfl ?_
        refine hp_dup E rfl dX3_walk_76 ?_
        refine hp_gI E g_RX3_104 fB_53_13 dX3_walk_77 ?_
        refine hp_iconst E (nI 1) dX3_walk_80 (by decide) ?_
        refine hp_isub E dX3_walk_81 ?_
        refine hp_pI E p_RX3_104 fB_53_13 (by decide) hJ dX3_walk_82 ?_
        refine hp_toph (fun h11 eh11 => ?_)
        replace hq := hq h11 eh11
        refine hp_aload_n E 0 dX3_walk_85 rfl rfl ?_
        refine hp_iload_n E 2 dX3_walk_86 rfl rfl ?_
        refine hp_callVv' (rest := []) E 53 fB_53_0 vcl_3 (c_X3_handBack l hJ hq) F_X3_handBack m_RX3_129 ⟨rfl, rfl⟩ ⟨Nat.le_of_ble_eq_true rfl, Nat.le_of_ble_eq_true rfl⟩ ⟨Nat.zero_le _, Nat.zero_le _⟩ rfl rfl (Nat.le_of_ble_eq_true rfl) dX3_walk_87 (fun h12 hq => ?_)
        refine hp_aload_n E 0 dX3_walk_90 rfl rfl ?_
        refine hp_gR E g_RX3_28 fB_53_8 dX3_walk_91 ?_
        refine hp_iload_n E 2 dX3_walk_94 rfl rfl ?_
        refine hp_iald E 59 aB_59 hq.1 dX3_walk_95 ?_
        replace hq := hq.2
        refine hp_aload_n E 0 dX3_walk_96 rfl rfl ?_
        refine hp_gR E g_RX3_24 fB_53_7 dX3_walk_97 ?_
        refine hp_iload_n E 2 dX3_walk_100 rfl rfl ?_
        refine hp_iald E 58 aB_58 hq.1 dX3_walk_101 ?_
        replace hq := hq.2
        refine hp_icmp_ne E 110 dX3_walk_102 (by decide) (fun c13 => ?_) (fun c13 => ?_)
        · replace hq := hq.2 c13
          refine hp_sub (lv' := [(0, .ref (ad 53)), (2, .int v3)]) [0, 1] rfl ?_
          exact jK9 _ hq
        · replace hq := hq.1 c13
          refine hp_aload_n E 0 dX3_walk_105 rfl rfl ?_
          refine hp_iload_n E 2 dX3_walk_106 rfl rfl ?_
          refine hp_callVv' (rest := []) E 53 fB_53_0 vcl_3 (c_X3_close l hJ hq) F_X3_close m_RX3_132 ⟨rfl, rfl⟩ ⟨Nat.le_of_ble_eq_true rfl, Nat.le_of_ble_eq_true rfl⟩ ⟨Nat.zero_le _, Nat.zero_le _⟩ rfl rfl (Nat.le_of_ble_eq_true rfl) dX3_walk_107 (fun h14 hq => ?_)
          refine hp_sub (lv' := [(0, .ref (ad 53)), (2, .int v3)]) [0, 1] rfl ?_
          exact jK9 _ hq
      · replace hq := hq.2 c8
        refine hp_aload_n E 0 dX3_walk_53 rfl rfl ?_
        refine hp_iload_n E 2 dX3_walk_54 rfl rfl ?_
        refine hp_aload_n E 0 dX3_walk_55 rfl rfl ?_
        refine hp_gR E g_RX3_47 fB_53_1 dX3_walk_56 ?_
        refine hp_gR E g_RX3_122 fB_35_9 dX3_walk_59 ?_
        refine hp_aload_n E 0 dX3_walk_62 rfl rfl ?_
        refine hp_gR E g_RX3_31 fB_53_9 dX3_walk_63 ?_
        refine hp_iload_n E 2 dX3_walk_66 rfl rfl ?_
        refine hp_iald E 60 aB_60 hq.1 dX3_walk_67 ?_
        replace hq := hq.2
        refine hp_iald E 37 aB_37 hq.1 dX3_walk_68 ?_
        replace hq := hq.2
        refine hp_callVv' (rest := []) E 53 fB_53_0 vcl_3 (c_X3_follow l hJ hq) F_X3_follow m_RX3_125 ⟨rfl, rfl⟩ ⟨Nat.le_of_ble_eq_true rfl, Nat.le_of_ble_eq_true rfl⟩ ⟨Nat.zero_le _, Nat.zero_le _⟩ rfl rfl (Nat.le_of_ble_eq_true rfl) dX3_walk_69 (fun h15 hq => ?_)
        refine hp_goto E 110 dX3_walk_72 (by decide) ?_
        refine hp_sub (lv' := [(0, .ref (ad 53)), (2, .int v3)]) [0, 1] rfl ?_
        exact jK9 _ hq
theorem dX3_tie_0 : decode cX3_tie 0 = .ok (.aload_n 0, 1) := by decide +kernel
theorem dX3_tie_1 : decode cX3_tie 1 = .ok (.iload_n 1, 1) := by decide +kernel
theorem dX3_tie_2 : decode cX3_tie 2 = .ok (.putfield 85, 3) := by decide +kernel
theorem dX3_tie_5 : decode cX3_tie 5 = .ok (.aload_n 0, 1) := by decide +kernel
theorem dX3_tie_6 : decode cX3_tie 6 = .ok (.aload_n 0, 1) := by decide +kernel
theorem dX3_tie_7 : decode cX3_tie 7 = .ok (.getfield 43, 3) := by decide +kernel
theorem dX3_tie_10 : decode cX3_tie 10 = .ok (.getfield 89, 3) := by decide +kernel
theorem dX3_tie_13 : decode cX3_tie 13 = .ok (.invokevirtual 95, 3) := by decide +kernel
theorem dX3_tie_16 : decode cX3_tie 16 = .ok (.putfield 101, 3) := by decide +kernel
theorem dX3_tie_19 : decode cX3_tie 19 = .ok (.aload_n 0, 1) := by decide +kernel
theorem dX3_tie_20 : decode cX3_tie 20 = .ok (.iconst 0, 1) := by decide +kernel
theorem dX3_tie_21 : decode cX3_tie 21 = .ok (.putfield 104, 3) := by decide +kernel
theorem dX3_tie_24 : decode cX3_tie 24 = .ok (.aload_n 0, 1) := by decide +kernel
theorem dX3_tie_25 : decode cX3_tie 25 = .ok (.iconst 0, 1) := by decide +kernel
theorem dX3_tie_26 : decode cX3_tie 26 = .ok (.putfield 107, 3) := by decide +kernel
theorem dX3_tie_29 : decode cX3_tie 29 = .ok (.aload_n 0, 1) := by decide +kernel
theorem dX3_tie_30 : decode cX3_tie 30 = .ok (.iconst 0, 1) := by decide +kernel
theorem dX3_tie_31 : decode cX3_tie 31 = .ok (.putfield 110, 3) := by decide +kernel
theorem dX3_tie_34 : decode cX3_tie 34 = .ok (.iconst 0, 1) := by decide +kernel
theorem dX3_tie_35 : decode cX3_tie 35 = .ok (.istore_n 2, 1) := by decide +kernel
theorem dX3_tie_36 : decode cX3_tie 36 = .ok (.iload_n 2, 1) := by decide +kernel
theorem dX3_tie_37 : decode cX3_tie 37 = .ok (.aload_n 0, 1) := by decide +kernel
theorem dX3_tie_38 : decode cX3_tie 38 = .ok (.getfield 47, 3) := by decide +kernel
theorem dX3_tie_41 : decode cX3_tie 41 = .ok (.getfield 61, 3) := by decide +kernel
theorem dX3_tie_44 : decode cX3_tie 44 = .ok (.if_icmp .ge 37, 3) := by decide +kernel
theorem dX3_tie_47 : decode cX3_tie 47 = .ok (.aload_n 0, 1) := by decide +kernel
theorem dX3_tie_48 : decode cX3_tie 48 = .ok (.getfield 24, 3) := by decide +kernel
theorem dX3_tie_51 : decode cX3_tie 51 = .ok (.iload_n 2, 1) := by decide +kernel
theorem dX3_tie_52 : decode cX3_tie 52 = .ok (.iconst 0, 1) := by decide +kernel
theorem dX3_tie_53 : decode cX3_tie 53 = .ok (.iastore, 1) := by decide +kernel
theorem dX3_tie_54 : decode cX3_tie 54 = .ok (.aload_n 0, 1) := by decide +kernel
theorem dX3_tie_55 : decode cX3_tie 55 = .ok (.getfield 34, 3) := by decide +kernel
theorem dX3_tie_58 : decode cX3_tie 58 = .ok (.iload_n 2, 1) := by decide +kernel
theorem dX3_tie_59 : decode cX3_tie 59 = .ok (.iconst (-1), 1) := by decide +kernel
theorem dX3_tie_60 : decode cX3_tie 60 = .ok (.iastore, 1) := by decide +kernel
theorem dX3_tie_61 : decode cX3_tie 61 = .ok (.aload_n 0, 1) := by decide +kernel
theorem dX3_tie_62 : decode cX3_tie 62 = .ok (.getfield 18, 3) := by decide +kernel
theorem dX3_tie_65 : decode cX3_tie 65 = .ok (.iload_n 2, 1) := by decide +kernel
theorem dX3_tie_66 : decode cX3_tie 66 = .ok (.iconst 0, 1) := by decide +kernel
theorem dX3_tie_67 : decode cX3_tie 67 = .ok (.bastore, 1) := by decide +kernel
theorem dX3_tie_68 : decode cX3_tie 68 = .ok (.aload_n 0, 1) := by decide +kernel
theorem dX3_tie_69 : decode cX3_tie 69 = .ok (.getfield 21, 3) := by decide +kernel
theorem dX3_tie_72 : decode cX3_tie 72 = .ok (.iload_n 2, 1) := by decide +kernel
theorem dX3_tie_73 : decode cX3_tie 73 = .ok (.iconst 0, 1) := by decide +kernel
theorem dX3_tie_74 : decode cX3_tie 74 = .ok (.bastore, 1) := by decide +kernel
theorem dX3_tie_75 : decode cX3_tie 75 = .ok (.iinc 2 1, 3) := by decide +kernel
theorem dX3_tie_78 : decode cX3_tie 78 = .ok (.goto (-42), 3) := by decide +kernel
theorem dX3_tie_81 : decode cX3_tie 81 = .ok (.iconst 0, 1) := by decide +kernel
theorem dX3_tie_82 : decode cX3_tie 82 = .ok (.istore_n 2, 1) := by decide +kernel
theorem dX3_tie_83 : decode cX3_tie 83 = .ok (.iload_n 2, 1) := by decide +kernel
theorem dX3_tie_84 : decode cX3_tie 84 = .ok (.aload_n 0, 1) := by decide +kernel
theorem dX3_tie_85 : decode cX3_tie 85 = .ok (.getfield 47, 3) := by decide +kernel
theorem dX3_tie_88 : decode cX3_tie 88 = .ok (.getfield 61, 3) := by decide +kernel
theorem dX3_tie_91 : decode cX3_tie 91 = .ok (.if_icmp .ge 32, 3) := by decide +kernel
theorem dX3_tie_94 : decode cX3_tie 94 = .ok (.aload_n 0, 1) := by decide +kernel
theorem dX3_tie_95 : decode cX3_tie 95 = .ok (.getfield 9, 3) := by decide +kernel
theorem dX3_tie_98 : decode cX3_tie 98 = .ok (.iload_n 2, 1) := by decide +kernel
theorem dX3_tie_99 : decode cX3_tie 99 = .ok (.baload, 1) := by decide +kernel
theorem dX3_tie_100 : decode cX3_tie 100 = .ok (.ifCond .eq 17, 3) := by decide +kernel
theorem dX3_tie_103 : decode cX3_tie 103 = .ok (.aload_n 0, 1) := by decide +kernel
theorem dX3_tie_104 : decode cX3_tie 104 = .ok (.getfield 24, 3) := by decide +kernel
theorem dX3_tie_107 : decode cX3_tie 107 = .ok (.iload_n 2, 1) := by decide +kernel
theorem dX3_tie_108 : decode cX3_tie 108 = .ok (.iaload, 1) := by decide +kernel
theorem dX3_tie_109 : decode cX3_tie 109 = .ok (.ifCond .ne 8, 3) := by decide +kernel
theorem dX3_tie_112 : decode cX3_tie 112 = .ok (.aload_n 0, 1) := by decide +kernel
theorem dX3_tie_113 : decode cX3_tie 113 = .ok (.iload_n 2, 1) := by decide +kernel
theorem dX3_tie_114 : decode cX3_tie 114 = .ok (.invokevirtual 113, 3) := by decide +kernel
theorem dX3_tie_117 : decode cX3_tie 117 = .ok (.iinc 2 1, 3) := by decide +kernel
theorem dX3_tie_120 : decode cX3_tie 120 = .ok (.goto (-37), 3) := by decide +kernel
theorem dX3_tie_123 : decode cX3_tie 123 = .ok (.return_, 1) := by decide +kernel
set_option maxHeartbeats 4000000 in
set_option maxRecDepth 100000 in
theorem c_X3_tie (l : Launch) {cs : Nat → ClassId} {ad : Nat → Nat} {A : Nat → Prop} {D : va_G} (hJ : hp_J SB ad A)   {h : hp_H} {a1 : Int32} {Q : hp_H → Prop} (hq : q_X3_tie h a1 Q) : hp_Mv l yX3_tie cX3_tie 3 none rm_X3_tie [.ref (ad 53), .int a1] SB cs ad A D h Q := by
  refine hp_met (own := RX3) rfl (by decide) (Nat.le_of_ble_eq_true rfl) rfl (fun p e s m args below meth c Z E hZ hnm => ?_)
  refine hp_sub (lv' := [(0, .ref (ad 53)), (1, .int a1)]) [0, 1] rfl ?_
  unfold q_X3_tie at hq
  refine hp_aload_n E 0 dX3_tie_0 rfl rfl ?_
  refine hp_iload_n E 1 dX3_tie_1 rfl rfl ?_
  have hbz := hq.1
  replace hq := hq.2
  refine hp_pZ E p_RX3_85 fB_53_19 (by decide) hJ hbz dX3_tie_2 ?_
  refine hp_toph (fun h1 eh1 => ?_)
  replace hq := hq h1 eh1
  refine hp_aload_n E 0 dX3_tie_5 rfl rfl ?_
  refine hp_aload_n E 0 dX3_tie_6 rfl rfl ?_
  refine hp_gR E g_RX3_43 fB_53_0 dX3_tie_7 ?_
  refine hp_gR E g_RX3_89 fB_1_2 dX3_tie_10 ?_
  refine hp_callVip (rest := [.ref (ad 53)]) E 12 fB_12_0 vcl_6 (c_X6_everyoneBits l hJ hq) F_X6_everyoneBits m_RX3_95 ⟨rfl, rfl⟩ ⟨Nat.le_of_ble_eq_true rfl, Nat.le_of_ble_eq_true rfl⟩ ⟨Nat.zero_le _, Nat.zero_le _⟩ rfl rfl (Nat.le_of_ble_eq_true rfl) dX3_tie_13 (fun r2 hq => ?_)
  refine hp_pI E p_RX3_101 fB_53_16 (by decide) hJ dX3_tie_16 ?_
  refine hp_toph (fun h3 eh3 => ?_)
  replace hq := hq h3 eh3
  refine hp_aload_n E 0 dX3_tie_19 rfl rfl ?_
  refine hp_iconst E (nI 0) dX3_tie_20 (by decide) ?_
  refine hp_pI E p_RX3_104 fB_53_13 (by decide) hJ dX3_tie_21 ?_
  refine hp_toph (fun h4 eh4 => ?_)
  replace hq := hq h4 eh4
  refine hp_aload_n E 0 dX3_tie_24 rfl rfl ?_
  refine hp_iconst E (nI 0) dX3_tie_25 (by decide) ?_
  refine hp_pI E p_RX3_107 fB_53_14 (by decide) hJ dX3_tie_26 ?_
  refine hp_toph (fun h5 eh5 => ?_)
  replace hq := hq h5 eh5
  refine hp_aload_n E 0 dX3_tie_29 rfl rfl ?_
  refine hp_iconst E (nI 0) dX3_tie_30 (by decide) ?_
  refine hp_pI E p_RX3_110 fB_53_15 (by decide) hJ dX3_tie_31 ?_
  refine hp_toph (fun h6 eh6 => ?_)
  replace hq := hq h6 eh6
  refine hp_iconst E (nI 0) dX3_tie_34 (by decide) ?_
  refine hp_istore_n (lv' := [(0, .ref (ad 53)), (1, .int a1), (2, .int (nI 0))]) E dX3_tie_35 rfl (by decide) rfl rfl ?_
  refine hp_sub (lv' := [(0, .ref (ad 53)), (2, .int (nI 0))]) [0, 2] rfl ?_
  refine hq (fun v8 h9 => hp_G p l e rm_X3_tie s m args below meth c SB cs ad A D 3 0 0 Z 36 [(0, .ref (ad 53)), (2, .int v8)] [] h9) (fun v8 h9 hB => ?_)
  obtain ⟨B7, hq, hB7⟩ := hB
  refine hp_iload_n E 1 dX3_tie_36 rfl rfl ?_
  refine hp_aload_n E 0 dX3_tie_37 rfl rfl ?_
  refine hp_gR E g_RX3_47 fB_53_1 dX3_tie_38 ?_
  refine hp_gI E g_RX3_61 fB_35_2 dX3_tie_41 ?_
  refine hp_icmp_ge E 81 dX3_tie_44 (by decide) (fun c10 => ?_) (fun c10 => ?_)
  · replace hq := hq.1 c10
    refine hp_iconst E (nI 0) dX3_tie_81 (by decide) ?_
    refine hp_istore_n (lv' := [(0, .ref (ad 53)), (2, .int (nI 0))]) E dX3_tie_82 rfl (by decide) rfl rfl ?_
    refine hq (fun v12 h13 => hp_G p l e rm_X3_tie s m args below meth c SB cs ad A D 3 0 0 Z 83 [(0, .ref (ad 53)), (2, .int v12)] [] h13) (fun v12 h13 hB => ?_)
    obtain ⟨B11, hq, hB11⟩ := hB
    refine hp_iload_n E 1 dX3_tie_83 rfl rfl ?_
    refine hp_aload_n E 0 dX3_tie_84 rfl rfl ?_
    refine hp_gR E g_RX3_47 fB_53_1 dX3_tie_85 ?_
    refine hp_gI E g_RX3_61 fB_35_2 dX3_tie_88 ?_
    refine hp_icmp_ge E 123 dX3_tie_91 (by decide) (fun c14 => ?_) (fun c14 => ?_)
    · replace hq := hq.1 c14
      exact hp_vret E hq hZ dX3_tie_123
    · replace hq := hq.2 c14
      refine hp_aload_n E 0 dX3_tie_94 rfl rfl ?_
      refine hp_gR E g_RX3_9 fB_53_3 dX3_tie_95 ?_
      refine hp_iload_n E 1 dX3_tie_98 rfl rfl ?_
      refine hp_zald E 54 aB_54 hq.1 dX3_tie_99 ?_
      replace hq := hq.2
      obtain ⟨K16, hq, hK16⟩ := hq
      have jK16 : ∀  (h17 : hp_H), K16 h17 → hp_G p l e rm_X3_tie s m args below meth c SB cs ad A D 3 0 0 Z 117 [(0, .ref (ad 53)), (2, .int v12)] [] h17 := by
        intro h17 hq
        replace hq := hK16 h17 hq
        obtain ⟨v20, ev20⟩ : ∃ z : Int32, z = v12 + (nI 1) := ⟨_, rfl⟩
        replace hq := hq v20 ev20
        refine hp_iinc (lv' := [(0, .ref (ad 53)), (2, .int v20)]) E 1 v20 dX3_tie_117 rfl (by rw [ev20]; rfl) (by decide) rfl rfl ?_
        refine hp_goto E 83 dX3_tie_120 (by decide) ?_
        exact hB11 _ _ hq
      refine hp_if_eq E 117 dX3_tie_100 (by decide) (fun c15 => ?_) (fun c15 => ?_)
      · replace hq := hq.1 c15
        exact jK16 _ hq
      · replace hq := hq.2 c15
        refine hp_aload_n E 0 dX3_tie_103 rfl rfl ?_
        refine hp_gR E g_RX3_24 fB_53_7 dX3_tie_104 ?_
        refine hp_iload_n E 1 dX3_tie_107 rfl rfl ?_
        refine hp_iald E 58 aB_58 hq.1 dX3_tie_108 ?_
        replace hq := hq.2
        refine hp_if_ne E 117 dX3_tie_109 (by decide) (fun c18 => ?_) (fun c18 => ?_)
        · replace hq := hq.2 c18
          exact jK16 _ hq
        · replace hq := hq.1 c18
          refine hp_aload_n E 0 dX3_tie_112 rfl rfl ?_
          refine hp_iload_n E 1 dX3_tie_113 rfl rfl ?_
          refine hp_callVv' (rest := []) E 53 fB_53_0 vcl_3 (c_X3_walk l hJ hq) F_X3_walk m_RX3_113 ⟨rfl, rfl⟩ ⟨Nat.le_of_ble_eq_true rfl, Nat.le_of_ble_eq_true rfl⟩ ⟨Nat.zero_le _, Nat.zero_le _⟩ rfl rfl (Nat.le_of_ble_eq_true rfl) dX3_tie_114 (fun h19 hq => ?_)
          exact jK16 _ hq
  · replace hq := hq.2 c10
    refine hp_aload_n E 0 dX3_tie_47 rfl rfl ?_
    refine hp_gR E g_RX3_24 fB_53_7 dX3_tie_48 ?_
    refine hp_iload_n E 1 dX3_tie_51 rfl rfl ?_
    refine hp_iconst E (nI 0) dX3_tie_52 (by decide) ?_
    have hin := hq.1
    replace hq := hq.2
    refine hp_iast E 58 aB_58 zB_58 hJ hin dX3_tie_53 ?_
    refine hp_toph (fun h21 eh21 => ?_)
    replace hq := hq h21 eh21
    refine hp_aload_n E 0 dX3_tie_54 rfl rfl ?_
    refine hp_gR E g_RX3_34 fB_53_10 dX3_tie_55 ?_
    refine hp_iload_n E 1 dX3_tie_58 rfl rfl ?_
    refine hp_iconst E (-1) dX3_tie_59 (by decide) ?_
    have hin := hq.1
    replace hq := hq.2
    refine hp_iast E 61 aB_61 zB_61 hJ hin dX3_tie_60 ?_
    refine hp_toph (fun h22 eh22 => ?_)
    replace hq := hq h22 eh22
    refine hp_aload_n E 0 dX3_tie_61 rfl rfl ?_
    refine hp_gR E g_RX3_18 fB_53_5 dX3_tie_62 ?_
    refine hp_iload_n E 1 dX3_tie_65 rfl rfl ?_
    refine hp_iconst E (nI 0) dX3_tie_66 (by decide) ?_
    have hin := hq.1
    replace hq := hq.2
    refine hp_zast E 56 aB_56 zB_56 hJ hin (by unfold hp_bz; decide) dX3_tie_67 ?_
    refine hp_toph (fun h23 eh23 => ?_)
    replace hq := hq h23 eh23
    refine hp_aload_n E 0 dX3_tie_68 rfl rfl ?_
    refine hp_gR E g_RX3_21 fB_53_6 dX3_tie_69 ?_
    refine hp_iload_n E 1 dX3_tie_72 rfl rfl ?_
    refine hp_iconst E (nI 0) dX3_tie_73 (by decide) ?_
    have hin := hq.1
    replace hq := hq.2
    refine hp_zast E 57 aB_57 zB_57 hJ hin (by unfold hp_bz; decide) dX3_tie_74 ?_
    refine hp_toph (fun h24 eh24 => ?_)
    replace hq := hq h24 eh24
    obtain ⟨v25, ev25⟩ : ∃ z : Int32, z = v8 + (nI 1) := ⟨_, rfl⟩
    replace hq := hq v25 ev25
    refine hp_iinc (lv' := [(0, .ref (ad 53)), (2, .int v25)]) E 1 v25 dX3_tie_75 rfl (by rw [ev25]; rfl) (by decide) rfl rfl ?_
    refine hp_goto E 36 dX3_tie_78 (by decide) ?_
    exact hB7 _ _ hq
theorem dX3_firstOfBoth_0 : decode cX3_firstOfBoth 0 = .ok (.iconst 0, 1) := by decide +kernel
theorem dX3_firstOfBoth_1 : decode cX3_firstOfBoth 1 = .ok (.istore_n 3, 1) := by decide +kernel
theorem dX3_firstOfBoth_2 : decode cX3_firstOfBoth 2 = .ok (.iload_n 3, 1) := by decide +kernel
theorem dX3_firstOfBoth_3 : decode cX3_firstOfBoth 3 = .ok (.aload_n 0, 1) := by decide +kernel
theorem dX3_firstOfBoth_4 : decode cX3_firstOfBoth 4 = .ok (.getfield 47, 3) := by decide +kernel
theorem dX3_firstOfBoth_7 : decode cX3_firstOfBoth 7 = .ok (.getfield 61, 3) := by decide +kernel
theorem dX3_firstOfBoth_10 : decode cX3_firstOfBoth 10 = .ok (.if_icmp .ge 23, 3) := by decide +kernel
theorem dX3_firstOfBoth_13 : decode cX3_firstOfBoth 13 = .ok (.aload_n 1, 1) := by decide +kernel
theorem dX3_firstOfBoth_14 : decode cX3_firstOfBoth 14 = .ok (.iload_n 3, 1) := by decide +kernel
theorem dX3_firstOfBoth_15 : decode cX3_firstOfBoth 15 = .ok (.baload, 1) := by decide +kernel
theorem dX3_firstOfBoth_16 : decode cX3_firstOfBoth 16 = .ok (.ifCond .eq 11, 3) := by decide +kernel
theorem dX3_firstOfBoth_19 : decode cX3_firstOfBoth 19 = .ok (.aload_n 2, 1) := by decide +kernel
theorem dX3_firstOfBoth_20 : decode cX3_firstOfBoth 20 = .ok (.iload_n 3, 1) := by decide +kernel
theorem dX3_firstOfBoth_21 : decode cX3_firstOfBoth 21 = .ok (.baload, 1) := by decide +kernel
theorem dX3_firstOfBoth_22 : decode cX3_firstOfBoth 22 = .ok (.ifCond .eq 5, 3) := by decide +kernel
theorem dX3_firstOfBoth_25 : decode cX3_firstOfBoth 25 = .ok (.iload_n 3, 1) := by decide +kernel
theorem dX3_firstOfBoth_26 : decode cX3_firstOfBoth 26 = .ok (.ireturn, 1) := by decide +kernel
theorem dX3_firstOfBoth_27 : decode cX3_firstOfBoth 27 = .ok (.iinc 3 1, 3) := by decide +kernel
theorem dX3_firstOfBoth_30 : decode cX3_firstOfBoth 30 = .ok (.goto (-28), 3) := by decide +kernel
theorem dX3_firstOfBoth_33 : decode cX3_firstOfBoth 33 = .ok (.iconst (-1), 1) := by decide +kernel
theorem dX3_firstOfBoth_34 : decode cX3_firstOfBoth 34 = .ok (.ireturn, 1) := by decide +kernel
set_option maxHeartbeats 4000000 in
set_option maxRecDepth 100000 in
theorem c_X3_firstOfBoth (l : Launch) {cs : Nat → ClassId} {ad : Nat → Nat} {A : Nat → Prop} {D : va_G} (hJ : hp_J SB ad A) {x1 : Nat} {x2 : Nat} (hx1 : SB[x1]? = some (.inr (2, 400))) (hzx1 : x1 ≠ hp_V) (hx2 : SB[x2]? = some (.inr (2, 400))) (hzx2 : x2 ≠ hp_V) {h : hp_H} {Q : Int32 → Prop} (hq : q_X3_firstOfBoth x1 x2 h Q) : hp_Mi l yX3_firstOfBoth cX3_firstOfBoth 4 (some .int) rm_X3_firstOfBoth [.ref (ad 53), .ref (ad x1), .ref (ad x2)] SB cs ad A D h (fun r h' => Q r ∧ h' = h) := by
  refine hp_met (own := RX3) rfl (by decide) (Nat.le_of_ble_eq_true rfl) rfl (fun p e s m args below meth c Z E hZ hnm => ?_)
  refine hp_sub (lv' := [(0, .ref (ad 53)), (1, .ref (ad x1)), (2, .ref (ad x2))]) [0, 1, 2] rfl ?_
  unfold q_X3_firstOfBoth at hq
  refine hp_iconst E (nI 0) dX3_firstOfBoth_0 (by decide) ?_
  refine hp_istore_n (lv' := [(0, .ref (ad 53)), (1, .ref (ad x1)), (2, .ref (ad x2)), (3, .int (nI 0))]) E dX3_firstOfBoth_1 rfl (by decide) rfl rfl ?_
  refine hq (fun v2 => hp_G p l e rm_X3_firstOfBoth s m args below meth c SB cs ad A D 4 0 0 Z 2 [(0, .ref (ad 53)), (1, .ref (ad x1)), (2, .ref (ad x2)), (3, .int v2)] [] h) (fun v2 hB => ?_)
  obtain ⟨B1, hq, hB1⟩ := hB
  refine hp_iload_n E 3 dX3_firstOfBoth_2 rfl rfl ?_
  refine hp_aload_n E 0 dX3_firstOfBoth_3 rfl rfl ?_
  refine hp_gR E g_RX3_47 fB_53_1 dX3_firstOfBoth_4 ?_
  refine hp_gI E g_RX3_61 fB_35_2 dX3_firstOfBoth_7 ?_
  refine hp_icmp_ge E 33 dX3_firstOfBoth_10 (by decide) (fun c3 => ?_) (fun c3 => ?_)
  · replace hq := hq.1 c3
    refine hp_iconst E (-1) dX3_firstOfBoth_33 (by decide) ?_
    exact hp_iret E ⟨hq, rfl⟩ hZ dX3_firstOfBoth_34
  · replace hq := hq.2 c3
    refine hp_aload_n E 1 dX3_firstOfBoth_13 rfl rfl ?_
    refine hp_iload_n E 3 dX3_firstOfBoth_14 rfl rfl ?_
    refine hp_zald E x1 hx1 hq.1 dX3_firstOfBoth_15 ?_
    replace hq := hq.2
    obtain ⟨K5, hq, hK5⟩ := hq
    have jK5 : K5 → hp_G p l e rm_X3_firstOfBoth s m args below meth c SB cs ad A D 4 0 0 Z 27 [(0, .ref (ad 53)), (1, .ref (ad x1)), (2, .ref (ad x2)), (3, .int v2)] [] h := by
      intro  hq
      replace hq := hK5  hq
      obtain ⟨v7, ev7⟩ : ∃ z : Int32, z = v2 + (nI 1) := ⟨_, rfl⟩
      replace hq := hq v7 ev7
      refine hp_iinc (lv' := [(0, .ref (ad 53)), (1, .ref (ad x1)), (2, .ref (ad x2)), (3, .int v7)]) E 3 v7 dX3_firstOfBoth_27 rfl (by rw [ev7]; rfl) (by decide) rfl rfl ?_
      refine hp_goto E 2 dX3_firstOfBoth_30 (by decide) ?_
      exact hB1 _ hq
    refine hp_if_eq E 27 dX3_firstOfBoth_16 (by decide) (fun c4 => ?_) (fun c4 => ?_)
    · replace hq := hq.1 c4
      exact jK5  hq
    · replace hq := hq.2 c4
      refine hp_aload_n E 2 dX3_firstOfBoth_19 rfl rfl ?_
      refine hp_iload_n E 3 dX3_firstOfBoth_20 rfl rfl ?_
      refine hp_zald E x2 hx2 hq.1 dX3_firstOfBoth_21 ?_
      replace hq := hq.2
      refine hp_if_eq E 27 dX3_firstOfBoth_22 (by decide) (fun c6 => ?_) (fun c6 => ?_)
      · replace hq := hq.1 c6
        exact jK5  hq
      · replace hq := hq.2 c6
        refine hp_iload_n E 3 dX3_firstOfBoth_25 rfl rfl ?_
        exact hp_iret E ⟨hq, rfl⟩ hZ dX3_firstOfBoth_26
theorem dX3_breakerOfAgain_0 : decode cX3_breakerOfAgain 0 = .ok (.aload_n 0, 1) := by decide +kernel
theorem dX3_breakerOfAgain_1 : decode cX3_breakerOfAgain 1 = .ok (.getfield 51, 3) := by decide +kernel
theorem dX3_breakerOfAgain_4 : decode cX3_breakerOfAgain 4 = .ok (.iload_n 1, 1) := by decide +kernel
theorem dX3_breakerOfAgain_5 : decode cX3_breakerOfAgain 5 = .ok (.invokevirtual 55, 3) := by decide +kernel
theorem dX3_breakerOfAgain_8 : decode cX3_breakerOfAgain 8 = .ok (.iconst 0, 1) := by decide +kernel
theorem dX3_breakerOfAgain_9 : decode cX3_breakerOfAgain 9 = .ok (.istore_n 3, 1) := by decide +kernel
theorem dX3_breakerOfAgain_10 : decode cX3_breakerOfAgain 10 = .ok (.iload_n 3, 1) := by decide +kernel
theorem dX3_breakerOfAgain_11 : decode cX3_breakerOfAgain 11 = .ok (.aload_n 0, 1) := by decide +kernel
theorem dX3_breakerOfAgain_12 : decode cX3_breakerOfAgain 12 = .ok (.getfield 47, 3) := by decide +kernel
theorem dX3_breakerOfAgain_15 : decode cX3_breakerOfAgain 15 = .ok (.getfield 61, 3) := by decide +kernel
theorem dX3_breakerOfAgain_18 : decode cX3_breakerOfAgain 18 = .ok (.if_icmp .ge 39, 3) := by decide +kernel
theorem dX3_breakerOfAgain_21 : decode cX3_breakerOfAgain 21 = .ok (.aload_n 0, 1) := by decide +kernel
theorem dX3_breakerOfAgain_22 : decode cX3_breakerOfAgain 22 = .ok (.getfield 51, 3) := by decide +kernel
theorem dX3_breakerOfAgain_25 : decode cX3_breakerOfAgain 25 = .ok (.iload_n 3, 1) := by decide +kernel
theorem dX3_breakerOfAgain_26 : decode cX3_breakerOfAgain 26 = .ok (.invokevirtual 67, 3) := by decide +kernel
theorem dX3_breakerOfAgain_29 : decode cX3_breakerOfAgain 29 = .ok (.aload_n 0, 1) := by decide +kernel
theorem dX3_breakerOfAgain_30 : decode cX3_breakerOfAgain 30 = .ok (.getfield 9, 3) := by decide +kernel
theorem dX3_breakerOfAgain_33 : decode cX3_breakerOfAgain 33 = .ok (.iload_n 3, 1) := by decide +kernel
theorem dX3_breakerOfAgain_34 : decode cX3_breakerOfAgain 34 = .ok (.aload_n 0, 1) := by decide +kernel
theorem dX3_breakerOfAgain_35 : decode cX3_breakerOfAgain 35 = .ok (.getfield 51, 3) := by decide +kernel
theorem dX3_breakerOfAgain_38 : decode cX3_breakerOfAgain 38 = .ok (.iload_n 1, 1) := by decide +kernel
theorem dX3_breakerOfAgain_39 : decode cX3_breakerOfAgain 39 = .ok (.invokevirtual 70, 3) := by decide +kernel
theorem dX3_breakerOfAgain_42 : decode cX3_breakerOfAgain 42 = .ok (.ifCond .ne 7, 3) := by decide +kernel
theorem dX3_breakerOfAgain_45 : decode cX3_breakerOfAgain 45 = .ok (.iconst 1, 1) := by decide +kernel
theorem dX3_breakerOfAgain_46 : decode cX3_breakerOfAgain 46 = .ok (.goto 4, 3) := by decide +kernel
theorem dX3_breakerOfAgain_49 : decode cX3_breakerOfAgain 49 = .ok (.iconst 0, 1) := by decide +kernel
theorem dX3_breakerOfAgain_50 : decode cX3_breakerOfAgain 50 = .ok (.bastore, 1) := by decide +kernel
theorem dX3_breakerOfAgain_51 : decode cX3_breakerOfAgain 51 = .ok (.iinc 3 1, 3) := by decide +kernel
theorem dX3_breakerOfAgain_54 : decode cX3_breakerOfAgain 54 = .ok (.goto (-44), 3) := by decide +kernel
theorem dX3_breakerOfAgain_57 : decode cX3_breakerOfAgain 57 = .ok (.aload_n 0, 1) := by decide +kernel
theorem dX3_breakerOfAgain_58 : decode cX3_breakerOfAgain 58 = .ok (.iload_n 2, 1) := by decide +kernel
theorem dX3_breakerOfAgain_59 : decode cX3_breakerOfAgain 59 = .ok (.invokevirtual 74, 3) := by decide +kernel
theorem dX3_breakerOfAgain_62 : decode cX3_breakerOfAgain 62 = .ok (.aload_n 0, 1) := by decide +kernel
theorem dX3_breakerOfAgain_63 : decode cX3_breakerOfAgain 63 = .ok (.aload_n 0, 1) := by decide +kernel
theorem dX3_breakerOfAgain_64 : decode cX3_breakerOfAgain 64 = .ok (.getfield 9, 3) := by decide +kernel
theorem dX3_breakerOfAgain_67 : decode cX3_breakerOfAgain 67 = .ok (.aload_n 0, 1) := by decide +kernel
theorem dX3_breakerOfAgain_68 : decode cX3_breakerOfAgain 68 = .ok (.getfield 18, 3) := by decide +kernel
theorem dX3_breakerOfAgain_71 : decode cX3_breakerOfAgain 71 = .ok (.invokevirtual 78, 3) := by decide +kernel
theorem dX3_breakerOfAgain_74 : decode cX3_breakerOfAgain 74 = .ok (.ireturn, 1) := by decide +kernel
set_option maxHeartbeats 4000000 in
set_option maxRecDepth 100000 in
theorem c_X3_breakerOfAgain (l : Launch) {cs : Nat → ClassId} {ad : Nat → Nat} {A : Nat → Prop} {D : va_G} (hJ : hp_J SB ad A)   {h : hp_H} {a1 a2 : Int32} {Q : Int32 → hp_H → Prop} (hq : q_X3_breakerOfAgain h a1 a2 Q) : hp_Mi l yX3_breakerOfAgain cX3_breakerOfAgain 4 (some .int) rm_X3_breakerOfAgain [.ref (ad 53), .int a1, .int a2] SB cs ad A D h Q := by
  refine hp_met (own := RX3) rfl (by decide) (Nat.le_of_ble_eq_true rfl) rfl (fun p e s m args below meth c Z E hZ hnm => ?_)
  refine hp_sub (lv' := [(0, .ref (ad 53)), (1, .int a1), (2, .int a2)]) [0, 1, 2] rfl ?_
  unfold q_X3_breakerOfAgain at hq
  refine hp_aload_n E 0 dX3_breakerOfAgain_0 rfl rfl ?_
  refine hp_gR E g_RX3_51 fB_53_2 dX3_breakerOfAgain_1 ?_
  refine hp_iload_n E 1 dX3_breakerOfAgain_4 rfl rfl ?_
  refine hp_callVv' (rest := []) E 50 fB_50_0 vcl_5 (c_X5_ask l hJ hq) F_X5_ask m_RX3_55 ⟨rfl, rfl⟩ ⟨Nat.le_of_ble_eq_true rfl, Nat.le_of_ble_eq_true rfl⟩ ⟨Nat.zero_le _, Nat.zero_le _⟩ rfl rfl (Nat.le_of_ble_eq_true rfl) dX3_breakerOfAgain_5 (fun h1 hq => ?_)
  refine hp_iconst E (nI 0) dX3_breakerOfAgain_8 (by decide) ?_
  refine hp_istore_n (lv' := [(0, .ref (ad 53)), (1, .int a1), (2, .int a2), (3, .int (nI 0))]) E dX3_breakerOfAgain_9 rfl (by decide) rfl rfl ?_
  refine hq (fun v3 h4 => hp_G p l e rm_X3_breakerOfAgain s m args below meth c SB cs ad A D 4 0 0 Z 10 [(0, .ref (ad 53)), (1, .int a1), (2, .int a2), (3, .int v3)] [] h4) (fun v3 h4 hB => ?_)
  obtain ⟨B2, hq, hB2⟩ := hB
  refine hp_iload_n E 3 dX3_breakerOfAgain_10 rfl rfl ?_
  refine hp_aload_n E 0 dX3_breakerOfAgain_11 rfl rfl ?_
  refine hp_gR E g_RX3_47 fB_53_1 dX3_breakerOfAgain_12 ?_
  refine hp_gI E g_RX3_61 fB_35_2 dX3_breakerOfAgain_15 ?_
  refine hp_icmp_ge E 57 dX3_breakerOfAgain_18 (by decide) (fun c5 => ?_) (fun c5 => ?_)
  · replace hq := hq.1 c5
    refine hp_aload_n E 0 dX3_breakerOfAgain_57 rfl rfl ?_
    refine hp_iload_n E 2 dX3_breakerOfAgain_58 rfl rfl ?_
    refine hp_callVv' (rest := []) E 53 fB_53_0 vcl_3 (c_X3_tie l hJ hq) F_X3_tie m_RX3_74 ⟨rfl, rfl⟩ ⟨Nat.le_of_ble_eq_true rfl, Nat.le_of_ble_eq_true rfl⟩ ⟨Nat.zero_le _, Nat.zero_le _⟩ rfl rfl (Nat.le_of_ble_eq_true rfl) dX3_breakerOfAgain_59 (fun h6 hq => ?_)
    refine hp_aload_n E 0 dX3_breakerOfAgain_62 rfl rfl ?_
    refine hp_aload_n E 0 dX3_breakerOfAgain_63 rfl rfl ?_
    refine hp_gR E g_RX3_9 fB_53_3 dX3_breakerOfAgain_64 ?_
    refine hp_aload_n E 0 dX3_breakerOfAgain_67 rfl rfl ?_
    refine hp_gR E g_RX3_18 fB_53_5 dX3_breakerOfAgain_68 ?_
    refine hp_callVip (rest := []) E 53 fB_53_0 vcl_3 (c_X3_firstOfBoth l hJ aB_54 zB_54 aB_56 zB_56 hq) F_X3_firstOfBoth m_RX3_78 ⟨rfl, rfl⟩ ⟨Nat.le_of_ble_eq_true rfl, Nat.le_of_ble_eq_true rfl⟩ ⟨Nat.zero_le _, Nat.zero_le _⟩ rfl rfl (Nat.le_of_ble_eq_true rfl) dX3_breakerOfAgain_71 (fun r7 hq => ?_)
    exact hp_iret E hq hZ dX3_breakerOfAgain_74
  · replace hq := hq.2 c5
    refine hp_aload_n E 0 dX3_breakerOfAgain_21 rfl rfl ?_
    refine hp_gR E g_RX3_51 fB_53_2 dX3_breakerOfAgain_22 ?_
    refine hp_iload_n E 3 dX3_breakerOfAgain_25 rfl rfl ?_
    refine hp_callVv' (rest := []) E 50 fB_50_0 vcl_5 (c_X5_lookAt l hJ hq) F_X5_lookAt m_RX3_67 ⟨rfl, rfl⟩ ⟨Nat.le_of_ble_eq_true rfl, Nat.le_of_ble_eq_true rfl⟩ ⟨Nat.zero_le _, Nat.zero_le _⟩ rfl rfl (Nat.le_of_ble_eq_true rfl) dX3_breakerOfAgain_26 (fun h8 hq => ?_)
    refine hp_aload_n E 0 dX3_breakerOfAgain_29 rfl rfl ?_
    refine hp_gR E g_RX3_9 fB_53_3 dX3_breakerOfAgain_30 ?_
    refine hp_iload_n E 3 dX3_breakerOfAgain_33 rfl rfl ?_
    refine hp_aload_n E 0 dX3_breakerOfAgain_34 rfl rfl ?_
    refine hp_gR E g_RX3_51 fB_53_2 dX3_breakerOfAgain_35 ?_
    refine hp_iload_n E 1 dX3_breakerOfAgain_38 rfl rfl ?_
    refine hp_callVip (rest := [.int v3, .ref (ad 54)]) E 50 fB_50_0 vcl_5 (c_X5_answer l hJ hq) F_X5_answer m_RX3_70 ⟨rfl, rfl⟩ ⟨Nat.le_of_ble_eq_true rfl, Nat.le_of_ble_eq_true rfl⟩ ⟨Nat.zero_le _, Nat.zero_le _⟩ rfl rfl (Nat.le_of_ble_eq_true rfl) dX3_breakerOfAgain_39 (fun r9 hq => ?_)
    obtain ⟨K11, hq, hK11⟩ := hq
    have jK11 : ∀ (v12 : Int32), K11 v12 → hp_G p l e rm_X3_breakerOfAgain s m args below meth c SB cs ad A D 4 0 0 Z 50 [(0, .ref (ad 53)), (1, .int a1), (2, .int a2), (3, .int v3)] [.int v12, .int v3, .ref (ad 54)] h8 := by
      intro v12 hq
      replace hq := hK11 v12 hq
      have hin := hq.1
      replace hq := hq.2
      have hbz := hq.1
      replace hq := hq.2
      refine hp_zast E 54 aB_54 zB_54 hJ hin hbz dX3_breakerOfAgain_50 ?_
      refine hp_toph (fun h13 eh13 => ?_)
      replace hq := hq h13 eh13
      obtain ⟨v14, ev14⟩ : ∃ z : Int32, z = v3 + (nI 1) := ⟨_, rfl⟩
      replace hq := hq v14 ev14
      refine hp_iinc (lv' := [(0, .ref (ad 53)), (1, .int a1), (2, .int a2), (3, .int v14)]) E 3 v14 dX3_breakerOfAgain_51 rfl (by rw [ev14]; rfl) (by decide) rfl rfl ?_
      refine hp_goto E 10 dX3_breakerOfAgain_54 (by decide) ?_
      exact hB2 _ _ hq
    refine hp_if_ne E 49 dX3_breakerOfAgain_42 (by decide) (fun c10 => ?_) (fun c10 => ?_)
    · replace hq := hq.2 c10
      refine hp_iconst E (nI 0) dX3_breakerOfAgain_49 (by decide) ?_
      exact jK11 _ hq
    · replace hq := hq.1 c10
      refine hp_iconst E (nI 1) dX3_breakerOfAgain_45 (by decide) ?_
      refine hp_goto E 50 dX3_breakerOfAgain_46 (by decide) ?_
      exact jK11 _ hq
theorem dX3_breakerOfFromTo_0 : decode cX3_breakerOfFromTo 0 = .ok (.aload_n 0, 1) := by decide +kernel
theorem dX3_breakerOfFromTo_1 : decode cX3_breakerOfFromTo 1 = .ok (.getfield 51, 3) := by decide +kernel
theorem dX3_breakerOfFromTo_4 : decode cX3_breakerOfFromTo 4 = .ok (.iload_n 1, 1) := by decide +kernel
theorem dX3_breakerOfFromTo_5 : decode cX3_breakerOfFromTo 5 = .ok (.invokevirtual 55, 3) := by decide +kernel
theorem dX3_breakerOfFromTo_8 : decode cX3_breakerOfFromTo 8 = .ok (.aload_n 0, 1) := by decide +kernel
theorem dX3_breakerOfFromTo_9 : decode cX3_breakerOfFromTo 9 = .ok (.getfield 51, 3) := by decide +kernel
theorem dX3_breakerOfFromTo_12 : decode cX3_breakerOfFromTo 12 = .ok (.iload_n 2, 1) := by decide +kernel
theorem dX3_breakerOfFromTo_13 : decode cX3_breakerOfFromTo 13 = .ok (.invokevirtual 82, 3) := by decide +kernel
theorem dX3_breakerOfFromTo_16 : decode cX3_breakerOfFromTo 16 = .ok (.iconst 0, 1) := by decide +kernel
theorem dX3_breakerOfFromTo_17 : decode cX3_breakerOfFromTo 17 = .ok (.istore 4, 2) := by decide +kernel
theorem dX3_breakerOfFromTo_19 : decode cX3_breakerOfFromTo 19 = .ok (.iload 4, 2) := by decide +kernel
theorem dX3_breakerOfFromTo_21 : decode cX3_breakerOfFromTo 21 = .ok (.aload_n 0, 1) := by decide +kernel
theorem dX3_breakerOfFromTo_22 : decode cX3_breakerOfFromTo 22 = .ok (.getfield 47, 3) := by decide +kernel
theorem dX3_breakerOfFromTo_25 : decode cX3_breakerOfFromTo 25 = .ok (.getfield 61, 3) := by decide +kernel
theorem dX3_breakerOfFromTo_28 : decode cX3_breakerOfFromTo 28 = .ok (.if_icmp .ge 74, 3) := by decide +kernel
theorem dX3_breakerOfFromTo_31 : decode cX3_breakerOfFromTo 31 = .ok (.aload_n 0, 1) := by decide +kernel
theorem dX3_breakerOfFromTo_32 : decode cX3_breakerOfFromTo 32 = .ok (.getfield 51, 3) := by decide +kernel
theorem dX3_breakerOfFromTo_35 : decode cX3_breakerOfFromTo 35 = .ok (.iload 4, 2) := by decide +kernel
theorem dX3_breakerOfFromTo_37 : decode cX3_breakerOfFromTo 37 = .ok (.invokevirtual 67, 3) := by decide +kernel
theorem dX3_breakerOfFromTo_40 : decode cX3_breakerOfFromTo 40 = .ok (.aload_n 0, 1) := by decide +kernel
theorem dX3_breakerOfFromTo_41 : decode cX3_breakerOfFromTo 41 = .ok (.getfield 9, 3) := by decide +kernel
theorem dX3_breakerOfFromTo_44 : decode cX3_breakerOfFromTo 44 = .ok (.iload 4, 2) := by decide +kernel
theorem dX3_breakerOfFromTo_46 : decode cX3_breakerOfFromTo 46 = .ok (.aload_n 0, 1) := by decide +kernel
theorem dX3_breakerOfFromTo_47 : decode cX3_breakerOfFromTo 47 = .ok (.getfield 51, 3) := by decide +kernel
theorem dX3_breakerOfFromTo_50 : decode cX3_breakerOfFromTo 50 = .ok (.iload_n 2, 1) := by decide +kernel
theorem dX3_breakerOfFromTo_51 : decode cX3_breakerOfFromTo 51 = .ok (.invokevirtual 70, 3) := by decide +kernel
theorem dX3_breakerOfFromTo_54 : decode cX3_breakerOfFromTo 54 = .ok (.ifCond .ne 7, 3) := by decide +kernel
theorem dX3_breakerOfFromTo_57 : decode cX3_breakerOfFromTo 57 = .ok (.iconst 1, 1) := by decide +kernel
theorem dX3_breakerOfFromTo_58 : decode cX3_breakerOfFromTo 58 = .ok (.goto 4, 3) := by decide +kernel
theorem dX3_breakerOfFromTo_61 : decode cX3_breakerOfFromTo 61 = .ok (.iconst 0, 1) := by decide +kernel
theorem dX3_breakerOfFromTo_62 : decode cX3_breakerOfFromTo 62 = .ok (.bastore, 1) := by decide +kernel
theorem dX3_breakerOfFromTo_63 : decode cX3_breakerOfFromTo 63 = .ok (.aload_n 0, 1) := by decide +kernel
theorem dX3_breakerOfFromTo_64 : decode cX3_breakerOfFromTo 64 = .ok (.getfield 15, 3) := by decide +kernel
theorem dX3_breakerOfFromTo_67 : decode cX3_breakerOfFromTo 67 = .ok (.iload 4, 2) := by decide +kernel
theorem dX3_breakerOfFromTo_69 : decode cX3_breakerOfFromTo 69 = .ok (.aload_n 0, 1) := by decide +kernel
theorem dX3_breakerOfFromTo_70 : decode cX3_breakerOfFromTo 70 = .ok (.getfield 9, 3) := by decide +kernel
theorem dX3_breakerOfFromTo_73 : decode cX3_breakerOfFromTo 73 = .ok (.iload 4, 2) := by decide +kernel
theorem dX3_breakerOfFromTo_75 : decode cX3_breakerOfFromTo 75 = .ok (.baload, 1) := by decide +kernel
theorem dX3_breakerOfFromTo_76 : decode cX3_breakerOfFromTo 76 = .ok (.ifCond .eq 18, 3) := by decide +kernel
theorem dX3_breakerOfFromTo_79 : decode cX3_breakerOfFromTo 79 = .ok (.aload_n 0, 1) := by decide +kernel
theorem dX3_breakerOfFromTo_80 : decode cX3_breakerOfFromTo 80 = .ok (.getfield 51, 3) := by decide +kernel
theorem dX3_breakerOfFromTo_83 : decode cX3_breakerOfFromTo 83 = .ok (.iload_n 1, 1) := by decide +kernel
theorem dX3_breakerOfFromTo_84 : decode cX3_breakerOfFromTo 84 = .ok (.invokevirtual 70, 3) := by decide +kernel
theorem dX3_breakerOfFromTo_87 : decode cX3_breakerOfFromTo 87 = .ok (.ifCond .eq 7, 3) := by decide +kernel
theorem dX3_breakerOfFromTo_90 : decode cX3_breakerOfFromTo 90 = .ok (.iconst 1, 1) := by decide +kernel
theorem dX3_breakerOfFromTo_91 : decode cX3_breakerOfFromTo 91 = .ok (.goto 4, 3) := by decide +kernel
theorem dX3_breakerOfFromTo_94 : decode cX3_breakerOfFromTo 94 = .ok (.iconst 0, 1) := by decide +kernel
theorem dX3_breakerOfFromTo_95 : decode cX3_breakerOfFromTo 95 = .ok (.bastore, 1) := by decide +kernel
theorem dX3_breakerOfFromTo_96 : decode cX3_breakerOfFromTo 96 = .ok (.iinc 4 1, 3) := by decide +kernel
theorem dX3_breakerOfFromTo_99 : decode cX3_breakerOfFromTo 99 = .ok (.goto (-80), 3) := by decide +kernel
theorem dX3_breakerOfFromTo_102 : decode cX3_breakerOfFromTo 102 = .ok (.aload_n 0, 1) := by decide +kernel
theorem dX3_breakerOfFromTo_103 : decode cX3_breakerOfFromTo 103 = .ok (.iload_n 3, 1) := by decide +kernel
theorem dX3_breakerOfFromTo_104 : decode cX3_breakerOfFromTo 104 = .ok (.invokevirtual 74, 3) := by decide +kernel
theorem dX3_breakerOfFromTo_107 : decode cX3_breakerOfFromTo 107 = .ok (.aload_n 0, 1) := by decide +kernel
theorem dX3_breakerOfFromTo_108 : decode cX3_breakerOfFromTo 108 = .ok (.aload_n 0, 1) := by decide +kernel
theorem dX3_breakerOfFromTo_109 : decode cX3_breakerOfFromTo 109 = .ok (.getfield 15, 3) := by decide +kernel
theorem dX3_breakerOfFromTo_112 : decode cX3_breakerOfFromTo 112 = .ok (.aload_n 0, 1) := by decide +kernel
theorem dX3_breakerOfFromTo_113 : decode cX3_breakerOfFromTo 113 = .ok (.getfield 21, 3) := by decide +kernel
theorem dX3_breakerOfFromTo_116 : decode cX3_breakerOfFromTo 116 = .ok (.invokevirtual 78, 3) := by decide +kernel
theorem dX3_breakerOfFromTo_119 : decode cX3_breakerOfFromTo 119 = .ok (.ireturn, 1) := by decide +kernel
set_option maxHeartbeats 4000000 in
set_option maxRecDepth 100000 in
theorem c_X3_breakerOfFromTo (l : Launch) {cs : Nat → ClassId} {ad : Nat → Nat} {A : Nat → Prop} {D : va_G} (hJ : hp_J SB ad A)   {h : hp_H} {a1 a2 a3 : Int32} {Q : Int32 → hp_H → Prop} (hq : q_X3_breakerOfFromTo h a1 a2 a3 Q) : hp_Mi l yX3_breakerOfFromTo cX3_breakerOfFromTo 5 (some .int) rm_X3_breakerOfFromTo [.ref (ad 53), .int a1, .int a2, .int a3] SB cs ad A D h Q := by
  refine hp_met (own := RX3) rfl (by decide) (Nat.le_of_ble_eq_true rfl) rfl (fun p e s m args below meth c Z E hZ hnm => ?_)
  refine hp_sub (lv' := [(0, .ref (ad 53)), (1, .int a1), (2, .int a2), (3, .int a3)]) [0, 1, 2, 3] rfl ?_
  unfold q_X3_breakerOfFromTo at hq
  refine hp_aload_n E 0 dX3_breakerOfFromTo_0 rfl rfl ?_
  refine hp_gR E g_RX3_51 fB_53_2 dX3_breakerOfFromTo_1 ?_
  refine hp_iload_n E 1 dX3_breakerOfFromTo_4 rfl rfl ?_
  refine hp_callVv' (rest := []) E 50 fB_50_0 vcl_5 (c_X5_ask l hJ hq) F_X5_ask m_RX3_55 ⟨rfl, rfl⟩ ⟨Nat.le_of_ble_eq_true rfl, Nat.le_of_ble_eq_true rfl⟩ ⟨Nat.zero_le _, Nat.zero_le _⟩ rfl rfl (Nat.le_of_ble_eq_true rfl) dX3_breakerOfFromTo_5 (fun h1 hq => ?_)
  refine hp_aload_n E 0 dX3_breakerOfFromTo_8 rfl rfl ?_
  refine hp_gR E g_RX3_51 fB_53_2 dX3_breakerOfFromTo_9 ?_
  refine hp_iload_n E 2 dX3_breakerOfFromTo_12 rfl rfl ?_
  refine hp_callVv' (rest := []) E 50 fB_50_0 vcl_5 (c_X5_askToo l hJ hq) F_X5_askToo m_RX3_82 ⟨rfl, rfl⟩ ⟨Nat.le_of_ble_eq_true rfl, Nat.le_of_ble_eq_true rfl⟩ ⟨Nat.zero_le _, Nat.zero_le _⟩ rfl rfl (Nat.le_of_ble_eq_true rfl) dX3_breakerOfFromTo_13 (fun h2 hq => ?_)
  refine hp_iconst E (nI 0) dX3_breakerOfFromTo_16 (by decide) ?_
  refine hp_istore (lv' := [(0, .ref (ad 53)), (1, .int a1), (2, .int a2), (3, .int a3), (4, .int (nI 0))]) E dX3_breakerOfFromTo_17 (by decide) rfl rfl ?_
  refine hq (fun v4 h5 => hp_G p l e rm_X3_breakerOfFromTo s m args below meth c SB cs ad A D 5 0 0 Z 19 [(0, .ref (ad 53)), (1, .int a1), (2, .int a2), (3, .int a3), (4, .int v4)] [] h5) (fun v4 h5 hB => ?_)
  obtain ⟨B3, hq, hB3⟩ := hB
  refine hp_iload E 4 dX3_breakerOfFromTo_19 rfl ?_
  refine hp_aload_n E 0 dX3_breakerOfFromTo_21 rfl rfl ?_
  refine hp_gR E g_RX3_47 fB_53_1 dX3_breakerOfFromTo_22 ?_
  refine hp_gI E g_RX3_61 fB_35_2 dX3_breakerOfFromTo_25 ?_
  refine hp_icmp_ge E 102 dX3_breakerOfFromTo_28 (by decide) (fun c6 => ?_) (fun c6 => ?_)
  · replace hq := hq.1 c6
    refine hp_aload_n E 0 dX3_breakerOfFromTo_102 rfl rfl ?_
    refine hp_iload_n E 3 dX3_breakerOfFromTo_103 rfl rfl ?_
    refine hp_callVv' (rest := []) E 53 fB_53_0 vcl_3 (c_X3_tie l hJ hq) F_X3_tie m_RX3_74 ⟨rfl, rfl⟩ ⟨Nat.le_of_ble_eq_true rfl, Nat.le_of_ble_eq_true rfl⟩ ⟨Nat.zero_le _, Nat.zero_le _⟩ rfl rfl (Nat.le_of_ble_eq_true rfl) dX3_breakerOfFromTo_104 (fun h7 hq => ?_)
    refine hp_aload_n E 0 dX3_breakerOfFromTo_107 rfl rfl ?_
    refine hp_aload_n E 0 dX3_breakerOfFromTo_108 rfl rfl ?_
    refine hp_gR E g_RX3_15 fB_53_4 dX3_breakerOfFromTo_109 ?_
    refine hp_aload_n E 0 dX3_breakerOfFromTo_112 rfl rfl ?_
    refine hp_gR E g_RX3_21 fB_53_6 dX3_breakerOfFromTo_113 ?_
    refine hp_callVip (rest := []) E 53 fB_53_0 vcl_3 (c_X3_firstOfBoth l hJ aB_55 zB_55 aB_57 zB_57 hq) F_X3_firstOfBoth m_RX3_78 ⟨rfl, rfl⟩ ⟨Nat.le_of_ble_eq_true rfl, Nat.le_of_ble_eq_true rfl⟩ ⟨Nat.zero_le _, Nat.zero_le _⟩ rfl rfl (Nat.le_of_ble_eq_true rfl) dX3_breakerOfFromTo_116 (fun r8 hq => ?_)
    exact hp_iret E hq hZ dX3_breakerOfFromTo_119
  · replace hq := hq.2 c6
    refine hp_aload_n E 0 dX3_breakerOfFromTo_31 rfl rfl ?_
    refine hp_gR E g_RX3_51 fB_53_2 dX3_breakerOfFromTo_32 ?_
    refine hp_iload E 4 dX3_breakerOfFromTo_35 rfl ?_
    refine hp_callVv' (rest := []) E 50 fB_50_0 vcl_5 (c_X5_lookAt l hJ hq) F_X5_lookAt m_RX3_67 ⟨rfl, rfl⟩ ⟨Nat.le_of_ble_eq_true rfl, Nat.le_of_ble_eq_true rfl⟩ ⟨Nat.zero_le _, Nat.zero_le _⟩ rfl rfl (Nat.le_of_ble_eq_true rfl) dX3_breakerOfFromTo_37 (fun h9 hq => ?_)
    refine hp_aload_n E 0 dX3_breakerOfFromTo_40 rfl rfl ?_
    refine hp_gR E g_RX3_9 fB_53_3 dX3_breakerOfFromTo_41 ?_
    refine hp_iload E 4 dX3_breakerOfFromTo_44 rfl ?_
    refine hp_aload_n E 0 dX3_breakerOfFromTo_46 rfl rfl ?_
    refine hp_gR E g_RX3_51 fB_53_2 dX3_breakerOfFromTo_47 ?_
    refine hp_iload_n E 2 dX3_breakerOfFromTo_50 rfl rfl ?_
    refine hp_callVip (rest := [.int v4, .ref (ad 54)]) E 50 fB_50_0 vcl_5 (c_X5_answer l hJ hq) F_X5_answer m_RX3_70 ⟨rfl, rfl⟩ ⟨Nat.le_of_ble_eq_true rfl, Nat.le_of_ble_eq_true rfl⟩ ⟨Nat.zero_le _, Nat.zero_le _⟩ rfl rfl (Nat.le_of_ble_eq_true rfl) dX3_breakerOfFromTo_51 (fun r10 hq => ?_)
    obtain ⟨K12, hq, hK12⟩ := hq
    have jK12 : ∀ (v13 : Int32), K12 v13 → hp_G p l e rm_X3_breakerOfFromTo s m args below meth c SB cs ad A D 5 0 0 Z 62 [(0, .ref (ad 53)), (1, .int a1), (2, .int a2), (3, .int a3), (4, .int v4)] [.int v13, .int v4, .ref (ad 54)] h9 := by
      intro v13 hq
      replace hq := hK12 v13 hq
      have hin := hq.1
      replace hq := hq.2
      have hbz := hq.1
      replace hq := hq.2
      refine hp_zast E 54 aB_54 zB_54 hJ hin hbz dX3_breakerOfFromTo_62 ?_
      refine hp_toph (fun h14 eh14 => ?_)
      replace hq := hq h14 eh14
      refine hp_aload_n E 0 dX3_breakerOfFromTo_63 rfl rfl ?_
      refine hp_gR E g_RX3_15 fB_53_4 dX3_breakerOfFromTo_64 ?_
      refine hp_iload E 4 dX3_breakerOfFromTo_67 rfl ?_
      refine hp_aload_n E 0 dX3_breakerOfFromTo_69 rfl rfl ?_
      refine hp_gR E g_RX3_9 fB_53_3 dX3_breakerOfFromTo_70 ?_
      refine hp_iload E 4 dX3_breakerOfFromTo_73 rfl ?_
      refine hp_zald E 54 aB_54 hq.1 dX3_breakerOfFromTo_75 ?_
      replace hq := hq.2
      obtain ⟨K16, hq, hK16⟩ := hq
      have jK16 : ∀ (v17 : Int32), K16 v17 → hp_G p l e rm_X3_breakerOfFromTo s m args below meth c SB cs ad A D 5 0 0 Z 95 [(0, .ref (ad 53)), (1, .int a1), (2, .int a2), (3, .int a3), (4, .int v4)] [.int v17, .int v4, .ref (ad 55)] h14 := by
        intro v17 hq
        replace hq := hK16 v17 hq
        have hin := hq.1
        replace hq := hq.2
        have hbz := hq.1
        replace hq := hq.2
        refine hp_zast E 55 aB_55 zB_55 hJ hin hbz dX3_breakerOfFromTo_95 ?_
        refine hp_toph (fun h21 eh21 => ?_)
        replace hq := hq h21 eh21
        obtain ⟨v22, ev22⟩ : ∃ z : Int32, z = v4 + (nI 1) := ⟨_, rfl⟩
        replace hq := hq v22 ev22
        refine hp_iinc (lv' := [(0, .ref (ad 53)), (1, .int a1), (2, .int a2), (3, .int a3), (4, .int v22)]) E 4 v22 dX3_breakerOfFromTo_96 rfl (by rw [ev22]; rfl) (by decide) rfl rfl ?_
        refine hp_goto E 19 dX3_breakerOfFromTo_99 (by decide) ?_
        exact hB3 _ _ hq
      obtain ⟨K18, hq, hK18⟩ := hq
      have jK18 : K18 → hp_G p l e rm_X3_breakerOfFromTo s m args below meth c SB cs ad A D 5 0 0 Z 94 [(0, .ref (ad 53)), (1, .int a1), (2, .int a2), (3, .int a3), (4, .int v4)] [.int v4, .ref (ad 55)] h14 := by
        intro  hq
        replace hq := hK18  hq
        refine hp_iconst E (nI 0) dX3_breakerOfFromTo_94 (by decide) ?_
        exact jK16 _ hq
      refine hp_if_eq E 94 dX3_breakerOfFromTo_76 (by decide) (fun c15 => ?_) (fun c15 => ?_)
      · replace hq := hq.1 c15
        exact jK18  hq
      · replace hq := hq.2 c15
        refine hp_aload_n E 0 dX3_breakerOfFromTo_79 rfl rfl ?_
        refine hp_gR E g_RX3_51 fB_53_2 dX3_breakerOfFromTo_80 ?_
        refine hp_iload_n E 1 dX3_breakerOfFromTo_83 rfl rfl ?_
        refine hp_callVip (rest := [.int v4, .ref (ad 55)]) E 50 fB_50_0 vcl_5 (c_X5_answer l hJ hq) F_X5_answer m_RX3_70 ⟨rfl, rfl⟩ ⟨Nat.le_of_ble_eq_true rfl, Nat.le_of_ble_eq_true rfl⟩ ⟨Nat.zero_le _, Nat.zero_le _⟩ rfl rfl (Nat.le_of_ble_eq_true rfl) dX3_breakerOfFromTo_84 (fun r19 hq => ?_)
        refine hp_if_eq E 94 dX3_breakerOfFromTo_87 (by decide) (fun c20 => ?_) (fun c20 => ?_)
        · replace hq := hq.1 c20
          exact jK18  hq
        · replace hq := hq.2 c20
          refine hp_iconst E (nI 1) dX3_breakerOfFromTo_90 (by decide) ?_
          refine hp_goto E 95 dX3_breakerOfFromTo_91 (by decide) ?_
          exact jK16 _ hq
    refine hp_if_ne E 61 dX3_breakerOfFromTo_54 (by decide) (fun c11 => ?_) (fun c11 => ?_)
    · replace hq := hq.2 c11
      refine hp_iconst E (nI 0) dX3_breakerOfFromTo_61 (by decide) ?_
      exact jK12 _ hq
    · replace hq := hq.1 c11
      refine hp_iconst E (nI 1) dX3_breakerOfFromTo_57 (by decide) ?_
      refine hp_goto E 62 dX3_breakerOfFromTo_58 (by decide) ?_
      exact jK12 _ hq
theorem dX4_hasChannel_0 : decode cX4_hasChannel 0 = .ok (.iload_n 1, 1) := by decide +kernel
theorem dX4_hasChannel_1 : decode cX4_hasChannel 1 = .ok (.ifCond .lt 15, 3) := by decide +kernel
theorem dX4_hasChannel_4 : decode cX4_hasChannel 4 = .ok (.iload_n 1, 1) := by decide +kernel
theorem dX4_hasChannel_5 : decode cX4_hasChannel 5 = .ok (.aload_n 0, 1) := by decide +kernel
theorem dX4_hasChannel_6 : decode cX4_hasChannel 6 = .ok (.getfield 57, 3) := by decide +kernel
theorem dX4_hasChannel_9 : decode cX4_hasChannel 9 = .ok (.if_icmp .ge 7, 3) := by decide +kernel
theorem dX4_hasChannel_12 : decode cX4_hasChannel 12 = .ok (.iconst 1, 1) := by decide +kernel
theorem dX4_hasChannel_13 : decode cX4_hasChannel 13 = .ok (.goto 4, 3) := by decide +kernel
theorem dX4_hasChannel_16 : decode cX4_hasChannel 16 = .ok (.iconst 0, 1) := by decide +kernel
theorem dX4_hasChannel_17 : decode cX4_hasChannel 17 = .ok (.ireturn, 1) := by decide +kernel
set_option maxHeartbeats 4000000 in
set_option maxRecDepth 100000 in
theorem c_X4_hasChannel (l : Launch) {cs : Nat → ClassId} {ad : Nat → Nat} {A : Nat → Prop} {D : va_G} (hJ : hp_J SB ad A)   {h : hp_H} {a1 : Int32} {Q : Int32 → Prop} (hq : q_X4_hasChannel h a1 Q) : hp_Mi l yX4_hasChannel cX4_hasChannel 2 (some .boolean) rm_X4_hasChannel [.ref (ad 1), .int a1] SB cs ad A D h (fun r h' => Q r ∧ h' = h) := by
  refine hp_met (own := RX4) rfl (by decide) (Nat.le_of_ble_eq_true rfl) rfl (fun p e s m args below meth c Z E hZ hnm => ?_)
  refine hp_sub (lv' := [(0, .ref (ad 1)), (1, .int a1)]) [0, 1] rfl ?_
  unfold q_X4_hasChannel at hq
  refine hp_iload_n E 1 dX4_hasChannel_0 rfl rfl ?_
  refine hp_if_lt E 16 dX4_hasChannel_1 (by decide) (fun c1 => ?_) (fun c1 => ?_)
  · replace hq := hq.1 c1
    refine hp_iconst E (nI 0) dX4_hasChannel_16 (by decide) ?_
    exact hp_zret E (by unfold hp_bz; decide) ⟨hq, rfl⟩ hZ dX4_hasChannel_17
  · replace hq := hq.2 c1
    refine hp_iload_n E 1 dX4_hasChannel_4 rfl rfl ?_
    refine hp_aload_n E 0 dX4_hasChannel_5 rfl rfl ?_
    refine hp_gI E g_RX4_57 fB_1_8 dX4_hasChannel_6 ?_
    refine hp_icmp_ge E 16 dX4_hasChannel_9 (by decide) (fun c2 => ?_) (fun c2 => ?_)
    · replace hq := hq.1 c2
      refine hp_iconst E (nI 0) dX4_hasChannel_16 (by decide) ?_
      exact hp_zret E (by unfold hp_bz; decide) ⟨hq, rfl⟩ hZ dX4_hasChannel_17
    · replace hq := hq.2 c2
      refine hp_iconst E (nI 1) dX4_hasChannel_12 (by decide) ?_
      refine hp_goto E 17 dX4_hasChannel_13 (by decide) ?_
      exact hp_zret E (by unfold hp_bz; decide) ⟨hq, rfl⟩ hZ dX4_hasChannel_17
theorem dX4_addChannel_0 : decode cX4_addChannel 0 = .ok (.aload_n 0, 1) := by decide +kernel
theorem dX4_addChannel_1 : decode cX4_addChannel 1 = .ok (.getfield 46, 3) := by decide +kernel
theorem dX4_addChannel_4 : decode cX4_addChannel 4 = .ok (.aload_n 0, 1) := by decide +kernel
theorem dX4_addChannel_5 : decode cX4_addChannel 5 = .ok (.getfield 57, 3) := by decide +kernel
theorem dX4_addChannel_8 : decode cX4_addChannel 8 = .ok (.iload_n 1, 1) := by decide +kernel
theorem dX4_addChannel_9 : decode cX4_addChannel 9 = .ok (.iastore, 1) := by decide +kernel
theorem dX4_addChannel_10 : decode cX4_addChannel 10 = .ok (.aload_n 0, 1) := by decide +kernel
theorem dX4_addChannel_11 : decode cX4_addChannel 11 = .ok (.getfield 50, 3) := by decide +kernel
theorem dX4_addChannel_14 : decode cX4_addChannel 14 = .ok (.aload_n 0, 1) := by decide +kernel
theorem dX4_addChannel_15 : decode cX4_addChannel 15 = .ok (.getfield 57, 3) := by decide +kernel
theorem dX4_addChannel_18 : decode cX4_addChannel 18 = .ok (.iload_n 2, 1) := by decide +kernel
theorem dX4_addChannel_19 : decode cX4_addChannel 19 = .ok (.bastore, 1) := by decide +kernel
theorem dX4_addChannel_20 : decode cX4_addChannel 20 = .ok (.aload_n 0, 1) := by decide +kernel
theorem dX4_addChannel_21 : decode cX4_addChannel 21 = .ok (.getfield 54, 3) := by decide +kernel
theorem dX4_addChannel_24 : decode cX4_addChannel 24 = .ok (.aload_n 0, 1) := by decide +kernel
theorem dX4_addChannel_25 : decode cX4_addChannel 25 = .ok (.getfield 57, 3) := by decide +kernel
theorem dX4_addChannel_28 : decode cX4_addChannel 28 = .ok (.iload_n 3, 1) := by decide +kernel
theorem dX4_addChannel_29 : decode cX4_addChannel 29 = .ok (.bastore, 1) := by decide +kernel
theorem dX4_addChannel_30 : decode cX4_addChannel 30 = .ok (.aload_n 0, 1) := by decide +kernel
theorem dX4_addChannel_31 : decode cX4_addChannel 31 = .ok (.dup, 1) := by decide +kernel
theorem dX4_addChannel_32 : decode cX4_addChannel 32 = .ok (.getfield 57, 3) := by decide +kernel
theorem dX4_addChannel_35 : decode cX4_addChannel 35 = .ok (.dup_x1, 1) := by decide +kernel
theorem dX4_addChannel_36 : decode cX4_addChannel 36 = .ok (.iconst 1, 1) := by decide +kernel
theorem dX4_addChannel_37 : decode cX4_addChannel 37 = .ok (.iadd, 1) := by decide +kernel
theorem dX4_addChannel_38 : decode cX4_addChannel 38 = .ok (.putfield 57, 3) := by decide +kernel
theorem dX4_addChannel_41 : decode cX4_addChannel 41 = .ok (.ireturn, 1) := by decide +kernel
set_option maxHeartbeats 4000000 in
set_option maxRecDepth 100000 in
theorem c_X4_addChannel (l : Launch) {cs : Nat → ClassId} {ad : Nat → Nat} {A : Nat → Prop} {D : va_G} (hJ : hp_J SB ad A)   {h : hp_H} {a1 a2 a3 : Int32} {Q : Int32 → hp_H → Prop} (hq : q_X4_addChannel h a1 a2 a3 Q) : hp_Mi l yX4_addChannel cX4_addChannel 4 (some .int) rm_X4_addChannel [.ref (ad 1), .int a1, .int a2, .int a3] SB cs ad A D h Q := by
  refine hp_met (own := RX4) rfl (by decide) (Nat.le_of_ble_eq_true rfl) rfl (fun p e s m args below meth c Z E hZ hnm => ?_)
  refine hp_sub (lv' := [(0, .ref (ad 1)), (1, .int a1), (2, .int a2), (3, .int a3)]) [0, 1, 2, 3] rfl ?_
  unfold q_X4_addChannel at hq
  refine hp_aload_n E 0 dX4_addChannel_0 rfl rfl ?_
  refine hp_gR E g_RX4_46 fB_1_5 dX4_addChannel_1 ?_
  refine hp_aload_n E 0 dX4_addChannel_4 rfl rfl ?_
  refine hp_gI E g_RX4_57 fB_1_8 dX4_addChannel_5 ?_
  refine hp_iload_n E 1 dX4_addChannel_8 rfl rfl ?_
  have hin := hq.1
  replace hq := hq.2
  refine hp_iast E 32 aB_32 zB_32 hJ hin dX4_addChannel_9 ?_
  refine hp_toph (fun h1 eh1 => ?_)
  replace hq := hq h1 eh1
  refine hp_aload_n E 0 dX4_addChannel_10 rfl rfl ?_
  refine hp_gR E g_RX4_50 fB_1_6 dX4_addChannel_11 ?_
  refine hp_aload_n E 0 dX4_addChannel_14 rfl rfl ?_
  refine hp_gI E g_RX4_57 fB_1_8 dX4_addChannel_15 ?_
  refine hp_iload_n E 2 dX4_addChannel_18 rfl rfl ?_
  have hin := hq.1
  replace hq := hq.2
  have hbz := hq.1
  replace hq := hq.2
  refine hp_zast E 33 aB_33 zB_33 hJ hin hbz dX4_addChannel_19 ?_
  refine hp_toph (fun h2 eh2 => ?_)
  replace hq := hq h2 eh2
  refine hp_aload_n E 0 dX4_addChannel_20 rfl rfl ?_
  refine hp_gR E g_RX4_54 fB_1_7 dX4_addChannel_21 ?_
  refine hp_aload_n E 0 dX4_addChannel_24 rfl rfl ?_
  refine hp_gI E g_RX4_57 fB_1_8 dX4_addChannel_25 ?_
  refine hp_iload_n E 3 dX4_addChannel_28 rfl rfl ?_
  have hin := hq.1
  replace hq := hq.2
  have hbz := hq.1
  replace hq := hq.2
  refine hp_zast E 34 aB_34 zB_34 hJ hin hbz dX4_addChannel_29 ?_
  refine hp_toph (fun h3 eh3 => ?_)
  replace hq := hq h3 eh3
  refine hp_aload_n E 0 dX4_addChannel_30 rfl rfl ?_
  refine hp_dup E rfl dX4_addChannel_31 ?_
  refine hp_gI E g_RX4_57 fB_1_8 dX4_addChannel_32 ?_
  refine hp_topi (fun v4 ev4 => ?_)
  replace hq := hq v4 ev4
  refine hp_dup_x1 E rfl rfl dX4_addChannel_35 ?_
  refine hp_iconst E (nI 1) dX4_addChannel_36 (by decide) ?_
  refine hp_iadd E dX4_addChannel_37 ?_
  refine hp_pI E p_RX4_57 fB_1_8 (by decide) hJ dX4_addChannel_38 ?_
  refine hp_toph (fun h5 eh5 => ?_)
  replace hq := hq h5 eh5
  exact hp_iret E hq hZ dX4_addChannel_41
theorem dX10_has_0 : decode cX10_has 0 = .ok (.iload_n 2, 1) := by decide +kernel
theorem dX10_has_1 : decode cX10_has 1 = .ok (.ifCond .lt 17, 3) := by decide +kernel
theorem dX10_has_4 : decode cX10_has 4 = .ok (.iload_n 2, 1) := by decide +kernel
theorem dX10_has_5 : decode cX10_has 5 = .ok (.aload_n 0, 1) := by decide +kernel
theorem dX10_has_6 : decode cX10_has 6 = .ok (.getfield 15, 3) := by decide +kernel
theorem dX10_has_9 : decode cX10_has 9 = .ok (.iload_n 1, 1) := by decide +kernel
theorem dX10_has_10 : decode cX10_has 10 = .ok (.iaload, 1) := by decide +kernel
theorem dX10_has_11 : decode cX10_has 11 = .ok (.if_icmp .ge 7, 3) := by decide +kernel
theorem dX10_has_14 : decode cX10_has 14 = .ok (.iconst 1, 1) := by decide +kernel
theorem dX10_has_15 : decode cX10_has 15 = .ok (.goto 4, 3) := by decide +kernel
theorem dX10_has_18 : decode cX10_has 18 = .ok (.iconst 0, 1) := by decide +kernel
theorem dX10_has_19 : decode cX10_has 19 = .ok (.ireturn, 1) := by decide +kernel
set_option maxHeartbeats 4000000 in
set_option maxRecDepth 100000 in
theorem c_X10_has (l : Launch) {cs : Nat → ClassId} {ad : Nat → Nat} {A : Nat → Prop} {D : va_G} (hJ : hp_J SB ad A) {vk : Nat} {vt : Nat} {vl : Nat} {vh : Nat} {vf : Nat} {vn : Nat} {vm : Nat} (hv0 : hp_sh SB vk 10 0 (1, vt, 0)) (hv1 : hp_sh SB vk 10 1 (0, 0, 0)) (hv2 : hp_sh SB vk 10 2 (1, vl, 0)) (hv3 : hp_sh SB vk 10 3 (1, vh, 0)) (hv4 : hp_sh SB vk 10 4 (1, vf, 0)) (hvt : SB[vt]? = some (.inr (0, vn))) (hvl : SB[vl]? = some (.inr (0, vm))) (hvh : SB[vh]? = some (.inr (0, vm))) (hvf : SB[vf]? = some (.inr (0, vm))) (hzt : vt ≠ hp_V) (hzl : vl ≠ hp_V) (hzh : vh ≠ hp_V) (hzf : vf ≠ hp_V) {h : hp_H} {a1 a2 : Int32} {Q : Int32 → Prop} (hq : q_X10_has vk vt vl vh vf vn vm h a1 a2 Q) : hp_Mi l yX10_has cX10_has 3 (some .boolean) rm_X10_has [.ref (ad vk), .int a1, .int a2] SB cs ad A D h (fun r h' => Q r ∧ h' = h) := by
  refine hp_met (own := RX10) rfl (by decide) (Nat.le_of_ble_eq_true rfl) rfl (fun p e s m args below meth c Z E hZ hnm => ?_)
  refine hp_sub (lv' := [(0, .ref (ad vk)), (1, .int a1), (2, .int a2)]) [0, 1, 2] rfl ?_
  unfold q_X10_has at hq
  refine hp_iload_n E 2 dX10_has_0 rfl rfl ?_
  refine hp_if_lt E 18 dX10_has_1 (by decide) (fun c1 => ?_) (fun c1 => ?_)
  · replace hq := hq.1 c1
    refine hp_iconst E (nI 0) dX10_has_18 (by decide) ?_
    exact hp_zret E (by unfold hp_bz; decide) ⟨hq, rfl⟩ hZ dX10_has_19
  · replace hq := hq.2 c1
    refine hp_iload_n E 2 dX10_has_4 rfl rfl ?_
    refine hp_aload_n E 0 dX10_has_5 rfl rfl ?_
    refine hp_gR E g_RX10_15 hv0 dX10_has_6 ?_
    refine hp_iload_n E 1 dX10_has_9 rfl rfl ?_
    refine hp_iald E vt hvt hq.1 dX10_has_10 ?_
    replace hq := hq.2
    refine hp_icmp_ge E 18 dX10_has_11 (by decide) (fun c2 => ?_) (fun c2 => ?_)
    · replace hq := hq.1 c2
      refine hp_iconst E (nI 0) dX10_has_18 (by decide) ?_
      exact hp_zret E (by unfold hp_bz; decide) ⟨hq, rfl⟩ hZ dX10_has_19
    · replace hq := hq.2 c2
      refine hp_iconst E (nI 1) dX10_has_14 (by decide) ?_
      refine hp_goto E 19 dX10_has_15 (by decide) ?_
      exact hp_zret E (by unfold hp_bz; decide) ⟨hq, rfl⟩ hZ dX10_has_19
theorem dX6_has_0 : decode cX6_has 0 = .ok (.iload_n 1, 1) := by decide +kernel
theorem dX6_has_1 : decode cX6_has 1 = .ok (.ifCond .lt 15, 3) := by decide +kernel
theorem dX6_has_4 : decode cX6_has 4 = .ok (.iload_n 1, 1) := by decide +kernel
theorem dX6_has_5 : decode cX6_has 5 = .ok (.aload_n 0, 1) := by decide +kernel
theorem dX6_has_6 : decode cX6_has 6 = .ok (.getfield 18, 3) := by decide +kernel
theorem dX6_has_9 : decode cX6_has 9 = .ok (.if_icmp .ge 7, 3) := by decide +kernel
theorem dX6_has_12 : decode cX6_has 12 = .ok (.iconst 1, 1) := by decide +kernel
theorem dX6_has_13 : decode cX6_has 13 = .ok (.goto 4, 3) := by decide +kernel
theorem dX6_has_16 : decode cX6_has 16 = .ok (.iconst 0, 1) := by decide +kernel
theorem dX6_has_17 : decode cX6_has 17 = .ok (.ireturn, 1) := by decide +kernel
set_option maxHeartbeats 4000000 in
set_option maxRecDepth 100000 in
theorem c_X6_has (l : Launch) {cs : Nat → ClassId} {ad : Nat → Nat} {A : Nat → Prop} {D : va_G} (hJ : hp_J SB ad A)   {h : hp_H} {a1 : Int32} {Q : Int32 → Prop} (hq : q_X6_has h a1 Q) : hp_Mi l yX6_has cX6_has 2 (some .boolean) rm_X6_has [.ref (ad 12), .int a1] SB cs ad A D h (fun r h' => Q r ∧ h' = h) := by
  refine hp_met (own := RX6) rfl (by decide) (Nat.le_of_ble_eq_true rfl) rfl (fun p e s m args below meth c Z E hZ hnm => ?_)
  refine hp_sub (lv' := [(0, .ref (ad 12)), (1, .int a1)]) [0, 1] rfl ?_
  unfold q_X6_has at hq
  refine hp_iload_n E 1 dX6_has_0 rfl rfl ?_
  refine hp_if_lt E 16 dX6_has_1 (by decide) (fun c1 => ?_) (fun c1 => ?_)
  · replace hq := hq.1 c1
    refine hp_iconst E (nI 0) dX6_has_16 (by decide) ?_
    exact hp_zret E (by unfold hp_bz; decide) ⟨hq, rfl⟩ hZ dX6_has_17
  · replace hq := hq.2 c1
    refine hp_iload_n E 1 dX6_has_4 rfl rfl ?_
    refine hp_aload_n E 0 dX6_has_5 rfl rfl ?_
    refine hp_gI E g_RX6_18 fB_12_1 dX6_has_6 ?_
    refine hp_icmp_ge E 16 dX6_has_9 (by decide) (fun c2 => ?_) (fun c2 => ?_)
    · replace hq := hq.1 c2
      refine hp_iconst E (nI 0) dX6_has_16 (by decide) ?_
      exact hp_zret E (by unfold hp_bz; decide) ⟨hq, rfl⟩ hZ dX6_has_17
    · replace hq := hq.2 c2
      refine hp_iconst E (nI 1) dX6_has_12 (by decide) ?_
      refine hp_goto E 17 dX6_has_13 (by decide) ?_
      exact hp_zret E (by unfold hp_bz; decide) ⟨hq, rfl⟩ hZ dX6_has_17
theorem dX6_hasMember_0 : decode cX6_hasMember 0 = .ok (.aload_n 0, 1) := by decide +kernel
theorem dX6_hasMember_1 : decode cX6_hasMember 1 = .ok (.iload_n 1, 1) := by decide +kernel
theorem dX6_hasMember_2 : decode cX6_hasMember 2 = .ok (.invokevirtual 22, 3) := by decide +kernel
theorem dX6_hasMember_5 : decode cX6_hasMember 5 = .ok (.ifCond .eq 21, 3) := by decide +kernel
theorem dX6_hasMember_8 : decode cX6_hasMember 8 = .ok (.iload_n 2, 1) := by decide +kernel
theorem dX6_hasMember_9 : decode cX6_hasMember 9 = .ok (.ifCond .lt 17, 3) := by decide +kernel
theorem dX6_hasMember_12 : decode cX6_hasMember 12 = .ok (.iload_n 2, 1) := by decide +kernel
theorem dX6_hasMember_13 : decode cX6_hasMember 13 = .ok (.aload_n 0, 1) := by decide +kernel
theorem dX6_hasMember_14 : decode cX6_hasMember 14 = .ok (.getfield 9, 3) := by decide +kernel
theorem dX6_hasMember_17 : decode cX6_hasMember 17 = .ok (.iload_n 1, 1) := by decide +kernel
theorem dX6_hasMember_18 : decode cX6_hasMember 18 = .ok (.iaload, 1) := by decide +kernel
theorem dX6_hasMember_19 : decode cX6_hasMember 19 = .ok (.if_icmp .ge 7, 3) := by decide +kernel
theorem dX6_hasMember_22 : decode cX6_hasMember 22 = .ok (.iconst 1, 1) := by decide +kernel
theorem dX6_hasMember_23 : decode cX6_hasMember 23 = .ok (.goto 4, 3) := by decide +kernel
theorem dX6_hasMember_26 : decode cX6_hasMember 26 = .ok (.iconst 0, 1) := by decide +kernel
theorem dX6_hasMember_27 : decode cX6_hasMember 27 = .ok (.ireturn, 1) := by decide +kernel
set_option maxHeartbeats 4000000 in
set_option maxRecDepth 100000 in
theorem c_X6_hasMember (l : Launch) {cs : Nat → ClassId} {ad : Nat → Nat} {A : Nat → Prop} {D : va_G} (hJ : hp_J SB ad A)   {h : hp_H} {a1 a2 : Int32} {Q : Int32 → Prop} (hq : q_X6_hasMember h a1 a2 Q) : hp_Mi l yX6_hasMember cX6_hasMember 3 (some .boolean) rm_X6_hasMember [.ref (ad 12), .int a1, .int a2] SB cs ad A D h (fun r h' => Q r ∧ h' = h) := by
  refine hp_met (own := RX6) rfl (by decide) (Nat.le_of_ble_eq_true rfl) rfl (fun p e s m args below meth c Z E hZ hnm => ?_)
  refine hp_sub (lv' := [(0, .ref (ad 12)), (1, .int a1), (2, .int a2)]) [0, 1, 2] rfl ?_
  unfold q_X6_hasMember at hq
  refine hp_aload_n E 0 dX6_hasMember_0 rfl rfl ?_
  refine hp_iload_n E 1 dX6_hasMember_1 rfl rfl ?_
  refine hp_callVip (rest := []) E 12 fB_12_0 vcl_6 (c_X6_has l hJ hq) F_X6_has m_RX6_22 ⟨rfl, rfl⟩ ⟨Nat.le_of_ble_eq_true rfl, Nat.le_of_ble_eq_true rfl⟩ ⟨Nat.zero_le _, Nat.zero_le _⟩ rfl rfl (Nat.le_of_ble_eq_true rfl) dX6_hasMember_2 (fun r1 hq => ?_)
  refine hp_if_eq E 26 dX6_hasMember_5 (by decide) (fun c2 => ?_) (fun c2 => ?_)
  · replace hq := hq.1 c2
    refine hp_iconst E (nI 0) dX6_hasMember_26 (by decide) ?_
    exact hp_zret E (by unfold hp_bz; decide) ⟨hq, rfl⟩ hZ dX6_hasMember_27
  · replace hq := hq.2 c2
    refine hp_iload_n E 2 dX6_hasMember_8 rfl rfl ?_
    refine hp_if_lt E 26 dX6_hasMember_9 (by decide) (fun c3 => ?_) (fun c3 => ?_)
    · replace hq := hq.1 c3
      refine hp_iconst E (nI 0) dX6_hasMember_26 (by decide) ?_
      exact hp_zret E (by unfold hp_bz; decide) ⟨hq, rfl⟩ hZ dX6_hasMember_27
    · replace hq := hq.2 c3
      refine hp_iload_n E 2 dX6_hasMember_12 rfl rfl ?_
      refine hp_aload_n E 0 dX6_hasMember_13 rfl rfl ?_
      refine hp_gR E g_RX6_9 fB_12_0 dX6_hasMember_14 ?_
      refine hp_iload_n E 1 dX6_hasMember_17 rfl rfl ?_
      refine hp_iald E 13 aB_13 hq.1 dX6_hasMember_18 ?_
      replace hq := hq.2
      refine hp_icmp_ge E 26 dX6_hasMember_19 (by decide) (fun c4 => ?_) (fun c4 => ?_)
      · replace hq := hq.1 c4
        refine hp_iconst E (nI 0) dX6_hasMember_26 (by decide) ?_
        exact hp_zret E (by unfold hp_bz; decide) ⟨hq, rfl⟩ hZ dX6_hasMember_27
      · replace hq := hq.2 c4
        refine hp_iconst E (nI 1) dX6_hasMember_22 (by decide) ?_
        refine hp_goto E 27 dX6_hasMember_23 (by decide) ?_
        exact hp_zret E (by unfold hp_bz; decide) ⟨hq, rfl⟩ hZ dX6_hasMember_27
theorem dX4_knowsParts_0 : decode cX4_knowsParts 0 = .ok (.iload_n 1, 1) := by decide +kernel
theorem dX4_knowsParts_1 : decode cX4_knowsParts 1 = .ok (.tableswitch 95 1 6 #[39, 95, 95, 49, 58, 64], 39) := by decide +kernel
theorem dX4_knowsParts_40 : decode cX4_knowsParts 40 = .ok (.aload_n 0, 1) := by decide +kernel
theorem dX4_knowsParts_41 : decode cX4_knowsParts 41 = .ok (.getfield 14, 3) := by decide +kernel
theorem dX4_knowsParts_44 : decode cX4_knowsParts 44 = .ok (.iconst 0, 1) := by decide +kernel
theorem dX4_knowsParts_45 : decode cX4_knowsParts 45 = .ok (.iload_n 2, 1) := by decide +kernel
theorem dX4_knowsParts_46 : decode cX4_knowsParts 46 = .ok (.invokevirtual 61, 3) := by decide +kernel
theorem dX4_knowsParts_49 : decode cX4_knowsParts 49 = .ok (.ireturn, 1) := by decide +kernel
theorem dX4_knowsParts_50 : decode cX4_knowsParts 50 = .ok (.aload_n 0, 1) := by decide +kernel
theorem dX4_knowsParts_51 : decode cX4_knowsParts 51 = .ok (.getfield 26, 3) := by decide +kernel
theorem dX4_knowsParts_54 : decode cX4_knowsParts 54 = .ok (.iload_n 2, 1) := by decide +kernel
theorem dX4_knowsParts_55 : decode cX4_knowsParts 55 = .ok (.invokevirtual 65, 3) := by decide +kernel
theorem dX4_knowsParts_58 : decode cX4_knowsParts 58 = .ok (.ireturn, 1) := by decide +kernel
theorem dX4_knowsParts_59 : decode cX4_knowsParts 59 = .ok (.aload_n 0, 1) := by decide +kernel
theorem dX4_knowsParts_60 : decode cX4_knowsParts 60 = .ok (.iload_n 2, 1) := by decide +kernel
theorem dX4_knowsParts_61 : decode cX4_knowsParts 61 = .ok (.invokevirtual 68, 3) := by decide +kernel
theorem dX4_knowsParts_64 : decode cX4_knowsParts 64 = .ok (.ireturn, 1) := by decide +kernel
theorem dX4_knowsParts_65 : decode cX4_knowsParts 65 = .ok (.aload_n 0, 1) := by decide +kernel
theorem dX4_knowsParts_66 : decode cX4_knowsParts 66 = .ok (.getfield 26, 3) := by decide +kernel
theorem dX4_knowsParts_69 : decode cX4_knowsParts 69 = .ok (.iload_n 2, 1) := by decide +kernel
theorem dX4_knowsParts_70 : decode cX4_knowsParts 70 = .ok (.iload_n 3, 1) := by decide +kernel
theorem dX4_knowsParts_71 : decode cX4_knowsParts 71 = .ok (.invokevirtual 71, 3) := by decide +kernel
theorem dX4_knowsParts_74 : decode cX4_knowsParts 74 = .ok (.ifCond .eq 20, 3) := by decide +kernel
theorem dX4_knowsParts_77 : decode cX4_knowsParts 77 = .ok (.aload_n 0, 1) := by decide +kernel
theorem dX4_knowsParts_78 : decode cX4_knowsParts 78 = .ok (.getfield 20, 3) := by decide +kernel
theorem dX4_knowsParts_81 : decode cX4_knowsParts 81 = .ok (.iload_n 2, 1) := by decide +kernel
theorem dX4_knowsParts_82 : decode cX4_knowsParts 82 = .ok (.iload 4, 2) := by decide +kernel
theorem dX4_knowsParts_84 : decode cX4_knowsParts 84 = .ok (.invokevirtual 61, 3) := by decide +kernel
theorem dX4_knowsParts_87 : decode cX4_knowsParts 87 = .ok (.ifCond .eq 7, 3) := by decide +kernel
theorem dX4_knowsParts_90 : decode cX4_knowsParts 90 = .ok (.iconst 1, 1) := by decide +kernel
theorem dX4_knowsParts_91 : decode cX4_knowsParts 91 = .ok (.goto 4, 3) := by decide +kernel
theorem dX4_knowsParts_94 : decode cX4_knowsParts 94 = .ok (.iconst 0, 1) := by decide +kernel
theorem dX4_knowsParts_95 : decode cX4_knowsParts 95 = .ok (.ireturn, 1) := by decide +kernel
theorem dX4_knowsParts_96 : decode cX4_knowsParts 96 = .ok (.iload_n 1, 1) := by decide +kernel
theorem dX4_knowsParts_97 : decode cX4_knowsParts 97 = .ok (.invokestatic 74, 3) := by decide +kernel
theorem dX4_knowsParts_100 : decode cX4_knowsParts 100 = .ok (.ifCond .eq 14, 3) := by decide +kernel
theorem dX4_knowsParts_103 : decode cX4_knowsParts 103 = .ok (.aload_n 0, 1) := by decide +kernel
theorem dX4_knowsParts_104 : decode cX4_knowsParts 104 = .ok (.getfield 35, 3) := by decide +kernel
theorem dX4_knowsParts_107 : decode cX4_knowsParts 107 = .ok (.iload_n 2, 1) := by decide +kernel
theorem dX4_knowsParts_108 : decode cX4_knowsParts 108 = .ok (.invokevirtual 77, 3) := by decide +kernel
theorem dX4_knowsParts_111 : decode cX4_knowsParts 111 = .ok (.ifCond .eq 25, 3) := by decide +kernel
theorem dX4_knowsParts_114 : decode cX4_knowsParts 114 = .ok (.iload_n 1, 1) := by decide +kernel
theorem dX4_knowsParts_115 : decode cX4_knowsParts 115 = .ok (.invokestatic 78, 3) := by decide +kernel
theorem dX4_knowsParts_118 : decode cX4_knowsParts 118 = .ok (.ifCond .eq 14, 3) := by decide +kernel
theorem dX4_knowsParts_121 : decode cX4_knowsParts 121 = .ok (.aload_n 0, 1) := by decide +kernel
theorem dX4_knowsParts_122 : decode cX4_knowsParts 122 = .ok (.getfield 35, 3) := by decide +kernel
theorem dX4_knowsParts_125 : decode cX4_knowsParts 125 = .ok (.iload_n 3, 1) := by decide +kernel
theorem dX4_knowsParts_126 : decode cX4_knowsParts 126 = .ok (.invokevirtual 77, 3) := by decide +kernel
theorem dX4_knowsParts_129 : decode cX4_knowsParts 129 = .ok (.ifCond .eq 7, 3) := by decide +kernel
theorem dX4_knowsParts_132 : decode cX4_knowsParts 132 = .ok (.iconst 1, 1) := by decide +kernel
theorem dX4_knowsParts_133 : decode cX4_knowsParts 133 = .ok (.goto 4, 3) := by decide +kernel
theorem dX4_knowsParts_136 : decode cX4_knowsParts 136 = .ok (.iconst 0, 1) := by decide +kernel
theorem dX4_knowsParts_137 : decode cX4_knowsParts 137 = .ok (.ireturn, 1) := by decide +kernel
set_option maxHeartbeats 4000000 in
set_option maxRecDepth 100000 in
theorem c_X4_knowsParts (l : Launch) {cs : Nat → ClassId} {ad : Nat → Nat} {A : Nat → Prop} {D : va_G} (hJ : hp_J SB ad A)   {h : hp_H} {a1 a2 a3 a4 : Int32} {Q : Int32 → Prop} (hq : q_X4_knowsParts h a1 a2 a3 a4 Q) : hp_Mi l yX4_knowsParts cX4_knowsParts 5 (some .boolean) rm_X4_knowsParts [.ref (ad 1), .int a1, .int a2, .int a3, .int a4] SB cs ad A D h (fun r h' => Q r ∧ h' = h) := by
  refine hp_met (own := RX4) rfl (by decide) (Nat.le_of_ble_eq_true rfl) rfl (fun p e s m args below meth c Z E hZ hnm => ?_)
  refine hp_sub (lv' := [(0, .ref (ad 1)), (1, .int a1), (2, .int a2), (3, .int a3), (4, .int a4)]) [0, 1, 2, 3, 4] rfl ?_
  unfold q_X4_knowsParts at hq
  refine hp_iload_n E 1 dX4_knowsParts_0 rfl rfl ?_
  by_cases c17 : a1 = (nI 1)
  · replace hq := hq.1 (c17)
    refine hp_tswV (off := 39) E (nI 1) 40 dX4_knowsParts_1 c17 (by decide) (by decide) (by decide) (by decide) ?_
    refine hp_aload_n E 0 dX4_knowsParts_40 rfl rfl ?_
    refine hp_gR E g_RX4_14 fB_1_0 dX4_knowsParts_41 ?_
    refine hp_iconst E (nI 0) dX4_knowsParts_44 (by decide) ?_
    refine hp_iload_n E 2 dX4_knowsParts_45 rfl rfl ?_
    refine hp_callVip (rest := []) E 2 fB_2_0 vcl_10 (c_X10_has l hJ fB_2_0 fB_2_1 fB_2_2 fB_2_3 fB_2_4 aB_3 aB_4 aB_5 aB_6 zB_3 zB_4 zB_5 zB_6 hq) F_X10_has m_RX4_61 ⟨rfl, rfl⟩ ⟨Nat.le_of_ble_eq_true rfl, Nat.le_of_ble_eq_true rfl⟩ ⟨Nat.zero_le _, Nat.zero_le _⟩ rfl rfl (Nat.le_of_ble_eq_true rfl) dX4_knowsParts_46 (fun r1 hq => ?_)
    have hbz := hq.1
    replace hq := hq.2
    exact hp_zret E hbz ⟨hq, rfl⟩ hZ dX4_knowsParts_49
  by_cases c18 : a1 = (nI 2)
  · replace hq := hq.2.2.2.2 ⟨(by rw [c18]; decide), (by rw [c18]; decide), (by rw [c18]; decide), (by rw [c18]; decide)⟩
    refine hp_tswV (off := 95) E (nI 2) 96 dX4_knowsParts_1 c18 (by decide) (by decide) (by decide) (by decide) ?_
    refine hp_iload_n E 1 dX4_knowsParts_96 rfl rfl ?_
    refine hp_callSip (rest := []) E (c_X1_isMade l hJ hq) F_X1_isMade m_RX4_74 ⟨rfl, rfl⟩ ⟨Nat.le_of_ble_eq_true rfl, Nat.le_of_ble_eq_true rfl⟩ ⟨Nat.zero_le _, Nat.zero_le _⟩ rfl rfl (Nat.le_of_ble_eq_true rfl) dX4_knowsParts_97 (fun r8 hq => ?_)
    obtain ⟨K10, hq, hK10⟩ := hq
    have jK10 : K10 → hp_G p l e rm_X4_knowsParts s m args below meth c SB cs ad A D 5 0 0 Z 114 [(0, .ref (ad 1)), (1, .int a1), (3, .int a3)] [] h := by
      intro  hq
      replace hq := hK10  hq
      refine hp_iload_n E 1 dX4_knowsParts_114 rfl rfl ?_
      refine hp_callSip (rest := []) E (c_X1_isMadeOfTwo l hJ hq) F_X1_isMadeOfTwo m_RX4_78 ⟨rfl, rfl⟩ ⟨Nat.le_of_ble_eq_true rfl, Nat.le_of_ble_eq_true rfl⟩ ⟨Nat.zero_le _, Nat.zero_le _⟩ rfl rfl (Nat.le_of_ble_eq_true rfl) dX4_knowsParts_115 (fun r13 hq => ?_)
      refine hp_if_eq E 132 dX4_knowsParts_118 (by decide) (fun c14 => ?_) (fun c14 => ?_)
      · replace hq := hq.1 c14
        refine hp_iconst E (nI 1) dX4_knowsParts_132 (by decide) ?_
        refine hp_goto E 137 dX4_knowsParts_133 (by decide) ?_
        exact hp_zret E (by unfold hp_bz; decide) ⟨hq, rfl⟩ hZ dX4_knowsParts_137
      · replace hq := hq.2 c14
        refine hp_aload_n E 0 dX4_knowsParts_121 rfl rfl ?_
        refine hp_gR E g_RX4_35 fB_1_3 dX4_knowsParts_122 ?_
        refine hp_iload_n E 2 dX4_knowsParts_125 rfl rfl ?_
        refine hp_callVip (rest := []) E 15 fB_15_0 vcl_1 (c_X1_has l hJ hq) F_X1_has m_RX4_77 ⟨rfl, rfl⟩ ⟨Nat.le_of_ble_eq_true rfl, Nat.le_of_ble_eq_true rfl⟩ ⟨Nat.zero_le _, Nat.zero_le _⟩ rfl rfl (Nat.le_of_ble_eq_true rfl) dX4_knowsParts_126 (fun r15 hq => ?_)
        refine hp_if_eq E 136 dX4_knowsParts_129 (by decide) (fun c16 => ?_) (fun c16 => ?_)
        · replace hq := hq.1 c16
          refine hp_iconst E (nI 0) dX4_knowsParts_136 (by decide) ?_
          exact hp_zret E (by unfold hp_bz; decide) ⟨hq, rfl⟩ hZ dX4_knowsParts_137
        · replace hq := hq.2 c16
          refine hp_iconst E (nI 1) dX4_knowsParts_132 (by decide) ?_
          refine hp_goto E 137 dX4_knowsParts_133 (by decide) ?_
          exact hp_zret E (by unfold hp_bz; decide) ⟨hq, rfl⟩ hZ dX4_knowsParts_137
    refine hp_if_eq E 114 dX4_knowsParts_100 (by decide) (fun c9 => ?_) (fun c9 => ?_)
    · replace hq := hq.1 c9
      refine hp_sub (lv' := [(0, .ref (ad 1)), (1, .int a1), (3, .int a3)]) [0, 1, 3] rfl ?_
      exact jK10  hq
    · replace hq := hq.2 c9
      refine hp_aload_n E 0 dX4_knowsParts_103 rfl rfl ?_
      refine hp_gR E g_RX4_35 fB_1_3 dX4_knowsParts_104 ?_
      refine hp_iload_n E 2 dX4_knowsParts_107 rfl rfl ?_
      refine hp_callVip (rest := []) E 15 fB_15_0 vcl_1 (c_X1_has l hJ hq) F_X1_has m_RX4_77 ⟨rfl, rfl⟩ ⟨Nat.le_of_ble_eq_true rfl, Nat.le_of_ble_eq_true rfl⟩ ⟨Nat.zero_le _, Nat.zero_le _⟩ rfl rfl (Nat.le_of_ble_eq_true rfl) dX4_knowsParts_108 (fun r11 hq => ?_)
      refine hp_if_eq E 136 dX4_knowsParts_111 (by decide) (fun c12 => ?_) (fun c12 => ?_)
      · replace hq := hq.1 c12
        refine hp_iconst E (nI 0) dX4_knowsParts_136 (by decide) ?_
        exact hp_zret E (by unfold hp_bz; decide) ⟨hq, rfl⟩ hZ dX4_knowsParts_137
      · replace hq := hq.2 c12
        refine hp_sub (lv' := [(0, .ref (ad 1)), (1, .int a1), (3, .int a3)]) [0, 1, 3] rfl ?_
        exact jK10  hq
  by_cases c19 : a1 = (nI 3)
  · replace hq := hq.2.2.2.2 ⟨(by rw [c19]; decide), (by rw [c19]; decide), (by rw [c19]; decide), (by rw [c19]; decide)⟩
    refine hp_tswV (off := 95) E (nI 3) 96 dX4_knowsParts_1 c19 (by decide) (by decide) (by decide) (by decide) ?_
    refine hp_iload_n E 1 dX4_knowsParts_96 rfl rfl ?_
    refine hp_callSip (rest := []) E (c_X1_isMade l hJ hq) F_X1_isMade m_RX4_74 ⟨rfl, rfl⟩ ⟨Nat.le_of_ble_eq_true rfl, Nat.le_of_ble_eq_true rfl⟩ ⟨Nat.zero_le _, Nat.zero_le _⟩ rfl rfl (Nat.le_of_ble_eq_true rfl) dX4_knowsParts_97 (fun r8 hq => ?_)
    obtain ⟨K10, hq, hK10⟩ := hq
    have jK10 : K10 → hp_G p l e rm_X4_knowsParts s m args below meth c SB cs ad A D 5 0 0 Z 114 [(0, .ref (ad 1)), (1, .int a1), (3, .int a3)] [] h := by
      intro  hq
      replace hq := hK10  hq
      refine hp_iload_n E 1 dX4_knowsParts_114 rfl rfl ?_
      refine hp_callSip (rest := []) E (c_X1_isMadeOfTwo l hJ hq) F_X1_isMadeOfTwo m_RX4_78 ⟨rfl, rfl⟩ ⟨Nat.le_of_ble_eq_true rfl, Nat.le_of_ble_eq_true rfl⟩ ⟨Nat.zero_le _, Nat.zero_le _⟩ rfl rfl (Nat.le_of_ble_eq_true rfl) dX4_knowsParts_115 (fun r13 hq => ?_)
      refine hp_if_eq E 132 dX4_knowsParts_118 (by decide) (fun c14 => ?_) (fun c14 => ?_)
      · replace hq := hq.1 c14
        refine hp_iconst E (nI 1) dX4_knowsParts_132 (by decide) ?_
        refine hp_goto E 137 dX4_knowsParts_133 (by decide) ?_
        exact hp_zret E (by unfold hp_bz; decide) ⟨hq, rfl⟩ hZ dX4_knowsParts_137
      · replace hq := hq.2 c14
        refine hp_aload_n E 0 dX4_knowsParts_121 rfl rfl ?_
        refine hp_gR E g_RX4_35 fB_1_3 dX4_knowsParts_122 ?_
        refine hp_iload_n E 2 dX4_knowsParts_125 rfl rfl ?_
        refine hp_callVip (rest := []) E 15 fB_15_0 vcl_1 (c_X1_has l hJ hq) F_X1_has m_RX4_77 ⟨rfl, rfl⟩ ⟨Nat.le_of_ble_eq_true rfl, Nat.le_of_ble_eq_true rfl⟩ ⟨Nat.zero_le _, Nat.zero_le _⟩ rfl rfl (Nat.le_of_ble_eq_true rfl) dX4_knowsParts_126 (fun r15 hq => ?_)
        refine hp_if_eq E 136 dX4_knowsParts_129 (by decide) (fun c16 => ?_) (fun c16 => ?_)
        · replace hq := hq.1 c16
          refine hp_iconst E (nI 0) dX4_knowsParts_136 (by decide) ?_
          exact hp_zret E (by unfold hp_bz; decide) ⟨hq, rfl⟩ hZ dX4_knowsParts_137
        · replace hq := hq.2 c16
          refine hp_iconst E (nI 1) dX4_knowsParts_132 (by decide) ?_
          refine hp_goto E 137 dX4_knowsParts_133 (by decide) ?_
          exact hp_zret E (by unfold hp_bz; decide) ⟨hq, rfl⟩ hZ dX4_knowsParts_137
    refine hp_if_eq E 114 dX4_knowsParts_100 (by decide) (fun c9 => ?_) (fun c9 => ?_)
    · replace hq := hq.1 c9
      refine hp_sub (lv' := [(0, .ref (ad 1)), (1, .int a1), (3, .int a3)]) [0, 1, 3] rfl ?_
      exact jK10  hq
    · replace hq := hq.2 c9
      refine hp_aload_n E 0 dX4_knowsParts_103 rfl rfl ?_
      refine hp_gR E g_RX4_35 fB_1_3 dX4_knowsParts_104 ?_
      refine hp_iload_n E 2 dX4_knowsParts_107 rfl rfl ?_
      refine hp_callVip (rest := []) E 15 fB_15_0 vcl_1 (c_X1_has l hJ hq) F_X1_has m_RX4_77 ⟨rfl, rfl⟩ ⟨Nat.le_of_ble_eq_true rfl, Nat.le_of_ble_eq_true rfl⟩ ⟨Nat.zero_le _, Nat.zero_le _⟩ rfl rfl (Nat.le_of_ble_eq_true rfl) dX4_knowsParts_108 (fun r11 hq => ?_)
      refine hp_if_eq E 136 dX4_knowsParts_111 (by decide) (fun c12 => ?_) (fun c12 => ?_)
      · replace hq := hq.1 c12
        refine hp_iconst E (nI 0) dX4_knowsParts_136 (by decide) ?_
        exact hp_zret E (by unfold hp_bz; decide) ⟨hq, rfl⟩ hZ dX4_knowsParts_137
      · replace hq := hq.2 c12
        refine hp_sub (lv' := [(0, .ref (ad 1)), (1, .int a1), (3, .int a3)]) [0, 1, 3] rfl ?_
        exact jK10  hq
  by_cases c20 : a1 = (nI 4)
  · replace hq := hq.2.1 (c20)
    refine hp_tswV (off := 49) E (nI 4) 50 dX4_knowsParts_1 c20 (by decide) (by decide) (by decide) (by decide) ?_
    refine hp_aload_n E 0 dX4_knowsParts_50 rfl rfl ?_
    refine hp_gR E g_RX4_26 fB_1_2 dX4_knowsParts_51 ?_
    refine hp_iload_n E 2 dX4_knowsParts_54 rfl rfl ?_
    refine hp_callVip (rest := []) E 12 fB_12_0 vcl_6 (c_X6_has l hJ hq) F_X6_has m_RX4_65 ⟨rfl, rfl⟩ ⟨Nat.le_of_ble_eq_true rfl, Nat.le_of_ble_eq_true rfl⟩ ⟨Nat.zero_le _, Nat.zero_le _⟩ rfl rfl (Nat.le_of_ble_eq_true rfl) dX4_knowsParts_55 (fun r2 hq => ?_)
    have hbz := hq.1
    replace hq := hq.2
    exact hp_zret E hbz ⟨hq, rfl⟩ hZ dX4_knowsParts_58
  by_cases c21 : a1 = (nI 5)
  · replace hq := hq.2.2.1 (c21)
    refine hp_tswV (off := 58) E (nI 5) 59 dX4_knowsParts_1 c21 (by decide) (by decide) (by decide) (by decide) ?_
    refine hp_aload_n E 0 dX4_knowsParts_59 rfl rfl ?_
    refine hp_iload_n E 2 dX4_knowsParts_60 rfl rfl ?_
    refine hp_callVip (rest := []) E 1 fB_1_0 vcl_4 (c_X4_hasChannel l hJ hq) F_X4_hasChannel m_RX4_68 ⟨rfl, rfl⟩ ⟨Nat.le_of_ble_eq_true rfl, Nat.le_of_ble_eq_true rfl⟩ ⟨Nat.zero_le _, Nat.zero_le _⟩ rfl rfl (Nat.le_of_ble_eq_true rfl) dX4_knowsParts_61 (fun r3 hq => ?_)
    have hbz := hq.1
    replace hq := hq.2
    exact hp_zret E hbz ⟨hq, rfl⟩ hZ dX4_knowsParts_64
  by_cases c22 : a1 = (nI 6)
  · replace hq := hq.2.2.2.1 (c22)
    refine hp_tswV (off := 64) E (nI 6) 65 dX4_knowsParts_1 c22 (by decide) (by decide) (by decide) (by decide) ?_
    refine hp_aload_n E 0 dX4_knowsParts_65 rfl rfl ?_
    refine hp_gR E g_RX4_26 fB_1_2 dX4_knowsParts_66 ?_
    refine hp_iload_n E 2 dX4_knowsParts_69 rfl rfl ?_
    refine hp_iload_n E 3 dX4_knowsParts_70 rfl rfl ?_
    refine hp_callVip (rest := []) E 12 fB_12_0 vcl_6 (c_X6_hasMember l hJ hq) F_X6_hasMember m_RX4_71 ⟨rfl, rfl⟩ ⟨Nat.le_of_ble_eq_true rfl, Nat.le_of_ble_eq_true rfl⟩ ⟨Nat.zero_le _, Nat.zero_le _⟩ rfl rfl (Nat.le_of_ble_eq_true rfl) dX4_knowsParts_71 (fun r4 hq => ?_)
    refine hp_if_eq E 94 dX4_knowsParts_74 (by decide) (fun c5 => ?_) (fun c5 => ?_)
    · replace hq := hq.1 c5
      refine hp_iconst E (nI 0) dX4_knowsParts_94 (by decide) ?_
      exact hp_zret E (by unfold hp_bz; decide) ⟨hq, rfl⟩ hZ dX4_knowsParts_95
    · replace hq := hq.2 c5
      refine hp_aload_n E 0 dX4_knowsParts_77 rfl rfl ?_
      refine hp_gR E g_RX4_20 fB_1_1 dX4_knowsParts_78 ?_
      refine hp_iload_n E 2 dX4_knowsParts_81 rfl rfl ?_
      refine hp_iload E 4 dX4_knowsParts_82 rfl ?_
      refine hp_callVip (rest := []) E 7 fB_7_0 vcl_10 (c_X10_has l hJ fB_7_0 fB_7_1 fB_7_2 fB_7_3 fB_7_4 aB_8 aB_9 aB_10 aB_11 zB_8 zB_9 zB_10 zB_11 hq) F_X10_has m_RX4_61 ⟨rfl, rfl⟩ ⟨Nat.le_of_ble_eq_true rfl, Nat.le_of_ble_eq_true rfl⟩ ⟨Nat.zero_le _, Nat.zero_le _⟩ rfl rfl (Nat.le_of_ble_eq_true rfl) dX4_knowsParts_84 (fun r6 hq => ?_)
      refine hp_if_eq E 94 dX4_knowsParts_87 (by decide) (fun c7 => ?_) (fun c7 => ?_)
      · replace hq := hq.1 c7
        refine hp_iconst E (nI 0) dX4_knowsParts_94 (by decide) ?_
        exact hp_zret E (by unfold hp_bz; decide) ⟨hq, rfl⟩ hZ dX4_knowsParts_95
      · replace hq := hq.2 c7
        refine hp_iconst E (nI 1) dX4_knowsParts_90 (by decide) ?_
        refine hp_goto E 95 dX4_knowsParts_91 (by decide) ?_
        exact hp_zret E (by unfold hp_bz; decide) ⟨hq, rfl⟩ hZ dX4_knowsParts_95
  replace hq := hq.2.2.2.2 ⟨c17, c20, c21, c22⟩
  refine hp_tswD E 96 dX4_knowsParts_1 (hp_out (fun i h1 h2 => ?_)) (by decide) ?_
  · rcases (show i = 1 ∨ i = 2 ∨ i = 3 ∨ i = 4 ∨ i = 5 ∨ i = 6 by omega) with rfl | rfl | rfl | rfl | rfl | rfl
    · exact hp_nat c17 (by decide)
    · exact hp_nat c18 (by decide)
    · exact hp_nat c19 (by decide)
    · exact hp_nat c20 (by decide)
    · exact hp_nat c21 (by decide)
    · exact hp_nat c22 (by decide)
  · refine hp_iload_n E 1 dX4_knowsParts_96 rfl rfl ?_
    refine hp_callSip (rest := []) E (c_X1_isMade l hJ hq) F_X1_isMade m_RX4_74 ⟨rfl, rfl⟩ ⟨Nat.le_of_ble_eq_true rfl, Nat.le_of_ble_eq_true rfl⟩ ⟨Nat.zero_le _, Nat.zero_le _⟩ rfl rfl (Nat.le_of_ble_eq_true rfl) dX4_knowsParts_97 (fun r8 hq => ?_)
    obtain ⟨K10, hq, hK10⟩ := hq
    have jK10 : K10 → hp_G p l e rm_X4_knowsParts s m args below meth c SB cs ad A D 5 0 0 Z 114 [(0, .ref (ad 1)), (1, .int a1), (3, .int a3)] [] h := by
      intro  hq
      replace hq := hK10  hq
      refine hp_iload_n E 1 dX4_knowsParts_114 rfl rfl ?_
      refine hp_callSip (rest := []) E (c_X1_isMadeOfTwo l hJ hq) F_X1_isMadeOfTwo m_RX4_78 ⟨rfl, rfl⟩ ⟨Nat.le_of_ble_eq_true rfl, Nat.le_of_ble_eq_true rfl⟩ ⟨Nat.zero_le _, Nat.zero_le _⟩ rfl rfl (Nat.le_of_ble_eq_true rfl) dX4_knowsParts_115 (fun r13 hq => ?_)
      refine hp_if_eq E 132 dX4_knowsParts_118 (by decide) (fun c14 => ?_) (fun c14 => ?_)
      · replace hq := hq.1 c14
        refine hp_iconst E (nI 1) dX4_knowsParts_132 (by decide) ?_
        refine hp_goto E 137 dX4_knowsParts_133 (by decide) ?_
        exact hp_zret E (by unfold hp_bz; decide) ⟨hq, rfl⟩ hZ dX4_knowsParts_137
      · replace hq := hq.2 c14
        refine hp_aload_n E 0 dX4_knowsParts_121 rfl rfl ?_
        refine hp_gR E g_RX4_35 fB_1_3 dX4_knowsParts_122 ?_
        refine hp_iload_n E 2 dX4_knowsParts_125 rfl rfl ?_
        refine hp_callVip (rest := []) E 15 fB_15_0 vcl_1 (c_X1_has l hJ hq) F_X1_has m_RX4_77 ⟨rfl, rfl⟩ ⟨Nat.le_of_ble_eq_true rfl, Nat.le_of_ble_eq_true rfl⟩ ⟨Nat.zero_le _, Nat.zero_le _⟩ rfl rfl (Nat.le_of_ble_eq_true rfl) dX4_knowsParts_126 (fun r15 hq => ?_)
        refine hp_if_eq E 136 dX4_knowsParts_129 (by decide) (fun c16 => ?_) (fun c16 => ?_)
        · replace hq := hq.1 c16
          refine hp_iconst E (nI 0) dX4_knowsParts_136 (by decide) ?_
          exact hp_zret E (by unfold hp_bz; decide) ⟨hq, rfl⟩ hZ dX4_knowsParts_137
        · replace hq := hq.2 c16
          refine hp_iconst E (nI 1) dX4_knowsParts_132 (by decide) ?_
          refine hp_goto E 137 dX4_knowsParts_133 (by decide) ?_
          exact hp_zret E (by unfold hp_bz; decide) ⟨hq, rfl⟩ hZ dX4_knowsParts_137
    refine hp_if_eq E 114 dX4_knowsParts_100 (by decide) (fun c9 => ?_) (fun c9 => ?_)
    · replace hq := hq.1 c9
      refine hp_sub (lv' := [(0, .ref (ad 1)), (1, .int a1), (3, .int a3)]) [0, 1, 3] rfl ?_
      exact jK10  hq
    · replace hq := hq.2 c9
      refine hp_aload_n E 0 dX4_knowsParts_103 rfl rfl ?_
      refine hp_gR E g_RX4_35 fB_1_3 dX4_knowsParts_104 ?_
      refine hp_iload_n E 2 dX4_knowsParts_107 rfl rfl ?_
      refine hp_callVip (rest := []) E 15 fB_15_0 vcl_1 (c_X1_has l hJ hq) F_X1_has m_RX4_77 ⟨rfl, rfl⟩ ⟨Nat.le_of_ble_eq_true rfl, Nat.le_of_ble_eq_true rfl⟩ ⟨Nat.zero_le _, Nat.zero_le _⟩ rfl rfl (Nat.le_of_ble_eq_true rfl) dX4_knowsParts_108 (fun r11 hq => ?_)
      refine hp_if_eq E 136 dX4_knowsParts_111 (by decide) (fun c12 => ?_) (fun c12 => ?_)
      · replace hq := hq.1 c12
        refine hp_iconst E (nI 0) dX4_knowsParts_136 (by decide) ?_
        exact hp_zret E (by unfold hp_bz; decide) ⟨hq, rfl⟩ hZ dX4_knowsParts_137
      · replace hq := hq.2 c12
        refine hp_sub (lv' := [(0, .ref (ad 1)), (1, .int a1), (3, .int a3)]) [0, 1, 3] rfl ?_
        exact jK10  hq
theorem dX4_knowsAct_0 : decode cX4_knowsAct 0 = .ok (.aload_n 0, 1) := by decide +kernel
theorem dX4_knowsAct_1 : decode cX4_knowsAct 1 = .ok (.getfield 42, 3) := by decide +kernel
theorem dX4_knowsAct_4 : decode cX4_knowsAct 4 = .ok (.getfield 81, 3) := by decide +kernel
theorem dX4_knowsAct_7 : decode cX4_knowsAct 7 = .ok (.iload_n 1, 1) := by decide +kernel
theorem dX4_knowsAct_8 : decode cX4_knowsAct 8 = .ok (.iaload, 1) := by decide +kernel
theorem dX4_knowsAct_9 : decode cX4_knowsAct 9 = .ok (.istore 5, 2) := by decide +kernel
theorem dX4_knowsAct_11 : decode cX4_knowsAct 11 = .ok (.iload_n 2, 1) := by decide +kernel
theorem dX4_knowsAct_12 : decode cX4_knowsAct 12 = .ok (.tableswitch 115 0 2 #[28, 58, 89], 28) := by decide +kernel
theorem dX4_knowsAct_40 : decode cX4_knowsAct 40 = .ok (.aload_n 0, 1) := by decide +kernel
theorem dX4_knowsAct_41 : decode cX4_knowsAct 41 = .ok (.getfield 14, 3) := by decide +kernel
theorem dX4_knowsAct_44 : decode cX4_knowsAct 44 = .ok (.iconst 0, 1) := by decide +kernel
theorem dX4_knowsAct_45 : decode cX4_knowsAct 45 = .ok (.iload_n 3, 1) := by decide +kernel
theorem dX4_knowsAct_46 : decode cX4_knowsAct 46 = .ok (.invokevirtual 61, 3) := by decide +kernel
theorem dX4_knowsAct_49 : decode cX4_knowsAct 49 = .ok (.ifCond .eq 19, 3) := by decide +kernel
theorem dX4_knowsAct_52 : decode cX4_knowsAct 52 = .ok (.aload_n 0, 1) := by decide +kernel
theorem dX4_knowsAct_53 : decode cX4_knowsAct 53 = .ok (.getfield 35, 3) := by decide +kernel
theorem dX4_knowsAct_56 : decode cX4_knowsAct 56 = .ok (.iload 4, 2) := by decide +kernel
theorem dX4_knowsAct_58 : decode cX4_knowsAct 58 = .ok (.invokevirtual 77, 3) := by decide +kernel
theorem dX4_knowsAct_61 : decode cX4_knowsAct 61 = .ok (.ifCond .eq 7, 3) := by decide +kernel
theorem dX4_knowsAct_64 : decode cX4_knowsAct 64 = .ok (.iconst 1, 1) := by decide +kernel
theorem dX4_knowsAct_65 : decode cX4_knowsAct 65 = .ok (.goto 4, 3) := by decide +kernel
theorem dX4_knowsAct_68 : decode cX4_knowsAct 68 = .ok (.iconst 0, 1) := by decide +kernel
theorem dX4_knowsAct_69 : decode cX4_knowsAct 69 = .ok (.ireturn, 1) := by decide +kernel
theorem dX4_knowsAct_70 : decode cX4_knowsAct 70 = .ok (.aload_n 0, 1) := by decide +kernel
theorem dX4_knowsAct_71 : decode cX4_knowsAct 71 = .ok (.getfield 20, 3) := by decide +kernel
theorem dX4_knowsAct_74 : decode cX4_knowsAct 74 = .ok (.iload 5, 2) := by decide +kernel
theorem dX4_knowsAct_76 : decode cX4_knowsAct 76 = .ok (.iload_n 3, 1) := by decide +kernel
theorem dX4_knowsAct_77 : decode cX4_knowsAct 77 = .ok (.invokevirtual 61, 3) := by decide +kernel
theorem dX4_knowsAct_80 : decode cX4_knowsAct 80 = .ok (.ifCond .eq 19, 3) := by decide +kernel
theorem dX4_knowsAct_83 : decode cX4_knowsAct 83 = .ok (.aload_n 0, 1) := by decide +kernel
theorem dX4_knowsAct_84 : decode cX4_knowsAct 84 = .ok (.getfield 35, 3) := by decide +kernel
theorem dX4_knowsAct_87 : decode cX4_knowsAct 87 = .ok (.iload 4, 2) := by decide +kernel
theorem dX4_knowsAct_89 : decode cX4_knowsAct 89 = .ok (.invokevirtual 77, 3) := by decide +kernel
theorem dX4_knowsAct_92 : decode cX4_knowsAct 92 = .ok (.ifCond .eq 7, 3) := by decide +kernel
theorem dX4_knowsAct_95 : decode cX4_knowsAct 95 = .ok (.iconst 1, 1) := by decide +kernel
theorem dX4_knowsAct_96 : decode cX4_knowsAct 96 = .ok (.goto 4, 3) := by decide +kernel
theorem dX4_knowsAct_99 : decode cX4_knowsAct 99 = .ok (.iconst 0, 1) := by decide +kernel
theorem dX4_knowsAct_100 : decode cX4_knowsAct 100 = .ok (.ireturn, 1) := by decide +kernel
theorem dX4_knowsAct_101 : decode cX4_knowsAct 101 = .ok (.aload_n 0, 1) := by decide +kernel
theorem dX4_knowsAct_102 : decode cX4_knowsAct 102 = .ok (.iload_n 3, 1) := by decide +kernel
theorem dX4_knowsAct_103 : decode cX4_knowsAct 103 = .ok (.invokevirtual 68, 3) := by decide +kernel
theorem dX4_knowsAct_106 : decode cX4_knowsAct 106 = .ok (.ifCond .eq 19, 3) := by decide +kernel
theorem dX4_knowsAct_109 : decode cX4_knowsAct 109 = .ok (.aload_n 0, 1) := by decide +kernel
theorem dX4_knowsAct_110 : decode cX4_knowsAct 110 = .ok (.getfield 35, 3) := by decide +kernel
theorem dX4_knowsAct_113 : decode cX4_knowsAct 113 = .ok (.iload 4, 2) := by decide +kernel
theorem dX4_knowsAct_115 : decode cX4_knowsAct 115 = .ok (.invokevirtual 77, 3) := by decide +kernel
theorem dX4_knowsAct_118 : decode cX4_knowsAct 118 = .ok (.ifCond .eq 7, 3) := by decide +kernel
theorem dX4_knowsAct_121 : decode cX4_knowsAct 121 = .ok (.iconst 1, 1) := by decide +kernel
theorem dX4_knowsAct_122 : decode cX4_knowsAct 122 = .ok (.goto 4, 3) := by decide +kernel
theorem dX4_knowsAct_125 : decode cX4_knowsAct 125 = .ok (.iconst 0, 1) := by decide +kernel
theorem dX4_knowsAct_126 : decode cX4_knowsAct 126 = .ok (.ireturn, 1) := by decide +kernel
theorem dX4_knowsAct_127 : decode cX4_knowsAct 127 = .ok (.aload_n 0, 1) := by decide +kernel
theorem dX4_knowsAct_128 : decode cX4_knowsAct 128 = .ok (.iload_n 3, 1) := by decide +kernel
theorem dX4_knowsAct_129 : decode cX4_knowsAct 129 = .ok (.invokevirtual 68, 3) := by decide +kernel
theorem dX4_knowsAct_132 : decode cX4_knowsAct 132 = .ok (.ifCond .eq 21, 3) := by decide +kernel
theorem dX4_knowsAct_135 : decode cX4_knowsAct 135 = .ok (.aload_n 0, 1) := by decide +kernel
theorem dX4_knowsAct_136 : decode cX4_knowsAct 136 = .ok (.getfield 20, 3) := by decide +kernel
theorem dX4_knowsAct_139 : decode cX4_knowsAct 139 = .ok (.iload 5, 2) := by decide +kernel
theorem dX4_knowsAct_141 : decode cX4_knowsAct 141 = .ok (.iload 4, 2) := by decide +kernel
theorem dX4_knowsAct_143 : decode cX4_knowsAct 143 = .ok (.invokevirtual 61, 3) := by decide +kernel
theorem dX4_knowsAct_146 : decode cX4_knowsAct 146 = .ok (.ifCond .eq 7, 3) := by decide +kernel
theorem dX4_knowsAct_149 : decode cX4_knowsAct 149 = .ok (.iconst 1, 1) := by decide +kernel
theorem dX4_knowsAct_150 : decode cX4_knowsAct 150 = .ok (.goto 4, 3) := by decide +kernel
theorem dX4_knowsAct_153 : decode cX4_knowsAct 153 = .ok (.iconst 0, 1) := by decide +kernel
theorem dX4_knowsAct_154 : decode cX4_knowsAct 154 = .ok (.ireturn, 1) := by decide +kernel
set_option maxHeartbeats 4000000 in
set_option maxRecDepth 100000 in
theorem c_X4_knowsAct (l : Launch) {cs : Nat → ClassId} {ad : Nat → Nat} {A : Nat → Prop} {D : va_G} (hJ : hp_J SB ad A)   {h : hp_H} {a1 a2 a3 a4 : Int32} {Q : Int32 → Prop} (hq : q_X4_knowsAct h a1 a2 a3 a4 Q) : hp_Mi l yX4_knowsAct cX4_knowsAct 6 (some .boolean) rm_X4_knowsAct [.ref (ad 1), .int a1, .int a2, .int a3, .int a4] SB cs ad A D h (fun r h' => Q r ∧ h' = h) := by
  refine hp_met (own := RX4) rfl (by decide) (Nat.le_of_ble_eq_true rfl) rfl (fun p e s m args below meth c Z E hZ hnm => ?_)
  refine hp_sub (lv' := [(0, .ref (ad 1)), (1, .int a1), (2, .int a2), (3, .int a3), (4, .int a4)]) [0, 1, 2, 3, 4] rfl ?_
  unfold q_X4_knowsAct at hq
  refine hp_aload_n E 0 dX4_knowsAct_0 rfl rfl ?_
  refine hp_gR E g_RX4_42 fB_1_4 dX4_knowsAct_1 ?_
  refine hp_gR E g_RX4_81 fB_23_0 dX4_knowsAct_4 ?_
  refine hp_iload_n E 1 dX4_knowsAct_7 rfl rfl ?_
  refine hp_iald E 24 aB_24 hq.1 dX4_knowsAct_8 ?_
  replace hq := hq.2
  refine hp_topi (fun v1 ev1 => ?_)
  replace hq := hq v1 ev1
  refine hp_istore (lv' := [(0, .ref (ad 1)), (1, .int a1), (2, .int a2), (3, .int a3), (4, .int a4), (5, .int v1)]) E dX4_knowsAct_9 (by decide) rfl rfl ?_
  refine hp_iload_n E 2 dX4_knowsAct_11 rfl rfl ?_
  by_cases c18 : a2 = (nI 0)
  · replace hq := hq.1 (c18)
    refine hp_tswV (off := 28) E (nI 0) 40 dX4_knowsAct_12 c18 (by decide) (by decide) (by decide) (by decide) ?_
    refine hp_aload_n E 0 dX4_knowsAct_40 rfl rfl ?_
    refine hp_gR E g_RX4_14 fB_1_0 dX4_knowsAct_41 ?_
    refine hp_iconst E (nI 0) dX4_knowsAct_44 (by decide) ?_
    refine hp_iload_n E 3 dX4_knowsAct_45 rfl rfl ?_
    refine hp_callVip (rest := []) E 2 fB_2_0 vcl_10 (c_X10_has l hJ fB_2_0 fB_2_1 fB_2_2 fB_2_3 fB_2_4 aB_3 aB_4 aB_5 aB_6 zB_3 zB_4 zB_5 zB_6 hq) F_X10_has m_RX4_61 ⟨rfl, rfl⟩ ⟨Nat.le_of_ble_eq_true rfl, Nat.le_of_ble_eq_true rfl⟩ ⟨Nat.zero_le _, Nat.zero_le _⟩ rfl rfl (Nat.le_of_ble_eq_true rfl) dX4_knowsAct_46 (fun r2 hq => ?_)
    refine hp_if_eq E 68 dX4_knowsAct_49 (by decide) (fun c3 => ?_) (fun c3 => ?_)
    · replace hq := hq.1 c3
      refine hp_iconst E (nI 0) dX4_knowsAct_68 (by decide) ?_
      exact hp_zret E (by unfold hp_bz; decide) ⟨hq, rfl⟩ hZ dX4_knowsAct_69
    · replace hq := hq.2 c3
      refine hp_aload_n E 0 dX4_knowsAct_52 rfl rfl ?_
      refine hp_gR E g_RX4_35 fB_1_3 dX4_knowsAct_53 ?_
      refine hp_iload E 4 dX4_knowsAct_56 rfl ?_
      refine hp_callVip (rest := []) E 15 fB_15_0 vcl_1 (c_X1_has l hJ hq) F_X1_has m_RX4_77 ⟨rfl, rfl⟩ ⟨Nat.le_of_ble_eq_true rfl, Nat.le_of_ble_eq_true rfl⟩ ⟨Nat.zero_le _, Nat.zero_le _⟩ rfl rfl (Nat.le_of_ble_eq_true rfl) dX4_knowsAct_58 (fun r4 hq => ?_)
      refine hp_if_eq E 68 dX4_knowsAct_61 (by decide) (fun c5 => ?_) (fun c5 => ?_)
      · replace hq := hq.1 c5
        refine hp_iconst E (nI 0) dX4_knowsAct_68 (by decide) ?_
        exact hp_zret E (by unfold hp_bz; decide) ⟨hq, rfl⟩ hZ dX4_knowsAct_69
      · replace hq := hq.2 c5
        refine hp_iconst E (nI 1) dX4_knowsAct_64 (by decide) ?_
        refine hp_goto E 69 dX4_knowsAct_65 (by decide) ?_
        exact hp_zret E (by unfold hp_bz; decide) ⟨hq, rfl⟩ hZ dX4_knowsAct_69
  by_cases c19 : a2 = (nI 1)
  · replace hq := hq.2.1 (c19)
    refine hp_tswV (off := 58) E (nI 1) 70 dX4_knowsAct_12 c19 (by decide) (by decide) (by decide) (by decide) ?_
    refine hp_aload_n E 0 dX4_knowsAct_70 rfl rfl ?_
    refine hp_gR E g_RX4_20 fB_1_1 dX4_knowsAct_71 ?_
    refine hp_iload E 5 dX4_knowsAct_74 rfl ?_
    refine hp_iload_n E 3 dX4_knowsAct_76 rfl rfl ?_
    refine hp_callVip (rest := []) E 7 fB_7_0 vcl_10 (c_X10_has l hJ fB_7_0 fB_7_1 fB_7_2 fB_7_3 fB_7_4 aB_8 aB_9 aB_10 aB_11 zB_8 zB_9 zB_10 zB_11 hq) F_X10_has m_RX4_61 ⟨rfl, rfl⟩ ⟨Nat.le_of_ble_eq_true rfl, Nat.le_of_ble_eq_true rfl⟩ ⟨Nat.zero_le _, Nat.zero_le _⟩ rfl rfl (Nat.le_of_ble_eq_true rfl) dX4_knowsAct_77 (fun r6 hq => ?_)
    refine hp_if_eq E 99 dX4_knowsAct_80 (by decide) (fun c7 => ?_) (fun c7 => ?_)
    · replace hq := hq.1 c7
      refine hp_iconst E (nI 0) dX4_knowsAct_99 (by decide) ?_
      exact hp_zret E (by unfold hp_bz; decide) ⟨hq, rfl⟩ hZ dX4_knowsAct_100
    · replace hq := hq.2 c7
      refine hp_aload_n E 0 dX4_knowsAct_83 rfl rfl ?_
      refine hp_gR E g_RX4_35 fB_1_3 dX4_knowsAct_84 ?_
      refine hp_iload E 4 dX4_knowsAct_87 rfl ?_
      refine hp_callVip (rest := []) E 15 fB_15_0 vcl_1 (c_X1_has l hJ hq) F_X1_has m_RX4_77 ⟨rfl, rfl⟩ ⟨Nat.le_of_ble_eq_true rfl, Nat.le_of_ble_eq_true rfl⟩ ⟨Nat.zero_le _, Nat.zero_le _⟩ rfl rfl (Nat.le_of_ble_eq_true rfl) dX4_knowsAct_89 (fun r8 hq => ?_)
      refine hp_if_eq E 99 dX4_knowsAct_92 (by decide) (fun c9 => ?_) (fun c9 => ?_)
      · replace hq := hq.1 c9
        refine hp_iconst E (nI 0) dX4_knowsAct_99 (by decide) ?_
        exact hp_zret E (by unfold hp_bz; decide) ⟨hq, rfl⟩ hZ dX4_knowsAct_100
      · replace hq := hq.2 c9
        refine hp_iconst E (nI 1) dX4_knowsAct_95 (by decide) ?_
        refine hp_goto E 100 dX4_knowsAct_96 (by decide) ?_
        exact hp_zret E (by unfold hp_bz; decide) ⟨hq, rfl⟩ hZ dX4_knowsAct_100
  by_cases c20 : a2 = (nI 2)
  · replace hq := hq.2.2.1 (c20)
    refine hp_tswV (off := 89) E (nI 2) 101 dX4_knowsAct_12 c20 (by decide) (by decide) (by decide) (by decide) ?_
    refine hp_aload_n E 0 dX4_knowsAct_101 rfl rfl ?_
    refine hp_iload_n E 3 dX4_knowsAct_102 rfl rfl ?_
    refine hp_callVip (rest := []) E 1 fB_1_0 vcl_4 (c_X4_hasChannel l hJ hq) F_X4_hasChannel m_RX4_68 ⟨rfl, rfl⟩ ⟨Nat.le_of_ble_eq_true rfl, Nat.le_of_ble_eq_true rfl⟩ ⟨Nat.zero_le _, Nat.zero_le _⟩ rfl rfl (Nat.le_of_ble_eq_true rfl) dX4_knowsAct_103 (fun r10 hq => ?_)
    refine hp_if_eq E 125 dX4_knowsAct_106 (by decide) (fun c11 => ?_) (fun c11 => ?_)
    · replace hq := hq.1 c11
      refine hp_iconst E (nI 0) dX4_knowsAct_125 (by decide) ?_
      exact hp_zret E (by unfold hp_bz; decide) ⟨hq, rfl⟩ hZ dX4_knowsAct_126
    · replace hq := hq.2 c11
      refine hp_aload_n E 0 dX4_knowsAct_109 rfl rfl ?_
      refine hp_gR E g_RX4_35 fB_1_3 dX4_knowsAct_110 ?_
      refine hp_iload E 4 dX4_knowsAct_113 rfl ?_
      refine hp_callVip (rest := []) E 15 fB_15_0 vcl_1 (c_X1_has l hJ hq) F_X1_has m_RX4_77 ⟨rfl, rfl⟩ ⟨Nat.le_of_ble_eq_true rfl, Nat.le_of_ble_eq_true rfl⟩ ⟨Nat.zero_le _, Nat.zero_le _⟩ rfl rfl (Nat.le_of_ble_eq_true rfl) dX4_knowsAct_115 (fun r12 hq => ?_)
      refine hp_if_eq E 125 dX4_knowsAct_118 (by decide) (fun c13 => ?_) (fun c13 => ?_)
      · replace hq := hq.1 c13
        refine hp_iconst E (nI 0) dX4_knowsAct_125 (by decide) ?_
        exact hp_zret E (by unfold hp_bz; decide) ⟨hq, rfl⟩ hZ dX4_knowsAct_126
      · replace hq := hq.2 c13
        refine hp_iconst E (nI 1) dX4_knowsAct_121 (by decide) ?_
        refine hp_goto E 126 dX4_knowsAct_122 (by decide) ?_
        exact hp_zret E (by unfold hp_bz; decide) ⟨hq, rfl⟩ hZ dX4_knowsAct_126
  replace hq := hq.2.2.2 ⟨c18, c19, c20⟩
  refine hp_tswD E 127 dX4_knowsAct_12 (hp_out (fun i h1 h2 => ?_)) (by decide) ?_
  · rcases (show i = 0 ∨ i = 1 ∨ i = 2 by omega) with rfl | rfl | rfl
    · exact hp_nat c18 (by decide)
    · exact hp_nat c19 (by decide)
    · exact hp_nat c20 (by decide)
  · refine hp_aload_n E 0 dX4_knowsAct_127 rfl rfl ?_
    refine hp_iload_n E 3 dX4_knowsAct_128 rfl rfl ?_
    refine hp_callVip (rest := []) E 1 fB_1_0 vcl_4 (c_X4_hasChannel l hJ hq) F_X4_hasChannel m_RX4_68 ⟨rfl, rfl⟩ ⟨Nat.le_of_ble_eq_true rfl, Nat.le_of_ble_eq_true rfl⟩ ⟨Nat.zero_le _, Nat.zero_le _⟩ rfl rfl (Nat.le_of_ble_eq_true rfl) dX4_knowsAct_129 (fun r14 hq => ?_)
    refine hp_if_eq E 153 dX4_knowsAct_132 (by decide) (fun c15 => ?_) (fun c15 => ?_)
    · replace hq := hq.1 c15
      refine hp_iconst E (nI 0) dX4_knowsAct_153 (by decide) ?_
      exact hp_zret E (by unfold hp_bz; decide) ⟨hq, rfl⟩ hZ dX4_knowsAct_154
    · replace hq := hq.2 c15
      refine hp_aload_n E 0 dX4_knowsAct_135 rfl rfl ?_
      refine hp_gR E g_RX4_20 fB_1_1 dX4_knowsAct_136 ?_
      refine hp_iload E 5 dX4_knowsAct_139 rfl ?_
      refine hp_iload E 4 dX4_knowsAct_141 rfl ?_
      refine hp_callVip (rest := []) E 7 fB_7_0 vcl_10 (c_X10_has l hJ fB_7_0 fB_7_1 fB_7_2 fB_7_3 fB_7_4 aB_8 aB_9 aB_10 aB_11 zB_8 zB_9 zB_10 zB_11 hq) F_X10_has m_RX4_61 ⟨rfl, rfl⟩ ⟨Nat.le_of_ble_eq_true rfl, Nat.le_of_ble_eq_true rfl⟩ ⟨Nat.zero_le _, Nat.zero_le _⟩ rfl rfl (Nat.le_of_ble_eq_true rfl) dX4_knowsAct_143 (fun r16 hq => ?_)
      refine hp_if_eq E 153 dX4_knowsAct_146 (by decide) (fun c17 => ?_) (fun c17 => ?_)
      · replace hq := hq.1 c17
        refine hp_iconst E (nI 0) dX4_knowsAct_153 (by decide) ?_
        exact hp_zret E (by unfold hp_bz; decide) ⟨hq, rfl⟩ hZ dX4_knowsAct_154
      · replace hq := hq.2 c17
        refine hp_iconst E (nI 1) dX4_knowsAct_149 (by decide) ?_
        refine hp_goto E 154 dX4_knowsAct_150 (by decide) ?_
        exact hp_zret E (by unfold hp_bz; decide) ⟨hq, rfl⟩ hZ dX4_knowsAct_154
theorem dX4_markUses_0 : decode cX4_markUses 0 = .ok (.aload_n 0, 1) := by decide +kernel
theorem dX4_markUses_1 : decode cX4_markUses 1 = .ok (.getfield 35, 3) := by decide +kernel
theorem dX4_markUses_4 : decode cX4_markUses 4 = .ok (.bipush 7, 2) := by decide +kernel
theorem dX4_markUses_6 : decode cX4_markUses 6 = .ok (.invokevirtual 103, 3) := by decide +kernel
theorem dX4_markUses_9 : decode cX4_markUses 9 = .ok (.iconst 0, 1) := by decide +kernel
theorem dX4_markUses_10 : decode cX4_markUses 10 = .ok (.istore_n 1, 1) := by decide +kernel
theorem dX4_markUses_11 : decode cX4_markUses 11 = .ok (.iload_n 1, 1) := by decide +kernel
theorem dX4_markUses_12 : decode cX4_markUses 12 = .ok (.aload_n 0, 1) := by decide +kernel
theorem dX4_markUses_13 : decode cX4_markUses 13 = .ok (.getfield 42, 3) := by decide +kernel
theorem dX4_markUses_16 : decode cX4_markUses 16 = .ok (.getfield 107, 3) := by decide +kernel
theorem dX4_markUses_19 : decode cX4_markUses 19 = .ok (.if_icmp .ge 108, 3) := by decide +kernel
theorem dX4_markUses_22 : decode cX4_markUses 22 = .ok (.iconst 1, 1) := by decide +kernel
theorem dX4_markUses_23 : decode cX4_markUses 23 = .ok (.aload_n 0, 1) := by decide +kernel
theorem dX4_markUses_24 : decode cX4_markUses 24 = .ok (.getfield 42, 3) := by decide +kernel
theorem dX4_markUses_27 : decode cX4_markUses 27 = .ok (.getfield 81, 3) := by decide +kernel
theorem dX4_markUses_30 : decode cX4_markUses 30 = .ok (.iload_n 1, 1) := by decide +kernel
theorem dX4_markUses_31 : decode cX4_markUses 31 = .ok (.iaload, 1) := by decide +kernel
theorem dX4_markUses_32 : decode cX4_markUses 32 = .ok (.ishl, 1) := by decide +kernel
theorem dX4_markUses_33 : decode cX4_markUses 33 = .ok (.istore_n 2, 1) := by decide +kernel
theorem dX4_markUses_34 : decode cX4_markUses 34 = .ok (.aload_n 0, 1) := by decide +kernel
theorem dX4_markUses_35 : decode cX4_markUses 35 = .ok (.getfield 42, 3) := by decide +kernel
theorem dX4_markUses_38 : decode cX4_markUses 38 = .ok (.getfield 108, 3) := by decide +kernel
theorem dX4_markUses_41 : decode cX4_markUses 41 = .ok (.iload_n 1, 1) := by decide +kernel
theorem dX4_markUses_42 : decode cX4_markUses 42 = .ok (.iaload, 1) := by decide +kernel
theorem dX4_markUses_43 : decode cX4_markUses 43 = .ok (.iconst (-1), 1) := by decide +kernel
theorem dX4_markUses_44 : decode cX4_markUses 44 = .ok (.if_icmp .eq 20, 3) := by decide +kernel
theorem dX4_markUses_47 : decode cX4_markUses 47 = .ok (.aload_n 0, 1) := by decide +kernel
theorem dX4_markUses_48 : decode cX4_markUses 48 = .ok (.getfield 35, 3) := by decide +kernel
theorem dX4_markUses_51 : decode cX4_markUses 51 = .ok (.aload_n 0, 1) := by decide +kernel
theorem dX4_markUses_52 : decode cX4_markUses 52 = .ok (.getfield 42, 3) := by decide +kernel
theorem dX4_markUses_55 : decode cX4_markUses 55 = .ok (.getfield 108, 3) := by decide +kernel
theorem dX4_markUses_58 : decode cX4_markUses 58 = .ok (.iload_n 1, 1) := by decide +kernel
theorem dX4_markUses_59 : decode cX4_markUses 59 = .ok (.iaload, 1) := by decide +kernel
theorem dX4_markUses_60 : decode cX4_markUses 60 = .ok (.iload_n 2, 1) := by decide +kernel
theorem dX4_markUses_61 : decode cX4_markUses 61 = .ok (.invokevirtual 111, 3) := by decide +kernel
theorem dX4_markUses_64 : decode cX4_markUses 64 = .ok (.iload_n 1, 1) := by decide +kernel
theorem dX4_markUses_65 : decode cX4_markUses 65 = .ok (.iconst 4, 1) := by decide +kernel
theorem dX4_markUses_66 : decode cX4_markUses 66 = .ok (.imul, 1) := by decide +kernel
theorem dX4_markUses_67 : decode cX4_markUses 67 = .ok (.istore_n 3, 1) := by decide +kernel
theorem dX4_markUses_68 : decode cX4_markUses 68 = .ok (.iload_n 3, 1) := by decide +kernel
theorem dX4_markUses_69 : decode cX4_markUses 69 = .ok (.iload_n 1, 1) := by decide +kernel
theorem dX4_markUses_70 : decode cX4_markUses 70 = .ok (.iconst 4, 1) := by decide +kernel
theorem dX4_markUses_71 : decode cX4_markUses 71 = .ok (.imul, 1) := by decide +kernel
theorem dX4_markUses_72 : decode cX4_markUses 72 = .ok (.aload_n 0, 1) := by decide +kernel
theorem dX4_markUses_73 : decode cX4_markUses 73 = .ok (.getfield 42, 3) := by decide +kernel
theorem dX4_markUses_76 : decode cX4_markUses 76 = .ok (.getfield 114, 3) := by decide +kernel
theorem dX4_markUses_79 : decode cX4_markUses 79 = .ok (.iload_n 1, 1) := by decide +kernel
theorem dX4_markUses_80 : decode cX4_markUses 80 = .ok (.iaload, 1) := by decide +kernel
theorem dX4_markUses_81 : decode cX4_markUses 81 = .ok (.iadd, 1) := by decide +kernel
theorem dX4_markUses_82 : decode cX4_markUses 82 = .ok (.if_icmp .ge 39, 3) := by decide +kernel
theorem dX4_markUses_85 : decode cX4_markUses 85 = .ok (.aload_n 0, 1) := by decide +kernel
theorem dX4_markUses_86 : decode cX4_markUses 86 = .ok (.getfield 42, 3) := by decide +kernel
theorem dX4_markUses_89 : decode cX4_markUses 89 = .ok (.getfield 117, 3) := by decide +kernel
theorem dX4_markUses_92 : decode cX4_markUses 92 = .ok (.iload_n 3, 1) := by decide +kernel
theorem dX4_markUses_93 : decode cX4_markUses 93 = .ok (.iaload, 1) := by decide +kernel
theorem dX4_markUses_94 : decode cX4_markUses 94 = .ok (.iconst 3, 1) := by decide +kernel
theorem dX4_markUses_95 : decode cX4_markUses 95 = .ok (.if_icmp .eq 20, 3) := by decide +kernel
theorem dX4_markUses_98 : decode cX4_markUses 98 = .ok (.aload_n 0, 1) := by decide +kernel
theorem dX4_markUses_99 : decode cX4_markUses 99 = .ok (.getfield 35, 3) := by decide +kernel
theorem dX4_markUses_102 : decode cX4_markUses 102 = .ok (.aload_n 0, 1) := by decide +kernel
theorem dX4_markUses_103 : decode cX4_markUses 103 = .ok (.getfield 42, 3) := by decide +kernel
theorem dX4_markUses_106 : decode cX4_markUses 106 = .ok (.getfield 120, 3) := by decide +kernel
theorem dX4_markUses_109 : decode cX4_markUses 109 = .ok (.iload_n 3, 1) := by decide +kernel
theorem dX4_markUses_110 : decode cX4_markUses 110 = .ok (.iaload, 1) := by decide +kernel
theorem dX4_markUses_111 : decode cX4_markUses 111 = .ok (.iload_n 2, 1) := by decide +kernel
theorem dX4_markUses_112 : decode cX4_markUses 112 = .ok (.invokevirtual 111, 3) := by decide +kernel
theorem dX4_markUses_115 : decode cX4_markUses 115 = .ok (.iinc 3 1, 3) := by decide +kernel
theorem dX4_markUses_118 : decode cX4_markUses 118 = .ok (.goto (-50), 3) := by decide +kernel
theorem dX4_markUses_121 : decode cX4_markUses 121 = .ok (.iinc 1 1, 3) := by decide +kernel
theorem dX4_markUses_124 : decode cX4_markUses 124 = .ok (.goto (-113), 3) := by decide +kernel
theorem dX4_markUses_127 : decode cX4_markUses 127 = .ok (.aload_n 0, 1) := by decide +kernel
theorem dX4_markUses_128 : decode cX4_markUses 128 = .ok (.getfield 35, 3) := by decide +kernel
theorem dX4_markUses_131 : decode cX4_markUses 131 = .ok (.invokevirtual 123, 3) := by decide +kernel
theorem dX4_markUses_134 : decode cX4_markUses 134 = .ok (.return_, 1) := by decide +kernel
set_option maxHeartbeats 4000000 in
set_option maxRecDepth 100000 in
theorem c_X4_markUses (l : Launch) {cs : Nat → ClassId} {ad : Nat → Nat} {A : Nat → Prop} {D : va_G} (hJ : hp_J SB ad A)   {h : hp_H} {Q : hp_H → Prop} (hq : q_X4_markUses h Q) : hp_Mv l yX4_markUses cX4_markUses 4 none rm_X4_markUses [.ref (ad 1)] SB cs ad A D h Q := by
  refine hp_met (own := RX4) rfl (by decide) (Nat.le_of_ble_eq_true rfl) rfl (fun p e s m args below meth c Z E hZ hnm => ?_)
  refine hp_sub (lv' := [(0, .ref (ad 1))]) [0] rfl ?_
  unfold q_X4_markUses at hq
  refine hp_aload_n E 0 dX4_markUses_0 rfl rfl ?_
  refine hp_gR E g_RX4_35 fB_1_3 dX4_markUses_1 ?_
  refine hp_bipush E (nI 7) dX4_markUses_4 (by decide) ?_
  refine hp_callVv' (rest := []) E 15 fB_15_0 vcl_1 (c_X1_dropUse l hJ hq) F_X1_dropUse m_RX4_103 ⟨rfl, rfl⟩ ⟨Nat.le_of_ble_eq_true rfl, Nat.le_of_ble_eq_true rfl⟩ ⟨Nat.zero_le _, Nat.zero_le _⟩ rfl rfl (Nat.le_of_ble_eq_true rfl) dX4_markUses_6 (fun h1 hq => ?_)
  refine hp_iconst E (nI 0) dX4_markUses_9 (by decide) ?_
  refine hp_istore_n (lv' := [(0, .ref (ad 1)), (1, .int (nI 0))]) E dX4_markUses_10 rfl (by decide) rfl rfl ?_
  refine hq (fun v3 h4 => hp_G p l e rm_X4_markUses s m args below meth c SB cs ad A D 4 0 0 Z 11 [(0, .ref (ad 1)), (1, .int v3)] [] h4) (fun v3 h4 hB => ?_)
  obtain ⟨B2, hq, hB2⟩ := hB
  refine hp_iload_n E 1 dX4_markUses_11 rfl rfl ?_
  refine hp_aload_n E 0 dX4_markUses_12 rfl rfl ?_
  refine hp_gR E g_RX4_42 fB_1_4 dX4_markUses_13 ?_
  refine hp_gI E g_RX4_107 fB_23_8 dX4_markUses_16 ?_
  refine hp_icmp_ge E 127 dX4_markUses_19 (by decide) (fun c5 => ?_) (fun c5 => ?_)
  · replace hq := hq.1 c5
    refine hp_aload_n E 0 dX4_markUses_127 rfl rfl ?_
    refine hp_gR E g_RX4_35 fB_1_3 dX4_markUses_128 ?_
    refine hp_callVv' (rest := []) E 15 fB_15_0 vcl_1 (c_X1_spreadUses l hJ hq) F_X1_spreadUses m_RX4_123 ⟨rfl, rfl⟩ ⟨Nat.le_of_ble_eq_true rfl, Nat.le_of_ble_eq_true rfl⟩ ⟨Nat.zero_le _, Nat.zero_le _⟩ rfl rfl (Nat.le_of_ble_eq_true rfl) dX4_markUses_131 (fun h6 hq => ?_)
    exact hp_vret E hq hZ dX4_markUses_134
  · replace hq := hq.2 c5
    refine hp_iconst E (nI 1) dX4_markUses_22 (by decide) ?_
    refine hp_aload_n E 0 dX4_markUses_23 rfl rfl ?_
    refine hp_gR E g_RX4_42 fB_1_4 dX4_markUses_24 ?_
    refine hp_gR E g_RX4_81 fB_23_0 dX4_markUses_27 ?_
    refine hp_iload_n E 1 dX4_markUses_30 rfl rfl ?_
    refine hp_iald E 24 aB_24 hq.1 dX4_markUses_31 ?_
    replace hq := hq.2
    refine hp_ishl E dX4_markUses_32 ?_
    refine hp_topi (fun v7 ev7 => ?_)
    replace hq := hq v7 ev7
    refine hp_istore_n (lv' := [(0, .ref (ad 1)), (1, .int v3), (2, .int v7)]) E dX4_markUses_33 rfl (by decide) rfl rfl ?_
    refine hp_aload_n E 0 dX4_markUses_34 rfl rfl ?_
    refine hp_gR E g_RX4_42 fB_1_4 dX4_markUses_35 ?_
    refine hp_gR E g_RX4_108 fB_23_3 dX4_markUses_38 ?_
    refine hp_iload_n E 1 dX4_markUses_41 rfl rfl ?_
    refine hp_iald E 27 aB_27 hq.1 dX4_markUses_42 ?_
    replace hq := hq.2
    refine hp_iconst E (-1) dX4_markUses_43 (by decide) ?_
    obtain ⟨K9, hq, hK9⟩ := hq
    have jK9 : ∀  (h10 : hp_H), K9 h10 → hp_G p l e rm_X4_markUses s m args below meth c SB cs ad A D 4 0 0 Z 64 [(0, .ref (ad 1)), (1, .int v3), (2, .int v7)] [] h10 := by
      intro h10 hq
      replace hq := hK9 h10 hq
      refine hp_iload_n E 1 dX4_markUses_64 rfl rfl ?_
      refine hp_iconst E (nI 4) dX4_markUses_65 (by decide) ?_
      refine hp_imul E dX4_markUses_66 ?_
      refine hp_topi (fun v12 ev12 => ?_)
      replace hq := hq v12 ev12
      refine hp_istore_n (lv' := [(0, .ref (ad 1)), (1, .int v3), (2, .int v7), (3, .int v12)]) E dX4_markUses_67 rfl (by decide) rfl rfl ?_
      refine hq (fun v14 h15 => hp_G p l e rm_X4_markUses s m args below meth c SB cs ad A D 4 0 0 Z 68 [(0, .ref (ad 1)), (1, .int v3), (2, .int v7), (3, .int v14)] [] h15) (fun v14 h15 hB => ?_)
      obtain ⟨B13, hq, hB13⟩ := hB
      refine hp_iload_n E 3 dX4_markUses_68 rfl rfl ?_
      refine hp_iload_n E 1 dX4_markUses_69 rfl rfl ?_
      refine hp_iconst E (nI 4) dX4_markUses_70 (by decide) ?_
      refine hp_imul E dX4_markUses_71 ?_
      refine hp_aload_n E 0 dX4_markUses_72 rfl rfl ?_
      refine hp_gR E g_RX4_42 fB_1_4 dX4_markUses_73 ?_
      refine hp_gR E g_RX4_114 fB_23_4 dX4_markUses_76 ?_
      refine hp_iload_n E 1 dX4_markUses_79 rfl rfl ?_
      refine hp_iald E 28 aB_28 hq.1 dX4_markUses_80 ?_
      replace hq := hq.2
      refine hp_iadd E dX4_markUses_81 ?_
      refine hp_icmp_ge E 121 dX4_markUses_82 (by decide) (fun c16 => ?_) (fun c16 => ?_)
      · replace hq := hq.1 c16
        obtain ⟨v17, ev17⟩ : ∃ z : Int32, z = v3 + (nI 1) := ⟨_, rfl⟩
        replace hq := hq v17 ev17
        refine hp_iinc (lv' := [(0, .ref (ad 1)), (1, .int v17), (2, .int v7), (3, .int v14)]) E 1 v17 dX4_markUses_121 rfl (by rw [ev17]; rfl) (by decide) rfl rfl ?_
        refine hp_goto E 11 dX4_markUses_124 (by decide) ?_
        refine hp_sub (lv' := [(0, .ref (ad 1)), (1, .int v17)]) [0, 1] rfl ?_
        exact hB2 _ _ hq
      · replace hq := hq.2 c16
        refine hp_aload_n E 0 dX4_markUses_85 rfl rfl ?_
        refine hp_gR E g_RX4_42 fB_1_4 dX4_markUses_86 ?_
        refine hp_gR E g_RX4_117 fB_23_5 dX4_markUses_89 ?_
        refine hp_iload_n E 3 dX4_markUses_92 rfl rfl ?_
        refine hp_iald E 29 aB_29 hq.1 dX4_markUses_93 ?_
        replace hq := hq.2
        refine hp_iconst E (nI 3) dX4_markUses_94 (by decide) ?_
        obtain ⟨K19, hq, hK19⟩ := hq
        have jK19 : ∀  (h20 : hp_H), K19 h20 → hp_G p l e rm_X4_markUses s m args below meth c SB cs ad A D 4 0 0 Z 115 [(0, .ref (ad 1)), (1, .int v3), (2, .int v7), (3, .int v14)] [] h20 := by
          intro h20 hq
          replace hq := hK19 h20 hq
          obtain ⟨v22, ev22⟩ : ∃ z : Int32, z = v14 + (nI 1) := ⟨_, rfl⟩
          replace hq := hq v22 ev22
          refine hp_iinc (lv' := [(0, .ref (ad 1)), (1, .int v3), (2, .int v7), (3, .int v22)]) E 3 v22 dX4_markUses_115 rfl (by rw [ev22]; rfl) (by decide) rfl rfl ?_
          refine hp_goto E 68 dX4_markUses_118 (by decide) ?_
          exact hB13 _ _ hq
        refine hp_icmp_eq E 115 dX4_markUses_95 (by decide) (fun c18 => ?_) (fun c18 => ?_)
        · replace hq := hq.1 c18
          exact jK19 _ hq
        · replace hq := hq.2 c18
          refine hp_aload_n E 0 dX4_markUses_98 rfl rfl ?_
          refine hp_gR E g_RX4_35 fB_1_3 dX4_markUses_99 ?_
          refine hp_aload_n E 0 dX4_markUses_102 rfl rfl ?_
          refine hp_gR E g_RX4_42 fB_1_4 dX4_markUses_103 ?_
          refine hp_gR E g_RX4_120 fB_23_7 dX4_markUses_106 ?_
          refine hp_iload_n E 3 dX4_markUses_109 rfl rfl ?_
          refine hp_iald E 31 aB_31 hq.1 dX4_markUses_110 ?_
          replace hq := hq.2
          refine hp_iload_n E 2 dX4_markUses_111 rfl rfl ?_
          refine hp_callVv' (rest := []) E 15 fB_15_0 vcl_1 (c_X1_addUse l hJ hq) F_X1_addUse m_RX4_111 ⟨rfl, rfl⟩ ⟨Nat.le_of_ble_eq_true rfl, Nat.le_of_ble_eq_true rfl⟩ ⟨Nat.zero_le _, Nat.zero_le _⟩ rfl rfl (Nat.le_of_ble_eq_true rfl) dX4_markUses_112 (fun h21 hq => ?_)
          exact jK19 _ hq
    refine hp_icmp_eq E 64 dX4_markUses_44 (by decide) (fun c8 => ?_) (fun c8 => ?_)
    · replace hq := hq.1 c8
      exact jK9 _ hq
    · replace hq := hq.2 c8
      refine hp_aload_n E 0 dX4_markUses_47 rfl rfl ?_
      refine hp_gR E g_RX4_35 fB_1_3 dX4_markUses_48 ?_
      refine hp_aload_n E 0 dX4_markUses_51 rfl rfl ?_
      refine hp_gR E g_RX4_42 fB_1_4 dX4_markUses_52 ?_
      refine hp_gR E g_RX4_108 fB_23_3 dX4_markUses_55 ?_
      refine hp_iload_n E 1 dX4_markUses_58 rfl rfl ?_
      refine hp_iald E 27 aB_27 hq.1 dX4_markUses_59 ?_
      replace hq := hq.2
      refine hp_iload_n E 2 dX4_markUses_60 rfl rfl ?_
      refine hp_callVv' (rest := []) E 15 fB_15_0 vcl_1 (c_X1_addUse l hJ hq) F_X1_addUse m_RX4_111 ⟨rfl, rfl⟩ ⟨Nat.le_of_ble_eq_true rfl, Nat.le_of_ble_eq_true rfl⟩ ⟨Nat.zero_le _, Nat.zero_le _⟩ rfl rfl (Nat.le_of_ble_eq_true rfl) dX4_markUses_61 (fun h11 hq => ?_)
      exact jK9 _ hq
