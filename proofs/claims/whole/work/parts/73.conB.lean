theorem dX4_isSearchable_0 : decode cX4_isSearchable 0 = .ok (.aload_n 0, 1) := by decide +kernel
theorem dX4_isSearchable_1 : decode cX4_isSearchable 1 = .ok (.getfield 84, 3) := by decide +kernel
theorem dX4_isSearchable_4 : decode cX4_isSearchable 4 = .ok (.ifCond .eq 15, 3) := by decide +kernel
theorem dX4_isSearchable_7 : decode cX4_isSearchable 7 = .ok (.aload_n 0, 1) := by decide +kernel
theorem dX4_isSearchable_8 : decode cX4_isSearchable 8 = .ok (.getfield 35, 3) := by decide +kernel
theorem dX4_isSearchable_11 : decode cX4_isSearchable 11 = .ok (.invokevirtual 88, 3) := by decide +kernel
theorem dX4_isSearchable_14 : decode cX4_isSearchable 14 = .ok (.ifCond .eq 5, 3) := by decide +kernel
theorem dX4_isSearchable_17 : decode cX4_isSearchable 17 = .ok (.iconst 0, 1) := by decide +kernel
theorem dX4_isSearchable_18 : decode cX4_isSearchable 18 = .ok (.ireturn, 1) := by decide +kernel
theorem dX4_isSearchable_19 : decode cX4_isSearchable 19 = .ok (.aload_n 0, 1) := by decide +kernel
theorem dX4_isSearchable_20 : decode cX4_isSearchable 20 = .ok (.invokevirtual 92, 3) := by decide +kernel
theorem dX4_isSearchable_23 : decode cX4_isSearchable 23 = .ok (.iconst 0, 1) := by decide +kernel
theorem dX4_isSearchable_24 : decode cX4_isSearchable 24 = .ok (.istore_n 1, 1) := by decide +kernel
theorem dX4_isSearchable_25 : decode cX4_isSearchable 25 = .ok (.iload_n 1, 1) := by decide +kernel
theorem dX4_isSearchable_26 : decode cX4_isSearchable 26 = .ok (.aload_n 0, 1) := by decide +kernel
theorem dX4_isSearchable_27 : decode cX4_isSearchable 27 = .ok (.getfield 26, 3) := by decide +kernel
theorem dX4_isSearchable_30 : decode cX4_isSearchable 30 = .ok (.getfield 95, 3) := by decide +kernel
theorem dX4_isSearchable_33 : decode cX4_isSearchable 33 = .ok (.if_icmp .ge 33, 3) := by decide +kernel
theorem dX4_isSearchable_36 : decode cX4_isSearchable 36 = .ok (.aload_n 0, 1) := by decide +kernel
theorem dX4_isSearchable_37 : decode cX4_isSearchable 37 = .ok (.getfield 35, 3) := by decide +kernel
theorem dX4_isSearchable_40 : decode cX4_isSearchable 40 = .ok (.iconst 1, 1) := by decide +kernel
theorem dX4_isSearchable_41 : decode cX4_isSearchable 41 = .ok (.iload_n 1, 1) := by decide +kernel
theorem dX4_isSearchable_42 : decode cX4_isSearchable 42 = .ok (.ishl, 1) := by decide +kernel
theorem dX4_isSearchable_43 : decode cX4_isSearchable 43 = .ok (.aload_n 0, 1) := by decide +kernel
theorem dX4_isSearchable_44 : decode cX4_isSearchable 44 = .ok (.getfield 20, 3) := by decide +kernel
theorem dX4_isSearchable_47 : decode cX4_isSearchable 47 = .ok (.getfield 98, 3) := by decide +kernel
theorem dX4_isSearchable_50 : decode cX4_isSearchable 50 = .ok (.iload_n 1, 1) := by decide +kernel
theorem dX4_isSearchable_51 : decode cX4_isSearchable 51 = .ok (.iaload, 1) := by decide +kernel
theorem dX4_isSearchable_52 : decode cX4_isSearchable 52 = .ok (.invokevirtual 100, 3) := by decide +kernel
theorem dX4_isSearchable_55 : decode cX4_isSearchable 55 = .ok (.ifCond .eq 5, 3) := by decide +kernel
theorem dX4_isSearchable_58 : decode cX4_isSearchable 58 = .ok (.iconst 0, 1) := by decide +kernel
theorem dX4_isSearchable_59 : decode cX4_isSearchable 59 = .ok (.ireturn, 1) := by decide +kernel
theorem dX4_isSearchable_60 : decode cX4_isSearchable 60 = .ok (.iinc 1 1, 3) := by decide +kernel
theorem dX4_isSearchable_63 : decode cX4_isSearchable 63 = .ok (.goto (-38), 3) := by decide +kernel
theorem dX4_isSearchable_66 : decode cX4_isSearchable 66 = .ok (.iconst 1, 1) := by decide +kernel
theorem dX4_isSearchable_67 : decode cX4_isSearchable 67 = .ok (.ireturn, 1) := by decide +kernel
set_option maxHeartbeats 4000000 in
set_option maxRecDepth 100000 in
theorem c_X4_isSearchable (l : Launch) {cs : Nat → ClassId} {ad : Nat → Nat} {A : Nat → Prop} {D : va_G} (hJ : hp_J SB ad A)   {h : hp_H} {Q : Int32 → hp_H → Prop} (hq : q_X4_isSearchable h Q) : hp_Mi l yX4_isSearchable cX4_isSearchable 2 (some .boolean) rm_X4_isSearchable [.ref (ad 1)] SB cs ad A D h Q := by
  refine hp_met (own := RX4) rfl (by decide) (Nat.le_of_ble_eq_true rfl) rfl (fun p e s m args below meth c Z E hZ hnm => ?_)
  refine hp_sub (lv' := [(0, .ref (ad 1))]) [0] rfl ?_
  unfold q_X4_isSearchable at hq
  refine hp_aload_n E 0 dX4_isSearchable_0 rfl rfl ?_
  refine hp_gI E g_RX4_84 fB_1_9 dX4_isSearchable_1 ?_
  obtain ⟨K2, hq, hK2⟩ := hq
  have jK2 : K2 → hp_G p l e rm_X4_isSearchable s m args below meth c SB cs ad A D 2 0 0 Z 19 [(0, .ref (ad 1))] [] h := by
    intro  hq
    replace hq := hK2  hq
    refine hp_aload_n E 0 dX4_isSearchable_19 rfl rfl ?_
    refine hp_callVv' (rest := []) E 1 fB_1_0 vcl_4 (c_X4_markUses l hJ hq) F_X4_markUses m_RX4_92 ⟨rfl, rfl⟩ ⟨Nat.le_of_ble_eq_true rfl, Nat.le_of_ble_eq_true rfl⟩ ⟨Nat.zero_le _, Nat.zero_le _⟩ rfl rfl (Nat.le_of_ble_eq_true rfl) dX4_isSearchable_20 (fun h5 hq => ?_)
    refine hp_iconst E (nI 0) dX4_isSearchable_23 (by decide) ?_
    refine hp_istore_n (lv' := [(0, .ref (ad 1)), (1, .int (nI 0))]) E dX4_isSearchable_24 rfl (by decide) rfl rfl ?_
    refine hq (fun v7 => hp_G p l e rm_X4_isSearchable s m args below meth c SB cs ad A D 2 0 0 Z 25 [(0, .ref (ad 1)), (1, .int v7)] [] h5) (fun v7 hB => ?_)
    obtain ⟨B6, hq, hB6⟩ := hB
    refine hp_iload_n E 1 dX4_isSearchable_25 rfl rfl ?_
    refine hp_aload_n E 0 dX4_isSearchable_26 rfl rfl ?_
    refine hp_gR E g_RX4_26 fB_1_2 dX4_isSearchable_27 ?_
    refine hp_gI E g_RX4_95 fB_12_1 dX4_isSearchable_30 ?_
    refine hp_icmp_ge E 66 dX4_isSearchable_33 (by decide) (fun c8 => ?_) (fun c8 => ?_)
    · replace hq := hq.1 c8
      refine hp_iconst E (nI 1) dX4_isSearchable_66 (by decide) ?_
      exact hp_zret E (by unfold hp_bz; decide) hq hZ dX4_isSearchable_67
    · replace hq := hq.2 c8
      refine hp_aload_n E 0 dX4_isSearchable_36 rfl rfl ?_
      refine hp_gR E g_RX4_35 fB_1_3 dX4_isSearchable_37 ?_
      refine hp_iconst E (nI 1) dX4_isSearchable_40 (by decide) ?_
      refine hp_iload_n E 1 dX4_isSearchable_41 rfl rfl ?_
      refine hp_ishl E dX4_isSearchable_42 ?_
      refine hp_aload_n E 0 dX4_isSearchable_43 rfl rfl ?_
      refine hp_gR E g_RX4_20 fB_1_1 dX4_isSearchable_44 ?_
      refine hp_gR E g_RX4_98 fB_7_0 dX4_isSearchable_47 ?_
      refine hp_iload_n E 1 dX4_isSearchable_50 rfl rfl ?_
      refine hp_iald E 8 aB_8 hq.1 dX4_isSearchable_51 ?_
      replace hq := hq.2
      refine hp_callVip (rest := []) E 15 fB_15_0 vcl_1 (c_X1_namesBeyond l hJ hq) F_X1_namesBeyond m_RX4_100 ⟨rfl, rfl⟩ ⟨Nat.le_of_ble_eq_true rfl, Nat.le_of_ble_eq_true rfl⟩ ⟨Nat.zero_le _, Nat.zero_le _⟩ rfl rfl (Nat.le_of_ble_eq_true rfl) dX4_isSearchable_52 (fun r9 hq => ?_)
      refine hp_if_eq E 60 dX4_isSearchable_55 (by decide) (fun c10 => ?_) (fun c10 => ?_)
      · replace hq := hq.1 c10
        obtain ⟨v11, ev11⟩ : ∃ z : Int32, z = v7 + (nI 1) := ⟨_, rfl⟩
        replace hq := hq v11 ev11
        refine hp_iinc (lv' := [(0, .ref (ad 1)), (1, .int v11)]) E 1 v11 dX4_isSearchable_60 rfl (by rw [ev11]; rfl) (by decide) rfl rfl ?_
        refine hp_goto E 25 dX4_isSearchable_63 (by decide) ?_
        exact hB6 _ hq
      · replace hq := hq.2 c10
        refine hp_iconst E (nI 0) dX4_isSearchable_58 (by decide) ?_
        exact hp_zret E (by unfold hp_bz; decide) hq hZ dX4_isSearchable_59
  refine hp_if_eq E 19 dX4_isSearchable_4 (by decide) (fun c1 => ?_) (fun c1 => ?_)
  · replace hq := hq.1 c1
    exact jK2  hq
  · replace hq := hq.2 c1
    refine hp_aload_n E 0 dX4_isSearchable_7 rfl rfl ?_
    refine hp_gR E g_RX4_35 fB_1_3 dX4_isSearchable_8 ?_
    refine hp_callVip (rest := []) E 15 fB_15_0 vcl_1 (c_X1_tellsMembersApart l hJ hq) F_X1_tellsMembersApart m_RX4_88 ⟨rfl, rfl⟩ ⟨Nat.le_of_ble_eq_true rfl, Nat.le_of_ble_eq_true rfl⟩ ⟨Nat.zero_le _, Nat.zero_le _⟩ rfl rfl (Nat.le_of_ble_eq_true rfl) dX4_isSearchable_11 (fun r3 hq => ?_)
    refine hp_if_eq E 19 dX4_isSearchable_14 (by decide) (fun c4 => ?_) (fun c4 => ?_)
    · replace hq := hq.1 c4
      exact jK2  hq
    · replace hq := hq.2 c4
      refine hp_iconst E (nI 0) dX4_isSearchable_17 (by decide) ?_
      exact hp_zret E (by unfold hp_bz; decide) hq hZ dX4_isSearchable_18
theorem dX7_clear_0 : decode cX7_clear 0 = .ok (.aload_n 0, 1) := by decide +kernel
theorem dX7_clear_1 : decode cX7_clear 1 = .ok (.getfield 11, 3) := by decide +kernel
theorem dX7_clear_4 : decode cX7_clear 4 = .ok (.iconst 0, 1) := by decide +kernel
theorem dX7_clear_5 : decode cX7_clear 5 = .ok (.invokestatic 15, 3) := by decide +kernel
theorem dX7_clear_8 : decode cX7_clear 8 = .ok (.return_, 1) := by decide +kernel
set_option maxHeartbeats 4000000 in
set_option maxRecDepth 100000 in
theorem c_X7_clear (l : Launch) {cs : Nat → ClassId} {ad : Nat → Nat} {A : Nat → Prop} {D : va_G} (hJ : hp_J SB ad A) {w : Nat} {r : Nat} (hr : hp_sh SB r 7 0 (1, w, 0)) (hw : SB[w]? = some (.inr (0, 13))) (hz : w ≠ hp_V) {h : hp_H} {Q : hp_H → Prop} (hq : q_X7_clear w h Q) : hp_Mv l yX7_clear cX7_clear 1 none rm_X7_clear [.ref (ad r)] SB cs ad A D h Q := by
  refine hp_met (own := RX7) rfl (by decide) (Nat.le_of_ble_eq_true rfl) rfl (fun p e s m args below meth c Z E hZ hnm => ?_)
  refine hp_sub (lv' := [(0, .ref (ad r))]) [0] rfl ?_
  unfold q_X7_clear at hq
  refine hp_aload_n E 0 dX7_clear_0 rfl rfl ?_
  refine hp_gR E g_RX7_11 hr dX7_clear_1 ?_
  refine hp_iconst E (nI 0) dX7_clear_4 (by decide) ?_
  refine hp_callSv (rest := []) E (c_J7_fill_53178 l hJ hw hz hq) F_J7_fill_53178 m_RX7_15 ⟨rfl, rfl⟩ ⟨Nat.le_of_ble_eq_true rfl, Nat.le_of_ble_eq_true rfl⟩ ⟨Nat.zero_le _, Nat.zero_le _⟩ rfl rfl (Nat.le_of_ble_eq_true rfl) dX7_clear_5 (fun h1 hq => ?_)
  exact hp_vret E hq hZ dX7_clear_8
theorem dX10_firstOf_0 : decode cX10_firstOf 0 = .ok (.aload_n 0, 1) := by decide +kernel
theorem dX10_firstOf_1 : decode cX10_firstOf 1 = .ok (.getfield 25, 3) := by decide +kernel
theorem dX10_firstOf_4 : decode cX10_firstOf 4 = .ok (.iload_n 1, 1) := by decide +kernel
theorem dX10_firstOf_5 : decode cX10_firstOf 5 = .ok (.aload_n 0, 1) := by decide +kernel
theorem dX10_firstOf_6 : decode cX10_firstOf 6 = .ok (.getfield 9, 3) := by decide +kernel
theorem dX10_firstOf_9 : decode cX10_firstOf 9 = .ok (.imul, 1) := by decide +kernel
theorem dX10_firstOf_10 : decode cX10_firstOf 10 = .ok (.iload_n 2, 1) := by decide +kernel
theorem dX10_firstOf_11 : decode cX10_firstOf 11 = .ok (.iadd, 1) := by decide +kernel
theorem dX10_firstOf_12 : decode cX10_firstOf 12 = .ok (.iaload, 1) := by decide +kernel
theorem dX10_firstOf_13 : decode cX10_firstOf 13 = .ok (.ireturn, 1) := by decide +kernel
set_option maxHeartbeats 4000000 in
set_option maxRecDepth 100000 in
theorem c_X10_firstOf (l : Launch) {cs : Nat → ClassId} {ad : Nat → Nat} {A : Nat → Prop} {D : va_G} (hJ : hp_J SB ad A) {vk : Nat} {vt : Nat} {vl : Nat} {vh : Nat} {vf : Nat} {vn : Nat} {vm : Nat} (hv0 : hp_sh SB vk 10 0 (1, vt, 0)) (hv1 : hp_sh SB vk 10 1 (0, 0, 0)) (hv2 : hp_sh SB vk 10 2 (1, vl, 0)) (hv3 : hp_sh SB vk 10 3 (1, vh, 0)) (hv4 : hp_sh SB vk 10 4 (1, vf, 0)) (hvt : SB[vt]? = some (.inr (0, vn))) (hvl : SB[vl]? = some (.inr (0, vm))) (hvh : SB[vh]? = some (.inr (0, vm))) (hvf : SB[vf]? = some (.inr (0, vm))) (hzt : vt ≠ hp_V) (hzl : vl ≠ hp_V) (hzh : vh ≠ hp_V) (hzf : vf ≠ hp_V) {h : hp_H} {a1 a2 : Int32} {Q : Int32 → Prop} (hq : q_X10_firstOf vk vt vl vh vf vn vm h a1 a2 Q) : hp_Mi l yX10_firstOf cX10_firstOf 3 (some .int) rm_X10_firstOf [.ref (ad vk), .int a1, .int a2] SB cs ad A D h (fun r h' => Q r ∧ h' = h) := by
  refine hp_met (own := RX10) rfl (by decide) (Nat.le_of_ble_eq_true rfl) rfl (fun p e s m args below meth c Z E hZ hnm => ?_)
  refine hp_sub (lv' := [(0, .ref (ad vk)), (1, .int a1), (2, .int a2)]) [0, 1, 2] rfl ?_
  unfold q_X10_firstOf at hq
  refine hp_aload_n E 0 dX10_firstOf_0 rfl rfl ?_
  refine hp_gR E g_RX10_25 hv4 dX10_firstOf_1 ?_
  refine hp_iload_n E 1 dX10_firstOf_4 rfl rfl ?_
  refine hp_aload_n E 0 dX10_firstOf_5 rfl rfl ?_
  refine hp_gI E g_RX10_9 hv1 dX10_firstOf_6 ?_
  refine hp_imul E dX10_firstOf_9 ?_
  refine hp_iload_n E 2 dX10_firstOf_10 rfl rfl ?_
  refine hp_iadd E dX10_firstOf_11 ?_
  refine hp_iald E vf hvf hq.1 dX10_firstOf_12 ?_
  replace hq := hq.2
  exact hp_iret E ⟨hq, rfl⟩ hZ dX10_firstOf_13
theorem dX7_setShared_0 : decode cX7_setShared 0 = .ok (.aload_n 0, 1) := by decide +kernel
theorem dX7_setShared_1 : decode cX7_setShared 1 = .ok (.getfield 11, 3) := by decide +kernel
theorem dX7_setShared_4 : decode cX7_setShared 4 = .ok (.iconst 0, 1) := by decide +kernel
theorem dX7_setShared_5 : decode cX7_setShared 5 = .ok (.aload_n 0, 1) := by decide +kernel
theorem dX7_setShared_6 : decode cX7_setShared 6 = .ok (.getfield 11, 3) := by decide +kernel
theorem dX7_setShared_9 : decode cX7_setShared 9 = .ok (.iconst 0, 1) := by decide +kernel
theorem dX7_setShared_10 : decode cX7_setShared 10 = .ok (.iaload, 1) := by decide +kernel
theorem dX7_setShared_11 : decode cX7_setShared 11 = .ok (.bipush 15, 2) := by decide +kernel
theorem dX7_setShared_13 : decode cX7_setShared 13 = .ok (.iconst 4, 1) := by decide +kernel
theorem dX7_setShared_14 : decode cX7_setShared 14 = .ok (.iload_n 1, 1) := by decide +kernel
theorem dX7_setShared_15 : decode cX7_setShared 15 = .ok (.imul, 1) := by decide +kernel
theorem dX7_setShared_16 : decode cX7_setShared 16 = .ok (.ishl, 1) := by decide +kernel
theorem dX7_setShared_17 : decode cX7_setShared 17 = .ok (.iconst (-1), 1) := by decide +kernel
theorem dX7_setShared_18 : decode cX7_setShared 18 = .ok (.ixor, 1) := by decide +kernel
theorem dX7_setShared_19 : decode cX7_setShared 19 = .ok (.iand, 1) := by decide +kernel
theorem dX7_setShared_20 : decode cX7_setShared 20 = .ok (.iload_n 2, 1) := by decide +kernel
theorem dX7_setShared_21 : decode cX7_setShared 21 = .ok (.iconst 4, 1) := by decide +kernel
theorem dX7_setShared_22 : decode cX7_setShared 22 = .ok (.iload_n 1, 1) := by decide +kernel
theorem dX7_setShared_23 : decode cX7_setShared 23 = .ok (.imul, 1) := by decide +kernel
theorem dX7_setShared_24 : decode cX7_setShared 24 = .ok (.ishl, 1) := by decide +kernel
theorem dX7_setShared_25 : decode cX7_setShared 25 = .ok (.ior, 1) := by decide +kernel
theorem dX7_setShared_26 : decode cX7_setShared 26 = .ok (.iastore, 1) := by decide +kernel
theorem dX7_setShared_27 : decode cX7_setShared 27 = .ok (.return_, 1) := by decide +kernel
set_option maxHeartbeats 4000000 in
set_option maxRecDepth 100000 in
theorem c_X7_setShared (l : Launch) {cs : Nat → ClassId} {ad : Nat → Nat} {A : Nat → Prop} {D : va_G} (hJ : hp_J SB ad A) {w : Nat} {r : Nat} (hr : hp_sh SB r 7 0 (1, w, 0)) (hw : SB[w]? = some (.inr (0, 13))) (hz : w ≠ hp_V) {h : hp_H} {a1 a2 : Int32} {Q : hp_H → Prop} (hq : q_X7_setShared w h a1 a2 Q) : hp_Mv l yX7_setShared cX7_setShared 3 none rm_X7_setShared [.ref (ad r), .int a1, .int a2] SB cs ad A D h Q := by
  refine hp_met (own := RX7) rfl (by decide) (Nat.le_of_ble_eq_true rfl) rfl (fun p e s m args below meth c Z E hZ hnm => ?_)
  refine hp_sub (lv' := [(0, .ref (ad r)), (1, .int a1), (2, .int a2)]) [0, 1, 2] rfl ?_
  unfold q_X7_setShared at hq
  refine hp_aload_n E 0 dX7_setShared_0 rfl rfl ?_
  refine hp_gR E g_RX7_11 hr dX7_setShared_1 ?_
  refine hp_iconst E (nI 0) dX7_setShared_4 (by decide) ?_
  refine hp_aload_n E 0 dX7_setShared_5 rfl rfl ?_
  refine hp_gR E g_RX7_11 hr dX7_setShared_6 ?_
  refine hp_iconst E (nI 0) dX7_setShared_9 (by decide) ?_
  refine hp_iald E w hw hq.1 dX7_setShared_10 ?_
  replace hq := hq.2
  refine hp_bipush E (nI 15) dX7_setShared_11 (by decide) ?_
  refine hp_iconst E (nI 4) dX7_setShared_13 (by decide) ?_
  refine hp_iload_n E 1 dX7_setShared_14 rfl rfl ?_
  refine hp_imul E dX7_setShared_15 ?_
  refine hp_ishl E dX7_setShared_16 ?_
  refine hp_iconst E (-1) dX7_setShared_17 (by decide) ?_
  refine hp_ixor E dX7_setShared_18 ?_
  refine hp_iand E dX7_setShared_19 ?_
  refine hp_iload_n E 2 dX7_setShared_20 rfl rfl ?_
  refine hp_iconst E (nI 4) dX7_setShared_21 (by decide) ?_
  refine hp_iload_n E 1 dX7_setShared_22 rfl rfl ?_
  refine hp_imul E dX7_setShared_23 ?_
  refine hp_ishl E dX7_setShared_24 ?_
  refine hp_ior E dX7_setShared_25 ?_
  have hin := hq.1
  replace hq := hq.2
  refine hp_iast E w hw hz hJ hin dX7_setShared_26 ?_
  refine hp_toph (fun h1 eh1 => ?_)
  replace hq := hq h1 eh1
  exact hp_vret E hq hZ dX7_setShared_27
theorem dX7_setOwn_0 : decode cX7_setOwn 0 = .ok (.iconst 1, 1) := by decide +kernel
theorem dX7_setOwn_1 : decode cX7_setOwn 1 = .ok (.iload_n 1, 1) := by decide +kernel
theorem dX7_setOwn_2 : decode cX7_setOwn 2 = .ok (.iconst 3, 1) := by decide +kernel
theorem dX7_setOwn_3 : decode cX7_setOwn 3 = .ok (.imul, 1) := by decide +kernel
theorem dX7_setOwn_4 : decode cX7_setOwn 4 = .ok (.iadd, 1) := by decide +kernel
theorem dX7_setOwn_5 : decode cX7_setOwn 5 = .ok (.iload_n 2, 1) := by decide +kernel
theorem dX7_setOwn_6 : decode cX7_setOwn 6 = .ok (.iadd, 1) := by decide +kernel
theorem dX7_setOwn_7 : decode cX7_setOwn 7 = .ok (.istore 5, 2) := by decide +kernel
theorem dX7_setOwn_9 : decode cX7_setOwn 9 = .ok (.bipush 8, 2) := by decide +kernel
theorem dX7_setOwn_11 : decode cX7_setOwn 11 = .ok (.iconst 4, 1) := by decide +kernel
theorem dX7_setOwn_12 : decode cX7_setOwn 12 = .ok (.iload_n 3, 1) := by decide +kernel
theorem dX7_setOwn_13 : decode cX7_setOwn 13 = .ok (.imul, 1) := by decide +kernel
theorem dX7_setOwn_14 : decode cX7_setOwn 14 = .ok (.isub, 1) := by decide +kernel
theorem dX7_setOwn_15 : decode cX7_setOwn 15 = .ok (.istore 6, 2) := by decide +kernel
theorem dX7_setOwn_17 : decode cX7_setOwn 17 = .ok (.aload_n 0, 1) := by decide +kernel
theorem dX7_setOwn_18 : decode cX7_setOwn 18 = .ok (.getfield 11, 3) := by decide +kernel
theorem dX7_setOwn_21 : decode cX7_setOwn 21 = .ok (.iload 5, 2) := by decide +kernel
theorem dX7_setOwn_23 : decode cX7_setOwn 23 = .ok (.aload_n 0, 1) := by decide +kernel
theorem dX7_setOwn_24 : decode cX7_setOwn 24 = .ok (.getfield 11, 3) := by decide +kernel
theorem dX7_setOwn_27 : decode cX7_setOwn 27 = .ok (.iload 5, 2) := by decide +kernel
theorem dX7_setOwn_29 : decode cX7_setOwn 29 = .ok (.iaload, 1) := by decide +kernel
theorem dX7_setOwn_30 : decode cX7_setOwn 30 = .ok (.bipush 15, 2) := by decide +kernel
theorem dX7_setOwn_32 : decode cX7_setOwn 32 = .ok (.iload 6, 2) := by decide +kernel
theorem dX7_setOwn_34 : decode cX7_setOwn 34 = .ok (.ishl, 1) := by decide +kernel
theorem dX7_setOwn_35 : decode cX7_setOwn 35 = .ok (.iconst (-1), 1) := by decide +kernel
theorem dX7_setOwn_36 : decode cX7_setOwn 36 = .ok (.ixor, 1) := by decide +kernel
theorem dX7_setOwn_37 : decode cX7_setOwn 37 = .ok (.iand, 1) := by decide +kernel
theorem dX7_setOwn_38 : decode cX7_setOwn 38 = .ok (.iload 4, 2) := by decide +kernel
theorem dX7_setOwn_40 : decode cX7_setOwn 40 = .ok (.iload 6, 2) := by decide +kernel
theorem dX7_setOwn_42 : decode cX7_setOwn 42 = .ok (.ishl, 1) := by decide +kernel
theorem dX7_setOwn_43 : decode cX7_setOwn 43 = .ok (.ior, 1) := by decide +kernel
theorem dX7_setOwn_44 : decode cX7_setOwn 44 = .ok (.iastore, 1) := by decide +kernel
theorem dX7_setOwn_45 : decode cX7_setOwn 45 = .ok (.return_, 1) := by decide +kernel
set_option maxHeartbeats 4000000 in
set_option maxRecDepth 100000 in
theorem c_X7_setOwn (l : Launch) {cs : Nat → ClassId} {ad : Nat → Nat} {A : Nat → Prop} {D : va_G} (hJ : hp_J SB ad A) {w : Nat} {r : Nat} (hr : hp_sh SB r 7 0 (1, w, 0)) (hw : SB[w]? = some (.inr (0, 13))) (hz : w ≠ hp_V) {h : hp_H} {a1 a2 a3 a4 : Int32} {Q : hp_H → Prop} (hq : q_X7_setOwn w h a1 a2 a3 a4 Q) : hp_Mv l yX7_setOwn cX7_setOwn 7 none rm_X7_setOwn [.ref (ad r), .int a1, .int a2, .int a3, .int a4] SB cs ad A D h Q := by
  refine hp_met (own := RX7) rfl (by decide) (Nat.le_of_ble_eq_true rfl) rfl (fun p e s m args below meth c Z E hZ hnm => ?_)
  refine hp_sub (lv' := [(0, .ref (ad r)), (1, .int a1), (2, .int a2), (3, .int a3), (4, .int a4)]) [0, 1, 2, 3, 4] rfl ?_
  unfold q_X7_setOwn at hq
  refine hp_iconst E (nI 1) dX7_setOwn_0 (by decide) ?_
  refine hp_iload_n E 1 dX7_setOwn_1 rfl rfl ?_
  refine hp_iconst E (nI 3) dX7_setOwn_2 (by decide) ?_
  refine hp_imul E dX7_setOwn_3 ?_
  refine hp_iadd E dX7_setOwn_4 ?_
  refine hp_iload_n E 2 dX7_setOwn_5 rfl rfl ?_
  refine hp_iadd E dX7_setOwn_6 ?_
  refine hp_topi (fun v1 ev1 => ?_)
  replace hq := hq v1 ev1
  refine hp_istore (lv' := [(0, .ref (ad r)), (1, .int a1), (2, .int a2), (3, .int a3), (4, .int a4), (5, .int v1)]) E dX7_setOwn_7 (by decide) rfl rfl ?_
  refine hp_bipush E (nI 8) dX7_setOwn_9 (by decide) ?_
  refine hp_iconst E (nI 4) dX7_setOwn_11 (by decide) ?_
  refine hp_iload_n E 3 dX7_setOwn_12 rfl rfl ?_
  refine hp_imul E dX7_setOwn_13 ?_
  refine hp_isub E dX7_setOwn_14 ?_
  refine hp_topi (fun v2 ev2 => ?_)
  replace hq := hq v2 ev2
  refine hp_istore (lv' := [(0, .ref (ad r)), (1, .int a1), (2, .int a2), (3, .int a3), (4, .int a4), (5, .int v1), (6, .int v2)]) E dX7_setOwn_15 (by decide) rfl rfl ?_
  refine hp_aload_n E 0 dX7_setOwn_17 rfl rfl ?_
  refine hp_gR E g_RX7_11 hr dX7_setOwn_18 ?_
  refine hp_iload E 5 dX7_setOwn_21 rfl ?_
  refine hp_aload_n E 0 dX7_setOwn_23 rfl rfl ?_
  refine hp_gR E g_RX7_11 hr dX7_setOwn_24 ?_
  refine hp_iload E 5 dX7_setOwn_27 rfl ?_
  refine hp_iald E w hw hq.1 dX7_setOwn_29 ?_
  replace hq := hq.2
  refine hp_bipush E (nI 15) dX7_setOwn_30 (by decide) ?_
  refine hp_iload E 6 dX7_setOwn_32 rfl ?_
  refine hp_ishl E dX7_setOwn_34 ?_
  refine hp_iconst E (-1) dX7_setOwn_35 (by decide) ?_
  refine hp_ixor E dX7_setOwn_36 ?_
  refine hp_iand E dX7_setOwn_37 ?_
  refine hp_iload E 4 dX7_setOwn_38 rfl ?_
  refine hp_iload E 6 dX7_setOwn_40 rfl ?_
  refine hp_ishl E dX7_setOwn_42 ?_
  refine hp_ior E dX7_setOwn_43 ?_
  have hin := hq.1
  replace hq := hq.2
  refine hp_iast E w hw hz hJ hin dX7_setOwn_44 ?_
  refine hp_toph (fun h3 eh3 => ?_)
  replace hq := hq h3 eh3
  exact hp_vret E hq hZ dX7_setOwn_45
theorem dX4_setFirst_0 : decode cX4_setFirst 0 = .ok (.aload_n 1, 1) := by decide +kernel
theorem dX4_setFirst_1 : decode cX4_setFirst 1 = .ok (.invokevirtual 126, 3) := by decide +kernel
theorem dX4_setFirst_4 : decode cX4_setFirst 4 = .ok (.iconst 0, 1) := by decide +kernel
theorem dX4_setFirst_5 : decode cX4_setFirst 5 = .ok (.istore_n 2, 1) := by decide +kernel
theorem dX4_setFirst_6 : decode cX4_setFirst 6 = .ok (.iload_n 2, 1) := by decide +kernel
theorem dX4_setFirst_7 : decode cX4_setFirst 7 = .ok (.aload_n 0, 1) := by decide +kernel
theorem dX4_setFirst_8 : decode cX4_setFirst 8 = .ok (.getfield 14, 3) := by decide +kernel
theorem dX4_setFirst_11 : decode cX4_setFirst 11 = .ok (.getfield 98, 3) := by decide +kernel
theorem dX4_setFirst_14 : decode cX4_setFirst 14 = .ok (.iconst 0, 1) := by decide +kernel
theorem dX4_setFirst_15 : decode cX4_setFirst 15 = .ok (.iaload, 1) := by decide +kernel
theorem dX4_setFirst_16 : decode cX4_setFirst 16 = .ok (.if_icmp .ge 23, 3) := by decide +kernel
theorem dX4_setFirst_19 : decode cX4_setFirst 19 = .ok (.aload_n 1, 1) := by decide +kernel
theorem dX4_setFirst_20 : decode cX4_setFirst 20 = .ok (.iload_n 2, 1) := by decide +kernel
theorem dX4_setFirst_21 : decode cX4_setFirst 21 = .ok (.aload_n 0, 1) := by decide +kernel
theorem dX4_setFirst_22 : decode cX4_setFirst 22 = .ok (.getfield 14, 3) := by decide +kernel
theorem dX4_setFirst_25 : decode cX4_setFirst 25 = .ok (.iconst 0, 1) := by decide +kernel
theorem dX4_setFirst_26 : decode cX4_setFirst 26 = .ok (.iload_n 2, 1) := by decide +kernel
theorem dX4_setFirst_27 : decode cX4_setFirst 27 = .ok (.invokevirtual 131, 3) := by decide +kernel
theorem dX4_setFirst_30 : decode cX4_setFirst 30 = .ok (.invokevirtual 135, 3) := by decide +kernel
theorem dX4_setFirst_33 : decode cX4_setFirst 33 = .ok (.iinc 2 1, 3) := by decide +kernel
theorem dX4_setFirst_36 : decode cX4_setFirst 36 = .ok (.goto (-30), 3) := by decide +kernel
theorem dX4_setFirst_39 : decode cX4_setFirst 39 = .ok (.iconst 0, 1) := by decide +kernel
theorem dX4_setFirst_40 : decode cX4_setFirst 40 = .ok (.istore_n 2, 1) := by decide +kernel
theorem dX4_setFirst_41 : decode cX4_setFirst 41 = .ok (.iload_n 2, 1) := by decide +kernel
theorem dX4_setFirst_42 : decode cX4_setFirst 42 = .ok (.aload_n 0, 1) := by decide +kernel
theorem dX4_setFirst_43 : decode cX4_setFirst 43 = .ok (.getfield 26, 3) := by decide +kernel
theorem dX4_setFirst_46 : decode cX4_setFirst 46 = .ok (.getfield 95, 3) := by decide +kernel
theorem dX4_setFirst_49 : decode cX4_setFirst 49 = .ok (.if_icmp .ge 71, 3) := by decide +kernel
theorem dX4_setFirst_52 : decode cX4_setFirst 52 = .ok (.iconst 0, 1) := by decide +kernel
theorem dX4_setFirst_53 : decode cX4_setFirst 53 = .ok (.istore_n 3, 1) := by decide +kernel
theorem dX4_setFirst_54 : decode cX4_setFirst 54 = .ok (.iload_n 3, 1) := by decide +kernel
theorem dX4_setFirst_55 : decode cX4_setFirst 55 = .ok (.aload_n 0, 1) := by decide +kernel
theorem dX4_setFirst_56 : decode cX4_setFirst 56 = .ok (.getfield 26, 3) := by decide +kernel
theorem dX4_setFirst_59 : decode cX4_setFirst 59 = .ok (.getfield 138, 3) := by decide +kernel
theorem dX4_setFirst_62 : decode cX4_setFirst 62 = .ok (.iload_n 2, 1) := by decide +kernel
theorem dX4_setFirst_63 : decode cX4_setFirst 63 = .ok (.iaload, 1) := by decide +kernel
theorem dX4_setFirst_64 : decode cX4_setFirst 64 = .ok (.if_icmp .ge 50, 3) := by decide +kernel
theorem dX4_setFirst_67 : decode cX4_setFirst 67 = .ok (.iconst 0, 1) := by decide +kernel
theorem dX4_setFirst_68 : decode cX4_setFirst 68 = .ok (.istore 4, 2) := by decide +kernel
theorem dX4_setFirst_70 : decode cX4_setFirst 70 = .ok (.iload 4, 2) := by decide +kernel
theorem dX4_setFirst_72 : decode cX4_setFirst 72 = .ok (.aload_n 0, 1) := by decide +kernel
theorem dX4_setFirst_73 : decode cX4_setFirst 73 = .ok (.getfield 20, 3) := by decide +kernel
theorem dX4_setFirst_76 : decode cX4_setFirst 76 = .ok (.getfield 98, 3) := by decide +kernel
theorem dX4_setFirst_79 : decode cX4_setFirst 79 = .ok (.iload_n 2, 1) := by decide +kernel
theorem dX4_setFirst_80 : decode cX4_setFirst 80 = .ok (.iaload, 1) := by decide +kernel
theorem dX4_setFirst_81 : decode cX4_setFirst 81 = .ok (.if_icmp .ge 27, 3) := by decide +kernel
theorem dX4_setFirst_84 : decode cX4_setFirst 84 = .ok (.aload_n 1, 1) := by decide +kernel
theorem dX4_setFirst_85 : decode cX4_setFirst 85 = .ok (.iload_n 2, 1) := by decide +kernel
theorem dX4_setFirst_86 : decode cX4_setFirst 86 = .ok (.iload_n 3, 1) := by decide +kernel
theorem dX4_setFirst_87 : decode cX4_setFirst 87 = .ok (.iload 4, 2) := by decide +kernel
theorem dX4_setFirst_89 : decode cX4_setFirst 89 = .ok (.aload_n 0, 1) := by decide +kernel
theorem dX4_setFirst_90 : decode cX4_setFirst 90 = .ok (.getfield 20, 3) := by decide +kernel
theorem dX4_setFirst_93 : decode cX4_setFirst 93 = .ok (.iload_n 2, 1) := by decide +kernel
theorem dX4_setFirst_94 : decode cX4_setFirst 94 = .ok (.iload 4, 2) := by decide +kernel
theorem dX4_setFirst_96 : decode cX4_setFirst 96 = .ok (.invokevirtual 131, 3) := by decide +kernel
theorem dX4_setFirst_99 : decode cX4_setFirst 99 = .ok (.invokevirtual 141, 3) := by decide +kernel
theorem dX4_setFirst_102 : decode cX4_setFirst 102 = .ok (.iinc 4 1, 3) := by decide +kernel
theorem dX4_setFirst_105 : decode cX4_setFirst 105 = .ok (.goto (-35), 3) := by decide +kernel
theorem dX4_setFirst_108 : decode cX4_setFirst 108 = .ok (.iinc 3 1, 3) := by decide +kernel
theorem dX4_setFirst_111 : decode cX4_setFirst 111 = .ok (.goto (-57), 3) := by decide +kernel
theorem dX4_setFirst_114 : decode cX4_setFirst 114 = .ok (.iinc 2 1, 3) := by decide +kernel
theorem dX4_setFirst_117 : decode cX4_setFirst 117 = .ok (.goto (-76), 3) := by decide +kernel
theorem dX4_setFirst_120 : decode cX4_setFirst 120 = .ok (.return_, 1) := by decide +kernel
set_option maxHeartbeats 4000000 in
set_option maxRecDepth 100000 in
theorem c_X4_setFirst (l : Launch) {cs : Nat → ClassId} {ad : Nat → Nat} {A : Nat → Prop} {D : va_G} (hJ : hp_J SB ad A)   {h : hp_H} {Q : hp_H → Prop} (hq : q_X4_setFirst h Q) : hp_Mv l yX4_setFirst cX4_setFirst 5 none rm_X4_setFirst [.ref (ad 1), .ref (ad 47)] SB cs ad A D h Q := by
  refine hp_met (own := RX4) rfl (by decide) (Nat.le_of_ble_eq_true rfl) rfl (fun p e s m args below meth c Z E hZ hnm => ?_)
  refine hp_sub (lv' := [(0, .ref (ad 1)), (1, .ref (ad 47))]) [0, 1] rfl ?_
  unfold q_X4_setFirst at hq
  refine hp_aload_n E 1 dX4_setFirst_0 rfl rfl ?_
  refine hp_callVv' (rest := []) E 47 fB_47_0 vcl_7 (c_X7_clear l hJ fB_47_0 aB_48 zB_48 hq) F_X7_clear m_RX4_126 ⟨rfl, rfl⟩ ⟨Nat.le_of_ble_eq_true rfl, Nat.le_of_ble_eq_true rfl⟩ ⟨Nat.zero_le _, Nat.zero_le _⟩ rfl rfl (Nat.le_of_ble_eq_true rfl) dX4_setFirst_1 (fun h1 hq => ?_)
  refine hp_iconst E (nI 0) dX4_setFirst_4 (by decide) ?_
  refine hp_istore_n (lv' := [(0, .ref (ad 1)), (1, .ref (ad 47)), (2, .int (nI 0))]) E dX4_setFirst_5 rfl (by decide) rfl rfl ?_
  refine hq (fun v3 h4 => hp_G p l e rm_X4_setFirst s m args below meth c SB cs ad A D 5 0 0 Z 6 [(0, .ref (ad 1)), (1, .ref (ad 47)), (2, .int v3)] [] h4) (fun v3 h4 hB => ?_)
  obtain ⟨B2, hq, hB2⟩ := hB
  refine hp_iload_n E 2 dX4_setFirst_6 rfl rfl ?_
  refine hp_aload_n E 0 dX4_setFirst_7 rfl rfl ?_
  refine hp_gR E g_RX4_14 fB_1_0 dX4_setFirst_8 ?_
  refine hp_gR E g_RX4_98 fB_2_0 dX4_setFirst_11 ?_
  refine hp_iconst E (nI 0) dX4_setFirst_14 (by decide) ?_
  refine hp_iald E 3 aB_3 hq.1 dX4_setFirst_15 ?_
  replace hq := hq.2
  refine hp_icmp_ge E 39 dX4_setFirst_16 (by decide) (fun c5 => ?_) (fun c5 => ?_)
  · replace hq := hq.1 c5
    refine hp_iconst E (nI 0) dX4_setFirst_39 (by decide) ?_
    refine hp_istore_n (lv' := [(0, .ref (ad 1)), (1, .ref (ad 47)), (2, .int (nI 0))]) E dX4_setFirst_40 rfl (by decide) rfl rfl ?_
    refine hq (fun v7 h8 => hp_G p l e rm_X4_setFirst s m args below meth c SB cs ad A D 5 0 0 Z 41 [(0, .ref (ad 1)), (1, .ref (ad 47)), (2, .int v7)] [] h8) (fun v7 h8 hB => ?_)
    obtain ⟨B6, hq, hB6⟩ := hB
    refine hp_iload_n E 2 dX4_setFirst_41 rfl rfl ?_
    refine hp_aload_n E 0 dX4_setFirst_42 rfl rfl ?_
    refine hp_gR E g_RX4_26 fB_1_2 dX4_setFirst_43 ?_
    refine hp_gI E g_RX4_95 fB_12_1 dX4_setFirst_46 ?_
    refine hp_icmp_ge E 120 dX4_setFirst_49 (by decide) (fun c9 => ?_) (fun c9 => ?_)
    · replace hq := hq.1 c9
      exact hp_vret E hq hZ dX4_setFirst_120
    · replace hq := hq.2 c9
      refine hp_iconst E (nI 0) dX4_setFirst_52 (by decide) ?_
      refine hp_istore_n (lv' := [(0, .ref (ad 1)), (1, .ref (ad 47)), (2, .int v7), (3, .int (nI 0))]) E dX4_setFirst_53 rfl (by decide) rfl rfl ?_
      refine hq (fun v11 h12 => hp_G p l e rm_X4_setFirst s m args below meth c SB cs ad A D 5 0 0 Z 54 [(0, .ref (ad 1)), (1, .ref (ad 47)), (2, .int v7), (3, .int v11)] [] h12) (fun v11 h12 hB => ?_)
      obtain ⟨B10, hq, hB10⟩ := hB
      refine hp_iload_n E 3 dX4_setFirst_54 rfl rfl ?_
      refine hp_aload_n E 0 dX4_setFirst_55 rfl rfl ?_
      refine hp_gR E g_RX4_26 fB_1_2 dX4_setFirst_56 ?_
      refine hp_gR E g_RX4_138 fB_12_0 dX4_setFirst_59 ?_
      refine hp_iload_n E 2 dX4_setFirst_62 rfl rfl ?_
      refine hp_iald E 13 aB_13 hq.1 dX4_setFirst_63 ?_
      replace hq := hq.2
      refine hp_icmp_ge E 114 dX4_setFirst_64 (by decide) (fun c13 => ?_) (fun c13 => ?_)
      · replace hq := hq.1 c13
        obtain ⟨v14, ev14⟩ : ∃ z : Int32, z = v7 + (nI 1) := ⟨_, rfl⟩
        replace hq := hq v14 ev14
        refine hp_iinc (lv' := [(0, .ref (ad 1)), (1, .ref (ad 47)), (2, .int v14), (3, .int v11)]) E 2 v14 dX4_setFirst_114 rfl (by rw [ev14]; rfl) (by decide) rfl rfl ?_
        refine hp_goto E 41 dX4_setFirst_117 (by decide) ?_
        refine hp_sub (lv' := [(0, .ref (ad 1)), (1, .ref (ad 47)), (2, .int v14)]) [0, 1, 2] rfl ?_
        exact hB6 _ _ hq
      · replace hq := hq.2 c13
        refine hp_iconst E (nI 0) dX4_setFirst_67 (by decide) ?_
        refine hp_istore (lv' := [(0, .ref (ad 1)), (1, .ref (ad 47)), (2, .int v7), (3, .int v11), (4, .int (nI 0))]) E dX4_setFirst_68 (by decide) rfl rfl ?_
        refine hq (fun v16 h17 => hp_G p l e rm_X4_setFirst s m args below meth c SB cs ad A D 5 0 0 Z 70 [(0, .ref (ad 1)), (1, .ref (ad 47)), (2, .int v7), (3, .int v11), (4, .int v16)] [] h17) (fun v16 h17 hB => ?_)
        obtain ⟨B15, hq, hB15⟩ := hB
        refine hp_iload E 4 dX4_setFirst_70 rfl ?_
        refine hp_aload_n E 0 dX4_setFirst_72 rfl rfl ?_
        refine hp_gR E g_RX4_20 fB_1_1 dX4_setFirst_73 ?_
        refine hp_gR E g_RX4_98 fB_7_0 dX4_setFirst_76 ?_
        refine hp_iload_n E 2 dX4_setFirst_79 rfl rfl ?_
        refine hp_iald E 8 aB_8 hq.1 dX4_setFirst_80 ?_
        replace hq := hq.2
        refine hp_icmp_ge E 108 dX4_setFirst_81 (by decide) (fun c18 => ?_) (fun c18 => ?_)
        · replace hq := hq.1 c18
          obtain ⟨v19, ev19⟩ : ∃ z : Int32, z = v11 + (nI 1) := ⟨_, rfl⟩
          replace hq := hq v19 ev19
          refine hp_iinc (lv' := [(0, .ref (ad 1)), (1, .ref (ad 47)), (2, .int v7), (3, .int v19), (4, .int v16)]) E 3 v19 dX4_setFirst_108 rfl (by rw [ev19]; rfl) (by decide) rfl rfl ?_
          refine hp_goto E 54 dX4_setFirst_111 (by decide) ?_
          refine hp_sub (lv' := [(0, .ref (ad 1)), (1, .ref (ad 47)), (2, .int v7), (3, .int v19)]) [0, 1, 2, 3] rfl ?_
          exact hB10 _ _ hq
        · replace hq := hq.2 c18
          refine hp_aload_n E 1 dX4_setFirst_84 rfl rfl ?_
          refine hp_iload_n E 2 dX4_setFirst_85 rfl rfl ?_
          refine hp_iload_n E 3 dX4_setFirst_86 rfl rfl ?_
          refine hp_iload E 4 dX4_setFirst_87 rfl ?_
          refine hp_aload_n E 0 dX4_setFirst_89 rfl rfl ?_
          refine hp_gR E g_RX4_20 fB_1_1 dX4_setFirst_90 ?_
          refine hp_iload_n E 2 dX4_setFirst_93 rfl rfl ?_
          refine hp_iload E 4 dX4_setFirst_94 rfl ?_
          refine hp_callVip (rest := [.int v16, .int v11, .int v7, .ref (ad 47)]) E 7 fB_7_0 vcl_10 (c_X10_firstOf l hJ fB_7_0 fB_7_1 fB_7_2 fB_7_3 fB_7_4 aB_8 aB_9 aB_10 aB_11 zB_8 zB_9 zB_10 zB_11 hq) F_X10_firstOf m_RX4_131 ⟨rfl, rfl⟩ ⟨Nat.le_of_ble_eq_true rfl, Nat.le_of_ble_eq_true rfl⟩ ⟨Nat.zero_le _, Nat.zero_le _⟩ rfl rfl (Nat.le_of_ble_eq_true rfl) dX4_setFirst_96 (fun r20 hq => ?_)
          refine hp_callVv' (rest := []) E 47 fB_47_0 vcl_7 (c_X7_setOwn l hJ fB_47_0 aB_48 zB_48 hq) F_X7_setOwn m_RX4_141 ⟨rfl, rfl⟩ ⟨Nat.le_of_ble_eq_true rfl, Nat.le_of_ble_eq_true rfl⟩ ⟨Nat.zero_le _, Nat.zero_le _⟩ rfl rfl (Nat.le_of_ble_eq_true rfl) dX4_setFirst_99 (fun h21 hq => ?_)
          obtain ⟨v22, ev22⟩ : ∃ z : Int32, z = v16 + (nI 1) := ⟨_, rfl⟩
          replace hq := hq v22 ev22
          refine hp_iinc (lv' := [(0, .ref (ad 1)), (1, .ref (ad 47)), (2, .int v7), (3, .int v11), (4, .int v22)]) E 4 v22 dX4_setFirst_102 rfl (by rw [ev22]; rfl) (by decide) rfl rfl ?_
          refine hp_goto E 70 dX4_setFirst_105 (by decide) ?_
          exact hB15 _ _ hq
  · replace hq := hq.2 c5
    refine hp_aload_n E 1 dX4_setFirst_19 rfl rfl ?_
    refine hp_iload_n E 2 dX4_setFirst_20 rfl rfl ?_
    refine hp_aload_n E 0 dX4_setFirst_21 rfl rfl ?_
    refine hp_gR E g_RX4_14 fB_1_0 dX4_setFirst_22 ?_
    refine hp_iconst E (nI 0) dX4_setFirst_25 (by decide) ?_
    refine hp_iload_n E 2 dX4_setFirst_26 rfl rfl ?_
    refine hp_callVip (rest := [.int v3, .ref (ad 47)]) E 2 fB_2_0 vcl_10 (c_X10_firstOf l hJ fB_2_0 fB_2_1 fB_2_2 fB_2_3 fB_2_4 aB_3 aB_4 aB_5 aB_6 zB_3 zB_4 zB_5 zB_6 hq) F_X10_firstOf m_RX4_131 ⟨rfl, rfl⟩ ⟨Nat.le_of_ble_eq_true rfl, Nat.le_of_ble_eq_true rfl⟩ ⟨Nat.zero_le _, Nat.zero_le _⟩ rfl rfl (Nat.le_of_ble_eq_true rfl) dX4_setFirst_27 (fun r23 hq => ?_)
    refine hp_callVv' (rest := []) E 47 fB_47_0 vcl_7 (c_X7_setShared l hJ fB_47_0 aB_48 zB_48 hq) F_X7_setShared m_RX4_135 ⟨rfl, rfl⟩ ⟨Nat.le_of_ble_eq_true rfl, Nat.le_of_ble_eq_true rfl⟩ ⟨Nat.zero_le _, Nat.zero_le _⟩ rfl rfl (Nat.le_of_ble_eq_true rfl) dX4_setFirst_30 (fun h24 hq => ?_)
    obtain ⟨v25, ev25⟩ : ∃ z : Int32, z = v3 + (nI 1) := ⟨_, rfl⟩
    replace hq := hq v25 ev25
    refine hp_iinc (lv' := [(0, .ref (ad 1)), (1, .ref (ad 47)), (2, .int v25)]) E 2 v25 dX4_setFirst_33 rfl (by rw [ev25]; rfl) (by decide) rfl rfl ?_
    refine hp_goto E 6 dX4_setFirst_36 (by decide) ?_
    exact hB2 _ _ hq
theorem dX7_placeOf_0 : decode cX7_placeOf 0 = .ok (.aload_n 0, 1) := by decide +kernel
theorem dX7_placeOf_1 : decode cX7_placeOf 1 = .ok (.getfield 11, 3) := by decide +kernel
theorem dX7_placeOf_4 : decode cX7_placeOf 4 = .ok (.iconst 1, 1) := by decide +kernel
theorem dX7_placeOf_5 : decode cX7_placeOf 5 = .ok (.iload_n 1, 1) := by decide +kernel
theorem dX7_placeOf_6 : decode cX7_placeOf 6 = .ok (.iconst 3, 1) := by decide +kernel
theorem dX7_placeOf_7 : decode cX7_placeOf 7 = .ok (.imul, 1) := by decide +kernel
theorem dX7_placeOf_8 : decode cX7_placeOf 8 = .ok (.iadd, 1) := by decide +kernel
theorem dX7_placeOf_9 : decode cX7_placeOf 9 = .ok (.iload_n 2, 1) := by decide +kernel
theorem dX7_placeOf_10 : decode cX7_placeOf 10 = .ok (.iadd, 1) := by decide +kernel
theorem dX7_placeOf_11 : decode cX7_placeOf 11 = .ok (.iaload, 1) := by decide +kernel
theorem dX7_placeOf_12 : decode cX7_placeOf 12 = .ok (.bipush 12, 2) := by decide +kernel
theorem dX7_placeOf_14 : decode cX7_placeOf 14 = .ok (.iushr, 1) := by decide +kernel
theorem dX7_placeOf_15 : decode cX7_placeOf 15 = .ok (.ireturn, 1) := by decide +kernel
set_option maxHeartbeats 4000000 in
set_option maxRecDepth 100000 in
theorem c_X7_placeOf (l : Launch) {cs : Nat → ClassId} {ad : Nat → Nat} {A : Nat → Prop} {D : va_G} (hJ : hp_J SB ad A) {w : Nat} {r : Nat} (hr : hp_sh SB r 7 0 (1, w, 0)) (hw : SB[w]? = some (.inr (0, 13))) (hz : w ≠ hp_V) {h : hp_H} {a1 a2 : Int32} {Q : Int32 → Prop} (hq : q_X7_placeOf w h a1 a2 Q) : hp_Mi l yX7_placeOf cX7_placeOf 3 (some .int) rm_X7_placeOf [.ref (ad r), .int a1, .int a2] SB cs ad A D h (fun r h' => Q r ∧ h' = h) := by
  refine hp_met (own := RX7) rfl (by decide) (Nat.le_of_ble_eq_true rfl) rfl (fun p e s m args below meth c Z E hZ hnm => ?_)
  refine hp_sub (lv' := [(0, .ref (ad r)), (1, .int a1), (2, .int a2)]) [0, 1, 2] rfl ?_
  unfold q_X7_placeOf at hq
  refine hp_aload_n E 0 dX7_placeOf_0 rfl rfl ?_
  refine hp_gR E g_RX7_11 hr dX7_placeOf_1 ?_
  refine hp_iconst E (nI 1) dX7_placeOf_4 (by decide) ?_
  refine hp_iload_n E 1 dX7_placeOf_5 rfl rfl ?_
  refine hp_iconst E (nI 3) dX7_placeOf_6 (by decide) ?_
  refine hp_imul E dX7_placeOf_7 ?_
  refine hp_iadd E dX7_placeOf_8 ?_
  refine hp_iload_n E 2 dX7_placeOf_9 rfl rfl ?_
  refine hp_iadd E dX7_placeOf_10 ?_
  refine hp_iald E w hw hq.1 dX7_placeOf_11 ?_
  replace hq := hq.2
  refine hp_bipush E (nI 12) dX7_placeOf_12 (by decide) ?_
  refine hp_iushr E dX7_placeOf_14 ?_
  exact hp_iret E ⟨hq, rfl⟩ hZ dX7_placeOf_15
theorem dX6_isEnd_0 : decode cX6_isEnd 0 = .ok (.aload_n 0, 1) := by decide +kernel
theorem dX6_isEnd_1 : decode cX6_isEnd 1 = .ok (.getfield 15, 3) := by decide +kernel
theorem dX6_isEnd_4 : decode cX6_isEnd 4 = .ok (.iload_n 1, 1) := by decide +kernel
theorem dX6_isEnd_5 : decode cX6_isEnd 5 = .ok (.iaload, 1) := by decide +kernel
theorem dX6_isEnd_6 : decode cX6_isEnd 6 = .ok (.iload_n 2, 1) := by decide +kernel
theorem dX6_isEnd_7 : decode cX6_isEnd 7 = .ok (.iushr, 1) := by decide +kernel
theorem dX6_isEnd_8 : decode cX6_isEnd 8 = .ok (.iconst 1, 1) := by decide +kernel
theorem dX6_isEnd_9 : decode cX6_isEnd 9 = .ok (.iand, 1) := by decide +kernel
theorem dX6_isEnd_10 : decode cX6_isEnd 10 = .ok (.iconst 1, 1) := by decide +kernel
theorem dX6_isEnd_11 : decode cX6_isEnd 11 = .ok (.if_icmp .ne 7, 3) := by decide +kernel
theorem dX6_isEnd_14 : decode cX6_isEnd 14 = .ok (.iconst 1, 1) := by decide +kernel
theorem dX6_isEnd_15 : decode cX6_isEnd 15 = .ok (.goto 4, 3) := by decide +kernel
theorem dX6_isEnd_18 : decode cX6_isEnd 18 = .ok (.iconst 0, 1) := by decide +kernel
theorem dX6_isEnd_19 : decode cX6_isEnd 19 = .ok (.ireturn, 1) := by decide +kernel
set_option maxHeartbeats 4000000 in
set_option maxRecDepth 100000 in
theorem c_X6_isEnd (l : Launch) {cs : Nat → ClassId} {ad : Nat → Nat} {A : Nat → Prop} {D : va_G} (hJ : hp_J SB ad A)   {h : hp_H} {a1 a2 : Int32} {Q : Int32 → Prop} (hq : q_X6_isEnd h a1 a2 Q) : hp_Mi l yX6_isEnd cX6_isEnd 3 (some .boolean) rm_X6_isEnd [.ref (ad 12), .int a1, .int a2] SB cs ad A D h (fun r h' => Q r ∧ h' = h) := by
  refine hp_met (own := RX6) rfl (by decide) (Nat.le_of_ble_eq_true rfl) rfl (fun p e s m args below meth c Z E hZ hnm => ?_)
  refine hp_sub (lv' := [(0, .ref (ad 12)), (1, .int a1), (2, .int a2)]) [0, 1, 2] rfl ?_
  unfold q_X6_isEnd at hq
  refine hp_aload_n E 0 dX6_isEnd_0 rfl rfl ?_
  refine hp_gR E g_RX6_15 fB_12_2 dX6_isEnd_1 ?_
  refine hp_iload_n E 1 dX6_isEnd_4 rfl rfl ?_
  refine hp_iald E 14 aB_14 hq.1 dX6_isEnd_5 ?_
  replace hq := hq.2
  refine hp_iload_n E 2 dX6_isEnd_6 rfl rfl ?_
  refine hp_iushr E dX6_isEnd_7 ?_
  refine hp_iconst E (nI 1) dX6_isEnd_8 (by decide) ?_
  refine hp_iand E dX6_isEnd_9 ?_
  refine hp_iconst E (nI 1) dX6_isEnd_10 (by decide) ?_
  refine hp_icmp_ne E 18 dX6_isEnd_11 (by decide) (fun c1 => ?_) (fun c1 => ?_)
  · replace hq := hq.2 c1
    refine hp_iconst E (nI 0) dX6_isEnd_18 (by decide) ?_
    exact hp_zret E (by unfold hp_bz; decide) ⟨hq, rfl⟩ hZ dX6_isEnd_19
  · replace hq := hq.1 c1
    refine hp_iconst E (nI 1) dX6_isEnd_14 (by decide) ?_
    refine hp_goto E 19 dX6_isEnd_15 (by decide) ?_
    exact hp_zret E (by unfold hp_bz; decide) ⟨hq, rfl⟩ hZ dX6_isEnd_19
theorem dX4_someAtNoEnd_0 : decode cX4_someAtNoEnd 0 = .ok (.iconst 0, 1) := by decide +kernel
theorem dX4_someAtNoEnd_1 : decode cX4_someAtNoEnd 1 = .ok (.istore_n 2, 1) := by decide +kernel
theorem dX4_someAtNoEnd_2 : decode cX4_someAtNoEnd 2 = .ok (.iload_n 2, 1) := by decide +kernel
theorem dX4_someAtNoEnd_3 : decode cX4_someAtNoEnd 3 = .ok (.aload_n 0, 1) := by decide +kernel
theorem dX4_someAtNoEnd_4 : decode cX4_someAtNoEnd 4 = .ok (.getfield 26, 3) := by decide +kernel
theorem dX4_someAtNoEnd_7 : decode cX4_someAtNoEnd 7 = .ok (.getfield 95, 3) := by decide +kernel
theorem dX4_someAtNoEnd_10 : decode cX4_someAtNoEnd 10 = .ok (.if_icmp .ge 49, 3) := by decide +kernel
theorem dX4_someAtNoEnd_13 : decode cX4_someAtNoEnd 13 = .ok (.iconst 0, 1) := by decide +kernel
theorem dX4_someAtNoEnd_14 : decode cX4_someAtNoEnd 14 = .ok (.istore_n 3, 1) := by decide +kernel
theorem dX4_someAtNoEnd_15 : decode cX4_someAtNoEnd 15 = .ok (.iload_n 3, 1) := by decide +kernel
theorem dX4_someAtNoEnd_16 : decode cX4_someAtNoEnd 16 = .ok (.aload_n 0, 1) := by decide +kernel
theorem dX4_someAtNoEnd_17 : decode cX4_someAtNoEnd 17 = .ok (.getfield 26, 3) := by decide +kernel
theorem dX4_someAtNoEnd_20 : decode cX4_someAtNoEnd 20 = .ok (.getfield 138, 3) := by decide +kernel
theorem dX4_someAtNoEnd_23 : decode cX4_someAtNoEnd 23 = .ok (.iload_n 2, 1) := by decide +kernel
theorem dX4_someAtNoEnd_24 : decode cX4_someAtNoEnd 24 = .ok (.iaload, 1) := by decide +kernel
theorem dX4_someAtNoEnd_25 : decode cX4_someAtNoEnd 25 = .ok (.if_icmp .ge 28, 3) := by decide +kernel
theorem dX4_someAtNoEnd_28 : decode cX4_someAtNoEnd 28 = .ok (.aload_n 0, 1) := by decide +kernel
theorem dX4_someAtNoEnd_29 : decode cX4_someAtNoEnd 29 = .ok (.getfield 26, 3) := by decide +kernel
theorem dX4_someAtNoEnd_32 : decode cX4_someAtNoEnd 32 = .ok (.iload_n 2, 1) := by decide +kernel
theorem dX4_someAtNoEnd_33 : decode cX4_someAtNoEnd 33 = .ok (.aload_n 1, 1) := by decide +kernel
theorem dX4_someAtNoEnd_34 : decode cX4_someAtNoEnd 34 = .ok (.iload_n 2, 1) := by decide +kernel
theorem dX4_someAtNoEnd_35 : decode cX4_someAtNoEnd 35 = .ok (.iload_n 3, 1) := by decide +kernel
theorem dX4_someAtNoEnd_36 : decode cX4_someAtNoEnd 36 = .ok (.invokevirtual 145, 3) := by decide +kernel
theorem dX4_someAtNoEnd_39 : decode cX4_someAtNoEnd 39 = .ok (.invokevirtual 148, 3) := by decide +kernel
theorem dX4_someAtNoEnd_42 : decode cX4_someAtNoEnd 42 = .ok (.ifCond .ne 5, 3) := by decide +kernel
theorem dX4_someAtNoEnd_45 : decode cX4_someAtNoEnd 45 = .ok (.iconst 1, 1) := by decide +kernel
theorem dX4_someAtNoEnd_46 : decode cX4_someAtNoEnd 46 = .ok (.ireturn, 1) := by decide +kernel
theorem dX4_someAtNoEnd_47 : decode cX4_someAtNoEnd 47 = .ok (.iinc 3 1, 3) := by decide +kernel
theorem dX4_someAtNoEnd_50 : decode cX4_someAtNoEnd 50 = .ok (.goto (-35), 3) := by decide +kernel
theorem dX4_someAtNoEnd_53 : decode cX4_someAtNoEnd 53 = .ok (.iinc 2 1, 3) := by decide +kernel
theorem dX4_someAtNoEnd_56 : decode cX4_someAtNoEnd 56 = .ok (.goto (-54), 3) := by decide +kernel
theorem dX4_someAtNoEnd_59 : decode cX4_someAtNoEnd 59 = .ok (.iconst 0, 1) := by decide +kernel
theorem dX4_someAtNoEnd_60 : decode cX4_someAtNoEnd 60 = .ok (.ireturn, 1) := by decide +kernel
set_option maxHeartbeats 4000000 in
set_option maxRecDepth 100000 in
theorem c_X4_someAtNoEnd (l : Launch) {cs : Nat → ClassId} {ad : Nat → Nat} {A : Nat → Prop} {D : va_G} (hJ : hp_J SB ad A)   {h : hp_H} {Q : Int32 → Prop} (hq : q_X4_someAtNoEnd h Q) : hp_Mi l yX4_someAtNoEnd cX4_someAtNoEnd 4 (some .boolean) rm_X4_someAtNoEnd [.ref (ad 1), .ref (ad 51)] SB cs ad A D h (fun r h' => Q r ∧ h' = h) := by
  refine hp_met (own := RX4) rfl (by decide) (Nat.le_of_ble_eq_true rfl) rfl (fun p e s m args below meth c Z E hZ hnm => ?_)
  refine hp_sub (lv' := [(0, .ref (ad 1)), (1, .ref (ad 51))]) [0, 1] rfl ?_
  unfold q_X4_someAtNoEnd at hq
  refine hp_iconst E (nI 0) dX4_someAtNoEnd_0 (by decide) ?_
  refine hp_istore_n (lv' := [(0, .ref (ad 1)), (1, .ref (ad 51)), (2, .int (nI 0))]) E dX4_someAtNoEnd_1 rfl (by decide) rfl rfl ?_
  refine hq (fun v2 => hp_G p l e rm_X4_someAtNoEnd s m args below meth c SB cs ad A D 4 0 0 Z 2 [(0, .ref (ad 1)), (1, .ref (ad 51)), (2, .int v2)] [] h) (fun v2 hB => ?_)
  obtain ⟨B1, hq, hB1⟩ := hB
  refine hp_iload_n E 2 dX4_someAtNoEnd_2 rfl rfl ?_
  refine hp_aload_n E 0 dX4_someAtNoEnd_3 rfl rfl ?_
  refine hp_gR E g_RX4_26 fB_1_2 dX4_someAtNoEnd_4 ?_
  refine hp_gI E g_RX4_95 fB_12_1 dX4_someAtNoEnd_7 ?_
  refine hp_icmp_ge E 59 dX4_someAtNoEnd_10 (by decide) (fun c3 => ?_) (fun c3 => ?_)
  · replace hq := hq.1 c3
    refine hp_iconst E (nI 0) dX4_someAtNoEnd_59 (by decide) ?_
    exact hp_zret E (by unfold hp_bz; decide) ⟨hq, rfl⟩ hZ dX4_someAtNoEnd_60
  · replace hq := hq.2 c3
    refine hp_iconst E (nI 0) dX4_someAtNoEnd_13 (by decide) ?_
    refine hp_istore_n (lv' := [(0, .ref (ad 1)), (1, .ref (ad 51)), (2, .int v2), (3, .int (nI 0))]) E dX4_someAtNoEnd_14 rfl (by decide) rfl rfl ?_
    refine hq (fun v5 => hp_G p l e rm_X4_someAtNoEnd s m args below meth c SB cs ad A D 4 0 0 Z 15 [(0, .ref (ad 1)), (1, .ref (ad 51)), (2, .int v2), (3, .int v5)] [] h) (fun v5 hB => ?_)
    obtain ⟨B4, hq, hB4⟩ := hB
    refine hp_iload_n E 3 dX4_someAtNoEnd_15 rfl rfl ?_
    refine hp_aload_n E 0 dX4_someAtNoEnd_16 rfl rfl ?_
    refine hp_gR E g_RX4_26 fB_1_2 dX4_someAtNoEnd_17 ?_
    refine hp_gR E g_RX4_138 fB_12_0 dX4_someAtNoEnd_20 ?_
    refine hp_iload_n E 2 dX4_someAtNoEnd_23 rfl rfl ?_
    refine hp_iald E 13 aB_13 hq.1 dX4_someAtNoEnd_24 ?_
    replace hq := hq.2
    refine hp_icmp_ge E 53 dX4_someAtNoEnd_25 (by decide) (fun c6 => ?_) (fun c6 => ?_)
    · replace hq := hq.1 c6
      obtain ⟨v7, ev7⟩ : ∃ z : Int32, z = v2 + (nI 1) := ⟨_, rfl⟩
      replace hq := hq v7 ev7
      refine hp_iinc (lv' := [(0, .ref (ad 1)), (1, .ref (ad 51)), (2, .int v7), (3, .int v5)]) E 2 v7 dX4_someAtNoEnd_53 rfl (by rw [ev7]; rfl) (by decide) rfl rfl ?_
      refine hp_goto E 2 dX4_someAtNoEnd_56 (by decide) ?_
      refine hp_sub (lv' := [(0, .ref (ad 1)), (1, .ref (ad 51)), (2, .int v7)]) [0, 1, 2] rfl ?_
      exact hB1 _ hq
    · replace hq := hq.2 c6
      refine hp_aload_n E 0 dX4_someAtNoEnd_28 rfl rfl ?_
      refine hp_gR E g_RX4_26 fB_1_2 dX4_someAtNoEnd_29 ?_
      refine hp_iload_n E 2 dX4_someAtNoEnd_32 rfl rfl ?_
      refine hp_aload_n E 1 dX4_someAtNoEnd_33 rfl rfl ?_
      refine hp_iload_n E 2 dX4_someAtNoEnd_34 rfl rfl ?_
      refine hp_iload_n E 3 dX4_someAtNoEnd_35 rfl rfl ?_
      refine hp_callVip (rest := [.int v2, .ref (ad 12)]) E 51 fB_51_0 vcl_7 (c_X7_placeOf l hJ fB_51_0 aB_52 zB_52 hq) F_X7_placeOf m_RX4_145 ⟨rfl, rfl⟩ ⟨Nat.le_of_ble_eq_true rfl, Nat.le_of_ble_eq_true rfl⟩ ⟨Nat.zero_le _, Nat.zero_le _⟩ rfl rfl (Nat.le_of_ble_eq_true rfl) dX4_someAtNoEnd_36 (fun r8 hq => ?_)
      refine hp_callVip (rest := []) E 12 fB_12_0 vcl_6 (c_X6_isEnd l hJ hq) F_X6_isEnd m_RX4_148 ⟨rfl, rfl⟩ ⟨Nat.le_of_ble_eq_true rfl, Nat.le_of_ble_eq_true rfl⟩ ⟨Nat.zero_le _, Nat.zero_le _⟩ rfl rfl (Nat.le_of_ble_eq_true rfl) dX4_someAtNoEnd_39 (fun r9 hq => ?_)
      refine hp_if_ne E 47 dX4_someAtNoEnd_42 (by decide) (fun c10 => ?_) (fun c10 => ?_)
      · replace hq := hq.2 c10
        obtain ⟨v11, ev11⟩ : ∃ z : Int32, z = v5 + (nI 1) := ⟨_, rfl⟩
        replace hq := hq v11 ev11
        refine hp_iinc (lv' := [(0, .ref (ad 1)), (1, .ref (ad 51)), (2, .int v2), (3, .int v11)]) E 3 v11 dX4_someAtNoEnd_47 rfl (by rw [ev11]; rfl) (by decide) rfl rfl ?_
        refine hp_goto E 15 dX4_someAtNoEnd_50 (by decide) ?_
        exact hB4 _ hq
      · replace hq := hq.1 c10
        refine hp_iconst E (nI 1) dX4_someAtNoEnd_45 (by decide) ?_
        exact hp_zret E (by unfold hp_bz; decide) ⟨hq, rfl⟩ hZ dX4_someAtNoEnd_46
theorem dX6_add_0 : decode cX6_add 0 = .ok (.aload_n 0, 1) := by decide +kernel
theorem dX6_add_1 : decode cX6_add 1 = .ok (.getfield 9, 3) := by decide +kernel
theorem dX6_add_4 : decode cX6_add 4 = .ok (.aload_n 0, 1) := by decide +kernel
theorem dX6_add_5 : decode cX6_add 5 = .ok (.getfield 18, 3) := by decide +kernel
theorem dX6_add_8 : decode cX6_add 8 = .ok (.iload_n 1, 1) := by decide +kernel
theorem dX6_add_9 : decode cX6_add 9 = .ok (.iastore, 1) := by decide +kernel
theorem dX6_add_10 : decode cX6_add 10 = .ok (.aload_n 0, 1) := by decide +kernel
theorem dX6_add_11 : decode cX6_add 11 = .ok (.dup, 1) := by decide +kernel
theorem dX6_add_12 : decode cX6_add 12 = .ok (.getfield 18, 3) := by decide +kernel
theorem dX6_add_15 : decode cX6_add 15 = .ok (.dup_x1, 1) := by decide +kernel
theorem dX6_add_16 : decode cX6_add 16 = .ok (.iconst 1, 1) := by decide +kernel
theorem dX6_add_17 : decode cX6_add 17 = .ok (.iadd, 1) := by decide +kernel
theorem dX6_add_18 : decode cX6_add 18 = .ok (.putfield 18, 3) := by decide +kernel
theorem dX6_add_21 : decode cX6_add 21 = .ok (.ireturn, 1) := by decide +kernel
set_option maxHeartbeats 4000000 in
set_option maxRecDepth 100000 in
theorem c_X6_add (l : Launch) {cs : Nat → ClassId} {ad : Nat → Nat} {A : Nat → Prop} {D : va_G} (hJ : hp_J SB ad A)   {h : hp_H} {a1 : Int32} {Q : Int32 → hp_H → Prop} (hq : q_X6_add h a1 Q) : hp_Mi l yX6_add cX6_add 2 (some .int) rm_X6_add [.ref (ad 12), .int a1] SB cs ad A D h Q := by
  refine hp_met (own := RX6) rfl (by decide) (Nat.le_of_ble_eq_true rfl) rfl (fun p e s m args below meth c Z E hZ hnm => ?_)
  refine hp_sub (lv' := [(0, .ref (ad 12)), (1, .int a1)]) [0, 1] rfl ?_
  unfold q_X6_add at hq
  refine hp_aload_n E 0 dX6_add_0 rfl rfl ?_
  refine hp_gR E g_RX6_9 fB_12_0 dX6_add_1 ?_
  refine hp_aload_n E 0 dX6_add_4 rfl rfl ?_
  refine hp_gI E g_RX6_18 fB_12_1 dX6_add_5 ?_
  refine hp_iload_n E 1 dX6_add_8 rfl rfl ?_
  have hin := hq.1
  replace hq := hq.2
  refine hp_iast E 13 aB_13 zB_13 hJ hin dX6_add_9 ?_
  refine hp_toph (fun h1 eh1 => ?_)
  replace hq := hq h1 eh1
  refine hp_aload_n E 0 dX6_add_10 rfl rfl ?_
  refine hp_dup E rfl dX6_add_11 ?_
  refine hp_gI E g_RX6_18 fB_12_1 dX6_add_12 ?_
  refine hp_topi (fun v2 ev2 => ?_)
  replace hq := hq v2 ev2
  refine hp_dup_x1 E rfl rfl dX6_add_15 ?_
  refine hp_iconst E (nI 1) dX6_add_16 (by decide) ?_
  refine hp_iadd E dX6_add_17 ?_
  refine hp_pI E p_RX6_18 fB_12_1 (by decide) hJ dX6_add_18 ?_
  refine hp_toph (fun h3 eh3 => ?_)
  replace hq := hq h3 eh3
  exact hp_iret E hq hZ dX6_add_21
theorem dX6_setEnd_0 : decode cX6_setEnd 0 = .ok (.aload_n 0, 1) := by decide +kernel
theorem dX6_setEnd_1 : decode cX6_setEnd 1 = .ok (.getfield 15, 3) := by decide +kernel
theorem dX6_setEnd_4 : decode cX6_setEnd 4 = .ok (.iload_n 1, 1) := by decide +kernel
theorem dX6_setEnd_5 : decode cX6_setEnd 5 = .ok (.dup2, 1) := by decide +kernel
theorem dX6_setEnd_6 : decode cX6_setEnd 6 = .ok (.iaload, 1) := by decide +kernel
theorem dX6_setEnd_7 : decode cX6_setEnd 7 = .ok (.iconst 1, 1) := by decide +kernel
theorem dX6_setEnd_8 : decode cX6_setEnd 8 = .ok (.iload_n 2, 1) := by decide +kernel
theorem dX6_setEnd_9 : decode cX6_setEnd 9 = .ok (.ishl, 1) := by decide +kernel
theorem dX6_setEnd_10 : decode cX6_setEnd 10 = .ok (.ior, 1) := by decide +kernel
theorem dX6_setEnd_11 : decode cX6_setEnd 11 = .ok (.iastore, 1) := by decide +kernel
theorem dX6_setEnd_12 : decode cX6_setEnd 12 = .ok (.return_, 1) := by decide +kernel
set_option maxHeartbeats 4000000 in
set_option maxRecDepth 100000 in
theorem c_X6_setEnd (l : Launch) {cs : Nat → ClassId} {ad : Nat → Nat} {A : Nat → Prop} {D : va_G} (hJ : hp_J SB ad A)   {h : hp_H} {a1 a2 : Int32} {Q : hp_H → Prop} (hq : q_X6_setEnd h a1 a2 Q) : hp_Mv l yX6_setEnd cX6_setEnd 3 none rm_X6_setEnd [.ref (ad 12), .int a1, .int a2] SB cs ad A D h Q := by
  refine hp_met (own := RX6) rfl (by decide) (Nat.le_of_ble_eq_true rfl) rfl (fun p e s m args below meth c Z E hZ hnm => ?_)
  refine hp_sub (lv' := [(0, .ref (ad 12)), (1, .int a1), (2, .int a2)]) [0, 1, 2] rfl ?_
  unfold q_X6_setEnd at hq
  refine hp_aload_n E 0 dX6_setEnd_0 rfl rfl ?_
  refine hp_gR E g_RX6_15 fB_12_2 dX6_setEnd_1 ?_
  refine hp_iload_n E 1 dX6_setEnd_4 rfl rfl ?_
  refine hp_dup2 E rfl rfl dX6_setEnd_5 ?_
  refine hp_iald E 14 aB_14 hq.1 dX6_setEnd_6 ?_
  replace hq := hq.2
  refine hp_iconst E (nI 1) dX6_setEnd_7 (by decide) ?_
  refine hp_iload_n E 2 dX6_setEnd_8 rfl rfl ?_
  refine hp_ishl E dX6_setEnd_9 ?_
  refine hp_ior E dX6_setEnd_10 ?_
  have hin := hq.1
  replace hq := hq.2
  refine hp_iast E 14 aB_14 zB_14 hJ hin dX6_setEnd_11 ?_
  refine hp_toph (fun h1 eh1 => ?_)
  replace hq := hq h1 eh1
  exact hp_vret E hq hZ dX6_setEnd_12
theorem dX7_copy_0 : decode cX7_copy 0 = .ok (.aload_n 1, 1) := by decide +kernel
theorem dX7_copy_1 : decode cX7_copy 1 = .ok (.getfield 11, 3) := by decide +kernel
theorem dX7_copy_4 : decode cX7_copy 4 = .ok (.iconst 0, 1) := by decide +kernel
theorem dX7_copy_5 : decode cX7_copy 5 = .ok (.aload_n 0, 1) := by decide +kernel
theorem dX7_copy_6 : decode cX7_copy 6 = .ok (.getfield 11, 3) := by decide +kernel
theorem dX7_copy_9 : decode cX7_copy 9 = .ok (.iconst 0, 1) := by decide +kernel
theorem dX7_copy_10 : decode cX7_copy 10 = .ok (.bipush 13, 2) := by decide +kernel
theorem dX7_copy_12 : decode cX7_copy 12 = .ok (.invokestatic 21, 3) := by decide +kernel
theorem dX7_copy_15 : decode cX7_copy 15 = .ok (.return_, 1) := by decide +kernel
set_option maxHeartbeats 4000000 in
set_option maxRecDepth 100000 in
theorem c_X7_copy (l : Launch) {cs : Nat → ClassId} {ad : Nat → Nat} {A : Nat → Prop} {D : va_G} (hJ : hp_J SB ad A) {w : Nat} {w_1 : Nat} {r : Nat} {r_1 : Nat} (hr : hp_sh SB r 7 0 (1, w, 0)) (hw : SB[w]? = some (.inr (0, 13))) (hz : w ≠ hp_V) (hr_1 : hp_sh SB r_1 7 0 (1, w_1, 0)) (hw_1 : SB[w_1]? = some (.inr (0, 13))) (hz_1 : w_1 ≠ hp_V) {h : hp_H} {Q : hp_H → Prop} (hq : q_X7_copy w w_1 h Q) : hp_Mv l yX7_copy cX7_copy 2 none rm_X7_copy [.ref (ad r), .ref (ad r_1)] SB cs ad A D h Q := by
  refine hp_met (own := RX7) rfl (by decide) (Nat.le_of_ble_eq_true rfl) rfl (fun p e s m args below meth c Z E hZ hnm => ?_)
  refine hp_sub (lv' := [(0, .ref (ad r)), (1, .ref (ad r_1))]) [0, 1] rfl ?_
  unfold q_X7_copy at hq
  refine hp_aload_n E 1 dX7_copy_0 rfl rfl ?_
  refine hp_gR E g_RX7_11 hr_1 dX7_copy_1 ?_
  refine hp_iconst E (nI 0) dX7_copy_4 (by decide) ?_
  refine hp_aload_n E 0 dX7_copy_5 rfl rfl ?_
  refine hp_gR E g_RX7_11 hr dX7_copy_6 ?_
  refine hp_iconst E (nI 0) dX7_copy_9 (by decide) ?_
  refine hp_bipush E (nI 13) dX7_copy_10 (by decide) ?_
  obtain ⟨⟨g1, g2, g3, g4, g5⟩, hq⟩ := hq
  refine hp_copy E w_1 w hw_1 hw hz hJ m_RX7_21 mm_copy g1 g2 g3 g4 g5 (Nat.le_of_ble_eq_true rfl) (Nat.le_of_ble_eq_true rfl) dX7_copy_12 ?_
  refine hp_toph (fun h1 eh1 => ?_)
  replace hq := hq h1 eh1
  exact hp_vret E hq hZ dX7_copy_15
theorem dX7_setPlace_0 : decode cX7_setPlace 0 = .ok (.iconst 1, 1) := by decide +kernel
theorem dX7_setPlace_1 : decode cX7_setPlace 1 = .ok (.iload_n 1, 1) := by decide +kernel
theorem dX7_setPlace_2 : decode cX7_setPlace 2 = .ok (.iconst 3, 1) := by decide +kernel
theorem dX7_setPlace_3 : decode cX7_setPlace 3 = .ok (.imul, 1) := by decide +kernel
theorem dX7_setPlace_4 : decode cX7_setPlace 4 = .ok (.iadd, 1) := by decide +kernel
theorem dX7_setPlace_5 : decode cX7_setPlace 5 = .ok (.iload_n 2, 1) := by decide +kernel
theorem dX7_setPlace_6 : decode cX7_setPlace 6 = .ok (.iadd, 1) := by decide +kernel
theorem dX7_setPlace_7 : decode cX7_setPlace 7 = .ok (.istore 4, 2) := by decide +kernel
theorem dX7_setPlace_9 : decode cX7_setPlace 9 = .ok (.aload_n 0, 1) := by decide +kernel
theorem dX7_setPlace_10 : decode cX7_setPlace 10 = .ok (.getfield 11, 3) := by decide +kernel
theorem dX7_setPlace_13 : decode cX7_setPlace 13 = .ok (.iload 4, 2) := by decide +kernel
theorem dX7_setPlace_15 : decode cX7_setPlace 15 = .ok (.aload_n 0, 1) := by decide +kernel
theorem dX7_setPlace_16 : decode cX7_setPlace 16 = .ok (.getfield 11, 3) := by decide +kernel
theorem dX7_setPlace_19 : decode cX7_setPlace 19 = .ok (.iload 4, 2) := by decide +kernel
theorem dX7_setPlace_21 : decode cX7_setPlace 21 = .ok (.iaload, 1) := by decide +kernel
theorem dX7_setPlace_22 : decode cX7_setPlace 22 = .ok (.ldc 27, 2) := by decide +kernel
theorem dX7_setPlace_24 : decode cX7_setPlace 24 = .ok (.iand, 1) := by decide +kernel
theorem dX7_setPlace_25 : decode cX7_setPlace 25 = .ok (.iload_n 3, 1) := by decide +kernel
theorem dX7_setPlace_26 : decode cX7_setPlace 26 = .ok (.bipush 12, 2) := by decide +kernel
theorem dX7_setPlace_28 : decode cX7_setPlace 28 = .ok (.ishl, 1) := by decide +kernel
theorem dX7_setPlace_29 : decode cX7_setPlace 29 = .ok (.ior, 1) := by decide +kernel
theorem dX7_setPlace_30 : decode cX7_setPlace 30 = .ok (.iastore, 1) := by decide +kernel
theorem dX7_setPlace_31 : decode cX7_setPlace 31 = .ok (.return_, 1) := by decide +kernel
set_option maxHeartbeats 4000000 in
set_option maxRecDepth 100000 in
theorem c_X7_setPlace (l : Launch) {cs : Nat → ClassId} {ad : Nat → Nat} {A : Nat → Prop} {D : va_G} (hJ : hp_J SB ad A) {w : Nat} {r : Nat} (hr : hp_sh SB r 7 0 (1, w, 0)) (hw : SB[w]? = some (.inr (0, 13))) (hz : w ≠ hp_V) {h : hp_H} {a1 a2 a3 : Int32} {Q : hp_H → Prop} (hq : q_X7_setPlace w h a1 a2 a3 Q) : hp_Mv l yX7_setPlace cX7_setPlace 5 none rm_X7_setPlace [.ref (ad r), .int a1, .int a2, .int a3] SB cs ad A D h Q := by
  refine hp_met (own := RX7) rfl (by decide) (Nat.le_of_ble_eq_true rfl) rfl (fun p e s m args below meth c Z E hZ hnm => ?_)
  refine hp_sub (lv' := [(0, .ref (ad r)), (1, .int a1), (2, .int a2), (3, .int a3)]) [0, 1, 2, 3] rfl ?_
  unfold q_X7_setPlace at hq
  refine hp_iconst E (nI 1) dX7_setPlace_0 (by decide) ?_
  refine hp_iload_n E 1 dX7_setPlace_1 rfl rfl ?_
  refine hp_iconst E (nI 3) dX7_setPlace_2 (by decide) ?_
  refine hp_imul E dX7_setPlace_3 ?_
  refine hp_iadd E dX7_setPlace_4 ?_
  refine hp_iload_n E 2 dX7_setPlace_5 rfl rfl ?_
  refine hp_iadd E dX7_setPlace_6 ?_
  refine hp_topi (fun v1 ev1 => ?_)
  replace hq := hq v1 ev1
  refine hp_istore (lv' := [(0, .ref (ad r)), (1, .int a1), (2, .int a2), (3, .int a3), (4, .int v1)]) E dX7_setPlace_7 (by decide) rfl rfl ?_
  refine hp_aload_n E 0 dX7_setPlace_9 rfl rfl ?_
  refine hp_gR E g_RX7_11 hr dX7_setPlace_10 ?_
  refine hp_iload E 4 dX7_setPlace_13 rfl ?_
  refine hp_aload_n E 0 dX7_setPlace_15 rfl rfl ?_
  refine hp_gR E g_RX7_11 hr dX7_setPlace_16 ?_
  refine hp_iload E 4 dX7_setPlace_19 rfl ?_
  refine hp_iald E w hw hq.1 dX7_setPlace_21 ?_
  replace hq := hq.2
  refine hp_ldc E (-61441) m_RX7_27 dX7_setPlace_22 ?_
  refine hp_iand E dX7_setPlace_24 ?_
  refine hp_iload_n E 3 dX7_setPlace_25 rfl rfl ?_
  refine hp_bipush E (nI 12) dX7_setPlace_26 (by decide) ?_
  refine hp_ishl E dX7_setPlace_28 ?_
  refine hp_ior E dX7_setPlace_29 ?_
  have hin := hq.1
  replace hq := hq.2
  refine hp_iast E w hw hz hJ hin dX7_setPlace_30 ?_
  refine hp_toph (fun h2 eh2 => ?_)
  replace hq := hq h2 eh2
  exact hp_vret E hq hZ dX7_setPlace_31
theorem dX7_letterAt_0 : decode cX7_letterAt 0 = .ok (.aload_n 0, 1) := by decide +kernel
theorem dX7_letterAt_1 : decode cX7_letterAt 1 = .ok (.getfield 11, 3) := by decide +kernel
theorem dX7_letterAt_4 : decode cX7_letterAt 4 = .ok (.bipush 10, 2) := by decide +kernel
theorem dX7_letterAt_6 : decode cX7_letterAt 6 = .ok (.iload_n 1, 1) := by decide +kernel
theorem dX7_letterAt_7 : decode cX7_letterAt 7 = .ok (.iadd, 1) := by decide +kernel
theorem dX7_letterAt_8 : decode cX7_letterAt 8 = .ok (.iaload, 1) := by decide +kernel
theorem dX7_letterAt_9 : decode cX7_letterAt 9 = .ok (.iconst 4, 1) := by decide +kernel
theorem dX7_letterAt_10 : decode cX7_letterAt 10 = .ok (.iload_n 2, 1) := by decide +kernel
theorem dX7_letterAt_11 : decode cX7_letterAt 11 = .ok (.imul, 1) := by decide +kernel
theorem dX7_letterAt_12 : decode cX7_letterAt 12 = .ok (.iushr, 1) := by decide +kernel
theorem dX7_letterAt_13 : decode cX7_letterAt 13 = .ok (.bipush 15, 2) := by decide +kernel
theorem dX7_letterAt_15 : decode cX7_letterAt 15 = .ok (.iand, 1) := by decide +kernel
theorem dX7_letterAt_16 : decode cX7_letterAt 16 = .ok (.ireturn, 1) := by decide +kernel
set_option maxHeartbeats 4000000 in
set_option maxRecDepth 100000 in
theorem c_X7_letterAt (l : Launch) {cs : Nat → ClassId} {ad : Nat → Nat} {A : Nat → Prop} {D : va_G} (hJ : hp_J SB ad A) {w : Nat} {r : Nat} (hr : hp_sh SB r 7 0 (1, w, 0)) (hw : SB[w]? = some (.inr (0, 13))) (hz : w ≠ hp_V) {h : hp_H} {a1 a2 : Int32} {Q : Int32 → Prop} (hq : q_X7_letterAt w h a1 a2 Q) : hp_Mi l yX7_letterAt cX7_letterAt 3 (some .int) rm_X7_letterAt [.ref (ad r), .int a1, .int a2] SB cs ad A D h (fun r h' => Q r ∧ h' = h) := by
  refine hp_met (own := RX7) rfl (by decide) (Nat.le_of_ble_eq_true rfl) rfl (fun p e s m args below meth c Z E hZ hnm => ?_)
  refine hp_sub (lv' := [(0, .ref (ad r)), (1, .int a1), (2, .int a2)]) [0, 1, 2] rfl ?_
  unfold q_X7_letterAt at hq
  refine hp_aload_n E 0 dX7_letterAt_0 rfl rfl ?_
  refine hp_gR E g_RX7_11 hr dX7_letterAt_1 ?_
  refine hp_bipush E (nI 10) dX7_letterAt_4 (by decide) ?_
  refine hp_iload_n E 1 dX7_letterAt_6 rfl rfl ?_
  refine hp_iadd E dX7_letterAt_7 ?_
  refine hp_iald E w hw hq.1 dX7_letterAt_8 ?_
  replace hq := hq.2
  refine hp_iconst E (nI 4) dX7_letterAt_9 (by decide) ?_
  refine hp_iload_n E 2 dX7_letterAt_10 rfl rfl ?_
  refine hp_imul E dX7_letterAt_11 ?_
  refine hp_iushr E dX7_letterAt_12 ?_
  refine hp_bipush E (nI 15) dX7_letterAt_13 (by decide) ?_
  refine hp_iand E dX7_letterAt_15 ?_
  exact hp_iret E ⟨hq, rfl⟩ hZ dX7_letterAt_16
theorem dX7_put_0 : decode cX7_put 0 = .ok (.aload_n 0, 1) := by decide +kernel
theorem dX7_put_1 : decode cX7_put 1 = .ok (.getfield 11, 3) := by decide +kernel
theorem dX7_put_4 : decode cX7_put 4 = .ok (.bipush 10, 2) := by decide +kernel
theorem dX7_put_6 : decode cX7_put 6 = .ok (.iload_n 1, 1) := by decide +kernel
theorem dX7_put_7 : decode cX7_put 7 = .ok (.iadd, 1) := by decide +kernel
theorem dX7_put_8 : decode cX7_put 8 = .ok (.iaload, 1) := by decide +kernel
theorem dX7_put_9 : decode cX7_put 9 = .ok (.istore_n 3, 1) := by decide +kernel
theorem dX7_put_10 : decode cX7_put 10 = .ok (.iload_n 3, 1) := by decide +kernel
theorem dX7_put_11 : decode cX7_put 11 = .ok (.bipush 12, 2) := by decide +kernel
theorem dX7_put_13 : decode cX7_put 13 = .ok (.iushr, 1) := by decide +kernel
theorem dX7_put_14 : decode cX7_put 14 = .ok (.istore 4, 2) := by decide +kernel
theorem dX7_put_16 : decode cX7_put 16 = .ok (.aload_n 0, 1) := by decide +kernel
theorem dX7_put_17 : decode cX7_put 17 = .ok (.getfield 11, 3) := by decide +kernel
theorem dX7_put_20 : decode cX7_put 20 = .ok (.bipush 10, 2) := by decide +kernel
theorem dX7_put_22 : decode cX7_put 22 = .ok (.iload_n 1, 1) := by decide +kernel
theorem dX7_put_23 : decode cX7_put 23 = .ok (.iadd, 1) := by decide +kernel
theorem dX7_put_24 : decode cX7_put 24 = .ok (.iload_n 3, 1) := by decide +kernel
theorem dX7_put_25 : decode cX7_put 25 = .ok (.sipush 4095, 3) := by decide +kernel
theorem dX7_put_28 : decode cX7_put 28 = .ok (.iand, 1) := by decide +kernel
theorem dX7_put_29 : decode cX7_put 29 = .ok (.iload_n 2, 1) := by decide +kernel
theorem dX7_put_30 : decode cX7_put 30 = .ok (.iconst 4, 1) := by decide +kernel
theorem dX7_put_31 : decode cX7_put 31 = .ok (.iload 4, 2) := by decide +kernel
theorem dX7_put_33 : decode cX7_put 33 = .ok (.imul, 1) := by decide +kernel
theorem dX7_put_34 : decode cX7_put 34 = .ok (.ishl, 1) := by decide +kernel
theorem dX7_put_35 : decode cX7_put 35 = .ok (.ior, 1) := by decide +kernel
theorem dX7_put_36 : decode cX7_put 36 = .ok (.iload 4, 2) := by decide +kernel
theorem dX7_put_38 : decode cX7_put 38 = .ok (.iconst 1, 1) := by decide +kernel
theorem dX7_put_39 : decode cX7_put 39 = .ok (.iadd, 1) := by decide +kernel
theorem dX7_put_40 : decode cX7_put 40 = .ok (.bipush 12, 2) := by decide +kernel
theorem dX7_put_42 : decode cX7_put 42 = .ok (.ishl, 1) := by decide +kernel
theorem dX7_put_43 : decode cX7_put 43 = .ok (.ior, 1) := by decide +kernel
theorem dX7_put_44 : decode cX7_put 44 = .ok (.iastore, 1) := by decide +kernel
theorem dX7_put_45 : decode cX7_put 45 = .ok (.return_, 1) := by decide +kernel
set_option maxHeartbeats 4000000 in
set_option maxRecDepth 100000 in
theorem c_X7_put (l : Launch) {cs : Nat → ClassId} {ad : Nat → Nat} {A : Nat → Prop} {D : va_G} (hJ : hp_J SB ad A) {w : Nat} {r : Nat} (hr : hp_sh SB r 7 0 (1, w, 0)) (hw : SB[w]? = some (.inr (0, 13))) (hz : w ≠ hp_V) {h : hp_H} {a1 a2 : Int32} {Q : hp_H → Prop} (hq : q_X7_put w h a1 a2 Q) : hp_Mv l yX7_put cX7_put 5 none rm_X7_put [.ref (ad r), .int a1, .int a2] SB cs ad A D h Q := by
  refine hp_met (own := RX7) rfl (by decide) (Nat.le_of_ble_eq_true rfl) rfl (fun p e s m args below meth c Z E hZ hnm => ?_)
  refine hp_sub (lv' := [(0, .ref (ad r)), (1, .int a1), (2, .int a2)]) [0, 1, 2] rfl ?_
  unfold q_X7_put at hq
  refine hp_aload_n E 0 dX7_put_0 rfl rfl ?_
  refine hp_gR E g_RX7_11 hr dX7_put_1 ?_
  refine hp_bipush E (nI 10) dX7_put_4 (by decide) ?_
  refine hp_iload_n E 1 dX7_put_6 rfl rfl ?_
  refine hp_iadd E dX7_put_7 ?_
  refine hp_iald E w hw hq.1 dX7_put_8 ?_
  replace hq := hq.2
  refine hp_topi (fun v1 ev1 => ?_)
  replace hq := hq v1 ev1
  refine hp_istore_n (lv' := [(0, .ref (ad r)), (1, .int a1), (2, .int a2), (3, .int v1)]) E dX7_put_9 rfl (by decide) rfl rfl ?_
  refine hp_iload_n E 3 dX7_put_10 rfl rfl ?_
  refine hp_bipush E (nI 12) dX7_put_11 (by decide) ?_
  refine hp_iushr E dX7_put_13 ?_
  refine hp_topi (fun v2 ev2 => ?_)
  replace hq := hq v2 ev2
  refine hp_istore (lv' := [(0, .ref (ad r)), (1, .int a1), (2, .int a2), (3, .int v1), (4, .int v2)]) E dX7_put_14 (by decide) rfl rfl ?_
  refine hp_aload_n E 0 dX7_put_16 rfl rfl ?_
  refine hp_gR E g_RX7_11 hr dX7_put_17 ?_
  refine hp_bipush E (nI 10) dX7_put_20 (by decide) ?_
  refine hp_iload_n E 1 dX7_put_22 rfl rfl ?_
  refine hp_iadd E dX7_put_23 ?_
  refine hp_iload_n E 3 dX7_put_24 rfl rfl ?_
  refine hp_sipush E (nI 4095) dX7_put_25 (by decide) ?_
  refine hp_iand E dX7_put_28 ?_
  refine hp_iload_n E 2 dX7_put_29 rfl rfl ?_
  refine hp_iconst E (nI 4) dX7_put_30 (by decide) ?_
  refine hp_iload E 4 dX7_put_31 rfl ?_
  refine hp_imul E dX7_put_33 ?_
  refine hp_ishl E dX7_put_34 ?_
  refine hp_ior E dX7_put_35 ?_
  refine hp_iload E 4 dX7_put_36 rfl ?_
  refine hp_iconst E (nI 1) dX7_put_38 (by decide) ?_
  refine hp_iadd E dX7_put_39 ?_
  refine hp_bipush E (nI 12) dX7_put_40 (by decide) ?_
  refine hp_ishl E dX7_put_42 ?_
  refine hp_ior E dX7_put_43 ?_
  have hin := hq.1
  replace hq := hq.2
  refine hp_iast E w hw hz hJ hin dX7_put_44 ?_
  refine hp_toph (fun h3 eh3 => ?_)
  replace hq := hq h3 eh3
  exact hp_vret E hq hZ dX7_put_45
theorem dX7_take_0 : decode cX7_take 0 = .ok (.aload_n 0, 1) := by decide +kernel
theorem dX7_take_1 : decode cX7_take 1 = .ok (.getfield 11, 3) := by decide +kernel
theorem dX7_take_4 : decode cX7_take 4 = .ok (.bipush 10, 2) := by decide +kernel
theorem dX7_take_6 : decode cX7_take 6 = .ok (.iload_n 1, 1) := by decide +kernel
theorem dX7_take_7 : decode cX7_take 7 = .ok (.iadd, 1) := by decide +kernel
theorem dX7_take_8 : decode cX7_take 8 = .ok (.iaload, 1) := by decide +kernel
theorem dX7_take_9 : decode cX7_take 9 = .ok (.istore_n 3, 1) := by decide +kernel
theorem dX7_take_10 : decode cX7_take 10 = .ok (.iload_n 3, 1) := by decide +kernel
theorem dX7_take_11 : decode cX7_take 11 = .ok (.sipush 4095, 3) := by decide +kernel
theorem dX7_take_14 : decode cX7_take 14 = .ok (.iand, 1) := by decide +kernel
theorem dX7_take_15 : decode cX7_take 15 = .ok (.istore 4, 2) := by decide +kernel
theorem dX7_take_17 : decode cX7_take 17 = .ok (.iload 4, 2) := by decide +kernel
theorem dX7_take_19 : decode cX7_take 19 = .ok (.iconst 1, 1) := by decide +kernel
theorem dX7_take_20 : decode cX7_take 20 = .ok (.iconst 4, 1) := by decide +kernel
theorem dX7_take_21 : decode cX7_take 21 = .ok (.iload_n 2, 1) := by decide +kernel
theorem dX7_take_22 : decode cX7_take 22 = .ok (.imul, 1) := by decide +kernel
theorem dX7_take_23 : decode cX7_take 23 = .ok (.ishl, 1) := by decide +kernel
theorem dX7_take_24 : decode cX7_take 24 = .ok (.iconst 1, 1) := by decide +kernel
theorem dX7_take_25 : decode cX7_take 25 = .ok (.isub, 1) := by decide +kernel
theorem dX7_take_26 : decode cX7_take 26 = .ok (.iand, 1) := by decide +kernel
theorem dX7_take_27 : decode cX7_take 27 = .ok (.istore 5, 2) := by decide +kernel
theorem dX7_take_29 : decode cX7_take 29 = .ok (.iload 4, 2) := by decide +kernel
theorem dX7_take_31 : decode cX7_take 31 = .ok (.iconst 4, 1) := by decide +kernel
theorem dX7_take_32 : decode cX7_take 32 = .ok (.iload_n 2, 1) := by decide +kernel
theorem dX7_take_33 : decode cX7_take 33 = .ok (.iconst 1, 1) := by decide +kernel
theorem dX7_take_34 : decode cX7_take 34 = .ok (.iadd, 1) := by decide +kernel
theorem dX7_take_35 : decode cX7_take 35 = .ok (.imul, 1) := by decide +kernel
theorem dX7_take_36 : decode cX7_take 36 = .ok (.iushr, 1) := by decide +kernel
theorem dX7_take_37 : decode cX7_take 37 = .ok (.iconst 4, 1) := by decide +kernel
theorem dX7_take_38 : decode cX7_take 38 = .ok (.iload_n 2, 1) := by decide +kernel
theorem dX7_take_39 : decode cX7_take 39 = .ok (.imul, 1) := by decide +kernel
theorem dX7_take_40 : decode cX7_take 40 = .ok (.ishl, 1) := by decide +kernel
theorem dX7_take_41 : decode cX7_take 41 = .ok (.istore 6, 2) := by decide +kernel
theorem dX7_take_43 : decode cX7_take 43 = .ok (.aload_n 0, 1) := by decide +kernel
theorem dX7_take_44 : decode cX7_take 44 = .ok (.getfield 11, 3) := by decide +kernel
theorem dX7_take_47 : decode cX7_take 47 = .ok (.bipush 10, 2) := by decide +kernel
theorem dX7_take_49 : decode cX7_take 49 = .ok (.iload_n 1, 1) := by decide +kernel
theorem dX7_take_50 : decode cX7_take 50 = .ok (.iadd, 1) := by decide +kernel
theorem dX7_take_51 : decode cX7_take 51 = .ok (.iload 5, 2) := by decide +kernel
theorem dX7_take_53 : decode cX7_take 53 = .ok (.iload 6, 2) := by decide +kernel
theorem dX7_take_55 : decode cX7_take 55 = .ok (.ior, 1) := by decide +kernel
theorem dX7_take_56 : decode cX7_take 56 = .ok (.iload_n 3, 1) := by decide +kernel
theorem dX7_take_57 : decode cX7_take 57 = .ok (.bipush 12, 2) := by decide +kernel
theorem dX7_take_59 : decode cX7_take 59 = .ok (.iushr, 1) := by decide +kernel
theorem dX7_take_60 : decode cX7_take 60 = .ok (.iconst 1, 1) := by decide +kernel
theorem dX7_take_61 : decode cX7_take 61 = .ok (.isub, 1) := by decide +kernel
theorem dX7_take_62 : decode cX7_take 62 = .ok (.bipush 12, 2) := by decide +kernel
theorem dX7_take_64 : decode cX7_take 64 = .ok (.ishl, 1) := by decide +kernel
theorem dX7_take_65 : decode cX7_take 65 = .ok (.ior, 1) := by decide +kernel
theorem dX7_take_66 : decode cX7_take 66 = .ok (.iastore, 1) := by decide +kernel
theorem dX7_take_67 : decode cX7_take 67 = .ok (.return_, 1) := by decide +kernel
set_option maxHeartbeats 4000000 in
set_option maxRecDepth 100000 in
theorem c_X7_take (l : Launch) {cs : Nat → ClassId} {ad : Nat → Nat} {A : Nat → Prop} {D : va_G} (hJ : hp_J SB ad A) {w : Nat} {r : Nat} (hr : hp_sh SB r 7 0 (1, w, 0)) (hw : SB[w]? = some (.inr (0, 13))) (hz : w ≠ hp_V) {h : hp_H} {a1 a2 : Int32} {Q : hp_H → Prop} (hq : q_X7_take w h a1 a2 Q) : hp_Mv l yX7_take cX7_take 7 none rm_X7_take [.ref (ad r), .int a1, .int a2] SB cs ad A D h Q := by
  refine hp_met (own := RX7) rfl (by decide) (Nat.le_of_ble_eq_true rfl) rfl (fun p e s m args below meth c Z E hZ hnm => ?_)
  refine hp_sub (lv' := [(0, .ref (ad r)), (1, .int a1), (2, .int a2)]) [0, 1, 2] rfl ?_
  unfold q_X7_take at hq
  refine hp_aload_n E 0 dX7_take_0 rfl rfl ?_
  refine hp_gR E g_RX7_11 hr dX7_take_1 ?_
  refine hp_bipush E (nI 10) dX7_take_4 (by decide) ?_
  refine hp_iload_n E 1 dX7_take_6 rfl rfl ?_
  refine hp_iadd E dX7_take_7 ?_
  refine hp_iald E w hw hq.1 dX7_take_8 ?_
  replace hq := hq.2
  refine hp_topi (fun v1 ev1 => ?_)
  replace hq := hq v1 ev1
  refine hp_istore_n (lv' := [(0, .ref (ad r)), (1, .int a1), (2, .int a2), (3, .int v1)]) E dX7_take_9 rfl (by decide) rfl rfl ?_
  refine hp_iload_n E 3 dX7_take_10 rfl rfl ?_
  refine hp_sipush E (nI 4095) dX7_take_11 (by decide) ?_
  refine hp_iand E dX7_take_14 ?_
  refine hp_topi (fun v2 ev2 => ?_)
  replace hq := hq v2 ev2
  refine hp_istore (lv' := [(0, .ref (ad r)), (1, .int a1), (2, .int a2), (3, .int v1), (4, .int v2)]) E dX7_take_15 (by decide) rfl rfl ?_
  refine hp_iload E 4 dX7_take_17 rfl ?_
  refine hp_iconst E (nI 1) dX7_take_19 (by decide) ?_
  refine hp_iconst E (nI 4) dX7_take_20 (by decide) ?_
  refine hp_iload_n E 2 dX7_take_21 rfl rfl ?_
  refine hp_imul E dX7_take_22 ?_
  refine hp_ishl E dX7_take_23 ?_
  refine hp_iconst E (nI 1) dX7_take_24 (by decide) ?_
  refine hp_isub E dX7_take_25 ?_
  refine hp_iand E dX7_take_26 ?_
  refine hp_topi (fun v3 ev3 => ?_)
  replace hq := hq v3 ev3
  refine hp_istore (lv' := [(0, .ref (ad r)), (1, .int a1), (2, .int a2), (3, .int v1), (4, .int v2), (5, .int v3)]) E dX7_take_27 (by decide) rfl rfl ?_
  refine hp_iload E 4 dX7_take_29 rfl ?_
  refine hp_iconst E (nI 4) dX7_take_31 (by decide) ?_
  refine hp_iload_n E 2 dX7_take_32 rfl rfl ?_
  refine hp_iconst E (nI 1) dX7_take_33 (by decide) ?_
  refine hp_iadd E dX7_take_34 ?_
  refine hp_imul E dX7_take_35 ?_
  refine hp_iushr E dX7_take_36 ?_
  refine hp_iconst E (nI 4) dX7_take_37 (by decide) ?_
  refine hp_iload_n E 2 dX7_take_38 rfl rfl ?_
  refine hp_imul E dX7_take_39 ?_
  refine hp_ishl E dX7_take_40 ?_
  refine hp_topi (fun v4 ev4 => ?_)
  replace hq := hq v4 ev4
  refine hp_istore (lv' := [(0, .ref (ad r)), (1, .int a1), (2, .int a2), (3, .int v1), (4, .int v2), (5, .int v3), (6, .int v4)]) E dX7_take_41 (by decide) rfl rfl ?_
  refine hp_aload_n E 0 dX7_take_43 rfl rfl ?_
  refine hp_gR E g_RX7_11 hr dX7_take_44 ?_
  refine hp_bipush E (nI 10) dX7_take_47 (by decide) ?_
  refine hp_iload_n E 1 dX7_take_49 rfl rfl ?_
  refine hp_iadd E dX7_take_50 ?_
  refine hp_iload E 5 dX7_take_51 rfl ?_
  refine hp_iload E 6 dX7_take_53 rfl ?_
  refine hp_ior E dX7_take_55 ?_
  refine hp_iload_n E 3 dX7_take_56 rfl rfl ?_
  refine hp_bipush E (nI 12) dX7_take_57 (by decide) ?_
  refine hp_iushr E dX7_take_59 ?_
  refine hp_iconst E (nI 1) dX7_take_60 (by decide) ?_
  refine hp_isub E dX7_take_61 ?_
  refine hp_bipush E (nI 12) dX7_take_62 (by decide) ?_
  refine hp_ishl E dX7_take_64 ?_
  refine hp_ior E dX7_take_65 ?_
  have hin := hq.1
  replace hq := hq.2
  refine hp_iast E w hw hz hJ hin dX7_take_66 ?_
  refine hp_toph (fun h5 eh5 => ?_)
  replace hq := hq h5 eh5
  exact hp_vret E hq hZ dX7_take_67
theorem dX7_isFirstOfLike_0 : decode cX7_isFirstOfLike 0 = .ok (.aload_n 0, 1) := by decide +kernel
theorem dX7_isFirstOfLike_1 : decode cX7_isFirstOfLike 1 = .ok (.getfield 11, 3) := by decide +kernel
theorem dX7_isFirstOfLike_4 : decode cX7_isFirstOfLike 4 = .ok (.bipush 10, 2) := by decide +kernel
theorem dX7_isFirstOfLike_6 : decode cX7_isFirstOfLike 6 = .ok (.iload_n 1, 1) := by decide +kernel
theorem dX7_isFirstOfLike_7 : decode cX7_isFirstOfLike 7 = .ok (.iadd, 1) := by decide +kernel
theorem dX7_isFirstOfLike_8 : decode cX7_isFirstOfLike 8 = .ok (.iaload, 1) := by decide +kernel
theorem dX7_isFirstOfLike_9 : decode cX7_isFirstOfLike 9 = .ok (.istore_n 3, 1) := by decide +kernel
theorem dX7_isFirstOfLike_10 : decode cX7_isFirstOfLike 10 = .ok (.iconst 0, 1) := by decide +kernel
theorem dX7_isFirstOfLike_11 : decode cX7_isFirstOfLike 11 = .ok (.istore 4, 2) := by decide +kernel
theorem dX7_isFirstOfLike_13 : decode cX7_isFirstOfLike 13 = .ok (.iload 4, 2) := by decide +kernel
theorem dX7_isFirstOfLike_15 : decode cX7_isFirstOfLike 15 = .ok (.iload_n 2, 1) := by decide +kernel
theorem dX7_isFirstOfLike_16 : decode cX7_isFirstOfLike 16 = .ok (.if_icmp .ge 31, 3) := by decide +kernel
theorem dX7_isFirstOfLike_19 : decode cX7_isFirstOfLike 19 = .ok (.iload_n 3, 1) := by decide +kernel
theorem dX7_isFirstOfLike_20 : decode cX7_isFirstOfLike 20 = .ok (.iconst 4, 1) := by decide +kernel
theorem dX7_isFirstOfLike_21 : decode cX7_isFirstOfLike 21 = .ok (.iload 4, 2) := by decide +kernel
theorem dX7_isFirstOfLike_23 : decode cX7_isFirstOfLike 23 = .ok (.imul, 1) := by decide +kernel
theorem dX7_isFirstOfLike_24 : decode cX7_isFirstOfLike 24 = .ok (.iushr, 1) := by decide +kernel
theorem dX7_isFirstOfLike_25 : decode cX7_isFirstOfLike 25 = .ok (.bipush 15, 2) := by decide +kernel
theorem dX7_isFirstOfLike_27 : decode cX7_isFirstOfLike 27 = .ok (.iand, 1) := by decide +kernel
theorem dX7_isFirstOfLike_28 : decode cX7_isFirstOfLike 28 = .ok (.iload_n 3, 1) := by decide +kernel
theorem dX7_isFirstOfLike_29 : decode cX7_isFirstOfLike 29 = .ok (.iconst 4, 1) := by decide +kernel
theorem dX7_isFirstOfLike_30 : decode cX7_isFirstOfLike 30 = .ok (.iload_n 2, 1) := by decide +kernel
theorem dX7_isFirstOfLike_31 : decode cX7_isFirstOfLike 31 = .ok (.imul, 1) := by decide +kernel
theorem dX7_isFirstOfLike_32 : decode cX7_isFirstOfLike 32 = .ok (.iushr, 1) := by decide +kernel
theorem dX7_isFirstOfLike_33 : decode cX7_isFirstOfLike 33 = .ok (.bipush 15, 2) := by decide +kernel
theorem dX7_isFirstOfLike_35 : decode cX7_isFirstOfLike 35 = .ok (.iand, 1) := by decide +kernel
theorem dX7_isFirstOfLike_36 : decode cX7_isFirstOfLike 36 = .ok (.if_icmp .ne 5, 3) := by decide +kernel
theorem dX7_isFirstOfLike_39 : decode cX7_isFirstOfLike 39 = .ok (.iconst 0, 1) := by decide +kernel
theorem dX7_isFirstOfLike_40 : decode cX7_isFirstOfLike 40 = .ok (.ireturn, 1) := by decide +kernel
theorem dX7_isFirstOfLike_41 : decode cX7_isFirstOfLike 41 = .ok (.iinc 4 1, 3) := by decide +kernel
theorem dX7_isFirstOfLike_44 : decode cX7_isFirstOfLike 44 = .ok (.goto (-31), 3) := by decide +kernel
theorem dX7_isFirstOfLike_47 : decode cX7_isFirstOfLike 47 = .ok (.iconst 1, 1) := by decide +kernel
theorem dX7_isFirstOfLike_48 : decode cX7_isFirstOfLike 48 = .ok (.ireturn, 1) := by decide +kernel
set_option maxHeartbeats 4000000 in
set_option maxRecDepth 100000 in
theorem c_X7_isFirstOfLike (l : Launch) {cs : Nat → ClassId} {ad : Nat → Nat} {A : Nat → Prop} {D : va_G} (hJ : hp_J SB ad A) {w : Nat} {r : Nat} (hr : hp_sh SB r 7 0 (1, w, 0)) (hw : SB[w]? = some (.inr (0, 13))) (hz : w ≠ hp_V) {h : hp_H} {a1 a2 : Int32} {Q : Int32 → Prop} (hq : q_X7_isFirstOfLike w h a1 a2 Q) : hp_Mi l yX7_isFirstOfLike cX7_isFirstOfLike 5 (some .boolean) rm_X7_isFirstOfLike [.ref (ad r), .int a1, .int a2] SB cs ad A D h (fun r h' => Q r ∧ h' = h) := by
  refine hp_met (own := RX7) rfl (by decide) (Nat.le_of_ble_eq_true rfl) rfl (fun p e s m args below meth c Z E hZ hnm => ?_)
  refine hp_sub (lv' := [(0, .ref (ad r)), (1, .int a1), (2, .int a2)]) [0, 1, 2] rfl ?_
  unfold q_X7_isFirstOfLike at hq
  refine hp_aload_n E 0 dX7_isFirstOfLike_0 rfl rfl ?_
  refine hp_gR E g_RX7_11 hr dX7_isFirstOfLike_1 ?_
  refine hp_bipush E (nI 10) dX7_isFirstOfLike_4 (by decide) ?_
  refine hp_iload_n E 1 dX7_isFirstOfLike_6 rfl rfl ?_
  refine hp_iadd E dX7_isFirstOfLike_7 ?_
  refine hp_iald E w hw hq.1 dX7_isFirstOfLike_8 ?_
  replace hq := hq.2
  refine hp_topi (fun v1 ev1 => ?_)
  replace hq := hq v1 ev1
  refine hp_istore_n (lv' := [(0, .ref (ad r)), (1, .int a1), (2, .int a2), (3, .int v1)]) E dX7_isFirstOfLike_9 rfl (by decide) rfl rfl ?_
  refine hp_iconst E (nI 0) dX7_isFirstOfLike_10 (by decide) ?_
  refine hp_istore (lv' := [(0, .ref (ad r)), (1, .int a1), (2, .int a2), (3, .int v1), (4, .int (nI 0))]) E dX7_isFirstOfLike_11 (by decide) rfl rfl ?_
  refine hp_sub (lv' := [(2, .int a2), (3, .int v1), (4, .int (nI 0))]) [2, 3, 4] rfl ?_
  refine hq (fun v3 => hp_G p l e rm_X7_isFirstOfLike s m args below meth c SB cs ad A D 5 0 0 Z 13 [(2, .int a2), (3, .int v1), (4, .int v3)] [] h) (fun v3 hB => ?_)
  obtain ⟨B2, hq, hB2⟩ := hB
  refine hp_iload E 2 dX7_isFirstOfLike_13 rfl ?_
  refine hp_iload_n E 0 dX7_isFirstOfLike_15 rfl rfl ?_
  refine hp_icmp_ge E 47 dX7_isFirstOfLike_16 (by decide) (fun c4 => ?_) (fun c4 => ?_)
  · replace hq := hq.1 c4
    refine hp_iconst E (nI 1) dX7_isFirstOfLike_47 (by decide) ?_
    exact hp_zret E (by unfold hp_bz; decide) ⟨hq, rfl⟩ hZ dX7_isFirstOfLike_48
  · replace hq := hq.2 c4
    refine hp_iload_n E 1 dX7_isFirstOfLike_19 rfl rfl ?_
    refine hp_iconst E (nI 4) dX7_isFirstOfLike_20 (by decide) ?_
    refine hp_iload E 2 dX7_isFirstOfLike_21 rfl ?_
    refine hp_imul E dX7_isFirstOfLike_23 ?_
    refine hp_iushr E dX7_isFirstOfLike_24 ?_
    refine hp_bipush E (nI 15) dX7_isFirstOfLike_25 (by decide) ?_
    refine hp_iand E dX7_isFirstOfLike_27 ?_
    refine hp_iload_n E 1 dX7_isFirstOfLike_28 rfl rfl ?_
    refine hp_iconst E (nI 4) dX7_isFirstOfLike_29 (by decide) ?_
    refine hp_iload_n E 0 dX7_isFirstOfLike_30 rfl rfl ?_
    refine hp_imul E dX7_isFirstOfLike_31 ?_
    refine hp_iushr E dX7_isFirstOfLike_32 ?_
    refine hp_bipush E (nI 15) dX7_isFirstOfLike_33 (by decide) ?_
    refine hp_iand E dX7_isFirstOfLike_35 ?_
    refine hp_icmp_ne E 41 dX7_isFirstOfLike_36 (by decide) (fun c5 => ?_) (fun c5 => ?_)
    · replace hq := hq.2 c5
      obtain ⟨v6, ev6⟩ : ∃ z : Int32, z = v3 + (nI 1) := ⟨_, rfl⟩
      replace hq := hq v6 ev6
      refine hp_iinc (lv' := [(2, .int a2), (3, .int v1), (4, .int v6)]) E 2 v6 dX7_isFirstOfLike_41 rfl (by rw [ev6]; rfl) (by decide) rfl rfl ?_
      refine hp_goto E 13 dX7_isFirstOfLike_44 (by decide) ?_
      exact hB2 _ hq
    · replace hq := hq.1 c5
      refine hp_iconst E (nI 0) dX7_isFirstOfLike_39 (by decide) ?_
      exact hp_zret E (by unfold hp_bz; decide) ⟨hq, rfl⟩ hZ dX7_isFirstOfLike_40
theorem dX7_nextUnlike_0 : decode cX7_nextUnlike 0 = .ok (.iload_n 2, 1) := by decide +kernel
theorem dX7_nextUnlike_1 : decode cX7_nextUnlike 1 = .ok (.iconst 1, 1) := by decide +kernel
theorem dX7_nextUnlike_2 : decode cX7_nextUnlike 2 = .ok (.iadd, 1) := by decide +kernel
theorem dX7_nextUnlike_3 : decode cX7_nextUnlike 3 = .ok (.istore_n 3, 1) := by decide +kernel
theorem dX7_nextUnlike_4 : decode cX7_nextUnlike 4 = .ok (.iload_n 3, 1) := by decide +kernel
theorem dX7_nextUnlike_5 : decode cX7_nextUnlike 5 = .ok (.aload_n 0, 1) := by decide +kernel
theorem dX7_nextUnlike_6 : decode cX7_nextUnlike 6 = .ok (.iload_n 1, 1) := by decide +kernel
theorem dX7_nextUnlike_7 : decode cX7_nextUnlike 7 = .ok (.invokevirtual 28, 3) := by decide +kernel
theorem dX7_nextUnlike_10 : decode cX7_nextUnlike 10 = .ok (.if_icmp .ge 20, 3) := by decide +kernel
theorem dX7_nextUnlike_13 : decode cX7_nextUnlike 13 = .ok (.aload_n 0, 1) := by decide +kernel
theorem dX7_nextUnlike_14 : decode cX7_nextUnlike 14 = .ok (.iload_n 1, 1) := by decide +kernel
theorem dX7_nextUnlike_15 : decode cX7_nextUnlike 15 = .ok (.iload_n 3, 1) := by decide +kernel
theorem dX7_nextUnlike_16 : decode cX7_nextUnlike 16 = .ok (.invokevirtual 32, 3) := by decide +kernel
theorem dX7_nextUnlike_19 : decode cX7_nextUnlike 19 = .ok (.ifCond .eq 5, 3) := by decide +kernel
theorem dX7_nextUnlike_22 : decode cX7_nextUnlike 22 = .ok (.iload_n 3, 1) := by decide +kernel
theorem dX7_nextUnlike_23 : decode cX7_nextUnlike 23 = .ok (.ireturn, 1) := by decide +kernel
theorem dX7_nextUnlike_24 : decode cX7_nextUnlike 24 = .ok (.iinc 3 1, 3) := by decide +kernel
theorem dX7_nextUnlike_27 : decode cX7_nextUnlike 27 = .ok (.goto (-23), 3) := by decide +kernel
theorem dX7_nextUnlike_30 : decode cX7_nextUnlike 30 = .ok (.iconst (-1), 1) := by decide +kernel
theorem dX7_nextUnlike_31 : decode cX7_nextUnlike 31 = .ok (.ireturn, 1) := by decide +kernel
set_option maxHeartbeats 4000000 in
set_option maxRecDepth 100000 in
theorem c_X7_nextUnlike (l : Launch) {cs : Nat → ClassId} {ad : Nat → Nat} {A : Nat → Prop} {D : va_G} (hJ : hp_J SB ad A) {w : Nat} {r : Nat} (hr : hp_sh SB r 7 0 (1, w, 0)) (hw : SB[w]? = some (.inr (0, 13))) (hz : w ≠ hp_V) {h : hp_H} {a1 a2 : Int32} {Q : Int32 → Prop} (hq : q_X7_nextUnlike w h a1 a2 Q) : hp_Mi l yX7_nextUnlike cX7_nextUnlike 4 (some .int) rm_X7_nextUnlike [.ref (ad r), .int a1, .int a2] SB cs ad A D h (fun r h' => Q r ∧ h' = h) := by
  refine hp_met (own := RX7) rfl (by decide) (Nat.le_of_ble_eq_true rfl) rfl (fun p e s m args below meth c Z E hZ hnm => ?_)
  refine hp_sub (lv' := [(0, .ref (ad r)), (1, .int a1), (2, .int a2)]) [0, 1, 2] rfl ?_
  unfold q_X7_nextUnlike at hq
  refine hp_iload_n E 2 dX7_nextUnlike_0 rfl rfl ?_
  refine hp_iconst E (nI 1) dX7_nextUnlike_1 (by decide) ?_
  refine hp_iadd E dX7_nextUnlike_2 ?_
  refine hp_topi (fun v1 ev1 => ?_)
  replace hq := hq v1 ev1
  refine hp_istore_n (lv' := [(0, .ref (ad r)), (1, .int a1), (2, .int a2), (3, .int v1)]) E dX7_nextUnlike_3 rfl (by decide) rfl rfl ?_
  refine hp_sub (lv' := [(0, .ref (ad r)), (1, .int a1), (3, .int v1)]) [0, 1, 3] rfl ?_
  refine hq (fun v3 => hp_G p l e rm_X7_nextUnlike s m args below meth c SB cs ad A D 4 0 0 Z 4 [(0, .ref (ad r)), (1, .int a1), (3, .int v3)] [] h) (fun v3 hB => ?_)
  obtain ⟨B2, hq, hB2⟩ := hB
  refine hp_iload_n E 2 dX7_nextUnlike_4 rfl rfl ?_
  refine hp_aload_n E 0 dX7_nextUnlike_5 rfl rfl ?_
  refine hp_iload_n E 1 dX7_nextUnlike_6 rfl rfl ?_
  refine hp_callVip (rest := [.int v3]) E r hr vcl_7 (c_X7_held l hJ hr hw hz hq) F_X7_held m_RX7_28 ⟨rfl, rfl⟩ ⟨Nat.le_of_ble_eq_true rfl, Nat.le_of_ble_eq_true rfl⟩ ⟨Nat.zero_le _, Nat.zero_le _⟩ rfl rfl (Nat.le_of_ble_eq_true rfl) dX7_nextUnlike_7 (fun r4 hq => ?_)
  refine hp_icmp_ge E 30 dX7_nextUnlike_10 (by decide) (fun c5 => ?_) (fun c5 => ?_)
  · replace hq := hq.1 c5
    refine hp_iconst E (-1) dX7_nextUnlike_30 (by decide) ?_
    exact hp_iret E ⟨hq, rfl⟩ hZ dX7_nextUnlike_31
  · replace hq := hq.2 c5
    refine hp_aload_n E 0 dX7_nextUnlike_13 rfl rfl ?_
    refine hp_iload_n E 1 dX7_nextUnlike_14 rfl rfl ?_
    refine hp_iload_n E 2 dX7_nextUnlike_15 rfl rfl ?_
    refine hp_callVip (rest := []) E r hr vcl_7 (c_X7_isFirstOfLike l hJ hr hw hz hq) F_X7_isFirstOfLike m_RX7_32 ⟨rfl, rfl⟩ ⟨Nat.le_of_ble_eq_true rfl, Nat.le_of_ble_eq_true rfl⟩ ⟨Nat.zero_le _, Nat.zero_le _⟩ rfl rfl (Nat.le_of_ble_eq_true rfl) dX7_nextUnlike_16 (fun r6 hq => ?_)
    refine hp_if_eq E 24 dX7_nextUnlike_19 (by decide) (fun c7 => ?_) (fun c7 => ?_)
    · replace hq := hq.1 c7
      obtain ⟨v8, ev8⟩ : ∃ z : Int32, z = v3 + (nI 1) := ⟨_, rfl⟩
      replace hq := hq v8 ev8
      refine hp_iinc (lv' := [(0, .ref (ad r)), (1, .int a1), (3, .int v8)]) E 2 v8 dX7_nextUnlike_24 rfl (by rw [ev8]; rfl) (by decide) rfl rfl ?_
      refine hp_goto E 4 dX7_nextUnlike_27 (by decide) ?_
      exact hB2 _ hq
    · replace hq := hq.2 c7
      refine hp_iload_n E 2 dX7_nextUnlike_22 rfl rfl ?_
      exact hp_iret E ⟨hq, rfl⟩ hZ dX7_nextUnlike_23
theorem dX7_arrange_0 : decode cX7_arrange 0 = .ok (.iconst 1, 1) := by decide +kernel
theorem dX7_arrange_1 : decode cX7_arrange 1 = .ok (.iload_n 1, 1) := by decide +kernel
theorem dX7_arrange_2 : decode cX7_arrange 2 = .ok (.iconst 3, 1) := by decide +kernel
theorem dX7_arrange_3 : decode cX7_arrange 3 = .ok (.imul, 1) := by decide +kernel
theorem dX7_arrange_4 : decode cX7_arrange 4 = .ok (.iadd, 1) := by decide +kernel
theorem dX7_arrange_5 : decode cX7_arrange 5 = .ok (.istore_n 3, 1) := by decide +kernel
theorem dX7_arrange_6 : decode cX7_arrange 6 = .ok (.iload_n 3, 1) := by decide +kernel
theorem dX7_arrange_7 : decode cX7_arrange 7 = .ok (.iload_n 2, 1) := by decide +kernel
theorem dX7_arrange_8 : decode cX7_arrange 8 = .ok (.iadd, 1) := by decide +kernel
theorem dX7_arrange_9 : decode cX7_arrange 9 = .ok (.iconst 1, 1) := by decide +kernel
theorem dX7_arrange_10 : decode cX7_arrange 10 = .ok (.isub, 1) := by decide +kernel
theorem dX7_arrange_11 : decode cX7_arrange 11 = .ok (.istore 4, 2) := by decide +kernel
theorem dX7_arrange_13 : decode cX7_arrange 13 = .ok (.iload 4, 2) := by decide +kernel
theorem dX7_arrange_15 : decode cX7_arrange 15 = .ok (.iload_n 3, 1) := by decide +kernel
theorem dX7_arrange_16 : decode cX7_arrange 16 = .ok (.if_icmp .le 80, 3) := by decide +kernel
theorem dX7_arrange_19 : decode cX7_arrange 19 = .ok (.iload_n 3, 1) := by decide +kernel
theorem dX7_arrange_20 : decode cX7_arrange 20 = .ok (.istore 5, 2) := by decide +kernel
theorem dX7_arrange_22 : decode cX7_arrange 22 = .ok (.iload 5, 2) := by decide +kernel
theorem dX7_arrange_24 : decode cX7_arrange 24 = .ok (.iload 4, 2) := by decide +kernel
theorem dX7_arrange_26 : decode cX7_arrange 26 = .ok (.if_icmp .ge 64, 3) := by decide +kernel
theorem dX7_arrange_29 : decode cX7_arrange 29 = .ok (.aload_n 0, 1) := by decide +kernel
theorem dX7_arrange_30 : decode cX7_arrange 30 = .ok (.getfield 11, 3) := by decide +kernel
theorem dX7_arrange_33 : decode cX7_arrange 33 = .ok (.iload 5, 2) := by decide +kernel
theorem dX7_arrange_35 : decode cX7_arrange 35 = .ok (.iaload, 1) := by decide +kernel
theorem dX7_arrange_36 : decode cX7_arrange 36 = .ok (.aload_n 0, 1) := by decide +kernel
theorem dX7_arrange_37 : decode cX7_arrange 37 = .ok (.getfield 11, 3) := by decide +kernel
theorem dX7_arrange_40 : decode cX7_arrange 40 = .ok (.iload 5, 2) := by decide +kernel
theorem dX7_arrange_42 : decode cX7_arrange 42 = .ok (.iconst 1, 1) := by decide +kernel
theorem dX7_arrange_43 : decode cX7_arrange 43 = .ok (.iadd, 1) := by decide +kernel
theorem dX7_arrange_44 : decode cX7_arrange 44 = .ok (.iaload, 1) := by decide +kernel
theorem dX7_arrange_45 : decode cX7_arrange 45 = .ok (.if_icmp .le 39, 3) := by decide +kernel
theorem dX7_arrange_48 : decode cX7_arrange 48 = .ok (.aload_n 0, 1) := by decide +kernel
theorem dX7_arrange_49 : decode cX7_arrange 49 = .ok (.getfield 11, 3) := by decide +kernel
theorem dX7_arrange_52 : decode cX7_arrange 52 = .ok (.iload 5, 2) := by decide +kernel
theorem dX7_arrange_54 : decode cX7_arrange 54 = .ok (.iaload, 1) := by decide +kernel
theorem dX7_arrange_55 : decode cX7_arrange 55 = .ok (.istore 6, 2) := by decide +kernel
theorem dX7_arrange_57 : decode cX7_arrange 57 = .ok (.aload_n 0, 1) := by decide +kernel
theorem dX7_arrange_58 : decode cX7_arrange 58 = .ok (.getfield 11, 3) := by decide +kernel
theorem dX7_arrange_61 : decode cX7_arrange 61 = .ok (.iload 5, 2) := by decide +kernel
theorem dX7_arrange_63 : decode cX7_arrange 63 = .ok (.aload_n 0, 1) := by decide +kernel
theorem dX7_arrange_64 : decode cX7_arrange 64 = .ok (.getfield 11, 3) := by decide +kernel
theorem dX7_arrange_67 : decode cX7_arrange 67 = .ok (.iload 5, 2) := by decide +kernel
theorem dX7_arrange_69 : decode cX7_arrange 69 = .ok (.iconst 1, 1) := by decide +kernel
theorem dX7_arrange_70 : decode cX7_arrange 70 = .ok (.iadd, 1) := by decide +kernel
theorem dX7_arrange_71 : decode cX7_arrange 71 = .ok (.iaload, 1) := by decide +kernel
theorem dX7_arrange_72 : decode cX7_arrange 72 = .ok (.iastore, 1) := by decide +kernel
theorem dX7_arrange_73 : decode cX7_arrange 73 = .ok (.aload_n 0, 1) := by decide +kernel
theorem dX7_arrange_74 : decode cX7_arrange 74 = .ok (.getfield 11, 3) := by decide +kernel
theorem dX7_arrange_77 : decode cX7_arrange 77 = .ok (.iload 5, 2) := by decide +kernel
theorem dX7_arrange_79 : decode cX7_arrange 79 = .ok (.iconst 1, 1) := by decide +kernel
theorem dX7_arrange_80 : decode cX7_arrange 80 = .ok (.iadd, 1) := by decide +kernel
theorem dX7_arrange_81 : decode cX7_arrange 81 = .ok (.iload 6, 2) := by decide +kernel
theorem dX7_arrange_83 : decode cX7_arrange 83 = .ok (.iastore, 1) := by decide +kernel
theorem dX7_arrange_84 : decode cX7_arrange 84 = .ok (.iinc 5 1, 3) := by decide +kernel
theorem dX7_arrange_87 : decode cX7_arrange 87 = .ok (.goto (-65), 3) := by decide +kernel
theorem dX7_arrange_90 : decode cX7_arrange 90 = .ok (.iinc 4 (-1), 3) := by decide +kernel
theorem dX7_arrange_93 : decode cX7_arrange 93 = .ok (.goto (-80), 3) := by decide +kernel
theorem dX7_arrange_96 : decode cX7_arrange 96 = .ok (.return_, 1) := by decide +kernel
set_option maxHeartbeats 4000000 in
set_option maxRecDepth 100000 in
theorem c_X7_arrange (l : Launch) {cs : Nat → ClassId} {ad : Nat → Nat} {A : Nat → Prop} {D : va_G} (hJ : hp_J SB ad A) {w : Nat} {r : Nat} (hr : hp_sh SB r 7 0 (1, w, 0)) (hw : SB[w]? = some (.inr (0, 13))) (hz : w ≠ hp_V) {h : hp_H} {a1 a2 : Int32} {Q : hp_H → Prop} (hq : q_X7_arrange w h a1 a2 Q) : hp_Mv l yX7_arrange cX7_arrange 7 none rm_X7_arrange [.ref (ad r), .int a1, .int a2] SB cs ad A D h Q := by
  refine hp_met (own := RX7) rfl (by decide) (Nat.le_of_ble_eq_true rfl) rfl (fun p e s m args below meth c Z E hZ hnm => ?_)
  refine hp_sub (lv' := [(0, .ref (ad r)), (1, .int a1), (2, .int a2)]) [0, 1, 2] rfl ?_
  unfold q_X7_arrange at hq
  refine hp_iconst E (nI 1) dX7_arrange_0 (by decide) ?_
  refine hp_iload_n E 1 dX7_arrange_1 rfl rfl ?_
  refine hp_iconst E (nI 3) dX7_arrange_2 (by decide) ?_
  refine hp_imul E dX7_arrange_3 ?_
  refine hp_iadd E dX7_arrange_4 ?_
  refine hp_topi (fun v1 ev1 => ?_)
  replace hq := hq v1 ev1
  refine hp_istore_n (lv' := [(0, .ref (ad r)), (1, .int a1), (2, .int a2), (3, .int v1)]) E dX7_arrange_5 rfl (by decide) rfl rfl ?_
  refine hp_iload_n E 3 dX7_arrange_6 rfl rfl ?_
  refine hp_iload_n E 2 dX7_arrange_7 rfl rfl ?_
  refine hp_iadd E dX7_arrange_8 ?_
  refine hp_iconst E (nI 1) dX7_arrange_9 (by decide) ?_
  refine hp_isub E dX7_arrange_10 ?_
  refine hp_topi (fun v2 ev2 => ?_)
  replace hq := hq v2 ev2
  refine hp_istore (lv' := [(0, .ref (ad r)), (1, .int a1), (2, .int a2), (3, .int v1), (4, .int v2)]) E dX7_arrange_11 (by decide) rfl rfl ?_
  refine hp_sub (lv' := [(0, .ref (ad r)), (3, .int v1), (4, .int v2)]) [0, 3, 4] rfl ?_
  refine hq (fun v4 h5 => hp_G p l e rm_X7_arrange s m args below meth c SB cs ad A D 7 0 0 Z 13 [(0, .ref (ad r)), (3, .int v1), (4, .int v4)] [] h5) (fun v4 h5 hB => ?_)
  obtain ⟨B3, hq, hB3⟩ := hB
  refine hp_iload E 2 dX7_arrange_13 rfl ?_
  refine hp_iload_n E 1 dX7_arrange_15 rfl rfl ?_
  refine hp_icmp_le E 96 dX7_arrange_16 (by decide) (fun c6 => ?_) (fun c6 => ?_)
  · replace hq := hq.1 c6
    exact hp_vret E hq hZ dX7_arrange_96
  · replace hq := hq.2 c6
    refine hp_iload_n E 1 dX7_arrange_19 rfl rfl ?_
    refine hp_istore (lv' := [(0, .ref (ad r)), (3, .int v1), (4, .int v4), (5, .int v1)]) E dX7_arrange_20 (by decide) rfl rfl ?_
    refine hq (fun v8 h9 => hp_G p l e rm_X7_arrange s m args below meth c SB cs ad A D 7 0 0 Z 22 [(0, .ref (ad r)), (3, .int v1), (4, .int v4), (5, .int v8)] [] h9) (fun v8 h9 hB => ?_)
    obtain ⟨B7, hq, hB7⟩ := hB
    refine hp_iload E 3 dX7_arrange_22 rfl ?_
    refine hp_iload E 2 dX7_arrange_24 rfl ?_
    refine hp_icmp_ge E 90 dX7_arrange_26 (by decide) (fun c10 => ?_) (fun c10 => ?_)
    · replace hq := hq.1 c10
      obtain ⟨v11, ev11⟩ : ∃ z : Int32, z = v4 + (-1) := ⟨_, rfl⟩
      replace hq := hq v11 ev11
      refine hp_iinc (lv' := [(0, .ref (ad r)), (3, .int v1), (4, .int v11), (5, .int v8)]) E 2 v11 dX7_arrange_90 rfl (by rw [ev11]; rfl) (by decide) rfl rfl ?_
      refine hp_goto E 13 dX7_arrange_93 (by decide) ?_
      refine hp_sub (lv' := [(0, .ref (ad r)), (3, .int v1), (4, .int v11)]) [0, 1, 2] rfl ?_
      exact hB3 _ _ hq
    · replace hq := hq.2 c10
      refine hp_aload_n E 0 dX7_arrange_29 rfl rfl ?_
      refine hp_gR E g_RX7_11 hr dX7_arrange_30 ?_
      refine hp_iload E 3 dX7_arrange_33 rfl ?_
      refine hp_iald E w hw hq.1 dX7_arrange_35 ?_
      replace hq := hq.2
      refine hp_aload_n E 0 dX7_arrange_36 rfl rfl ?_
      refine hp_gR E g_RX7_11 hr dX7_arrange_37 ?_
      refine hp_iload E 3 dX7_arrange_40 rfl ?_
      refine hp_iconst E (nI 1) dX7_arrange_42 (by decide) ?_
      refine hp_iadd E dX7_arrange_43 ?_
      refine hp_iald E w hw hq.1 dX7_arrange_44 ?_
      replace hq := hq.2
      obtain ⟨K13, hq, hK13⟩ := hq
      have jK13 : ∀  (h14 : hp_H), K13 h14 → hp_G p l e rm_X7_arrange s m args below meth c SB cs ad A D 7 0 0 Z 84 [(0, .ref (ad r)), (3, .int v1), (4, .int v4), (5, .int v8)] [] h14 := by
        intro h14 hq
        replace hq := hK13 h14 hq
        obtain ⟨v18, ev18⟩ : ∃ z : Int32, z = v8 + (nI 1) := ⟨_, rfl⟩
        replace hq := hq v18 ev18
        refine hp_iinc (lv' := [(0, .ref (ad r)), (3, .int v1), (4, .int v4), (5, .int v18)]) E 3 v18 dX7_arrange_84 rfl (by rw [ev18]; rfl) (by decide) rfl rfl ?_
        refine hp_goto E 22 dX7_arrange_87 (by decide) ?_
        exact hB7 _ _ hq
      refine hp_icmp_le E 84 dX7_arrange_45 (by decide) (fun c12 => ?_) (fun c12 => ?_)
      · replace hq := hq.1 c12
        exact jK13 _ hq
      · replace hq := hq.2 c12
        refine hp_aload_n E 0 dX7_arrange_48 rfl rfl ?_
        refine hp_gR E g_RX7_11 hr dX7_arrange_49 ?_
        refine hp_iload E 3 dX7_arrange_52 rfl ?_
        refine hp_iald E w hw hq.1 dX7_arrange_54 ?_
        replace hq := hq.2
        refine hp_topi (fun v15 ev15 => ?_)
        replace hq := hq v15 ev15
        refine hp_istore (lv' := [(0, .ref (ad r)), (3, .int v1), (4, .int v4), (5, .int v8), (6, .int v15)]) E dX7_arrange_55 (by decide) rfl rfl ?_
        refine hp_aload_n E 0 dX7_arrange_57 rfl rfl ?_
        refine hp_gR E g_RX7_11 hr dX7_arrange_58 ?_
        refine hp_iload E 3 dX7_arrange_61 rfl ?_
        refine hp_aload_n E 0 dX7_arrange_63 rfl rfl ?_
        refine hp_gR E g_RX7_11 hr dX7_arrange_64 ?_
        refine hp_iload E 3 dX7_arrange_67 rfl ?_
        refine hp_iconst E (nI 1) dX7_arrange_69 (by decide) ?_
        refine hp_iadd E dX7_arrange_70 ?_
        refine hp_iald E w hw hq.1 dX7_arrange_71 ?_
        replace hq := hq.2
        have hin := hq.1
        replace hq := hq.2
        refine hp_iast E w hw hz hJ hin dX7_arrange_72 ?_
        refine hp_toph (fun h16 eh16 => ?_)
        replace hq := hq h16 eh16
        refine hp_aload_n E 0 dX7_arrange_73 rfl rfl ?_
        refine hp_gR E g_RX7_11 hr dX7_arrange_74 ?_
        refine hp_iload E 3 dX7_arrange_77 rfl ?_
        refine hp_iconst E (nI 1) dX7_arrange_79 (by decide) ?_
        refine hp_iadd E dX7_arrange_80 ?_
        refine hp_iload E 4 dX7_arrange_81 rfl ?_
        have hin := hq.1
        replace hq := hq.2
        refine hp_iast E w hw hz hJ hin dX7_arrange_83 ?_
        refine hp_toph (fun h17 eh17 => ?_)
        replace hq := hq h17 eh17
        refine hp_sub (lv' := [(0, .ref (ad r)), (3, .int v1), (4, .int v4), (5, .int v8)]) [0, 1, 2, 3] rfl ?_
        exact jK13 _ hq
theorem dX8_start_0 : decode cX8_start 0 = .ok (.aload_n 0, 1) := by decide +kernel
theorem dX8_start_1 : decode cX8_start 1 = .ok (.getfield 25, 3) := by decide +kernel
theorem dX8_start_4 : decode cX8_start 4 = .ok (.aload_n 0, 1) := by decide +kernel
theorem dX8_start_5 : decode cX8_start 5 = .ok (.getfield 18, 3) := by decide +kernel
theorem dX8_start_8 : decode cX8_start 8 = .ok (.invokevirtual 33, 3) := by decide +kernel
theorem dX8_start_11 : decode cX8_start 11 = .ok (.aload_n 0, 1) := by decide +kernel
theorem dX8_start_12 : decode cX8_start 12 = .ok (.getfield 29, 3) := by decide +kernel
theorem dX8_start_15 : decode cX8_start 15 = .ok (.aload_n 0, 1) := by decide +kernel
theorem dX8_start_16 : decode cX8_start 16 = .ok (.getfield 18, 3) := by decide +kernel
theorem dX8_start_19 : decode cX8_start 19 = .ok (.invokevirtual 39, 3) := by decide +kernel
theorem dX8_start_22 : decode cX8_start 22 = .ok (.return_, 1) := by decide +kernel
set_option maxHeartbeats 4000000 in
set_option maxRecDepth 100000 in
theorem c_X8_start (l : Launch) {cs : Nat → ClassId} {ad : Nat → Nat} {A : Nat → Prop} {D : va_G} (hJ : hp_J SB ad A)   {h : hp_H} {Q : hp_H → Prop} (hq : q_X8_start h Q) : hp_Mv l yX8_start cX8_start 1 none rm_X8_start [.ref (ad 44)] SB cs ad A D h Q := by
  refine hp_met (own := RX8) rfl (by decide) (Nat.le_of_ble_eq_true rfl) rfl (fun p e s m args below meth c Z E hZ hnm => ?_)
  refine hp_sub (lv' := [(0, .ref (ad 44))]) [0] rfl ?_
  unfold q_X8_start at hq
  refine hp_aload_n E 0 dX8_start_0 rfl rfl ?_
  refine hp_gR E g_RX8_25 fB_44_0 dX8_start_1 ?_
  refine hp_aload_n E 0 dX8_start_4 rfl rfl ?_
  refine hp_gR E g_RX8_18 fB_44_3 dX8_start_5 ?_
  refine hp_callVv' (rest := []) E 1 fB_1_0 vcl_4 (c_X4_setFirst l hJ hq) F_X4_setFirst m_RX8_33 ⟨rfl, rfl⟩ ⟨Nat.le_of_ble_eq_true rfl, Nat.le_of_ble_eq_true rfl⟩ ⟨Nat.zero_le _, Nat.zero_le _⟩ rfl rfl (Nat.le_of_ble_eq_true rfl) dX8_start_8 (fun h1 hq => ?_)
  refine hp_aload_n E 0 dX8_start_11 rfl rfl ?_
  refine hp_gR E g_RX8_29 fB_44_1 dX8_start_12 ?_
  refine hp_aload_n E 0 dX8_start_15 rfl rfl ?_
  refine hp_gR E g_RX8_18 fB_44_3 dX8_start_16 ?_
  refine hp_callVv' (rest := []) E 35 fB_35_0 vcl_2 (c_X2_begin l hJ hq) F_X2_begin m_RX8_39 ⟨rfl, rfl⟩ ⟨Nat.le_of_ble_eq_true rfl, Nat.le_of_ble_eq_true rfl⟩ ⟨Nat.zero_le _, Nat.zero_le _⟩ rfl rfl (Nat.le_of_ble_eq_true rfl) dX8_start_19 (fun h2 hq => ?_)
  exact hp_vret E hq hZ dX8_start_22
theorem dX8_canDo_0 : decode cX8_canDo 0 = .ok (.aload_n 0, 1) := by decide +kernel
theorem dX8_canDo_1 : decode cX8_canDo 1 = .ok (.getfield 25, 3) := by decide +kernel
theorem dX8_canDo_4 : decode cX8_canDo 4 = .ok (.getfield 86, 3) := by decide +kernel
theorem dX8_canDo_7 : decode cX8_canDo 7 = .ok (.astore_n 2, 1) := by decide +kernel
theorem dX8_canDo_8 : decode cX8_canDo 8 = .ok (.aload_n 2, 1) := by decide +kernel
theorem dX8_canDo_9 : decode cX8_canDo 9 = .ok (.getfield 120, 3) := by decide +kernel
theorem dX8_canDo_12 : decode cX8_canDo 12 = .ok (.iload_n 1, 1) := by decide +kernel
theorem dX8_canDo_13 : decode cX8_canDo 13 = .ok (.iaload, 1) := by decide +kernel
theorem dX8_canDo_14 : decode cX8_canDo 14 = .ok (.istore_n 3, 1) := by decide +kernel
theorem dX8_canDo_15 : decode cX8_canDo 15 = .ok (.iload_n 3, 1) := by decide +kernel
theorem dX8_canDo_16 : decode cX8_canDo 16 = .ok (.iconst (-1), 1) := by decide +kernel
theorem dX8_canDo_17 : decode cX8_canDo 17 = .ok (.if_icmp .eq 20, 3) := by decide +kernel
theorem dX8_canDo_20 : decode cX8_canDo 20 = .ok (.aload_n 0, 1) := by decide +kernel
theorem dX8_canDo_21 : decode cX8_canDo 21 = .ok (.getfield 25, 3) := by decide +kernel
theorem dX8_canDo_24 : decode cX8_canDo 24 = .ok (.getfield 103, 3) := by decide +kernel
theorem dX8_canDo_27 : decode cX8_canDo 27 = .ok (.getfield 123, 3) := by decide +kernel
theorem dX8_canDo_30 : decode cX8_canDo 30 = .ok (.iload_n 3, 1) := by decide +kernel
theorem dX8_canDo_31 : decode cX8_canDo 31 = .ok (.iaload, 1) := by decide +kernel
theorem dX8_canDo_32 : decode cX8_canDo 32 = .ok (.ifCond .ne 5, 3) := by decide +kernel
theorem dX8_canDo_35 : decode cX8_canDo 35 = .ok (.iconst 0, 1) := by decide +kernel
theorem dX8_canDo_36 : decode cX8_canDo 36 = .ok (.ireturn, 1) := by decide +kernel
theorem dX8_canDo_37 : decode cX8_canDo 37 = .ok (.iload_n 1, 1) := by decide +kernel
theorem dX8_canDo_38 : decode cX8_canDo 38 = .ok (.iconst 4, 1) := by decide +kernel
theorem dX8_canDo_39 : decode cX8_canDo 39 = .ok (.imul, 1) := by decide +kernel
theorem dX8_canDo_40 : decode cX8_canDo 40 = .ok (.istore 4, 2) := by decide +kernel
theorem dX8_canDo_42 : decode cX8_canDo 42 = .ok (.iload 4, 2) := by decide +kernel
theorem dX8_canDo_44 : decode cX8_canDo 44 = .ok (.iload_n 1, 1) := by decide +kernel
theorem dX8_canDo_45 : decode cX8_canDo 45 = .ok (.iconst 4, 1) := by decide +kernel
theorem dX8_canDo_46 : decode cX8_canDo 46 = .ok (.imul, 1) := by decide +kernel
theorem dX8_canDo_47 : decode cX8_canDo 47 = .ok (.aload_n 2, 1) := by decide +kernel
theorem dX8_canDo_48 : decode cX8_canDo 48 = .ok (.getfield 126, 3) := by decide +kernel
theorem dX8_canDo_51 : decode cX8_canDo 51 = .ok (.iload_n 1, 1) := by decide +kernel
theorem dX8_canDo_52 : decode cX8_canDo 52 = .ok (.iaload, 1) := by decide +kernel
theorem dX8_canDo_53 : decode cX8_canDo 53 = .ok (.iadd, 1) := by decide +kernel
theorem dX8_canDo_54 : decode cX8_canDo 54 = .ok (.if_icmp .ge 78, 3) := by decide +kernel
theorem dX8_canDo_57 : decode cX8_canDo 57 = .ok (.aload_n 2, 1) := by decide +kernel
theorem dX8_canDo_58 : decode cX8_canDo 58 = .ok (.getfield 129, 3) := by decide +kernel
theorem dX8_canDo_61 : decode cX8_canDo 61 = .ok (.iload 4, 2) := by decide +kernel
theorem dX8_canDo_63 : decode cX8_canDo 63 = .ok (.iaload, 1) := by decide +kernel
theorem dX8_canDo_64 : decode cX8_canDo 64 = .ok (.istore 5, 2) := by decide +kernel
theorem dX8_canDo_66 : decode cX8_canDo 66 = .ok (.aload_n 2, 1) := by decide +kernel
theorem dX8_canDo_67 : decode cX8_canDo 67 = .ok (.getfield 132, 3) := by decide +kernel
theorem dX8_canDo_70 : decode cX8_canDo 70 = .ok (.iload 4, 2) := by decide +kernel
theorem dX8_canDo_72 : decode cX8_canDo 72 = .ok (.iaload, 1) := by decide +kernel
theorem dX8_canDo_73 : decode cX8_canDo 73 = .ok (.iconst 2, 1) := by decide +kernel
theorem dX8_canDo_74 : decode cX8_canDo 74 = .ok (.if_icmp .ne 27, 3) := by decide +kernel
theorem dX8_canDo_77 : decode cX8_canDo 77 = .ok (.aload_n 0, 1) := by decide +kernel
theorem dX8_canDo_78 : decode cX8_canDo 78 = .ok (.getfield 12, 3) := by decide +kernel
theorem dX8_canDo_81 : decode cX8_canDo 81 = .ok (.iload 5, 2) := by decide +kernel
theorem dX8_canDo_83 : decode cX8_canDo 83 = .ok (.invokevirtual 135, 3) := by decide +kernel
theorem dX8_canDo_86 : decode cX8_canDo 86 = .ok (.aload_n 0, 1) := by decide +kernel
theorem dX8_canDo_87 : decode cX8_canDo 87 = .ok (.getfield 25, 3) := by decide +kernel
theorem dX8_canDo_90 : decode cX8_canDo 90 = .ok (.getfield 139, 3) := by decide +kernel
theorem dX8_canDo_93 : decode cX8_canDo 93 = .ok (.iload 5, 2) := by decide +kernel
theorem dX8_canDo_95 : decode cX8_canDo 95 = .ok (.iaload, 1) := by decide +kernel
theorem dX8_canDo_96 : decode cX8_canDo 96 = .ok (.if_icmp .lt 5, 3) := by decide +kernel
theorem dX8_canDo_99 : decode cX8_canDo 99 = .ok (.iconst 0, 1) := by decide +kernel
theorem dX8_canDo_100 : decode cX8_canDo 100 = .ok (.ireturn, 1) := by decide +kernel
theorem dX8_canDo_101 : decode cX8_canDo 101 = .ok (.aload_n 2, 1) := by decide +kernel
theorem dX8_canDo_102 : decode cX8_canDo 102 = .ok (.getfield 132, 3) := by decide +kernel
theorem dX8_canDo_105 : decode cX8_canDo 105 = .ok (.iload 4, 2) := by decide +kernel
theorem dX8_canDo_107 : decode cX8_canDo 107 = .ok (.iaload, 1) := by decide +kernel
theorem dX8_canDo_108 : decode cX8_canDo 108 = .ok (.iconst 3, 1) := by decide +kernel
theorem dX8_canDo_109 : decode cX8_canDo 109 = .ok (.if_icmp .ne 17, 3) := by decide +kernel
theorem dX8_canDo_112 : decode cX8_canDo 112 = .ok (.aload_n 0, 1) := by decide +kernel
theorem dX8_canDo_113 : decode cX8_canDo 113 = .ok (.getfield 12, 3) := by decide +kernel
theorem dX8_canDo_116 : decode cX8_canDo 116 = .ok (.iload 5, 2) := by decide +kernel
theorem dX8_canDo_118 : decode cX8_canDo 118 = .ok (.invokevirtual 135, 3) := by decide +kernel
theorem dX8_canDo_121 : decode cX8_canDo 121 = .ok (.ifCond .ne 5, 3) := by decide +kernel
theorem dX8_canDo_124 : decode cX8_canDo 124 = .ok (.iconst 0, 1) := by decide +kernel
theorem dX8_canDo_125 : decode cX8_canDo 125 = .ok (.ireturn, 1) := by decide +kernel
theorem dX8_canDo_126 : decode cX8_canDo 126 = .ok (.iinc 4 1, 3) := by decide +kernel
theorem dX8_canDo_129 : decode cX8_canDo 129 = .ok (.goto (-87), 3) := by decide +kernel
theorem dX8_canDo_132 : decode cX8_canDo 132 = .ok (.iconst 1, 1) := by decide +kernel
theorem dX8_canDo_133 : decode cX8_canDo 133 = .ok (.ireturn, 1) := by decide +kernel
set_option maxHeartbeats 4000000 in
set_option maxRecDepth 100000 in
theorem c_X8_canDo (l : Launch) {cs : Nat → ClassId} {ad : Nat → Nat} {A : Nat → Prop} {D : va_G} (hJ : hp_J SB ad A)   {h : hp_H} {a1 : Int32} {Q : Int32 → Prop} (hq : q_X8_canDo h a1 Q) : hp_Mi l yX8_canDo cX8_canDo 6 (some .boolean) rm_X8_canDo [.ref (ad 44), .int a1] SB cs ad A D h (fun r h' => Q r ∧ h' = h) := by
  refine hp_met (own := RX8) rfl (by decide) (Nat.le_of_ble_eq_true rfl) rfl (fun p e s m args below meth c Z E hZ hnm => ?_)
  refine hp_sub (lv' := [(0, .ref (ad 44)), (1, .int a1)]) [0, 1] rfl ?_
  unfold q_X8_canDo at hq
  refine hp_aload_n E 0 dX8_canDo_0 rfl rfl ?_
  refine hp_gR E g_RX8_25 fB_44_0 dX8_canDo_1 ?_
  refine hp_gR E g_RX8_86 fB_1_4 dX8_canDo_4 ?_
  refine hp_astore_n (lv' := [(0, .ref (ad 44)), (1, .int a1), (2, .ref (ad 23))]) E dX8_canDo_7 rfl (by decide) rfl rfl ?_
  refine hp_aload_n E 2 dX8_canDo_8 rfl rfl ?_
  refine hp_gR E g_RX8_120 fB_23_3 dX8_canDo_9 ?_
  refine hp_iload_n E 1 dX8_canDo_12 rfl rfl ?_
  refine hp_iald E 27 aB_27 hq.1 dX8_canDo_13 ?_
  replace hq := hq.2
  refine hp_topi (fun v1 ev1 => ?_)
  replace hq := hq v1 ev1
  refine hp_istore_n (lv' := [(0, .ref (ad 44)), (1, .int a1), (2, .ref (ad 23)), (3, .int v1)]) E dX8_canDo_14 rfl (by decide) rfl rfl ?_
  refine hp_iload_n E 3 dX8_canDo_15 rfl rfl ?_
  refine hp_iconst E (-1) dX8_canDo_16 (by decide) ?_
  obtain ⟨K3, hq, hK3⟩ := hq
  have jK3 : K3 → hp_G p l e rm_X8_canDo s m args below meth c SB cs ad A D 6 0 0 Z 37 [(0, .ref (ad 44)), (1, .int a1), (2, .ref (ad 23))] [] h := by
    intro  hq
    replace hq := hK3  hq
    refine hp_iload_n E 1 dX8_canDo_37 rfl rfl ?_
    refine hp_iconst E (nI 4) dX8_canDo_38 (by decide) ?_
    refine hp_imul E dX8_canDo_39 ?_
    refine hp_topi (fun v5 ev5 => ?_)
    replace hq := hq v5 ev5
    refine hp_istore (lv' := [(0, .ref (ad 44)), (1, .int a1), (2, .ref (ad 23)), (4, .int v5)]) E dX8_canDo_40 (by decide) rfl rfl ?_
    refine hq (fun v7 => hp_G p l e rm_X8_canDo s m args below meth c SB cs ad A D 6 0 0 Z 42 [(0, .ref (ad 44)), (1, .int a1), (2, .ref (ad 23)), (4, .int v7)] [] h) (fun v7 hB => ?_)
    obtain ⟨B6, hq, hB6⟩ := hB
    refine hp_iload E 3 dX8_canDo_42 rfl ?_
    refine hp_iload_n E 1 dX8_canDo_44 rfl rfl ?_
    refine hp_iconst E (nI 4) dX8_canDo_45 (by decide) ?_
    refine hp_imul E dX8_canDo_46 ?_
    refine hp_aload_n E 2 dX8_canDo_47 rfl rfl ?_
    refine hp_gR E g_RX8_126 fB_23_4 dX8_canDo_48 ?_
    refine hp_iload_n E 1 dX8_canDo_51 rfl rfl ?_
    refine hp_iald E 28 aB_28 hq.1 dX8_canDo_52 ?_
    replace hq := hq.2
    refine hp_iadd E dX8_canDo_53 ?_
    refine hp_icmp_ge E 132 dX8_canDo_54 (by decide) (fun c8 => ?_) (fun c8 => ?_)
    · replace hq := hq.1 c8
      refine hp_iconst E (nI 1) dX8_canDo_132 (by decide) ?_
      exact hp_zret E (by unfold hp_bz; decide) ⟨hq, rfl⟩ hZ dX8_canDo_133
    · replace hq := hq.2 c8
      refine hp_aload_n E 2 dX8_canDo_57 rfl rfl ?_
      refine hp_gR E g_RX8_129 fB_23_6 dX8_canDo_58 ?_
      refine hp_iload E 3 dX8_canDo_61 rfl ?_
      refine hp_iald E 30 aB_30 hq.1 dX8_canDo_63 ?_
      replace hq := hq.2
      refine hp_topi (fun v9 ev9 => ?_)
      replace hq := hq v9 ev9
      refine hp_istore (lv' := [(0, .ref (ad 44)), (1, .int a1), (2, .ref (ad 23)), (4, .int v7), (5, .int v9)]) E dX8_canDo_64 (by decide) rfl rfl ?_
      refine hp_aload_n E 2 dX8_canDo_66 rfl rfl ?_
      refine hp_gR E g_RX8_132 fB_23_5 dX8_canDo_67 ?_
      refine hp_iload E 3 dX8_canDo_70 rfl ?_
      refine hp_iald E 29 aB_29 hq.1 dX8_canDo_72 ?_
      replace hq := hq.2
      refine hp_iconst E (nI 2) dX8_canDo_73 (by decide) ?_
      obtain ⟨K11, hq, hK11⟩ := hq
      have jK11 : K11 → hp_G p l e rm_X8_canDo s m args below meth c SB cs ad A D 6 0 0 Z 101 [(0, .ref (ad 44)), (1, .int a1), (2, .ref (ad 23)), (4, .int v7), (5, .int v9)] [] h := by
        intro  hq
        replace hq := hK11  hq
        refine hp_aload_n E 2 dX8_canDo_101 rfl rfl ?_
        refine hp_gR E g_RX8_132 fB_23_5 dX8_canDo_102 ?_
        refine hp_iload E 3 dX8_canDo_105 rfl ?_
        refine hp_iald E 29 aB_29 hq.1 dX8_canDo_107 ?_
        replace hq := hq.2
        refine hp_iconst E (nI 3) dX8_canDo_108 (by decide) ?_
        obtain ⟨K15, hq, hK15⟩ := hq
        have jK15 : K15 → hp_G p l e rm_X8_canDo s m args below meth c SB cs ad A D 6 0 0 Z 126 [(0, .ref (ad 44)), (1, .int a1), (2, .ref (ad 23)), (4, .int v7)] [] h := by
          intro  hq
          replace hq := hK15  hq
          obtain ⟨v18, ev18⟩ : ∃ z : Int32, z = v7 + (nI 1) := ⟨_, rfl⟩
          replace hq := hq v18 ev18
          refine hp_iinc (lv' := [(0, .ref (ad 44)), (1, .int a1), (2, .ref (ad 23)), (4, .int v18)]) E 3 v18 dX8_canDo_126 rfl (by rw [ev18]; rfl) (by decide) rfl rfl ?_
          refine hp_goto E 42 dX8_canDo_129 (by decide) ?_
          exact hB6 _ hq
        refine hp_icmp_ne E 126 dX8_canDo_109 (by decide) (fun c14 => ?_) (fun c14 => ?_)
        · replace hq := hq.2 c14
          refine hp_sub (lv' := [(0, .ref (ad 44)), (1, .int a1), (2, .ref (ad 23)), (4, .int v7)]) [0, 1, 2, 3] rfl ?_
          exact jK15  hq
        · replace hq := hq.1 c14
          refine hp_aload_n E 0 dX8_canDo_112 rfl rfl ?_
          refine hp_gR E g_RX8_12 fB_44_2 dX8_canDo_113 ?_
          refine hp_iload E 4 dX8_canDo_116 rfl ?_
          refine hp_callVip (rest := []) E 45 fB_45_0 vcl_7 (c_X7_held l hJ fB_45_0 aB_46 zB_46 hq) F_X7_held m_RX8_135 ⟨rfl, rfl⟩ ⟨Nat.le_of_ble_eq_true rfl, Nat.le_of_ble_eq_true rfl⟩ ⟨Nat.zero_le _, Nat.zero_le _⟩ rfl rfl (Nat.le_of_ble_eq_true rfl) dX8_canDo_118 (fun r16 hq => ?_)
          refine hp_if_ne E 126 dX8_canDo_121 (by decide) (fun c17 => ?_) (fun c17 => ?_)
          · replace hq := hq.2 c17
            refine hp_sub (lv' := [(0, .ref (ad 44)), (1, .int a1), (2, .ref (ad 23)), (4, .int v7)]) [0, 1, 2, 3] rfl ?_
            exact jK15  hq
          · replace hq := hq.1 c17
            refine hp_iconst E (nI 0) dX8_canDo_124 (by decide) ?_
            exact hp_zret E (by unfold hp_bz; decide) ⟨hq, rfl⟩ hZ dX8_canDo_125
      refine hp_icmp_ne E 101 dX8_canDo_74 (by decide) (fun c10 => ?_) (fun c10 => ?_)
      · replace hq := hq.2 c10
        exact jK11  hq
      · replace hq := hq.1 c10
        refine hp_aload_n E 0 dX8_canDo_77 rfl rfl ?_
        refine hp_gR E g_RX8_12 fB_44_2 dX8_canDo_78 ?_
        refine hp_iload E 4 dX8_canDo_81 rfl ?_
        refine hp_callVip (rest := []) E 45 fB_45_0 vcl_7 (c_X7_held l hJ fB_45_0 aB_46 zB_46 hq) F_X7_held m_RX8_135 ⟨rfl, rfl⟩ ⟨Nat.le_of_ble_eq_true rfl, Nat.le_of_ble_eq_true rfl⟩ ⟨Nat.zero_le _, Nat.zero_le _⟩ rfl rfl (Nat.le_of_ble_eq_true rfl) dX8_canDo_83 (fun r12 hq => ?_)
        refine hp_aload_n E 0 dX8_canDo_86 rfl rfl ?_
        refine hp_gR E g_RX8_25 fB_44_0 dX8_canDo_87 ?_
        refine hp_gR E g_RX8_139 fB_1_5 dX8_canDo_90 ?_
        refine hp_iload E 4 dX8_canDo_93 rfl ?_
        refine hp_iald E 32 aB_32 hq.1 dX8_canDo_95 ?_
        replace hq := hq.2
        refine hp_icmp_lt E 101 dX8_canDo_96 (by decide) (fun c13 => ?_) (fun c13 => ?_)
        · replace hq := hq.1 c13
          exact jK11  hq
        · replace hq := hq.2 c13
          refine hp_iconst E (nI 0) dX8_canDo_99 (by decide) ?_
          exact hp_zret E (by unfold hp_bz; decide) ⟨hq, rfl⟩ hZ dX8_canDo_100
  refine hp_icmp_eq E 37 dX8_canDo_17 (by decide) (fun c2 => ?_) (fun c2 => ?_)
  · replace hq := hq.1 c2
    refine hp_sub (lv' := [(0, .ref (ad 44)), (1, .int a1), (2, .ref (ad 23))]) [0, 1, 2] rfl ?_
    exact jK3  hq
  · replace hq := hq.2 c2
    refine hp_aload_n E 0 dX8_canDo_20 rfl rfl ?_
    refine hp_gR E g_RX8_25 fB_44_0 dX8_canDo_21 ?_
    refine hp_gR E g_RX8_103 fB_1_3 dX8_canDo_24 ?_
    refine hp_gR E g_RX8_123 fB_15_0 dX8_canDo_27 ?_
    refine hp_iload_n E 3 dX8_canDo_30 rfl rfl ?_
    refine hp_iald E 16 aB_16 hq.1 dX8_canDo_31 ?_
    replace hq := hq.2
    refine hp_if_ne E 37 dX8_canDo_32 (by decide) (fun c4 => ?_) (fun c4 => ?_)
    · replace hq := hq.2 c4
      refine hp_sub (lv' := [(0, .ref (ad 44)), (1, .int a1), (2, .ref (ad 23))]) [0, 1, 2] rfl ?_
      exact jK3  hq
    · replace hq := hq.1 c4
      refine hp_iconst E (nI 0) dX8_canDo_35 (by decide) ?_
      exact hp_zret E (by unfold hp_bz; decide) ⟨hq, rfl⟩ hZ dX8_canDo_36
theorem dX10_allows_0 : decode cX10_allows 0 = .ok (.iload_n 3, 1) := by decide +kernel
theorem dX10_allows_1 : decode cX10_allows 1 = .ok (.aload_n 0, 1) := by decide +kernel
theorem dX10_allows_2 : decode cX10_allows 2 = .ok (.getfield 19, 3) := by decide +kernel
theorem dX10_allows_5 : decode cX10_allows 5 = .ok (.iload_n 1, 1) := by decide +kernel
theorem dX10_allows_6 : decode cX10_allows 6 = .ok (.aload_n 0, 1) := by decide +kernel
theorem dX10_allows_7 : decode cX10_allows 7 = .ok (.getfield 9, 3) := by decide +kernel
theorem dX10_allows_10 : decode cX10_allows 10 = .ok (.imul, 1) := by decide +kernel
theorem dX10_allows_11 : decode cX10_allows 11 = .ok (.iload_n 2, 1) := by decide +kernel
theorem dX10_allows_12 : decode cX10_allows 12 = .ok (.iadd, 1) := by decide +kernel
theorem dX10_allows_13 : decode cX10_allows 13 = .ok (.iaload, 1) := by decide +kernel
theorem dX10_allows_14 : decode cX10_allows 14 = .ok (.if_icmp .lt 24, 3) := by decide +kernel
theorem dX10_allows_17 : decode cX10_allows 17 = .ok (.iload_n 3, 1) := by decide +kernel
theorem dX10_allows_18 : decode cX10_allows 18 = .ok (.aload_n 0, 1) := by decide +kernel
theorem dX10_allows_19 : decode cX10_allows 19 = .ok (.getfield 22, 3) := by decide +kernel
theorem dX10_allows_22 : decode cX10_allows 22 = .ok (.iload_n 1, 1) := by decide +kernel
theorem dX10_allows_23 : decode cX10_allows 23 = .ok (.aload_n 0, 1) := by decide +kernel
theorem dX10_allows_24 : decode cX10_allows 24 = .ok (.getfield 9, 3) := by decide +kernel
theorem dX10_allows_27 : decode cX10_allows 27 = .ok (.imul, 1) := by decide +kernel
theorem dX10_allows_28 : decode cX10_allows 28 = .ok (.iload_n 2, 1) := by decide +kernel
theorem dX10_allows_29 : decode cX10_allows 29 = .ok (.iadd, 1) := by decide +kernel
theorem dX10_allows_30 : decode cX10_allows 30 = .ok (.iaload, 1) := by decide +kernel
theorem dX10_allows_31 : decode cX10_allows 31 = .ok (.if_icmp .gt 7, 3) := by decide +kernel
theorem dX10_allows_34 : decode cX10_allows 34 = .ok (.iconst 1, 1) := by decide +kernel
theorem dX10_allows_35 : decode cX10_allows 35 = .ok (.goto 4, 3) := by decide +kernel
theorem dX10_allows_38 : decode cX10_allows 38 = .ok (.iconst 0, 1) := by decide +kernel
theorem dX10_allows_39 : decode cX10_allows 39 = .ok (.ireturn, 1) := by decide +kernel
set_option maxHeartbeats 4000000 in
set_option maxRecDepth 100000 in
theorem c_X10_allows (l : Launch) {cs : Nat → ClassId} {ad : Nat → Nat} {A : Nat → Prop} {D : va_G} (hJ : hp_J SB ad A) {vk : Nat} {vt : Nat} {vl : Nat} {vh : Nat} {vf : Nat} {vn : Nat} {vm : Nat} (hv0 : hp_sh SB vk 10 0 (1, vt, 0)) (hv1 : hp_sh SB vk 10 1 (0, 0, 0)) (hv2 : hp_sh SB vk 10 2 (1, vl, 0)) (hv3 : hp_sh SB vk 10 3 (1, vh, 0)) (hv4 : hp_sh SB vk 10 4 (1, vf, 0)) (hvt : SB[vt]? = some (.inr (0, vn))) (hvl : SB[vl]? = some (.inr (0, vm))) (hvh : SB[vh]? = some (.inr (0, vm))) (hvf : SB[vf]? = some (.inr (0, vm))) (hzt : vt ≠ hp_V) (hzl : vl ≠ hp_V) (hzh : vh ≠ hp_V) (hzf : vf ≠ hp_V) {h : hp_H} {a1 a2 a3 : Int32} {Q : Int32 → Prop} (hq : q_X10_allows vk vt vl vh vf vn vm h a1 a2 a3 Q) : hp_Mi l yX10_allows cX10_allows 4 (some .boolean) rm_X10_allows [.ref (ad vk), .int a1, .int a2, .int a3] SB cs ad A D h (fun r h' => Q r ∧ h' = h) := by
  refine hp_met (own := RX10) rfl (by decide) (Nat.le_of_ble_eq_true rfl) rfl (fun p e s m args below meth c Z E hZ hnm => ?_)
  refine hp_sub (lv' := [(0, .ref (ad vk)), (1, .int a1), (2, .int a2), (3, .int a3)]) [0, 1, 2, 3] rfl ?_
  unfold q_X10_allows at hq
  refine hp_iload_n E 3 dX10_allows_0 rfl rfl ?_
  refine hp_aload_n E 0 dX10_allows_1 rfl rfl ?_
  refine hp_gR E g_RX10_19 hv2 dX10_allows_2 ?_
  refine hp_iload_n E 1 dX10_allows_5 rfl rfl ?_
  refine hp_aload_n E 0 dX10_allows_6 rfl rfl ?_
  refine hp_gI E g_RX10_9 hv1 dX10_allows_7 ?_
  refine hp_imul E dX10_allows_10 ?_
  refine hp_iload_n E 2 dX10_allows_11 rfl rfl ?_
  refine hp_iadd E dX10_allows_12 ?_
  refine hp_iald E vl hvl hq.1 dX10_allows_13 ?_
  replace hq := hq.2
  refine hp_icmp_lt E 38 dX10_allows_14 (by decide) (fun c1 => ?_) (fun c1 => ?_)
  · replace hq := hq.1 c1
    refine hp_iconst E (nI 0) dX10_allows_38 (by decide) ?_
    exact hp_zret E (by unfold hp_bz; decide) ⟨hq, rfl⟩ hZ dX10_allows_39
  · replace hq := hq.2 c1
    refine hp_iload_n E 3 dX10_allows_17 rfl rfl ?_
    refine hp_aload_n E 0 dX10_allows_18 rfl rfl ?_
    refine hp_gR E g_RX10_22 hv3 dX10_allows_19 ?_
    refine hp_iload_n E 1 dX10_allows_22 rfl rfl ?_
    refine hp_aload_n E 0 dX10_allows_23 rfl rfl ?_
    refine hp_gI E g_RX10_9 hv1 dX10_allows_24 ?_
    refine hp_imul E dX10_allows_27 ?_
    refine hp_iload_n E 2 dX10_allows_28 rfl rfl ?_
    refine hp_iadd E dX10_allows_29 ?_
    refine hp_iald E vh hvh hq.1 dX10_allows_30 ?_
    replace hq := hq.2
    refine hp_icmp_gt E 38 dX10_allows_31 (by decide) (fun c2 => ?_) (fun c2 => ?_)
    · replace hq := hq.1 c2
      refine hp_iconst E (nI 0) dX10_allows_38 (by decide) ?_
      exact hp_zret E (by unfold hp_bz; decide) ⟨hq, rfl⟩ hZ dX10_allows_39
    · replace hq := hq.2 c2
      refine hp_iconst E (nI 1) dX10_allows_34 (by decide) ?_
      refine hp_goto E 39 dX10_allows_35 (by decide) ?_
      exact hp_zret E (by unfold hp_bz; decide) ⟨hq, rfl⟩ hZ dX10_allows_39
theorem dX8_giveShared_0 : decode cX8_giveShared 0 = .ok (.aload_n 0, 1) := by decide +kernel
theorem dX8_giveShared_1 : decode cX8_giveShared 1 = .ok (.getfield 25, 3) := by decide +kernel
theorem dX8_giveShared_4 : decode cX8_giveShared 4 = .ok (.getfield 200, 3) := by decide +kernel
theorem dX8_giveShared_7 : decode cX8_giveShared 7 = .ok (.iconst 0, 1) := by decide +kernel
theorem dX8_giveShared_8 : decode cX8_giveShared 8 = .ok (.iload_n 1, 1) := by decide +kernel
theorem dX8_giveShared_9 : decode cX8_giveShared 9 = .ok (.iload_n 2, 1) := by decide +kernel
theorem dX8_giveShared_10 : decode cX8_giveShared 10 = .ok (.invokevirtual 204, 3) := by decide +kernel
theorem dX8_giveShared_13 : decode cX8_giveShared 13 = .ok (.ifCond .ne 5, 3) := by decide +kernel
theorem dX8_giveShared_16 : decode cX8_giveShared 16 = .ok (.iconst 0, 1) := by decide +kernel
theorem dX8_giveShared_17 : decode cX8_giveShared 17 = .ok (.ireturn, 1) := by decide +kernel
theorem dX8_giveShared_18 : decode cX8_giveShared 18 = .ok (.aload_n 0, 1) := by decide +kernel
theorem dX8_giveShared_19 : decode cX8_giveShared 19 = .ok (.getfield 18, 3) := by decide +kernel
theorem dX8_giveShared_22 : decode cX8_giveShared 22 = .ok (.iload_n 1, 1) := by decide +kernel
theorem dX8_giveShared_23 : decode cX8_giveShared 23 = .ok (.iload_n 2, 1) := by decide +kernel
theorem dX8_giveShared_24 : decode cX8_giveShared 24 = .ok (.invokevirtual 209, 3) := by decide +kernel
theorem dX8_giveShared_27 : decode cX8_giveShared 27 = .ok (.iconst 1, 1) := by decide +kernel
theorem dX8_giveShared_28 : decode cX8_giveShared 28 = .ok (.ireturn, 1) := by decide +kernel
set_option maxHeartbeats 4000000 in
set_option maxRecDepth 100000 in
theorem c_X8_giveShared (l : Launch) {cs : Nat → ClassId} {ad : Nat → Nat} {A : Nat → Prop} {D : va_G} (hJ : hp_J SB ad A)   {h : hp_H} {a1 a2 : Int32} {Q : Int32 → hp_H → Prop} (hq : q_X8_giveShared h a1 a2 Q) : hp_Mi l yX8_giveShared cX8_giveShared 3 (some .boolean) rm_X8_giveShared [.ref (ad 44), .int a1, .int a2] SB cs ad A D h Q := by
  refine hp_met (own := RX8) rfl (by decide) (Nat.le_of_ble_eq_true rfl) rfl (fun p e s m args below meth c Z E hZ hnm => ?_)
  refine hp_sub (lv' := [(0, .ref (ad 44)), (1, .int a1), (2, .int a2)]) [0, 1, 2] rfl ?_
  unfold q_X8_giveShared at hq
  refine hp_aload_n E 0 dX8_giveShared_0 rfl rfl ?_
  refine hp_gR E g_RX8_25 fB_44_0 dX8_giveShared_1 ?_
  refine hp_gR E g_RX8_200 fB_1_0 dX8_giveShared_4 ?_
  refine hp_iconst E (nI 0) dX8_giveShared_7 (by decide) ?_
  refine hp_iload_n E 1 dX8_giveShared_8 rfl rfl ?_
  refine hp_iload_n E 2 dX8_giveShared_9 rfl rfl ?_
  refine hp_callVip (rest := []) E 2 fB_2_0 vcl_10 (c_X10_allows l hJ fB_2_0 fB_2_1 fB_2_2 fB_2_3 fB_2_4 aB_3 aB_4 aB_5 aB_6 zB_3 zB_4 zB_5 zB_6 hq) F_X10_allows m_RX8_204 ⟨rfl, rfl⟩ ⟨Nat.le_of_ble_eq_true rfl, Nat.le_of_ble_eq_true rfl⟩ ⟨Nat.zero_le _, Nat.zero_le _⟩ rfl rfl (Nat.le_of_ble_eq_true rfl) dX8_giveShared_10 (fun r1 hq => ?_)
  refine hp_if_ne E 18 dX8_giveShared_13 (by decide) (fun c2 => ?_) (fun c2 => ?_)
  · replace hq := hq.2 c2
    refine hp_aload_n E 0 dX8_giveShared_18 rfl rfl ?_
    refine hp_gR E g_RX8_18 fB_44_3 dX8_giveShared_19 ?_
    refine hp_iload_n E 1 dX8_giveShared_22 rfl rfl ?_
    refine hp_iload_n E 2 dX8_giveShared_23 rfl rfl ?_
    refine hp_callVv' (rest := []) E 47 fB_47_0 vcl_7 (c_X7_setShared l hJ fB_47_0 aB_48 zB_48 hq) F_X7_setShared m_RX8_209 ⟨rfl, rfl⟩ ⟨Nat.le_of_ble_eq_true rfl, Nat.le_of_ble_eq_true rfl⟩ ⟨Nat.zero_le _, Nat.zero_le _⟩ rfl rfl (Nat.le_of_ble_eq_true rfl) dX8_giveShared_24 (fun h3 hq => ?_)
    refine hp_iconst E (nI 1) dX8_giveShared_27 (by decide) ?_
    exact hp_zret E (by unfold hp_bz; decide) hq hZ dX8_giveShared_28
  · replace hq := hq.1 c2
    refine hp_iconst E (nI 0) dX8_giveShared_16 (by decide) ?_
    exact hp_zret E (by unfold hp_bz; decide) hq hZ dX8_giveShared_17
theorem dX8_giveOwn_0 : decode cX8_giveOwn 0 = .ok (.aload_n 0, 1) := by decide +kernel
theorem dX8_giveOwn_1 : decode cX8_giveOwn 1 = .ok (.getfield 25, 3) := by decide +kernel
theorem dX8_giveOwn_4 : decode cX8_giveOwn 4 = .ok (.getfield 212, 3) := by decide +kernel
theorem dX8_giveOwn_7 : decode cX8_giveOwn 7 = .ok (.iload_n 1, 1) := by decide +kernel
theorem dX8_giveOwn_8 : decode cX8_giveOwn 8 = .ok (.iload_n 3, 1) := by decide +kernel
theorem dX8_giveOwn_9 : decode cX8_giveOwn 9 = .ok (.iload 4, 2) := by decide +kernel
theorem dX8_giveOwn_11 : decode cX8_giveOwn 11 = .ok (.invokevirtual 204, 3) := by decide +kernel
theorem dX8_giveOwn_14 : decode cX8_giveOwn 14 = .ok (.ifCond .ne 5, 3) := by decide +kernel
theorem dX8_giveOwn_17 : decode cX8_giveOwn 17 = .ok (.iconst 0, 1) := by decide +kernel
theorem dX8_giveOwn_18 : decode cX8_giveOwn 18 = .ok (.ireturn, 1) := by decide +kernel
theorem dX8_giveOwn_19 : decode cX8_giveOwn 19 = .ok (.aload_n 0, 1) := by decide +kernel
theorem dX8_giveOwn_20 : decode cX8_giveOwn 20 = .ok (.getfield 18, 3) := by decide +kernel
theorem dX8_giveOwn_23 : decode cX8_giveOwn 23 = .ok (.iload_n 1, 1) := by decide +kernel
theorem dX8_giveOwn_24 : decode cX8_giveOwn 24 = .ok (.iload_n 2, 1) := by decide +kernel
theorem dX8_giveOwn_25 : decode cX8_giveOwn 25 = .ok (.iload_n 3, 1) := by decide +kernel
theorem dX8_giveOwn_26 : decode cX8_giveOwn 26 = .ok (.iload 4, 2) := by decide +kernel
theorem dX8_giveOwn_28 : decode cX8_giveOwn 28 = .ok (.invokevirtual 215, 3) := by decide +kernel
theorem dX8_giveOwn_31 : decode cX8_giveOwn 31 = .ok (.iconst 1, 1) := by decide +kernel
theorem dX8_giveOwn_32 : decode cX8_giveOwn 32 = .ok (.ireturn, 1) := by decide +kernel
set_option maxHeartbeats 4000000 in
set_option maxRecDepth 100000 in
theorem c_X8_giveOwn (l : Launch) {cs : Nat → ClassId} {ad : Nat → Nat} {A : Nat → Prop} {D : va_G} (hJ : hp_J SB ad A)   {h : hp_H} {a1 a2 a3 a4 : Int32} {Q : Int32 → hp_H → Prop} (hq : q_X8_giveOwn h a1 a2 a3 a4 Q) : hp_Mi l yX8_giveOwn cX8_giveOwn 5 (some .boolean) rm_X8_giveOwn [.ref (ad 44), .int a1, .int a2, .int a3, .int a4] SB cs ad A D h Q := by
  refine hp_met (own := RX8) rfl (by decide) (Nat.le_of_ble_eq_true rfl) rfl (fun p e s m args below meth c Z E hZ hnm => ?_)
  refine hp_sub (lv' := [(0, .ref (ad 44)), (1, .int a1), (2, .int a2), (3, .int a3), (4, .int a4)]) [0, 1, 2, 3, 4] rfl ?_
  unfold q_X8_giveOwn at hq
  refine hp_aload_n E 0 dX8_giveOwn_0 rfl rfl ?_
  refine hp_gR E g_RX8_25 fB_44_0 dX8_giveOwn_1 ?_
  refine hp_gR E g_RX8_212 fB_1_1 dX8_giveOwn_4 ?_
  refine hp_iload_n E 1 dX8_giveOwn_7 rfl rfl ?_
  refine hp_iload_n E 3 dX8_giveOwn_8 rfl rfl ?_
  refine hp_iload E 4 dX8_giveOwn_9 rfl ?_
  refine hp_callVip (rest := []) E 7 fB_7_0 vcl_10 (c_X10_allows l hJ fB_7_0 fB_7_1 fB_7_2 fB_7_3 fB_7_4 aB_8 aB_9 aB_10 aB_11 zB_8 zB_9 zB_10 zB_11 hq) F_X10_allows m_RX8_204 ⟨rfl, rfl⟩ ⟨Nat.le_of_ble_eq_true rfl, Nat.le_of_ble_eq_true rfl⟩ ⟨Nat.zero_le _, Nat.zero_le _⟩ rfl rfl (Nat.le_of_ble_eq_true rfl) dX8_giveOwn_11 (fun r1 hq => ?_)
  refine hp_if_ne E 19 dX8_giveOwn_14 (by decide) (fun c2 => ?_) (fun c2 => ?_)
  · replace hq := hq.2 c2
    refine hp_aload_n E 0 dX8_giveOwn_19 rfl rfl ?_
    refine hp_gR E g_RX8_18 fB_44_3 dX8_giveOwn_20 ?_
    refine hp_iload_n E 1 dX8_giveOwn_23 rfl rfl ?_
    refine hp_iload_n E 2 dX8_giveOwn_24 rfl rfl ?_
    refine hp_iload_n E 3 dX8_giveOwn_25 rfl rfl ?_
    refine hp_iload E 4 dX8_giveOwn_26 rfl ?_
    refine hp_callVv' (rest := []) E 47 fB_47_0 vcl_7 (c_X7_setOwn l hJ fB_47_0 aB_48 zB_48 hq) F_X7_setOwn m_RX8_215 ⟨rfl, rfl⟩ ⟨Nat.le_of_ble_eq_true rfl, Nat.le_of_ble_eq_true rfl⟩ ⟨Nat.zero_le _, Nat.zero_le _⟩ rfl rfl (Nat.le_of_ble_eq_true rfl) dX8_giveOwn_28 (fun h3 hq => ?_)
    refine hp_iconst E (nI 1) dX8_giveOwn_31 (by decide) ?_
    exact hp_zret E (by unfold hp_bz; decide) hq hZ dX8_giveOwn_32
  · replace hq := hq.1 c2
    refine hp_iconst E (nI 0) dX8_giveOwn_17 (by decide) ?_
    exact hp_zret E (by unfold hp_bz; decide) hq hZ dX8_giveOwn_18
theorem dX11_isDigit_0 : decode cX11_isDigit 0 = .ok (.iload_n 0, 1) := by decide +kernel
theorem dX11_isDigit_1 : decode cX11_isDigit 1 = .ok (.ifCond .lt 13, 3) := by decide +kernel
theorem dX11_isDigit_4 : decode cX11_isDigit 4 = .ok (.iload_n 0, 1) := by decide +kernel
theorem dX11_isDigit_5 : decode cX11_isDigit 5 = .ok (.bipush 9, 2) := by decide +kernel
theorem dX11_isDigit_7 : decode cX11_isDigit 7 = .ok (.if_icmp .gt 7, 3) := by decide +kernel
theorem dX11_isDigit_10 : decode cX11_isDigit 10 = .ok (.iconst 1, 1) := by decide +kernel
theorem dX11_isDigit_11 : decode cX11_isDigit 11 = .ok (.goto 4, 3) := by decide +kernel
theorem dX11_isDigit_14 : decode cX11_isDigit 14 = .ok (.iconst 0, 1) := by decide +kernel
theorem dX11_isDigit_15 : decode cX11_isDigit 15 = .ok (.ireturn, 1) := by decide +kernel
set_option maxHeartbeats 4000000 in
set_option maxRecDepth 100000 in
theorem c_X11_isDigit (l : Launch) {cs : Nat → ClassId} {ad : Nat → Nat} {A : Nat → Prop} {D : va_G} (hJ : hp_J SB ad A)   {h : hp_H} {a0 : Int32} {Q : Int32 → Prop} (hq : q_X11_isDigit a0 Q) : hp_Mi l yX11_isDigit cX11_isDigit 1 (some .boolean) rm_X11_isDigit [.int a0] SB cs ad A D h (fun r h' => Q r ∧ h' = h) := by
  refine hp_met (own := RX11) rfl (by decide) (Nat.le_of_ble_eq_true rfl) rfl (fun p e s m args below meth c Z E hZ hnm => ?_)
  refine hp_sub (lv' := [(0, .int a0)]) [0] rfl ?_
  unfold q_X11_isDigit at hq
  refine hp_iload_n E 0 dX11_isDigit_0 rfl rfl ?_
  refine hp_if_lt E 14 dX11_isDigit_1 (by decide) (fun c1 => ?_) (fun c1 => ?_)
  · replace hq := hq.1 c1
    refine hp_iconst E (nI 0) dX11_isDigit_14 (by decide) ?_
    exact hp_zret E (by unfold hp_bz; decide) ⟨hq, rfl⟩ hZ dX11_isDigit_15
  · replace hq := hq.2 c1
    refine hp_iload_n E 0 dX11_isDigit_4 rfl rfl ?_
    refine hp_bipush E (nI 9) dX11_isDigit_5 (by decide) ?_
    refine hp_icmp_gt E 14 dX11_isDigit_7 (by decide) (fun c2 => ?_) (fun c2 => ?_)
    · replace hq := hq.1 c2
      refine hp_iconst E (nI 0) dX11_isDigit_14 (by decide) ?_
      exact hp_zret E (by unfold hp_bz; decide) ⟨hq, rfl⟩ hZ dX11_isDigit_15
    · replace hq := hq.2 c2
      refine hp_iconst E (nI 1) dX11_isDigit_10 (by decide) ?_
      refine hp_goto E 15 dX11_isDigit_11 (by decide) ?_
      exact hp_zret E (by unfold hp_bz; decide) ⟨hq, rfl⟩ hZ dX11_isDigit_15
theorem dX8_send_0 : decode cX8_send 0 = .ok (.iload_n 2, 1) := by decide +kernel
theorem dX8_send_1 : decode cX8_send 1 = .ok (.invokestatic 218, 3) := by decide +kernel
theorem dX8_send_4 : decode cX8_send 4 = .ok (.ifCond .ne 5, 3) := by decide +kernel
theorem dX8_send_7 : decode cX8_send 7 = .ok (.iconst 0, 1) := by decide +kernel
theorem dX8_send_8 : decode cX8_send 8 = .ok (.ireturn, 1) := by decide +kernel
theorem dX8_send_9 : decode cX8_send 9 = .ok (.aload_n 0, 1) := by decide +kernel
theorem dX8_send_10 : decode cX8_send 10 = .ok (.getfield 18, 3) := by decide +kernel
theorem dX8_send_13 : decode cX8_send 13 = .ok (.iload_n 1, 1) := by decide +kernel
theorem dX8_send_14 : decode cX8_send 14 = .ok (.iload_n 2, 1) := by decide +kernel
theorem dX8_send_15 : decode cX8_send 15 = .ok (.invokevirtual 221, 3) := by decide +kernel
theorem dX8_send_18 : decode cX8_send 18 = .ok (.iconst 1, 1) := by decide +kernel
theorem dX8_send_19 : decode cX8_send 19 = .ok (.ireturn, 1) := by decide +kernel
set_option maxHeartbeats 4000000 in
set_option maxRecDepth 100000 in
theorem c_X8_send (l : Launch) {cs : Nat → ClassId} {ad : Nat → Nat} {A : Nat → Prop} {D : va_G} (hJ : hp_J SB ad A)   {h : hp_H} {a1 a2 : Int32} {Q : Int32 → hp_H → Prop} (hq : q_X8_send h a1 a2 Q) : hp_Mi l yX8_send cX8_send 3 (some .boolean) rm_X8_send [.ref (ad 44), .int a1, .int a2] SB cs ad A D h Q := by
  refine hp_met (own := RX8) rfl (by decide) (Nat.le_of_ble_eq_true rfl) rfl (fun p e s m args below meth c Z E hZ hnm => ?_)
  refine hp_sub (lv' := [(0, .ref (ad 44)), (1, .int a1), (2, .int a2)]) [0, 1, 2] rfl ?_
  unfold q_X8_send at hq
  refine hp_iload_n E 2 dX8_send_0 rfl rfl ?_
  refine hp_callSNip (rest := []) E (c_X11_isDigit l hJ hq) F_X11_isDigit m_RX8_218 ⟨rfl, rfl⟩ ⟨Nat.le_of_ble_eq_true rfl, Nat.le_of_ble_eq_true rfl⟩ ⟨Nat.zero_le _, Nat.zero_le _⟩ rfl rfl (Nat.le_of_ble_eq_true rfl) dX8_send_1 (fun r1 hq => ?_)
  refine hp_if_ne E 9 dX8_send_4 (by decide) (fun c2 => ?_) (fun c2 => ?_)
  · replace hq := hq.2 c2
    refine hp_aload_n E 0 dX8_send_9 rfl rfl ?_
    refine hp_gR E g_RX8_18 fB_44_3 dX8_send_10 ?_
    refine hp_iload_n E 1 dX8_send_13 rfl rfl ?_
    refine hp_iload_n E 2 dX8_send_14 rfl rfl ?_
    refine hp_callVv' (rest := []) E 47 fB_47_0 vcl_7 (c_X7_put l hJ fB_47_0 aB_48 zB_48 hq) F_X7_put m_RX8_221 ⟨rfl, rfl⟩ ⟨Nat.le_of_ble_eq_true rfl, Nat.le_of_ble_eq_true rfl⟩ ⟨Nat.zero_le _, Nat.zero_le _⟩ rfl rfl (Nat.le_of_ble_eq_true rfl) dX8_send_15 (fun h3 hq => ?_)
    refine hp_iconst E (nI 1) dX8_send_18 (by decide) ?_
    exact hp_zret E (by unfold hp_bz; decide) hq hZ dX8_send_19
  · replace hq := hq.1 c2
    refine hp_iconst E (nI 0) dX8_send_7 (by decide) ?_
    exact hp_zret E (by unfold hp_bz; decide) hq hZ dX8_send_8
theorem dX8_doActs_0 : decode cX8_doActs 0 = .ok (.aload_n 0, 1) := by decide +kernel
theorem dX8_doActs_1 : decode cX8_doActs 1 = .ok (.getfield 25, 3) := by decide +kernel
theorem dX8_doActs_4 : decode cX8_doActs 4 = .ok (.getfield 86, 3) := by decide +kernel
theorem dX8_doActs_7 : decode cX8_doActs 7 = .ok (.astore 4, 2) := by decide +kernel
theorem dX8_doActs_9 : decode cX8_doActs 9 = .ok (.iconst 0, 1) := by decide +kernel
theorem dX8_doActs_10 : decode cX8_doActs 10 = .ok (.istore 5, 2) := by decide +kernel
theorem dX8_doActs_12 : decode cX8_doActs 12 = .ok (.iload 5, 2) := by decide +kernel
theorem dX8_doActs_14 : decode cX8_doActs 14 = .ok (.aload 4, 2) := by decide +kernel
theorem dX8_doActs_16 : decode cX8_doActs 16 = .ok (.getfield 126, 3) := by decide +kernel
theorem dX8_doActs_19 : decode cX8_doActs 19 = .ok (.iload_n 3, 1) := by decide +kernel
theorem dX8_doActs_20 : decode cX8_doActs 20 = .ok (.iaload, 1) := by decide +kernel
theorem dX8_doActs_21 : decode cX8_doActs 21 = .ok (.if_icmp .ge 208, 3) := by decide +kernel
theorem dX8_doActs_24 : decode cX8_doActs 24 = .ok (.iload_n 3, 1) := by decide +kernel
theorem dX8_doActs_25 : decode cX8_doActs 25 = .ok (.iconst 4, 1) := by decide +kernel
theorem dX8_doActs_26 : decode cX8_doActs 26 = .ok (.imul, 1) := by decide +kernel
theorem dX8_doActs_27 : decode cX8_doActs 27 = .ok (.iload 5, 2) := by decide +kernel
theorem dX8_doActs_29 : decode cX8_doActs 29 = .ok (.iadd, 1) := by decide +kernel
theorem dX8_doActs_30 : decode cX8_doActs 30 = .ok (.istore 6, 2) := by decide +kernel
theorem dX8_doActs_32 : decode cX8_doActs 32 = .ok (.aload 4, 2) := by decide +kernel
theorem dX8_doActs_34 : decode cX8_doActs 34 = .ok (.getfield 129, 3) := by decide +kernel
theorem dX8_doActs_37 : decode cX8_doActs 37 = .ok (.iload 6, 2) := by decide +kernel
theorem dX8_doActs_39 : decode cX8_doActs 39 = .ok (.iaload, 1) := by decide +kernel
theorem dX8_doActs_40 : decode cX8_doActs 40 = .ok (.istore 7, 2) := by decide +kernel
theorem dX8_doActs_42 : decode cX8_doActs 42 = .ok (.aload 4, 2) := by decide +kernel
theorem dX8_doActs_44 : decode cX8_doActs 44 = .ok (.getfield 132, 3) := by decide +kernel
theorem dX8_doActs_47 : decode cX8_doActs 47 = .ok (.iload 6, 2) := by decide +kernel
theorem dX8_doActs_49 : decode cX8_doActs 49 = .ok (.iaload, 1) := by decide +kernel
theorem dX8_doActs_50 : decode cX8_doActs 50 = .ok (.tableswitch 118 0 2 #[26, 56, 88], 26) := by decide +kernel
theorem dX8_doActs_76 : decode cX8_doActs 76 = .ok (.aload_n 0, 1) := by decide +kernel
theorem dX8_doActs_77 : decode cX8_doActs 77 = .ok (.iload 7, 2) := by decide +kernel
theorem dX8_doActs_79 : decode cX8_doActs 79 = .ok (.aload_n 0, 1) := by decide +kernel
theorem dX8_doActs_80 : decode cX8_doActs 80 = .ok (.getfield 25, 3) := by decide +kernel
theorem dX8_doActs_83 : decode cX8_doActs 83 = .ok (.getfield 103, 3) := by decide +kernel
theorem dX8_doActs_86 : decode cX8_doActs 86 = .ok (.getfield 123, 3) := by decide +kernel
theorem dX8_doActs_89 : decode cX8_doActs 89 = .ok (.aload 4, 2) := by decide +kernel
theorem dX8_doActs_91 : decode cX8_doActs 91 = .ok (.getfield 180, 3) := by decide +kernel
theorem dX8_doActs_94 : decode cX8_doActs 94 = .ok (.iload 6, 2) := by decide +kernel
theorem dX8_doActs_96 : decode cX8_doActs 96 = .ok (.iaload, 1) := by decide +kernel
theorem dX8_doActs_97 : decode cX8_doActs 97 = .ok (.iaload, 1) := by decide +kernel
theorem dX8_doActs_98 : decode cX8_doActs 98 = .ok (.invokevirtual 183, 3) := by decide +kernel
theorem dX8_doActs_101 : decode cX8_doActs 101 = .ok (.istore 8, 2) := by decide +kernel
theorem dX8_doActs_103 : decode cX8_doActs 103 = .ok (.goto 113, 3) := by decide +kernel
theorem dX8_doActs_106 : decode cX8_doActs 106 = .ok (.aload_n 0, 1) := by decide +kernel
theorem dX8_doActs_107 : decode cX8_doActs 107 = .ok (.iload_n 1, 1) := by decide +kernel
theorem dX8_doActs_108 : decode cX8_doActs 108 = .ok (.iload_n 2, 1) := by decide +kernel
theorem dX8_doActs_109 : decode cX8_doActs 109 = .ok (.iload 7, 2) := by decide +kernel
theorem dX8_doActs_111 : decode cX8_doActs 111 = .ok (.aload_n 0, 1) := by decide +kernel
theorem dX8_doActs_112 : decode cX8_doActs 112 = .ok (.getfield 25, 3) := by decide +kernel
theorem dX8_doActs_115 : decode cX8_doActs 115 = .ok (.getfield 103, 3) := by decide +kernel
theorem dX8_doActs_118 : decode cX8_doActs 118 = .ok (.getfield 123, 3) := by decide +kernel
theorem dX8_doActs_121 : decode cX8_doActs 121 = .ok (.aload 4, 2) := by decide +kernel
theorem dX8_doActs_123 : decode cX8_doActs 123 = .ok (.getfield 180, 3) := by decide +kernel
theorem dX8_doActs_126 : decode cX8_doActs 126 = .ok (.iload 6, 2) := by decide +kernel
theorem dX8_doActs_128 : decode cX8_doActs 128 = .ok (.iaload, 1) := by decide +kernel
theorem dX8_doActs_129 : decode cX8_doActs 129 = .ok (.iaload, 1) := by decide +kernel
theorem dX8_doActs_130 : decode cX8_doActs 130 = .ok (.invokevirtual 187, 3) := by decide +kernel
theorem dX8_doActs_133 : decode cX8_doActs 133 = .ok (.istore 8, 2) := by decide +kernel
theorem dX8_doActs_135 : decode cX8_doActs 135 = .ok (.goto 81, 3) := by decide +kernel
theorem dX8_doActs_138 : decode cX8_doActs 138 = .ok (.aload_n 0, 1) := by decide +kernel
theorem dX8_doActs_139 : decode cX8_doActs 139 = .ok (.iload 7, 2) := by decide +kernel
theorem dX8_doActs_141 : decode cX8_doActs 141 = .ok (.aload_n 0, 1) := by decide +kernel
theorem dX8_doActs_142 : decode cX8_doActs 142 = .ok (.getfield 25, 3) := by decide +kernel
theorem dX8_doActs_145 : decode cX8_doActs 145 = .ok (.getfield 103, 3) := by decide +kernel
theorem dX8_doActs_148 : decode cX8_doActs 148 = .ok (.getfield 123, 3) := by decide +kernel
theorem dX8_doActs_151 : decode cX8_doActs 151 = .ok (.aload 4, 2) := by decide +kernel
theorem dX8_doActs_153 : decode cX8_doActs 153 = .ok (.getfield 180, 3) := by decide +kernel
theorem dX8_doActs_156 : decode cX8_doActs 156 = .ok (.iload 6, 2) := by decide +kernel
theorem dX8_doActs_158 : decode cX8_doActs 158 = .ok (.iaload, 1) := by decide +kernel
theorem dX8_doActs_159 : decode cX8_doActs 159 = .ok (.iaload, 1) := by decide +kernel
theorem dX8_doActs_160 : decode cX8_doActs 160 = .ok (.invokevirtual 191, 3) := by decide +kernel
theorem dX8_doActs_163 : decode cX8_doActs 163 = .ok (.istore 8, 2) := by decide +kernel
theorem dX8_doActs_165 : decode cX8_doActs 165 = .ok (.goto 51, 3) := by decide +kernel
theorem dX8_doActs_168 : decode cX8_doActs 168 = .ok (.aload_n 0, 1) := by decide +kernel
theorem dX8_doActs_169 : decode cX8_doActs 169 = .ok (.getfield 18, 3) := by decide +kernel
theorem dX8_doActs_172 : decode cX8_doActs 172 = .ok (.iload 7, 2) := by decide +kernel
theorem dX8_doActs_174 : decode cX8_doActs 174 = .ok (.aload_n 0, 1) := by decide +kernel
theorem dX8_doActs_175 : decode cX8_doActs 175 = .ok (.getfield 21, 3) := by decide +kernel
theorem dX8_doActs_178 : decode cX8_doActs 178 = .ok (.iload 5, 2) := by decide +kernel
theorem dX8_doActs_180 : decode cX8_doActs 180 = .ok (.iaload, 1) := by decide +kernel
theorem dX8_doActs_181 : decode cX8_doActs 181 = .ok (.invokevirtual 194, 3) := by decide +kernel
theorem dX8_doActs_184 : decode cX8_doActs 184 = .ok (.aload_n 0, 1) := by decide +kernel
theorem dX8_doActs_185 : decode cX8_doActs 185 = .ok (.iload_n 1, 1) := by decide +kernel
theorem dX8_doActs_186 : decode cX8_doActs 186 = .ok (.iload_n 2, 1) := by decide +kernel
theorem dX8_doActs_187 : decode cX8_doActs 187 = .ok (.aload 4, 2) := by decide +kernel
theorem dX8_doActs_189 : decode cX8_doActs 189 = .ok (.getfield 180, 3) := by decide +kernel
theorem dX8_doActs_192 : decode cX8_doActs 192 = .ok (.iload 6, 2) := by decide +kernel
theorem dX8_doActs_194 : decode cX8_doActs 194 = .ok (.iaload, 1) := by decide +kernel
theorem dX8_doActs_195 : decode cX8_doActs 195 = .ok (.aload_n 0, 1) := by decide +kernel
theorem dX8_doActs_196 : decode cX8_doActs 196 = .ok (.getfield 12, 3) := by decide +kernel
theorem dX8_doActs_199 : decode cX8_doActs 199 = .ok (.iload 7, 2) := by decide +kernel
theorem dX8_doActs_201 : decode cX8_doActs 201 = .ok (.aload_n 0, 1) := by decide +kernel
theorem dX8_doActs_202 : decode cX8_doActs 202 = .ok (.getfield 21, 3) := by decide +kernel
theorem dX8_doActs_205 : decode cX8_doActs 205 = .ok (.iload 5, 2) := by decide +kernel
theorem dX8_doActs_207 : decode cX8_doActs 207 = .ok (.iaload, 1) := by decide +kernel
theorem dX8_doActs_208 : decode cX8_doActs 208 = .ok (.invokevirtual 197, 3) := by decide +kernel
theorem dX8_doActs_211 : decode cX8_doActs 211 = .ok (.invokevirtual 187, 3) := by decide +kernel
theorem dX8_doActs_214 : decode cX8_doActs 214 = .ok (.istore 8, 2) := by decide +kernel
theorem dX8_doActs_216 : decode cX8_doActs 216 = .ok (.iload 8, 2) := by decide +kernel
theorem dX8_doActs_218 : decode cX8_doActs 218 = .ok (.ifCond .ne 5, 3) := by decide +kernel
theorem dX8_doActs_221 : decode cX8_doActs 221 = .ok (.iconst 0, 1) := by decide +kernel
theorem dX8_doActs_222 : decode cX8_doActs 222 = .ok (.ireturn, 1) := by decide +kernel
theorem dX8_doActs_223 : decode cX8_doActs 223 = .ok (.iinc 5 1, 3) := by decide +kernel
theorem dX8_doActs_226 : decode cX8_doActs 226 = .ok (.goto (-214), 3) := by decide +kernel
theorem dX8_doActs_229 : decode cX8_doActs 229 = .ok (.iconst 1, 1) := by decide +kernel
theorem dX8_doActs_230 : decode cX8_doActs 230 = .ok (.ireturn, 1) := by decide +kernel
set_option maxHeartbeats 4000000 in
set_option maxRecDepth 100000 in
theorem c_X8_doActs (l : Launch) {cs : Nat → ClassId} {ad : Nat → Nat} {A : Nat → Prop} {D : va_G} (hJ : hp_J SB ad A)   {h : hp_H} {a1 a2 a3 : Int32} {Q : Int32 → hp_H → Prop} (hq : q_X8_doActs h a1 a2 a3 Q) : hp_Mi l yX8_doActs cX8_doActs 9 (some .boolean) rm_X8_doActs [.ref (ad 44), .int a1, .int a2, .int a3] SB cs ad A D h Q := by
  refine hp_met (own := RX8) rfl (by decide) (Nat.le_of_ble_eq_true rfl) rfl (fun p e s m args below meth c Z E hZ hnm => ?_)
  refine hp_sub (lv' := [(0, .ref (ad 44)), (1, .int a1), (2, .int a2), (3, .int a3)]) [0, 1, 2, 3] rfl ?_
  unfold q_X8_doActs at hq
  refine hp_aload_n E 0 dX8_doActs_0 rfl rfl ?_
  refine hp_gR E g_RX8_25 fB_44_0 dX8_doActs_1 ?_
  refine hp_gR E g_RX8_86 fB_1_4 dX8_doActs_4 ?_
  refine hp_astore (lv' := [(0, .ref (ad 44)), (1, .int a1), (2, .int a2), (3, .int a3), (4, .ref (ad 23))]) E dX8_doActs_7 (by decide) rfl rfl ?_
  refine hp_iconst E (nI 0) dX8_doActs_9 (by decide) ?_
  refine hp_istore (lv' := [(0, .ref (ad 44)), (1, .int a1), (2, .int a2), (3, .int a3), (4, .ref (ad 23)), (5, .int (nI 0))]) E dX8_doActs_10 (by decide) rfl rfl ?_
  refine hq (fun v2 h3 => hp_G p l e rm_X8_doActs s m args below meth c SB cs ad A D 9 0 0 Z 12 [(0, .ref (ad 44)), (1, .int a1), (2, .int a2), (3, .int a3), (4, .ref (ad 23)), (5, .int v2)] [] h3) (fun v2 h3 hB => ?_)
  obtain ⟨B1, hq, hB1⟩ := hB
  refine hp_iload E 5 dX8_doActs_12 rfl ?_
  refine hp_aload E 4 dX8_doActs_14 rfl ?_
  refine hp_gR E g_RX8_126 fB_23_4 dX8_doActs_16 ?_
  refine hp_iload_n E 3 dX8_doActs_19 rfl rfl ?_
  refine hp_iald E 28 aB_28 hq.1 dX8_doActs_20 ?_
  replace hq := hq.2
  refine hp_icmp_ge E 229 dX8_doActs_21 (by decide) (fun c4 => ?_) (fun c4 => ?_)
  · replace hq := hq.1 c4
    refine hp_iconst E (nI 1) dX8_doActs_229 (by decide) ?_
    exact hp_zret E (by unfold hp_bz; decide) hq hZ dX8_doActs_230
  · replace hq := hq.2 c4
    refine hp_iload_n E 3 dX8_doActs_24 rfl rfl ?_
    refine hp_iconst E (nI 4) dX8_doActs_25 (by decide) ?_
    refine hp_imul E dX8_doActs_26 ?_
    refine hp_iload E 5 dX8_doActs_27 rfl ?_
    refine hp_iadd E dX8_doActs_29 ?_
    refine hp_topi (fun v5 ev5 => ?_)
    replace hq := hq v5 ev5
    refine hp_istore (lv' := [(0, .ref (ad 44)), (1, .int a1), (2, .int a2), (3, .int a3), (4, .ref (ad 23)), (5, .int v2), (6, .int v5)]) E dX8_doActs_30 (by decide) rfl rfl ?_
    refine hp_aload E 4 dX8_doActs_32 rfl ?_
    refine hp_gR E g_RX8_129 fB_23_6 dX8_doActs_34 ?_
    refine hp_iload E 6 dX8_doActs_37 rfl ?_
    refine hp_iald E 30 aB_30 hq.1 dX8_doActs_39 ?_
    replace hq := hq.2
    refine hp_topi (fun v6 ev6 => ?_)
    replace hq := hq v6 ev6
    refine hp_istore (lv' := [(0, .ref (ad 44)), (1, .int a1), (2, .int a2), (3, .int a3), (4, .ref (ad 23)), (5, .int v2), (6, .int v5), (7, .int v6)]) E dX8_doActs_40 (by decide) rfl rfl ?_
    refine hp_aload E 4 dX8_doActs_42 rfl ?_
    refine hp_gR E g_RX8_132 fB_23_5 dX8_doActs_44 ?_
    refine hp_iload E 6 dX8_doActs_47 rfl ?_
    refine hp_iald E 29 aB_29 hq.1 dX8_doActs_49 ?_
    replace hq := hq.2
    refine hp_topi (fun v7 ev7 => ?_)
    replace hq := hq v7 ev7
    obtain ⟨K8, hq, hK8⟩ := hq
    have jK8 : ∀ (v9 : Int32) (h10 : hp_H), K8 v9 h10 → hp_G p l e rm_X8_doActs s m args below meth c SB cs ad A D 9 0 0 Z 216 [(0, .ref (ad 44)), (1, .int a1), (2, .int a2), (3, .int a3), (4, .ref (ad 23)), (5, .int v2), (8, .int v9)] [] h10 := by
      intro v9 h10 hq
      replace hq := hK8 v9 h10 hq
      refine hp_iload E 6 dX8_doActs_216 rfl ?_
      refine hp_if_ne E 223 dX8_doActs_218 (by decide) (fun c24 => ?_) (fun c24 => ?_)
      · replace hq := hq.2 c24
        obtain ⟨v25, ev25⟩ : ∃ z : Int32, z = v2 + (nI 1) := ⟨_, rfl⟩
        replace hq := hq v25 ev25
        refine hp_iinc (lv' := [(0, .ref (ad 44)), (1, .int a1), (2, .int a2), (3, .int a3), (4, .ref (ad 23)), (5, .int v25), (8, .int v9)]) E 5 v25 dX8_doActs_223 rfl (by rw [ev25]; rfl) (by decide) rfl rfl ?_
        refine hp_goto E 12 dX8_doActs_226 (by decide) ?_
        refine hp_sub (lv' := [(0, .ref (ad 44)), (1, .int a1), (2, .int a2), (3, .int a3), (4, .ref (ad 23)), (5, .int v25)]) [0, 1, 2, 3, 4, 5] rfl ?_
        exact hB1 _ _ hq
      · replace hq := hq.1 c24
        refine hp_iconst E (nI 0) dX8_doActs_221 (by decide) ?_
        exact hp_zret E (by unfold hp_bz; decide) hq hZ dX8_doActs_222
    by_cases c21 : v7 = (nI 0)
    · replace hq := hq.1 (c21)
      refine hp_tswV (off := 26) E (nI 0) 76 dX8_doActs_50 c21 (by decide) (by decide) (by decide) (by decide) ?_
      refine hp_aload_n E 0 dX8_doActs_76 rfl rfl ?_
      refine hp_iload E 7 dX8_doActs_77 rfl ?_
      refine hp_aload_n E 0 dX8_doActs_79 rfl rfl ?_
      refine hp_gR E g_RX8_25 fB_44_0 dX8_doActs_80 ?_
      refine hp_gR E g_RX8_103 fB_1_3 dX8_doActs_83 ?_
      refine hp_gR E g_RX8_123 fB_15_0 dX8_doActs_86 ?_
      refine hp_aload E 4 dX8_doActs_89 rfl ?_
      refine hp_gR E g_RX8_180 fB_23_7 dX8_doActs_91 ?_
      refine hp_iload E 6 dX8_doActs_94 rfl ?_
      refine hp_iald E 31 aB_31 hq.1 dX8_doActs_96 ?_
      replace hq := hq.2
      refine hp_iald E 16 aB_16 hq.1 dX8_doActs_97 ?_
      replace hq := hq.2
      refine hp_callVi' (rest := []) E 44 fB_44_0 vcl_8 (c_X8_giveShared l hJ hq) F_X8_giveShared m_RX8_183 ⟨rfl, rfl⟩ ⟨Nat.le_of_ble_eq_true rfl, Nat.le_of_ble_eq_true rfl⟩ ⟨Nat.zero_le _, Nat.zero_le _⟩ rfl rfl (Nat.le_of_ble_eq_true rfl) dX8_doActs_98 (fun r11 h12 hq => ?_)
      refine hp_istore (lv' := [(0, .ref (ad 44)), (1, .int a1), (2, .int a2), (3, .int a3), (4, .ref (ad 23)), (5, .int v2), (6, .int v5), (7, .int v6), (8, .int r11)]) E dX8_doActs_101 (by decide) rfl rfl ?_
      refine hp_goto E 216 dX8_doActs_103 (by decide) ?_
      refine hp_sub (lv' := [(0, .ref (ad 44)), (1, .int a1), (2, .int a2), (3, .int a3), (4, .ref (ad 23)), (5, .int v2), (8, .int r11)]) [0, 1, 2, 3, 4, 5, 8] rfl ?_
      exact jK8 _ _ hq
    by_cases c22 : v7 = (nI 1)
    · replace hq := hq.2.1 (c22)
      refine hp_tswV (off := 56) E (nI 1) 106 dX8_doActs_50 c22 (by decide) (by decide) (by decide) (by decide) ?_
      refine hp_aload_n E 0 dX8_doActs_106 rfl rfl ?_
      refine hp_iload_n E 1 dX8_doActs_107 rfl rfl ?_
      refine hp_iload_n E 2 dX8_doActs_108 rfl rfl ?_
      refine hp_iload E 7 dX8_doActs_109 rfl ?_
      refine hp_aload_n E 0 dX8_doActs_111 rfl rfl ?_
      refine hp_gR E g_RX8_25 fB_44_0 dX8_doActs_112 ?_
      refine hp_gR E g_RX8_103 fB_1_3 dX8_doActs_115 ?_
      refine hp_gR E g_RX8_123 fB_15_0 dX8_doActs_118 ?_
      refine hp_aload E 4 dX8_doActs_121 rfl ?_
      refine hp_gR E g_RX8_180 fB_23_7 dX8_doActs_123 ?_
      refine hp_iload E 6 dX8_doActs_126 rfl ?_
      refine hp_iald E 31 aB_31 hq.1 dX8_doActs_128 ?_
      replace hq := hq.2
      refine hp_iald E 16 aB_16 hq.1 dX8_doActs_129 ?_
      replace hq := hq.2
      refine hp_callVi' (rest := []) E 44 fB_44_0 vcl_8 (c_X8_giveOwn l hJ hq) F_X8_giveOwn m_RX8_187 ⟨rfl, rfl⟩ ⟨Nat.le_of_ble_eq_true rfl, Nat.le_of_ble_eq_true rfl⟩ ⟨Nat.zero_le _, Nat.zero_le _⟩ rfl rfl (Nat.le_of_ble_eq_true rfl) dX8_doActs_130 (fun r13 h14 hq => ?_)
      refine hp_istore (lv' := [(0, .ref (ad 44)), (1, .int a1), (2, .int a2), (3, .int a3), (4, .ref (ad 23)), (5, .int v2), (6, .int v5), (7, .int v6), (8, .int r13)]) E dX8_doActs_133 (by decide) rfl rfl ?_
      refine hp_goto E 216 dX8_doActs_135 (by decide) ?_
      refine hp_sub (lv' := [(0, .ref (ad 44)), (1, .int a1), (2, .int a2), (3, .int a3), (4, .ref (ad 23)), (5, .int v2), (8, .int r13)]) [0, 1, 2, 3, 4, 5, 8] rfl ?_
      exact jK8 _ _ hq
    by_cases c23 : v7 = (nI 2)
    · replace hq := hq.2.2.1 (c23)
      refine hp_tswV (off := 88) E (nI 2) 138 dX8_doActs_50 c23 (by decide) (by decide) (by decide) (by decide) ?_
      refine hp_aload_n E 0 dX8_doActs_138 rfl rfl ?_
      refine hp_iload E 7 dX8_doActs_139 rfl ?_
      refine hp_aload_n E 0 dX8_doActs_141 rfl rfl ?_
      refine hp_gR E g_RX8_25 fB_44_0 dX8_doActs_142 ?_
      refine hp_gR E g_RX8_103 fB_1_3 dX8_doActs_145 ?_
      refine hp_gR E g_RX8_123 fB_15_0 dX8_doActs_148 ?_
      refine hp_aload E 4 dX8_doActs_151 rfl ?_
      refine hp_gR E g_RX8_180 fB_23_7 dX8_doActs_153 ?_
      refine hp_iload E 6 dX8_doActs_156 rfl ?_
      refine hp_iald E 31 aB_31 hq.1 dX8_doActs_158 ?_
      replace hq := hq.2
      refine hp_iald E 16 aB_16 hq.1 dX8_doActs_159 ?_
      replace hq := hq.2
      refine hp_callVi' (rest := []) E 44 fB_44_0 vcl_8 (c_X8_send l hJ hq) F_X8_send m_RX8_191 ⟨rfl, rfl⟩ ⟨Nat.le_of_ble_eq_true rfl, Nat.le_of_ble_eq_true rfl⟩ ⟨Nat.zero_le _, Nat.zero_le _⟩ rfl rfl (Nat.le_of_ble_eq_true rfl) dX8_doActs_160 (fun r15 h16 hq => ?_)
      refine hp_istore (lv' := [(0, .ref (ad 44)), (1, .int a1), (2, .int a2), (3, .int a3), (4, .ref (ad 23)), (5, .int v2), (6, .int v5), (7, .int v6), (8, .int r15)]) E dX8_doActs_163 (by decide) rfl rfl ?_
      refine hp_goto E 216 dX8_doActs_165 (by decide) ?_
      refine hp_sub (lv' := [(0, .ref (ad 44)), (1, .int a1), (2, .int a2), (3, .int a3), (4, .ref (ad 23)), (5, .int v2), (8, .int r15)]) [0, 1, 2, 3, 4, 5, 8] rfl ?_
      exact jK8 _ _ hq
    replace hq := hq.2.2.2 ⟨c21, c22, c23⟩
    refine hp_tswD E 168 dX8_doActs_50 (hp_out (fun i h1 h2 => ?_)) (by decide) ?_
    · rcases (show i = 0 ∨ i = 1 ∨ i = 2 by omega) with rfl | rfl | rfl
      · exact hp_nat c21 (by decide)
      · exact hp_nat c22 (by decide)
      · exact hp_nat c23 (by decide)
    · refine hp_aload_n E 0 dX8_doActs_168 rfl rfl ?_
      refine hp_gR E g_RX8_18 fB_44_3 dX8_doActs_169 ?_
      refine hp_iload E 7 dX8_doActs_172 rfl ?_
      refine hp_aload_n E 0 dX8_doActs_174 rfl rfl ?_
      refine hp_gR E g_RX8_21 fB_44_4 dX8_doActs_175 ?_
      refine hp_iload E 5 dX8_doActs_178 rfl ?_
      refine hp_iald E 49 aB_49 hq.1 dX8_doActs_180 ?_
      replace hq := hq.2
      refine hp_callVv' (rest := []) E 47 fB_47_0 vcl_7 (c_X7_take l hJ fB_47_0 aB_48 zB_48 hq) F_X7_take m_RX8_194 ⟨rfl, rfl⟩ ⟨Nat.le_of_ble_eq_true rfl, Nat.le_of_ble_eq_true rfl⟩ ⟨Nat.zero_le _, Nat.zero_le _⟩ rfl rfl (Nat.le_of_ble_eq_true rfl) dX8_doActs_181 (fun h17 hq => ?_)
      refine hp_aload_n E 0 dX8_doActs_184 rfl rfl ?_
      refine hp_iload_n E 1 dX8_doActs_185 rfl rfl ?_
      refine hp_iload_n E 2 dX8_doActs_186 rfl rfl ?_
      refine hp_aload E 4 dX8_doActs_187 rfl ?_
      refine hp_gR E g_RX8_180 fB_23_7 dX8_doActs_189 ?_
      refine hp_iload E 6 dX8_doActs_192 rfl ?_
      refine hp_iald E 31 aB_31 hq.1 dX8_doActs_194 ?_
      replace hq := hq.2
      refine hp_aload_n E 0 dX8_doActs_195 rfl rfl ?_
      refine hp_gR E g_RX8_12 fB_44_2 dX8_doActs_196 ?_
      refine hp_iload E 7 dX8_doActs_199 rfl ?_
      refine hp_aload_n E 0 dX8_doActs_201 rfl rfl ?_
      refine hp_gR E g_RX8_21 fB_44_4 dX8_doActs_202 ?_
      refine hp_iload E 5 dX8_doActs_205 rfl ?_
      refine hp_iald E 49 aB_49 hq.1 dX8_doActs_207 ?_
      replace hq := hq.2
      refine hp_callVip (rest := [.int (h17 31 v5.toNatClampNeg), .int a2, .int a1, .ref (ad 44)]) E 45 fB_45_0 vcl_7 (c_X7_letterAt l hJ fB_45_0 aB_46 zB_46 hq) F_X7_letterAt m_RX8_197 ⟨rfl, rfl⟩ ⟨Nat.le_of_ble_eq_true rfl, Nat.le_of_ble_eq_true rfl⟩ ⟨Nat.zero_le _, Nat.zero_le _⟩ rfl rfl (Nat.le_of_ble_eq_true rfl) dX8_doActs_208 (fun r18 hq => ?_)
      refine hp_callVi' (rest := []) E 44 fB_44_0 vcl_8 (c_X8_giveOwn l hJ hq) F_X8_giveOwn m_RX8_187 ⟨rfl, rfl⟩ ⟨Nat.le_of_ble_eq_true rfl, Nat.le_of_ble_eq_true rfl⟩ ⟨Nat.zero_le _, Nat.zero_le _⟩ rfl rfl (Nat.le_of_ble_eq_true rfl) dX8_doActs_211 (fun r19 h20 hq => ?_)
      refine hp_istore (lv' := [(0, .ref (ad 44)), (1, .int a1), (2, .int a2), (3, .int a3), (4, .ref (ad 23)), (5, .int v2), (6, .int v5), (7, .int v6), (8, .int r19)]) E dX8_doActs_214 (by decide) rfl rfl ?_
      refine hp_sub (lv' := [(0, .ref (ad 44)), (1, .int a1), (2, .int a2), (3, .int a3), (4, .ref (ad 23)), (5, .int v2), (8, .int r19)]) [0, 1, 2, 3, 4, 5, 8] rfl ?_
      exact jK8 _ _ hq
