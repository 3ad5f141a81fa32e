theorem dX12_alike_0 : decode cX12_alike 0 = .ok (.aload_n 0, 1) := by decide +kernel
theorem dX12_alike_1 : decode cX12_alike 1 = .ok (.getfield 209, 3) := by decide +kernel
theorem dX12_alike_4 : decode cX12_alike 4 = .ok (.ifCond .eq 7, 3) := by decide +kernel
theorem dX12_alike_7 : decode cX12_alike 7 = .ok (.iconst 1, 1) := by decide +kernel
theorem dX12_alike_8 : decode cX12_alike 8 = .ok (.goto 4, 3) := by decide +kernel
theorem dX12_alike_11 : decode cX12_alike 11 = .ok (.iconst 0, 1) := by decide +kernel
theorem dX12_alike_12 : decode cX12_alike 12 = .ok (.istore_n 2, 1) := by decide +kernel
theorem dX12_alike_13 : decode cX12_alike 13 = .ok (.aload_n 0, 1) := by decide +kernel
theorem dX12_alike_14 : decode cX12_alike 14 = .ok (.invokevirtual 180, 3) := by decide +kernel
theorem dX12_alike_17 : decode cX12_alike 17 = .ok (.aload_n 0, 1) := by decide +kernel
theorem dX12_alike_18 : decode cX12_alike 18 = .ok (.iload_n 1, 1) := by decide +kernel
theorem dX12_alike_19 : decode cX12_alike 19 = .ok (.putfield 209, 3) := by decide +kernel
theorem dX12_alike_22 : decode cX12_alike 22 = .ok (.iload_n 2, 1) := by decide +kernel
theorem dX12_alike_23 : decode cX12_alike 23 = .ok (.ireturn, 1) := by decide +kernel
set_option maxHeartbeats 4000000 in
set_option maxRecDepth 100000 in
theorem c_X12_alike (l : Launch) {cs : Nat → ClassId} {ad : Nat → Nat} {A : Nat → Prop} {D : va_G} (hJ : hp_J SM ad A)   {h : hp_H} {a1 : Int32} {Q : Int32 → hp_H → Prop} (hq : q_X12_alike h a1 Q) : hp_Mi l yX12_alike cX12_alike 3 (some .int) rm_X12_alike [.ref (ad 0), .int a1] SM cs ad A D h Q := by
  refine hp_met (own := RX12) rfl (by decide) (Nat.le_of_ble_eq_true rfl) rfl (fun p e s m args below meth c Z E hZ hnm => ?_)
  refine hp_sub (lv' := [(0, .ref (ad 0)), (1, .int a1)]) [0, 1] rfl ?_
  unfold q_X12_alike at hq
  refine hp_aload_n E 0 dX12_alike_0 rfl rfl ?_
  refine hp_gI E g_RX12_209 fM_0_30 dX12_alike_1 ?_
  obtain ⟨K2, hq, hK2⟩ := hq
  have jK2 : ∀ (v3 : Int32), K2 v3 → hp_G p l e rm_X12_alike s m args below meth c SM cs ad A D 3 0 0 Z 12 [(0, .ref (ad 0)), (1, .int a1)] [.int v3] h := by
    intro v3 hq
    replace hq := hK2 v3 hq
    refine hp_istore_n (lv' := [(0, .ref (ad 0)), (1, .int a1), (2, .int v3)]) E dX12_alike_12 rfl (by decide) rfl rfl ?_
    refine hp_aload_n E 0 dX12_alike_13 rfl rfl ?_
    refine hp_callVv' (rest := []) E 0 fM_0_0 vcl_12 (c_X12_over l hJ hq) F_X12_over m_RX12_180 ⟨rfl, rfl⟩ ⟨Nat.le_of_ble_eq_true rfl, Nat.le_of_ble_eq_true rfl⟩ ⟨Nat.zero_le _, Nat.zero_le _⟩ rfl rfl (Nat.le_of_ble_eq_true rfl) dX12_alike_14 (fun h4 hq => ?_)
    refine hp_aload_n E 0 dX12_alike_17 rfl rfl ?_
    refine hp_iload_n E 1 dX12_alike_18 rfl rfl ?_
    have hbz := hq.1
    replace hq := hq.2
    refine hp_pZ E p_RX12_209 fM_0_30 (by decide) hJ hbz dX12_alike_19 ?_
    refine hp_toph (fun h5 eh5 => ?_)
    replace hq := hq h5 eh5
    refine hp_iload_n E 2 dX12_alike_22 rfl rfl ?_
    exact hp_iret E hq hZ dX12_alike_23
  refine hp_if_eq E 11 dX12_alike_4 (by decide) (fun c1 => ?_) (fun c1 => ?_)
  · replace hq := hq.1 c1
    refine hp_iconst E (nI 0) dX12_alike_11 (by decide) ?_
    exact jK2 _ hq
  · replace hq := hq.2 c1
    refine hp_iconst E (nI 1) dX12_alike_7 (by decide) ?_
    refine hp_goto E 12 dX12_alike_8 (by decide) ?_
    exact jK2 _ hq
theorem dX12_memberAt_0 : decode cX12_memberAt 0 = .ok (.bipush 6, 2) := by decide +kernel
theorem dX12_memberAt_2 : decode cX12_memberAt 2 = .ok (.iconst 4, 1) := by decide +kernel
theorem dX12_memberAt_3 : decode cX12_memberAt 3 = .ok (.iconst 3, 1) := by decide +kernel
theorem dX12_memberAt_4 : decode cX12_memberAt 4 = .ok (.iload_n 0, 1) := by decide +kernel
theorem dX12_memberAt_5 : decode cX12_memberAt 5 = .ok (.imul, 1) := by decide +kernel
theorem dX12_memberAt_6 : decode cX12_memberAt 6 = .ok (.iload_n 1, 1) := by decide +kernel
theorem dX12_memberAt_7 : decode cX12_memberAt 7 = .ok (.iadd, 1) := by decide +kernel
theorem dX12_memberAt_8 : decode cX12_memberAt 8 = .ok (.imul, 1) := by decide +kernel
theorem dX12_memberAt_9 : decode cX12_memberAt 9 = .ok (.iadd, 1) := by decide +kernel
theorem dX12_memberAt_10 : decode cX12_memberAt 10 = .ok (.ireturn, 1) := by decide +kernel
set_option maxHeartbeats 4000000 in
set_option maxRecDepth 100000 in
theorem c_X12_memberAt (l : Launch) {cs : Nat → ClassId} {ad : Nat → Nat} {A : Nat → Prop} {D : va_G} (hJ : hp_J SM ad A)   {h : hp_H} {a0 a1 : Int32} {Q : Int32 → Prop} (hq : q_X12_memberAt a0 a1 Q) : hp_Mi l yX12_memberAt cX12_memberAt 2 (some .int) rm_X12_memberAt [.int a0, .int a1] SM cs ad A D h (fun r h' => Q r ∧ h' = h) := by
  refine hp_met (own := RX12) rfl (by decide) (Nat.le_of_ble_eq_true rfl) rfl (fun p e s m args below meth c Z E hZ hnm => ?_)
  refine hp_sub (lv' := [(0, .int a0), (1, .int a1)]) [0, 1] rfl ?_
  unfold q_X12_memberAt at hq
  refine hp_bipush E (nI 6) dX12_memberAt_0 (by decide) ?_
  refine hp_iconst E (nI 4) dX12_memberAt_2 (by decide) ?_
  refine hp_iconst E (nI 3) dX12_memberAt_3 (by decide) ?_
  refine hp_iload_n E 0 dX12_memberAt_4 rfl rfl ?_
  refine hp_imul E dX12_memberAt_5 ?_
  refine hp_iload_n E 1 dX12_memberAt_6 rfl rfl ?_
  refine hp_iadd E dX12_memberAt_7 ?_
  refine hp_imul E dX12_memberAt_8 ?_
  refine hp_iadd E dX12_memberAt_9 ?_
  exact hp_iret E ⟨hq, rfl⟩ hZ dX12_memberAt_10
theorem dX12_channelAt_0 : decode cX12_channelAt 0 = .ok (.bipush 42, 2) := by decide +kernel
theorem dX12_channelAt_2 : decode cX12_channelAt 2 = .ok (.iconst 4, 1) := by decide +kernel
theorem dX12_channelAt_3 : decode cX12_channelAt 3 = .ok (.iload_n 0, 1) := by decide +kernel
theorem dX12_channelAt_4 : decode cX12_channelAt 4 = .ok (.imul, 1) := by decide +kernel
theorem dX12_channelAt_5 : decode cX12_channelAt 5 = .ok (.iadd, 1) := by decide +kernel
theorem dX12_channelAt_6 : decode cX12_channelAt 6 = .ok (.ireturn, 1) := by decide +kernel
set_option maxHeartbeats 4000000 in
set_option maxRecDepth 100000 in
theorem c_X12_channelAt (l : Launch) {cs : Nat → ClassId} {ad : Nat → Nat} {A : Nat → Prop} {D : va_G} (hJ : hp_J SM ad A)   {h : hp_H} {a0 : Int32} {Q : Int32 → Prop} (hq : q_X12_channelAt a0 Q) : hp_Mi l yX12_channelAt cX12_channelAt 1 (some .int) rm_X12_channelAt [.int a0] SM cs ad A D h (fun r h' => Q r ∧ h' = h) := by
  refine hp_met (own := RX12) rfl (by decide) (Nat.le_of_ble_eq_true rfl) rfl (fun p e s m args below meth c Z E hZ hnm => ?_)
  refine hp_sub (lv' := [(0, .int a0)]) [0] rfl ?_
  unfold q_X12_channelAt at hq
  refine hp_bipush E (nI 42) dX12_channelAt_0 (by decide) ?_
  refine hp_iconst E (nI 4) dX12_channelAt_2 (by decide) ?_
  refine hp_iload_n E 0 dX12_channelAt_3 rfl rfl ?_
  refine hp_imul E dX12_channelAt_4 ?_
  refine hp_iadd E dX12_channelAt_5 ?_
  exact hp_iret E ⟨hq, rfl⟩ hZ dX12_channelAt_6
theorem dX12_cell_0 : decode cX12_cell 0 = .ok (.aload_n 0, 1) := by decide +kernel
theorem dX12_cell_1 : decode cX12_cell 1 = .ok (.getfield 89, 3) := by decide +kernel
theorem dX12_cell_4 : decode cX12_cell 4 = .ok (.bipush 54, 2) := by decide +kernel
theorem dX12_cell_6 : decode cX12_cell 6 = .ok (.iload_n 1, 1) := by decide +kernel
theorem dX12_cell_7 : decode cX12_cell 7 = .ok (.imul, 1) := by decide +kernel
theorem dX12_cell_8 : decode cX12_cell 8 = .ok (.iload_n 2, 1) := by decide +kernel
theorem dX12_cell_9 : decode cX12_cell 9 = .ok (.iadd, 1) := by decide +kernel
theorem dX12_cell_10 : decode cX12_cell 10 = .ok (.iaload, 1) := by decide +kernel
theorem dX12_cell_11 : decode cX12_cell 11 = .ok (.ireturn, 1) := by decide +kernel
set_option maxHeartbeats 4000000 in
set_option maxRecDepth 100000 in
theorem c_X12_cell (l : Launch) {cs : Nat → ClassId} {ad : Nat → Nat} {A : Nat → Prop} {D : va_G} (hJ : hp_J SM ad A)   {h : hp_H} {a1 a2 : Int32} {Q : Int32 → Prop} (hq : q_X12_cell h a1 a2 Q) : hp_Mi l yX12_cell cX12_cell 3 (some .int) rm_X12_cell [.ref (ad 0), .int a1, .int a2] SM cs ad A D h (fun r h' => Q r ∧ h' = h) := by
  refine hp_met (own := RX12) rfl (by decide) (Nat.le_of_ble_eq_true rfl) rfl (fun p e s m args below meth c Z E hZ hnm => ?_)
  refine hp_sub (lv' := [(0, .ref (ad 0)), (1, .int a1), (2, .int a2)]) [0, 1, 2] rfl ?_
  unfold q_X12_cell at hq
  refine hp_aload_n E 0 dX12_cell_0 rfl rfl ?_
  refine hp_gR E g_RX12_89 fM_0_36 dX12_cell_1 ?_
  refine hp_bipush E (nI 54) dX12_cell_4 (by decide) ?_
  refine hp_iload_n E 1 dX12_cell_6 rfl rfl ?_
  refine hp_imul E dX12_cell_7 ?_
  refine hp_iload_n E 2 dX12_cell_8 rfl rfl ?_
  refine hp_iadd E dX12_cell_9 ?_
  refine hp_iald E 27 aM_27 hq.1 dX12_cell_10 ?_
  replace hq := hq.2
  exact hp_iret E ⟨hq, rfl⟩ hZ dX12_cell_11
theorem dX12_many_0 : decode cX12_many 0 = .ok (.iconst 0, 1) := by decide +kernel
theorem dX12_many_1 : decode cX12_many 1 = .ok (.istore 4, 2) := by decide +kernel
theorem dX12_many_3 : decode cX12_many 3 = .ok (.iconst 0, 1) := by decide +kernel
theorem dX12_many_4 : decode cX12_many 4 = .ok (.istore 5, 2) := by decide +kernel
theorem dX12_many_6 : decode cX12_many 6 = .ok (.iload 5, 2) := by decide +kernel
theorem dX12_many_8 : decode cX12_many 8 = .ok (.aload_n 0, 1) := by decide +kernel
theorem dX12_many_9 : decode cX12_many 9 = .ok (.getfield 19, 3) := by decide +kernel
theorem dX12_many_12 : decode cX12_many 12 = .ok (.iload_n 2, 1) := by decide +kernel
theorem dX12_many_13 : decode cX12_many 13 = .ok (.iaload, 1) := by decide +kernel
theorem dX12_many_14 : decode cX12_many 14 = .ok (.if_icmp .ge 34, 3) := by decide +kernel
theorem dX12_many_17 : decode cX12_many 17 = .ok (.iload 4, 2) := by decide +kernel
theorem dX12_many_19 : decode cX12_many 19 = .ok (.aload_n 0, 1) := by decide +kernel
theorem dX12_many_20 : decode cX12_many 20 = .ok (.iload_n 1, 1) := by decide +kernel
theorem dX12_many_21 : decode cX12_many 21 = .ok (.iload_n 2, 1) := by decide +kernel
theorem dX12_many_22 : decode cX12_many 22 = .ok (.iload 5, 2) := by decide +kernel
theorem dX12_many_24 : decode cX12_many 24 = .ok (.invokestatic 212, 3) := by decide +kernel
theorem dX12_many_27 : decode cX12_many 27 = .ok (.invokevirtual 216, 3) := by decide +kernel
theorem dX12_many_30 : decode cX12_many 30 = .ok (.iload_n 3, 1) := by decide +kernel
theorem dX12_many_31 : decode cX12_many 31 = .ok (.if_icmp .ne 7, 3) := by decide +kernel
theorem dX12_many_34 : decode cX12_many 34 = .ok (.iconst 1, 1) := by decide +kernel
theorem dX12_many_35 : decode cX12_many 35 = .ok (.goto 4, 3) := by decide +kernel
theorem dX12_many_38 : decode cX12_many 38 = .ok (.iconst 0, 1) := by decide +kernel
theorem dX12_many_39 : decode cX12_many 39 = .ok (.iadd, 1) := by decide +kernel
theorem dX12_many_40 : decode cX12_many 40 = .ok (.istore 4, 2) := by decide +kernel
theorem dX12_many_42 : decode cX12_many 42 = .ok (.iinc 5 1, 3) := by decide +kernel
theorem dX12_many_45 : decode cX12_many 45 = .ok (.goto (-39), 3) := by decide +kernel
theorem dX12_many_48 : decode cX12_many 48 = .ok (.iload 4, 2) := by decide +kernel
theorem dX12_many_50 : decode cX12_many 50 = .ok (.ireturn, 1) := by decide +kernel
set_option maxHeartbeats 4000000 in
set_option maxRecDepth 100000 in
theorem c_X12_many (l : Launch) {cs : Nat → ClassId} {ad : Nat → Nat} {A : Nat → Prop} {D : va_G} (hJ : hp_J SM ad A)   {h : hp_H} {a1 a2 a3 : Int32} {Q : Int32 → Prop} (hq : q_X12_many h a1 a2 a3 Q) : hp_Mi l yX12_many cX12_many 6 (some .int) rm_X12_many [.ref (ad 0), .int a1, .int a2, .int a3] SM cs ad A D h (fun r h' => Q r ∧ h' = h) := by
  refine hp_met (own := RX12) rfl (by decide) (Nat.le_of_ble_eq_true rfl) rfl (fun p e s m args below meth c Z E hZ hnm => ?_)
  refine hp_sub (lv' := [(0, .ref (ad 0)), (1, .int a1), (2, .int a2), (3, .int a3)]) [0, 1, 2, 3] rfl ?_
  unfold q_X12_many at hq
  refine hp_iconst E (nI 0) dX12_many_0 (by decide) ?_
  refine hp_istore (lv' := [(0, .ref (ad 0)), (1, .int a1), (2, .int a2), (3, .int a3), (4, .int (nI 0))]) E dX12_many_1 (by decide) rfl rfl ?_
  refine hp_iconst E (nI 0) dX12_many_3 (by decide) ?_
  refine hp_istore (lv' := [(0, .ref (ad 0)), (1, .int a1), (2, .int a2), (3, .int a3), (4, .int (nI 0)), (5, .int (nI 0))]) E dX12_many_4 (by decide) rfl rfl ?_
  refine hq (fun v2 v3 => hp_G p l e rm_X12_many s m args below meth c SM cs ad A D 6 0 0 Z 6 [(0, .ref (ad 0)), (1, .int a1), (2, .int a2), (3, .int a3), (4, .int v2), (5, .int v3)] [] h) (fun v2 v3 hB => ?_)
  obtain ⟨B1, hq, hB1⟩ := hB
  refine hp_iload E 5 dX12_many_6 rfl ?_
  refine hp_aload_n E 0 dX12_many_8 rfl rfl ?_
  refine hp_gR E g_RX12_19 fM_0_5 dX12_many_9 ?_
  refine hp_iload_n E 2 dX12_many_12 rfl rfl ?_
  refine hp_iald E 4 aM_4 hq.1 dX12_many_13 ?_
  replace hq := hq.2
  refine hp_icmp_ge E 48 dX12_many_14 (by decide) (fun c4 => ?_) (fun c4 => ?_)
  · replace hq := hq.1 c4
    refine hp_iload E 4 dX12_many_48 rfl ?_
    exact hp_iret E ⟨hq, rfl⟩ hZ dX12_many_50
  · replace hq := hq.2 c4
    refine hp_iload E 4 dX12_many_17 rfl ?_
    refine hp_aload_n E 0 dX12_many_19 rfl rfl ?_
    refine hp_iload_n E 1 dX12_many_20 rfl rfl ?_
    refine hp_iload_n E 2 dX12_many_21 rfl rfl ?_
    refine hp_iload E 5 dX12_many_22 rfl ?_
    refine hp_callSip (rest := [.int a1, .ref (ad 0), .int v2]) E (c_X12_memberAt l hJ hq) F_X12_memberAt m_RX12_212 ⟨rfl, rfl⟩ ⟨Nat.le_of_ble_eq_true rfl, Nat.le_of_ble_eq_true rfl⟩ ⟨Nat.zero_le _, Nat.zero_le _⟩ rfl rfl (Nat.le_of_ble_eq_true rfl) dX12_many_24 (fun r5 hq => ?_)
    refine hp_callVip (rest := [.int v2]) E 0 fM_0_0 vcl_12 (c_X12_cell l hJ hq) F_X12_cell m_RX12_216 ⟨rfl, rfl⟩ ⟨Nat.le_of_ble_eq_true rfl, Nat.le_of_ble_eq_true rfl⟩ ⟨Nat.zero_le _, Nat.zero_le _⟩ rfl rfl (Nat.le_of_ble_eq_true rfl) dX12_many_27 (fun r6 hq => ?_)
    refine hp_iload_n E 3 dX12_many_30 rfl rfl ?_
    obtain ⟨K8, hq, hK8⟩ := hq
    have jK8 : ∀ (v9 : Int32), K8 v9 → hp_G p l e rm_X12_many s m args below meth c SM cs ad A D 6 0 0 Z 39 [(0, .ref (ad 0)), (1, .int a1), (2, .int a2), (3, .int a3), (5, .int v3)] [.int v9, .int v2] h := by
      intro v9 hq
      replace hq := hK8 v9 hq
      refine hp_iadd E dX12_many_39 ?_
      refine hp_topi (fun v10 ev10 => ?_)
      replace hq := hq v10 ev10
      refine hp_istore (lv' := [(0, .ref (ad 0)), (1, .int a1), (2, .int a2), (3, .int a3), (4, .int v10), (5, .int v3)]) E dX12_many_40 (by decide) rfl rfl ?_
      obtain ⟨v11, ev11⟩ : ∃ z : Int32, z = v3 + (nI 1) := ⟨_, rfl⟩
      replace hq := hq v11 ev11
      refine hp_iinc (lv' := [(0, .ref (ad 0)), (1, .int a1), (2, .int a2), (3, .int a3), (4, .int v10), (5, .int v11)]) E 5 v11 dX12_many_42 rfl (by rw [ev11]; rfl) (by decide) rfl rfl ?_
      refine hp_goto E 6 dX12_many_45 (by decide) ?_
      exact hB1 _ _ hq
    refine hp_icmp_ne E 38 dX12_many_31 (by decide) (fun c7 => ?_) (fun c7 => ?_)
    · replace hq := hq.2 c7
      refine hp_iconst E (nI 0) dX12_many_38 (by decide) ?_
      refine hp_sub (lv' := [(0, .ref (ad 0)), (1, .int a1), (2, .int a2), (3, .int a3), (5, .int v3)]) [0, 1, 2, 3, 5] rfl ?_
      exact jK8 _ hq
    · replace hq := hq.1 c7
      refine hp_iconst E (nI 1) dX12_many_34 (by decide) ?_
      refine hp_goto E 39 dX12_many_35 (by decide) ?_
      refine hp_sub (lv' := [(0, .ref (ad 0)), (1, .int a1), (2, .int a2), (3, .int a3), (5, .int v3)]) [0, 1, 2, 3, 5] rfl ?_
      exact jK8 _ hq
theorem dX12_reckon_0 : decode cX12_reckon 0 = .ok (.iconst 0, 1) := by decide +kernel
theorem dX12_reckon_1 : decode cX12_reckon 1 = .ok (.istore 4, 2) := by decide +kernel
theorem dX12_reckon_3 : decode cX12_reckon 3 = .ok (.iload 4, 2) := by decide +kernel
theorem dX12_reckon_5 : decode cX12_reckon 5 = .ok (.aload_n 0, 1) := by decide +kernel
theorem dX12_reckon_6 : decode cX12_reckon 6 = .ok (.getfield 193, 3) := by decide +kernel
theorem dX12_reckon_9 : decode cX12_reckon 9 = .ok (.if_icmp .ge 439, 3) := by decide +kernel
theorem dX12_reckon_12 : decode cX12_reckon 12 = .ok (.aload_n 0, 1) := by decide +kernel
theorem dX12_reckon_13 : decode cX12_reckon 13 = .ok (.getfield 50, 3) := by decide +kernel
theorem dX12_reckon_16 : decode cX12_reckon 16 = .ok (.iload 4, 2) := by decide +kernel
theorem dX12_reckon_18 : decode cX12_reckon 18 = .ok (.iaload, 1) := by decide +kernel
theorem dX12_reckon_19 : decode cX12_reckon 19 = .ok (.istore 5, 2) := by decide +kernel
theorem dX12_reckon_21 : decode cX12_reckon 21 = .ok (.aload_n 0, 1) := by decide +kernel
theorem dX12_reckon_22 : decode cX12_reckon 22 = .ok (.getfield 53, 3) := by decide +kernel
theorem dX12_reckon_25 : decode cX12_reckon 25 = .ok (.iload 4, 2) := by decide +kernel
theorem dX12_reckon_27 : decode cX12_reckon 27 = .ok (.iaload, 1) := by decide +kernel
theorem dX12_reckon_28 : decode cX12_reckon 28 = .ok (.istore 6, 2) := by decide +kernel
theorem dX12_reckon_30 : decode cX12_reckon 30 = .ok (.iconst 0, 1) := by decide +kernel
theorem dX12_reckon_31 : decode cX12_reckon 31 = .ok (.istore 7, 2) := by decide +kernel
theorem dX12_reckon_33 : decode cX12_reckon 33 = .ok (.aload_n 0, 1) := by decide +kernel
theorem dX12_reckon_34 : decode cX12_reckon 34 = .ok (.getfield 47, 3) := by decide +kernel
theorem dX12_reckon_37 : decode cX12_reckon 37 = .ok (.iload 4, 2) := by decide +kernel
theorem dX12_reckon_39 : decode cX12_reckon 39 = .ok (.iaload, 1) := by decide +kernel
theorem dX12_reckon_40 : decode cX12_reckon 40 = .ok (.tableswitch 376 0 13 #[72, 79, 91, 131, 146, 160, 175, 202, 222, 242, 262, 289, 316, 346], 72) := by decide +kernel
theorem dX12_reckon_112 : decode cX12_reckon 112 = .ok (.iload 5, 2) := by decide +kernel
theorem dX12_reckon_114 : decode cX12_reckon 114 = .ok (.istore 7, 2) := by decide +kernel
theorem dX12_reckon_116 : decode cX12_reckon 116 = .ok (.goto 317, 3) := by decide +kernel
theorem dX12_reckon_119 : decode cX12_reckon 119 = .ok (.aload_n 0, 1) := by decide +kernel
theorem dX12_reckon_120 : decode cX12_reckon 120 = .ok (.iload_n 1, 1) := by decide +kernel
theorem dX12_reckon_121 : decode cX12_reckon 121 = .ok (.iload 5, 2) := by decide +kernel
theorem dX12_reckon_123 : decode cX12_reckon 123 = .ok (.invokevirtual 216, 3) := by decide +kernel
theorem dX12_reckon_126 : decode cX12_reckon 126 = .ok (.istore 7, 2) := by decide +kernel
theorem dX12_reckon_128 : decode cX12_reckon 128 = .ok (.goto 305, 3) := by decide +kernel
theorem dX12_reckon_131 : decode cX12_reckon 131 = .ok (.iload_n 2, 1) := by decide +kernel
theorem dX12_reckon_132 : decode cX12_reckon 132 = .ok (.iconst (-1), 1) := by decide +kernel
theorem dX12_reckon_133 : decode cX12_reckon 133 = .ok (.if_icmp .eq 14, 3) := by decide +kernel
theorem dX12_reckon_136 : decode cX12_reckon 136 = .ok (.iload 5, 2) := by decide +kernel
theorem dX12_reckon_138 : decode cX12_reckon 138 = .ok (.aload_n 0, 1) := by decide +kernel
theorem dX12_reckon_139 : decode cX12_reckon 139 = .ok (.getfield 22, 3) := by decide +kernel
theorem dX12_reckon_142 : decode cX12_reckon 142 = .ok (.iload_n 2, 1) := by decide +kernel
theorem dX12_reckon_143 : decode cX12_reckon 143 = .ok (.iaload, 1) := by decide +kernel
theorem dX12_reckon_144 : decode cX12_reckon 144 = .ok (.if_icmp .lt 7, 3) := by decide +kernel
theorem dX12_reckon_147 : decode cX12_reckon 147 = .ok (.iconst 0, 1) := by decide +kernel
theorem dX12_reckon_148 : decode cX12_reckon 148 = .ok (.goto 18, 3) := by decide +kernel
theorem dX12_reckon_151 : decode cX12_reckon 151 = .ok (.aload_n 0, 1) := by decide +kernel
theorem dX12_reckon_152 : decode cX12_reckon 152 = .ok (.iload_n 1, 1) := by decide +kernel
theorem dX12_reckon_153 : decode cX12_reckon 153 = .ok (.iload_n 2, 1) := by decide +kernel
theorem dX12_reckon_154 : decode cX12_reckon 154 = .ok (.iload_n 3, 1) := by decide +kernel
theorem dX12_reckon_155 : decode cX12_reckon 155 = .ok (.invokestatic 212, 3) := by decide +kernel
theorem dX12_reckon_158 : decode cX12_reckon 158 = .ok (.iconst 1, 1) := by decide +kernel
theorem dX12_reckon_159 : decode cX12_reckon 159 = .ok (.iadd, 1) := by decide +kernel
theorem dX12_reckon_160 : decode cX12_reckon 160 = .ok (.iload 5, 2) := by decide +kernel
theorem dX12_reckon_162 : decode cX12_reckon 162 = .ok (.iadd, 1) := by decide +kernel
theorem dX12_reckon_163 : decode cX12_reckon 163 = .ok (.invokevirtual 216, 3) := by decide +kernel
theorem dX12_reckon_166 : decode cX12_reckon 166 = .ok (.istore 7, 2) := by decide +kernel
theorem dX12_reckon_168 : decode cX12_reckon 168 = .ok (.goto 265, 3) := by decide +kernel
theorem dX12_reckon_171 : decode cX12_reckon 171 = .ok (.iload_n 2, 1) := by decide +kernel
theorem dX12_reckon_172 : decode cX12_reckon 172 = .ok (.iconst (-1), 1) := by decide +kernel
theorem dX12_reckon_173 : decode cX12_reckon 173 = .ok (.if_icmp .ne 7, 3) := by decide +kernel
theorem dX12_reckon_176 : decode cX12_reckon 176 = .ok (.iconst 0, 1) := by decide +kernel
theorem dX12_reckon_177 : decode cX12_reckon 177 = .ok (.goto 4, 3) := by decide +kernel
theorem dX12_reckon_180 : decode cX12_reckon 180 = .ok (.iload_n 3, 1) := by decide +kernel
theorem dX12_reckon_181 : decode cX12_reckon 181 = .ok (.istore 7, 2) := by decide +kernel
theorem dX12_reckon_183 : decode cX12_reckon 183 = .ok (.goto 250, 3) := by decide +kernel
theorem dX12_reckon_186 : decode cX12_reckon 186 = .ok (.aload_n 0, 1) := by decide +kernel
theorem dX12_reckon_187 : decode cX12_reckon 187 = .ok (.iload_n 1, 1) := by decide +kernel
theorem dX12_reckon_188 : decode cX12_reckon 188 = .ok (.iload 5, 2) := by decide +kernel
theorem dX12_reckon_190 : decode cX12_reckon 190 = .ok (.iload 6, 2) := by decide +kernel
theorem dX12_reckon_192 : decode cX12_reckon 192 = .ok (.invokevirtual 219, 3) := by decide +kernel
theorem dX12_reckon_195 : decode cX12_reckon 195 = .ok (.istore 7, 2) := by decide +kernel
theorem dX12_reckon_197 : decode cX12_reckon 197 = .ok (.goto 236, 3) := by decide +kernel
theorem dX12_reckon_200 : decode cX12_reckon 200 = .ok (.aload_n 0, 1) := by decide +kernel
theorem dX12_reckon_201 : decode cX12_reckon 201 = .ok (.iload_n 1, 1) := by decide +kernel
theorem dX12_reckon_202 : decode cX12_reckon 202 = .ok (.iload 5, 2) := by decide +kernel
theorem dX12_reckon_204 : decode cX12_reckon 204 = .ok (.invokestatic 223, 3) := by decide +kernel
theorem dX12_reckon_207 : decode cX12_reckon 207 = .ok (.invokevirtual 216, 3) := by decide +kernel
theorem dX12_reckon_210 : decode cX12_reckon 210 = .ok (.istore 7, 2) := by decide +kernel
theorem dX12_reckon_212 : decode cX12_reckon 212 = .ok (.goto 221, 3) := by decide +kernel
theorem dX12_reckon_215 : decode cX12_reckon 215 = .ok (.aload_n 0, 1) := by decide +kernel
theorem dX12_reckon_216 : decode cX12_reckon 216 = .ok (.iload_n 1, 1) := by decide +kernel
theorem dX12_reckon_217 : decode cX12_reckon 217 = .ok (.iload 5, 2) := by decide +kernel
theorem dX12_reckon_219 : decode cX12_reckon 219 = .ok (.iload 6, 2) := by decide +kernel
theorem dX12_reckon_221 : decode cX12_reckon 221 = .ok (.invokestatic 212, 3) := by decide +kernel
theorem dX12_reckon_224 : decode cX12_reckon 224 = .ok (.iconst 1, 1) := by decide +kernel
theorem dX12_reckon_225 : decode cX12_reckon 225 = .ok (.iadd, 1) := by decide +kernel
theorem dX12_reckon_226 : decode cX12_reckon 226 = .ok (.aload_n 0, 1) := by decide +kernel
theorem dX12_reckon_227 : decode cX12_reckon 227 = .ok (.getfield 56, 3) := by decide +kernel
theorem dX12_reckon_230 : decode cX12_reckon 230 = .ok (.iload 4, 2) := by decide +kernel
theorem dX12_reckon_232 : decode cX12_reckon 232 = .ok (.iaload, 1) := by decide +kernel
theorem dX12_reckon_233 : decode cX12_reckon 233 = .ok (.iadd, 1) := by decide +kernel
theorem dX12_reckon_234 : decode cX12_reckon 234 = .ok (.invokevirtual 216, 3) := by decide +kernel
theorem dX12_reckon_237 : decode cX12_reckon 237 = .ok (.istore 7, 2) := by decide +kernel
theorem dX12_reckon_239 : decode cX12_reckon 239 = .ok (.goto 194, 3) := by decide +kernel
theorem dX12_reckon_242 : decode cX12_reckon 242 = .ok (.aload_n 0, 1) := by decide +kernel
theorem dX12_reckon_243 : decode cX12_reckon 243 = .ok (.getfield 119, 3) := by decide +kernel
theorem dX12_reckon_246 : decode cX12_reckon 246 = .ok (.iload 5, 2) := by decide +kernel
theorem dX12_reckon_248 : decode cX12_reckon 248 = .ok (.iaload, 1) := by decide +kernel
theorem dX12_reckon_249 : decode cX12_reckon 249 = .ok (.aload_n 0, 1) := by decide +kernel
theorem dX12_reckon_250 : decode cX12_reckon 250 = .ok (.getfield 119, 3) := by decide +kernel
theorem dX12_reckon_253 : decode cX12_reckon 253 = .ok (.iload 6, 2) := by decide +kernel
theorem dX12_reckon_255 : decode cX12_reckon 255 = .ok (.iaload, 1) := by decide +kernel
theorem dX12_reckon_256 : decode cX12_reckon 256 = .ok (.iadd, 1) := by decide +kernel
theorem dX12_reckon_257 : decode cX12_reckon 257 = .ok (.istore 7, 2) := by decide +kernel
theorem dX12_reckon_259 : decode cX12_reckon 259 = .ok (.goto 174, 3) := by decide +kernel
theorem dX12_reckon_262 : decode cX12_reckon 262 = .ok (.aload_n 0, 1) := by decide +kernel
theorem dX12_reckon_263 : decode cX12_reckon 263 = .ok (.getfield 119, 3) := by decide +kernel
theorem dX12_reckon_266 : decode cX12_reckon 266 = .ok (.iload 5, 2) := by decide +kernel
theorem dX12_reckon_268 : decode cX12_reckon 268 = .ok (.iaload, 1) := by decide +kernel
theorem dX12_reckon_269 : decode cX12_reckon 269 = .ok (.aload_n 0, 1) := by decide +kernel
theorem dX12_reckon_270 : decode cX12_reckon 270 = .ok (.getfield 119, 3) := by decide +kernel
theorem dX12_reckon_273 : decode cX12_reckon 273 = .ok (.iload 6, 2) := by decide +kernel
theorem dX12_reckon_275 : decode cX12_reckon 275 = .ok (.iaload, 1) := by decide +kernel
theorem dX12_reckon_276 : decode cX12_reckon 276 = .ok (.isub, 1) := by decide +kernel
theorem dX12_reckon_277 : decode cX12_reckon 277 = .ok (.istore 7, 2) := by decide +kernel
theorem dX12_reckon_279 : decode cX12_reckon 279 = .ok (.goto 154, 3) := by decide +kernel
theorem dX12_reckon_282 : decode cX12_reckon 282 = .ok (.aload_n 0, 1) := by decide +kernel
theorem dX12_reckon_283 : decode cX12_reckon 283 = .ok (.getfield 119, 3) := by decide +kernel
theorem dX12_reckon_286 : decode cX12_reckon 286 = .ok (.iload 5, 2) := by decide +kernel
theorem dX12_reckon_288 : decode cX12_reckon 288 = .ok (.iaload, 1) := by decide +kernel
theorem dX12_reckon_289 : decode cX12_reckon 289 = .ok (.aload_n 0, 1) := by decide +kernel
theorem dX12_reckon_290 : decode cX12_reckon 290 = .ok (.getfield 119, 3) := by decide +kernel
theorem dX12_reckon_293 : decode cX12_reckon 293 = .ok (.iload 6, 2) := by decide +kernel
theorem dX12_reckon_295 : decode cX12_reckon 295 = .ok (.iaload, 1) := by decide +kernel
theorem dX12_reckon_296 : decode cX12_reckon 296 = .ok (.imul, 1) := by decide +kernel
theorem dX12_reckon_297 : decode cX12_reckon 297 = .ok (.istore 7, 2) := by decide +kernel
theorem dX12_reckon_299 : decode cX12_reckon 299 = .ok (.goto 134, 3) := by decide +kernel
theorem dX12_reckon_302 : decode cX12_reckon 302 = .ok (.aload_n 0, 1) := by decide +kernel
theorem dX12_reckon_303 : decode cX12_reckon 303 = .ok (.getfield 119, 3) := by decide +kernel
theorem dX12_reckon_306 : decode cX12_reckon 306 = .ok (.iload 5, 2) := by decide +kernel
theorem dX12_reckon_308 : decode cX12_reckon 308 = .ok (.iaload, 1) := by decide +kernel
theorem dX12_reckon_309 : decode cX12_reckon 309 = .ok (.aload_n 0, 1) := by decide +kernel
theorem dX12_reckon_310 : decode cX12_reckon 310 = .ok (.getfield 119, 3) := by decide +kernel
theorem dX12_reckon_313 : decode cX12_reckon 313 = .ok (.iload 6, 2) := by decide +kernel
theorem dX12_reckon_315 : decode cX12_reckon 315 = .ok (.iaload, 1) := by decide +kernel
theorem dX12_reckon_316 : decode cX12_reckon 316 = .ok (.if_icmp .ne 7, 3) := by decide +kernel
theorem dX12_reckon_319 : decode cX12_reckon 319 = .ok (.iconst 1, 1) := by decide +kernel
theorem dX12_reckon_320 : decode cX12_reckon 320 = .ok (.goto 4, 3) := by decide +kernel
theorem dX12_reckon_323 : decode cX12_reckon 323 = .ok (.iconst 0, 1) := by decide +kernel
theorem dX12_reckon_324 : decode cX12_reckon 324 = .ok (.istore 7, 2) := by decide +kernel
theorem dX12_reckon_326 : decode cX12_reckon 326 = .ok (.goto 107, 3) := by decide +kernel
theorem dX12_reckon_329 : decode cX12_reckon 329 = .ok (.aload_n 0, 1) := by decide +kernel
theorem dX12_reckon_330 : decode cX12_reckon 330 = .ok (.getfield 119, 3) := by decide +kernel
theorem dX12_reckon_333 : decode cX12_reckon 333 = .ok (.iload 5, 2) := by decide +kernel
theorem dX12_reckon_335 : decode cX12_reckon 335 = .ok (.iaload, 1) := by decide +kernel
theorem dX12_reckon_336 : decode cX12_reckon 336 = .ok (.aload_n 0, 1) := by decide +kernel
theorem dX12_reckon_337 : decode cX12_reckon 337 = .ok (.getfield 119, 3) := by decide +kernel
theorem dX12_reckon_340 : decode cX12_reckon 340 = .ok (.iload 6, 2) := by decide +kernel
theorem dX12_reckon_342 : decode cX12_reckon 342 = .ok (.iaload, 1) := by decide +kernel
theorem dX12_reckon_343 : decode cX12_reckon 343 = .ok (.if_icmp .ge 7, 3) := by decide +kernel
theorem dX12_reckon_346 : decode cX12_reckon 346 = .ok (.iconst 1, 1) := by decide +kernel
theorem dX12_reckon_347 : decode cX12_reckon 347 = .ok (.goto 4, 3) := by decide +kernel
theorem dX12_reckon_350 : decode cX12_reckon 350 = .ok (.iconst 0, 1) := by decide +kernel
theorem dX12_reckon_351 : decode cX12_reckon 351 = .ok (.istore 7, 2) := by decide +kernel
theorem dX12_reckon_353 : decode cX12_reckon 353 = .ok (.goto 80, 3) := by decide +kernel
theorem dX12_reckon_356 : decode cX12_reckon 356 = .ok (.aload_n 0, 1) := by decide +kernel
theorem dX12_reckon_357 : decode cX12_reckon 357 = .ok (.getfield 119, 3) := by decide +kernel
theorem dX12_reckon_360 : decode cX12_reckon 360 = .ok (.iload 5, 2) := by decide +kernel
theorem dX12_reckon_362 : decode cX12_reckon 362 = .ok (.iaload, 1) := by decide +kernel
theorem dX12_reckon_363 : decode cX12_reckon 363 = .ok (.ifCond .eq 17, 3) := by decide +kernel
theorem dX12_reckon_366 : decode cX12_reckon 366 = .ok (.aload_n 0, 1) := by decide +kernel
theorem dX12_reckon_367 : decode cX12_reckon 367 = .ok (.getfield 119, 3) := by decide +kernel
theorem dX12_reckon_370 : decode cX12_reckon 370 = .ok (.iload 6, 2) := by decide +kernel
theorem dX12_reckon_372 : decode cX12_reckon 372 = .ok (.iaload, 1) := by decide +kernel
theorem dX12_reckon_373 : decode cX12_reckon 373 = .ok (.ifCond .eq 7, 3) := by decide +kernel
theorem dX12_reckon_376 : decode cX12_reckon 376 = .ok (.iconst 1, 1) := by decide +kernel
theorem dX12_reckon_377 : decode cX12_reckon 377 = .ok (.goto 4, 3) := by decide +kernel
theorem dX12_reckon_380 : decode cX12_reckon 380 = .ok (.iconst 0, 1) := by decide +kernel
theorem dX12_reckon_381 : decode cX12_reckon 381 = .ok (.istore 7, 2) := by decide +kernel
theorem dX12_reckon_383 : decode cX12_reckon 383 = .ok (.goto 50, 3) := by decide +kernel
theorem dX12_reckon_386 : decode cX12_reckon 386 = .ok (.aload_n 0, 1) := by decide +kernel
theorem dX12_reckon_387 : decode cX12_reckon 387 = .ok (.getfield 119, 3) := by decide +kernel
theorem dX12_reckon_390 : decode cX12_reckon 390 = .ok (.iload 5, 2) := by decide +kernel
theorem dX12_reckon_392 : decode cX12_reckon 392 = .ok (.iaload, 1) := by decide +kernel
theorem dX12_reckon_393 : decode cX12_reckon 393 = .ok (.ifCond .ne 13, 3) := by decide +kernel
theorem dX12_reckon_396 : decode cX12_reckon 396 = .ok (.aload_n 0, 1) := by decide +kernel
theorem dX12_reckon_397 : decode cX12_reckon 397 = .ok (.getfield 119, 3) := by decide +kernel
theorem dX12_reckon_400 : decode cX12_reckon 400 = .ok (.iload 6, 2) := by decide +kernel
theorem dX12_reckon_402 : decode cX12_reckon 402 = .ok (.iaload, 1) := by decide +kernel
theorem dX12_reckon_403 : decode cX12_reckon 403 = .ok (.ifCond .eq 7, 3) := by decide +kernel
theorem dX12_reckon_406 : decode cX12_reckon 406 = .ok (.iconst 1, 1) := by decide +kernel
theorem dX12_reckon_407 : decode cX12_reckon 407 = .ok (.goto 4, 3) := by decide +kernel
theorem dX12_reckon_410 : decode cX12_reckon 410 = .ok (.iconst 0, 1) := by decide +kernel
theorem dX12_reckon_411 : decode cX12_reckon 411 = .ok (.istore 7, 2) := by decide +kernel
theorem dX12_reckon_413 : decode cX12_reckon 413 = .ok (.goto 20, 3) := by decide +kernel
theorem dX12_reckon_416 : decode cX12_reckon 416 = .ok (.aload_n 0, 1) := by decide +kernel
theorem dX12_reckon_417 : decode cX12_reckon 417 = .ok (.getfield 119, 3) := by decide +kernel
theorem dX12_reckon_420 : decode cX12_reckon 420 = .ok (.iload 5, 2) := by decide +kernel
theorem dX12_reckon_422 : decode cX12_reckon 422 = .ok (.iaload, 1) := by decide +kernel
theorem dX12_reckon_423 : decode cX12_reckon 423 = .ok (.ifCond .ne 7, 3) := by decide +kernel
theorem dX12_reckon_426 : decode cX12_reckon 426 = .ok (.iconst 1, 1) := by decide +kernel
theorem dX12_reckon_427 : decode cX12_reckon 427 = .ok (.goto 4, 3) := by decide +kernel
theorem dX12_reckon_430 : decode cX12_reckon 430 = .ok (.iconst 0, 1) := by decide +kernel
theorem dX12_reckon_431 : decode cX12_reckon 431 = .ok (.istore 7, 2) := by decide +kernel
theorem dX12_reckon_433 : decode cX12_reckon 433 = .ok (.aload_n 0, 1) := by decide +kernel
theorem dX12_reckon_434 : decode cX12_reckon 434 = .ok (.getfield 119, 3) := by decide +kernel
theorem dX12_reckon_437 : decode cX12_reckon 437 = .ok (.iload 4, 2) := by decide +kernel
theorem dX12_reckon_439 : decode cX12_reckon 439 = .ok (.iload 7, 2) := by decide +kernel
theorem dX12_reckon_441 : decode cX12_reckon 441 = .ok (.iastore, 1) := by decide +kernel
theorem dX12_reckon_442 : decode cX12_reckon 442 = .ok (.iinc 4 1, 3) := by decide +kernel
theorem dX12_reckon_445 : decode cX12_reckon 445 = .ok (.goto (-442), 3) := by decide +kernel
theorem dX12_reckon_448 : decode cX12_reckon 448 = .ok (.return_, 1) := by decide +kernel
set_option maxHeartbeats 4000000 in
set_option maxRecDepth 100000 in
theorem c_X12_reckon (l : Launch) {cs : Nat → ClassId} {ad : Nat → Nat} {A : Nat → Prop} {D : va_G} (hJ : hp_J SM ad A)   {h : hp_H} {a1 a2 a3 : Int32} {Q : hp_H → Prop} (hq : q_X12_reckon h a1 a2 a3 Q) : hp_Mv l yX12_reckon cX12_reckon 8 none rm_X12_reckon [.ref (ad 0), .int a1, .int a2, .int a3] SM cs ad A D h Q := by
  refine hp_met (own := RX12) rfl (by decide) (Nat.le_of_ble_eq_true rfl) rfl (fun p e s m args below meth c Z E hZ hnm => ?_)
  refine hp_sub (lv' := [(0, .ref (ad 0)), (1, .int a1), (2, .int a2), (3, .int a3)]) [0, 1, 2, 3] rfl ?_
  unfold q_X12_reckon at hq
  refine hp_iconst E (nI 0) dX12_reckon_0 (by decide) ?_
  refine hp_istore (lv' := [(0, .ref (ad 0)), (1, .int a1), (2, .int a2), (3, .int a3), (4, .int (nI 0))]) E dX12_reckon_1 (by decide) rfl rfl ?_
  refine hq (fun v2 h3 => hp_G p l e rm_X12_reckon s m args below meth c SM cs ad A D 8 0 0 Z 3 [(0, .ref (ad 0)), (1, .int a1), (2, .int a2), (3, .int a3), (4, .int v2)] [] h3) (fun v2 h3 hB => ?_)
  obtain ⟨B1, hq, hB1⟩ := hB
  refine hp_iload E 4 dX12_reckon_3 rfl ?_
  refine hp_aload_n E 0 dX12_reckon_5 rfl rfl ?_
  refine hp_gI E g_RX12_193 fM_0_15 dX12_reckon_6 ?_
  refine hp_icmp_ge E 448 dX12_reckon_9 (by decide) (fun c4 => ?_) (fun c4 => ?_)
  · replace hq := hq.1 c4
    exact hp_vret E hq hZ dX12_reckon_448
  · replace hq := hq.2 c4
    refine hp_aload_n E 0 dX12_reckon_12 rfl rfl ?_
    refine hp_gR E g_RX12_50 fM_0_17 dX12_reckon_13 ?_
    refine hp_iload E 4 dX12_reckon_16 rfl ?_
    refine hp_iald E 14 aM_14 hq.1 dX12_reckon_18 ?_
    replace hq := hq.2
    refine hp_topi (fun v5 ev5 => ?_)
    replace hq := hq v5 ev5
    refine hp_istore (lv' := [(0, .ref (ad 0)), (1, .int a1), (2, .int a2), (3, .int a3), (4, .int v2), (5, .int v5)]) E dX12_reckon_19 (by decide) rfl rfl ?_
    refine hp_aload_n E 0 dX12_reckon_21 rfl rfl ?_
    refine hp_gR E g_RX12_53 fM_0_18 dX12_reckon_22 ?_
    refine hp_iload E 4 dX12_reckon_25 rfl ?_
    refine hp_iald E 15 aM_15 hq.1 dX12_reckon_27 ?_
    replace hq := hq.2
    refine hp_topi (fun v6 ev6 => ?_)
    replace hq := hq v6 ev6
    refine hp_istore (lv' := [(0, .ref (ad 0)), (1, .int a1), (2, .int a2), (3, .int a3), (4, .int v2), (5, .int v5), (6, .int v6)]) E dX12_reckon_28 (by decide) rfl rfl ?_
    refine hp_iconst E (nI 0) dX12_reckon_30 (by decide) ?_
    refine hp_istore (lv' := [(0, .ref (ad 0)), (1, .int a1), (2, .int a2), (3, .int a3), (4, .int v2), (5, .int v5), (6, .int v6), (7, .int (nI 0))]) E dX12_reckon_31 (by decide) rfl rfl ?_
    refine hp_aload_n E 0 dX12_reckon_33 rfl rfl ?_
    refine hp_gR E g_RX12_47 fM_0_16 dX12_reckon_34 ?_
    refine hp_iload E 4 dX12_reckon_37 rfl ?_
    refine hp_iald E 13 aM_13 hq.1 dX12_reckon_39 ?_
    replace hq := hq.2
    refine hp_topi (fun v7 ev7 => ?_)
    replace hq := hq v7 ev7
    obtain ⟨K8, hq, hK8⟩ := hq
    have jK8 : ∀ (v9 : Int32), K8 v9 → hp_G p l e rm_X12_reckon s m args below meth c SM cs ad A D 8 0 0 Z 433 [(0, .ref (ad 0)), (1, .int a1), (2, .int a2), (3, .int a3), (4, .int v2), (7, .int v9)] [] h3 := by
      intro v9 hq
      replace hq := hK8 v9 hq
      refine hp_aload_n E 0 dX12_reckon_433 rfl rfl ?_
      refine hp_gR E g_RX12_119 fM_0_52 dX12_reckon_434 ?_
      refine hp_iload E 4 dX12_reckon_437 rfl ?_
      refine hp_iload E 5 dX12_reckon_439 rfl ?_
      have hin := hq.1
      replace hq := hq.2
      refine hp_iast E 37 aM_37 zM_37 hJ hin dX12_reckon_441 ?_
      refine hp_toph (fun h62 eh62 => ?_)
      replace hq := hq h62 eh62
      obtain ⟨v63, ev63⟩ : ∃ z : Int32, z = v2 + (nI 1) := ⟨_, rfl⟩
      replace hq := hq v63 ev63
      refine hp_iinc (lv' := [(0, .ref (ad 0)), (1, .int a1), (2, .int a2), (3, .int a3), (4, .int v63), (7, .int v9)]) E 4 v63 dX12_reckon_442 rfl (by rw [ev63]; rfl) (by decide) rfl rfl ?_
      refine hp_goto E 3 dX12_reckon_445 (by decide) ?_
      refine hp_sub (lv' := [(0, .ref (ad 0)), (1, .int a1), (2, .int a2), (3, .int a3), (4, .int v63)]) [0, 1, 2, 3, 4] rfl ?_
      exact hB1 _ _ hq
    by_cases c48 : v7 = (nI 0)
    · replace hq := hq.1 (c48)
      refine hp_tswV (off := 72) E (nI 0) 112 dX12_reckon_40 c48 (by decide) (by decide) (by decide) (by decide) ?_
      refine hp_iload E 5 dX12_reckon_112 rfl ?_
      refine hp_istore (lv' := [(0, .ref (ad 0)), (1, .int a1), (2, .int a2), (3, .int a3), (4, .int v2), (5, .int v5), (6, .int v6), (7, .int v5)]) E dX12_reckon_114 (by decide) rfl rfl ?_
      refine hp_goto E 433 dX12_reckon_116 (by decide) ?_
      refine hp_sub (lv' := [(0, .ref (ad 0)), (1, .int a1), (2, .int a2), (3, .int a3), (4, .int v2), (7, .int v5)]) [0, 1, 2, 3, 4, 7] rfl ?_
      exact jK8 _ hq
    by_cases c49 : v7 = (nI 1)
    · replace hq := hq.2.1 (c49)
      refine hp_tswV (off := 79) E (nI 1) 119 dX12_reckon_40 c49 (by decide) (by decide) (by decide) (by decide) ?_
      refine hp_aload_n E 0 dX12_reckon_119 rfl rfl ?_
      refine hp_iload_n E 1 dX12_reckon_120 rfl rfl ?_
      refine hp_iload E 5 dX12_reckon_121 rfl ?_
      refine hp_callVip (rest := []) E 0 fM_0_0 vcl_12 (c_X12_cell l hJ hq) F_X12_cell m_RX12_216 ⟨rfl, rfl⟩ ⟨Nat.le_of_ble_eq_true rfl, Nat.le_of_ble_eq_true rfl⟩ ⟨Nat.zero_le _, Nat.zero_le _⟩ rfl rfl (Nat.le_of_ble_eq_true rfl) dX12_reckon_123 (fun r10 hq => ?_)
      refine hp_istore (lv' := [(0, .ref (ad 0)), (1, .int a1), (2, .int a2), (3, .int a3), (4, .int v2), (5, .int v5), (6, .int v6), (7, .int r10)]) E dX12_reckon_126 (by decide) rfl rfl ?_
      refine hp_goto E 433 dX12_reckon_128 (by decide) ?_
      refine hp_sub (lv' := [(0, .ref (ad 0)), (1, .int a1), (2, .int a2), (3, .int a3), (4, .int v2), (7, .int r10)]) [0, 1, 2, 3, 4, 7] rfl ?_
      exact jK8 _ hq
    by_cases c50 : v7 = (nI 2)
    · replace hq := hq.2.2.1 (c50)
      refine hp_tswV (off := 91) E (nI 2) 131 dX12_reckon_40 c50 (by decide) (by decide) (by decide) (by decide) ?_
      refine hp_iload_n E 2 dX12_reckon_131 rfl rfl ?_
      refine hp_iconst E (-1) dX12_reckon_132 (by decide) ?_
      obtain ⟨K12, hq, hK12⟩ := hq
      have jK12 : ∀ (v13 : Int32), K12 v13 → hp_G p l e rm_X12_reckon s m args below meth c SM cs ad A D 8 0 0 Z 166 [(0, .ref (ad 0)), (1, .int a1), (2, .int a2), (3, .int a3), (4, .int v2)] [.int v13] h3 := by
        intro v13 hq
        replace hq := hK12 v13 hq
        refine hp_istore (lv' := [(0, .ref (ad 0)), (1, .int a1), (2, .int a2), (3, .int a3), (4, .int v2), (7, .int v13)]) E dX12_reckon_166 (by decide) rfl rfl ?_
        refine hp_goto E 433 dX12_reckon_168 (by decide) ?_
        exact jK8 _ hq
      obtain ⟨K14, hq, hK14⟩ := hq
      have jK14 : K14 → hp_G p l e rm_X12_reckon s m args below meth c SM cs ad A D 8 0 0 Z 147 [(0, .ref (ad 0)), (1, .int a1), (2, .int a2), (3, .int a3), (4, .int v2)] [] h3 := by
        intro  hq
        replace hq := hK14  hq
        refine hp_iconst E (nI 0) dX12_reckon_147 (by decide) ?_
        refine hp_goto E 166 dX12_reckon_148 (by decide) ?_
        exact jK12 _ hq
      refine hp_icmp_eq E 147 dX12_reckon_133 (by decide) (fun c11 => ?_) (fun c11 => ?_)
      · replace hq := hq.1 c11
        refine hp_sub (lv' := [(0, .ref (ad 0)), (1, .int a1), (2, .int a2), (3, .int a3), (4, .int v2)]) [0, 1, 2, 3, 4] rfl ?_
        exact jK14  hq
      · replace hq := hq.2 c11
        refine hp_iload E 5 dX12_reckon_136 rfl ?_
        refine hp_aload_n E 0 dX12_reckon_138 rfl rfl ?_
        refine hp_gR E g_RX12_22 fM_0_6 dX12_reckon_139 ?_
        refine hp_iload_n E 2 dX12_reckon_142 rfl rfl ?_
        refine hp_iald E 5 aM_5 hq.1 dX12_reckon_143 ?_
        replace hq := hq.2
        refine hp_icmp_lt E 151 dX12_reckon_144 (by decide) (fun c15 => ?_) (fun c15 => ?_)
        · replace hq := hq.1 c15
          refine hp_aload_n E 0 dX12_reckon_151 rfl rfl ?_
          refine hp_iload_n E 1 dX12_reckon_152 rfl rfl ?_
          refine hp_iload_n E 2 dX12_reckon_153 rfl rfl ?_
          refine hp_iload_n E 3 dX12_reckon_154 rfl rfl ?_
          refine hp_callSip (rest := [.int a1, .ref (ad 0)]) E (c_X12_memberAt l hJ hq) F_X12_memberAt m_RX12_212 ⟨rfl, rfl⟩ ⟨Nat.le_of_ble_eq_true rfl, Nat.le_of_ble_eq_true rfl⟩ ⟨Nat.zero_le _, Nat.zero_le _⟩ rfl rfl (Nat.le_of_ble_eq_true rfl) dX12_reckon_155 (fun r16 hq => ?_)
          refine hp_iconst E (nI 1) dX12_reckon_158 (by decide) ?_
          refine hp_iadd E dX12_reckon_159 ?_
          refine hp_iload E 5 dX12_reckon_160 rfl ?_
          refine hp_iadd E dX12_reckon_162 ?_
          refine hp_callVip (rest := []) E 0 fM_0_0 vcl_12 (c_X12_cell l hJ hq) F_X12_cell m_RX12_216 ⟨rfl, rfl⟩ ⟨Nat.le_of_ble_eq_true rfl, Nat.le_of_ble_eq_true rfl⟩ ⟨Nat.zero_le _, Nat.zero_le _⟩ rfl rfl (Nat.le_of_ble_eq_true rfl) dX12_reckon_163 (fun r17 hq => ?_)
          refine hp_sub (lv' := [(0, .ref (ad 0)), (1, .int a1), (2, .int a2), (3, .int a3), (4, .int v2)]) [0, 1, 2, 3, 4] rfl ?_
          exact jK12 _ hq
        · replace hq := hq.2 c15
          refine hp_sub (lv' := [(0, .ref (ad 0)), (1, .int a1), (2, .int a2), (3, .int a3), (4, .int v2)]) [0, 1, 2, 3, 4] rfl ?_
          exact jK14  hq
    by_cases c51 : v7 = (nI 3)
    · replace hq := hq.2.2.2.1 (c51)
      refine hp_tswV (off := 131) E (nI 3) 171 dX12_reckon_40 c51 (by decide) (by decide) (by decide) (by decide) ?_
      refine hp_iload_n E 2 dX12_reckon_171 rfl rfl ?_
      refine hp_iconst E (-1) dX12_reckon_172 (by decide) ?_
      obtain ⟨K19, hq, hK19⟩ := hq
      have jK19 : ∀ (v20 : Int32), K19 v20 → hp_G p l e rm_X12_reckon s m args below meth c SM cs ad A D 8 0 0 Z 181 [(0, .ref (ad 0)), (1, .int a1), (2, .int a2), (3, .int a3), (4, .int v2)] [.int v20] h3 := by
        intro v20 hq
        replace hq := hK19 v20 hq
        refine hp_istore (lv' := [(0, .ref (ad 0)), (1, .int a1), (2, .int a2), (3, .int a3), (4, .int v2), (7, .int v20)]) E dX12_reckon_181 (by decide) rfl rfl ?_
        refine hp_goto E 433 dX12_reckon_183 (by decide) ?_
        exact jK8 _ hq
      refine hp_icmp_ne E 180 dX12_reckon_173 (by decide) (fun c18 => ?_) (fun c18 => ?_)
      · replace hq := hq.2 c18
        refine hp_iload_n E 3 dX12_reckon_180 rfl rfl ?_
        refine hp_sub (lv' := [(0, .ref (ad 0)), (1, .int a1), (2, .int a2), (3, .int a3), (4, .int v2)]) [0, 1, 2, 3, 4] rfl ?_
        exact jK19 _ hq
      · replace hq := hq.1 c18
        refine hp_iconst E (nI 0) dX12_reckon_176 (by decide) ?_
        refine hp_goto E 181 dX12_reckon_177 (by decide) ?_
        refine hp_sub (lv' := [(0, .ref (ad 0)), (1, .int a1), (2, .int a2), (3, .int a3), (4, .int v2)]) [0, 1, 2, 3, 4] rfl ?_
        exact jK19 _ hq
    by_cases c52 : v7 = (nI 4)
    · replace hq := hq.2.2.2.2.1 (c52)
      refine hp_tswV (off := 146) E (nI 4) 186 dX12_reckon_40 c52 (by decide) (by decide) (by decide) (by decide) ?_
      refine hp_aload_n E 0 dX12_reckon_186 rfl rfl ?_
      refine hp_iload_n E 1 dX12_reckon_187 rfl rfl ?_
      refine hp_iload E 5 dX12_reckon_188 rfl ?_
      refine hp_iload E 6 dX12_reckon_190 rfl ?_
      refine hp_callVip (rest := []) E 0 fM_0_0 vcl_12 (c_X12_many l hJ hq) F_X12_many m_RX12_219 ⟨rfl, rfl⟩ ⟨Nat.le_of_ble_eq_true rfl, Nat.le_of_ble_eq_true rfl⟩ ⟨Nat.zero_le _, Nat.zero_le _⟩ rfl rfl (Nat.le_of_ble_eq_true rfl) dX12_reckon_192 (fun r21 hq => ?_)
      refine hp_istore (lv' := [(0, .ref (ad 0)), (1, .int a1), (2, .int a2), (3, .int a3), (4, .int v2), (5, .int v5), (6, .int v6), (7, .int r21)]) E dX12_reckon_195 (by decide) rfl rfl ?_
      refine hp_goto E 433 dX12_reckon_197 (by decide) ?_
      refine hp_sub (lv' := [(0, .ref (ad 0)), (1, .int a1), (2, .int a2), (3, .int a3), (4, .int v2), (7, .int r21)]) [0, 1, 2, 3, 4, 7] rfl ?_
      exact jK8 _ hq
    by_cases c53 : v7 = (nI 5)
    · replace hq := hq.2.2.2.2.2.1 (c53)
      refine hp_tswV (off := 160) E (nI 5) 200 dX12_reckon_40 c53 (by decide) (by decide) (by decide) (by decide) ?_
      refine hp_aload_n E 0 dX12_reckon_200 rfl rfl ?_
      refine hp_iload_n E 1 dX12_reckon_201 rfl rfl ?_
      refine hp_iload E 5 dX12_reckon_202 rfl ?_
      refine hp_callSip (rest := [.int a1, .ref (ad 0)]) E (c_X12_channelAt l hJ hq) F_X12_channelAt m_RX12_223 ⟨rfl, rfl⟩ ⟨Nat.le_of_ble_eq_true rfl, Nat.le_of_ble_eq_true rfl⟩ ⟨Nat.zero_le _, Nat.zero_le _⟩ rfl rfl (Nat.le_of_ble_eq_true rfl) dX12_reckon_204 (fun r22 hq => ?_)
      refine hp_callVip (rest := []) E 0 fM_0_0 vcl_12 (c_X12_cell l hJ hq) F_X12_cell m_RX12_216 ⟨rfl, rfl⟩ ⟨Nat.le_of_ble_eq_true rfl, Nat.le_of_ble_eq_true rfl⟩ ⟨Nat.zero_le _, Nat.zero_le _⟩ rfl rfl (Nat.le_of_ble_eq_true rfl) dX12_reckon_207 (fun r23 hq => ?_)
      refine hp_istore (lv' := [(0, .ref (ad 0)), (1, .int a1), (2, .int a2), (3, .int a3), (4, .int v2), (5, .int v5), (6, .int v6), (7, .int r23)]) E dX12_reckon_210 (by decide) rfl rfl ?_
      refine hp_goto E 433 dX12_reckon_212 (by decide) ?_
      refine hp_sub (lv' := [(0, .ref (ad 0)), (1, .int a1), (2, .int a2), (3, .int a3), (4, .int v2), (7, .int r23)]) [0, 1, 2, 3, 4, 7] rfl ?_
      exact jK8 _ hq
    by_cases c54 : v7 = (nI 6)
    · replace hq := hq.2.2.2.2.2.2.1 (c54)
      refine hp_tswV (off := 175) E (nI 6) 215 dX12_reckon_40 c54 (by decide) (by decide) (by decide) (by decide) ?_
      refine hp_aload_n E 0 dX12_reckon_215 rfl rfl ?_
      refine hp_iload_n E 1 dX12_reckon_216 rfl rfl ?_
      refine hp_iload E 5 dX12_reckon_217 rfl ?_
      refine hp_iload E 6 dX12_reckon_219 rfl ?_
      refine hp_callSip (rest := [.int a1, .ref (ad 0)]) E (c_X12_memberAt l hJ hq) F_X12_memberAt m_RX12_212 ⟨rfl, rfl⟩ ⟨Nat.le_of_ble_eq_true rfl, Nat.le_of_ble_eq_true rfl⟩ ⟨Nat.zero_le _, Nat.zero_le _⟩ rfl rfl (Nat.le_of_ble_eq_true rfl) dX12_reckon_221 (fun r24 hq => ?_)
      refine hp_iconst E (nI 1) dX12_reckon_224 (by decide) ?_
      refine hp_iadd E dX12_reckon_225 ?_
      refine hp_aload_n E 0 dX12_reckon_226 rfl rfl ?_
      refine hp_gR E g_RX12_56 fM_0_19 dX12_reckon_227 ?_
      refine hp_iload E 4 dX12_reckon_230 rfl ?_
      refine hp_iald E 16 aM_16 hq.1 dX12_reckon_232 ?_
      replace hq := hq.2
      refine hp_iadd E dX12_reckon_233 ?_
      refine hp_callVip (rest := []) E 0 fM_0_0 vcl_12 (c_X12_cell l hJ hq) F_X12_cell m_RX12_216 ⟨rfl, rfl⟩ ⟨Nat.le_of_ble_eq_true rfl, Nat.le_of_ble_eq_true rfl⟩ ⟨Nat.zero_le _, Nat.zero_le _⟩ rfl rfl (Nat.le_of_ble_eq_true rfl) dX12_reckon_234 (fun r25 hq => ?_)
      refine hp_istore (lv' := [(0, .ref (ad 0)), (1, .int a1), (2, .int a2), (3, .int a3), (4, .int v2), (5, .int v5), (6, .int v6), (7, .int r25)]) E dX12_reckon_237 (by decide) rfl rfl ?_
      refine hp_goto E 433 dX12_reckon_239 (by decide) ?_
      refine hp_sub (lv' := [(0, .ref (ad 0)), (1, .int a1), (2, .int a2), (3, .int a3), (4, .int v2), (7, .int r25)]) [0, 1, 2, 3, 4, 7] rfl ?_
      exact jK8 _ hq
    by_cases c55 : v7 = (nI 7)
    · replace hq := hq.2.2.2.2.2.2.2.1 (c55)
      refine hp_tswV (off := 202) E (nI 7) 242 dX12_reckon_40 c55 (by decide) (by decide) (by decide) (by decide) ?_
      refine hp_aload_n E 0 dX12_reckon_242 rfl rfl ?_
      refine hp_gR E g_RX12_119 fM_0_52 dX12_reckon_243 ?_
      refine hp_iload E 5 dX12_reckon_246 rfl ?_
      refine hp_iald E 37 aM_37 hq.1 dX12_reckon_248 ?_
      replace hq := hq.2
      refine hp_aload_n E 0 dX12_reckon_249 rfl rfl ?_
      refine hp_gR E g_RX12_119 fM_0_52 dX12_reckon_250 ?_
      refine hp_iload E 6 dX12_reckon_253 rfl ?_
      refine hp_iald E 37 aM_37 hq.1 dX12_reckon_255 ?_
      replace hq := hq.2
      refine hp_iadd E dX12_reckon_256 ?_
      refine hp_topi (fun v26 ev26 => ?_)
      replace hq := hq v26 ev26
      refine hp_istore (lv' := [(0, .ref (ad 0)), (1, .int a1), (2, .int a2), (3, .int a3), (4, .int v2), (5, .int v5), (6, .int v6), (7, .int v26)]) E dX12_reckon_257 (by decide) rfl rfl ?_
      refine hp_goto E 433 dX12_reckon_259 (by decide) ?_
      refine hp_sub (lv' := [(0, .ref (ad 0)), (1, .int a1), (2, .int a2), (3, .int a3), (4, .int v2), (7, .int v26)]) [0, 1, 2, 3, 4, 7] rfl ?_
      exact jK8 _ hq
    by_cases c56 : v7 = (nI 8)
    · replace hq := hq.2.2.2.2.2.2.2.2.1 (c56)
      refine hp_tswV (off := 222) E (nI 8) 262 dX12_reckon_40 c56 (by decide) (by decide) (by decide) (by decide) ?_
      refine hp_aload_n E 0 dX12_reckon_262 rfl rfl ?_
      refine hp_gR E g_RX12_119 fM_0_52 dX12_reckon_263 ?_
      refine hp_iload E 5 dX12_reckon_266 rfl ?_
      refine hp_iald E 37 aM_37 hq.1 dX12_reckon_268 ?_
      replace hq := hq.2
      refine hp_aload_n E 0 dX12_reckon_269 rfl rfl ?_
      refine hp_gR E g_RX12_119 fM_0_52 dX12_reckon_270 ?_
      refine hp_iload E 6 dX12_reckon_273 rfl ?_
      refine hp_iald E 37 aM_37 hq.1 dX12_reckon_275 ?_
      replace hq := hq.2
      refine hp_isub E dX12_reckon_276 ?_
      refine hp_topi (fun v27 ev27 => ?_)
      replace hq := hq v27 ev27
      refine hp_istore (lv' := [(0, .ref (ad 0)), (1, .int a1), (2, .int a2), (3, .int a3), (4, .int v2), (5, .int v5), (6, .int v6), (7, .int v27)]) E dX12_reckon_277 (by decide) rfl rfl ?_
      refine hp_goto E 433 dX12_reckon_279 (by decide) ?_
      refine hp_sub (lv' := [(0, .ref (ad 0)), (1, .int a1), (2, .int a2), (3, .int a3), (4, .int v2), (7, .int v27)]) [0, 1, 2, 3, 4, 7] rfl ?_
      exact jK8 _ hq
    by_cases c57 : v7 = (nI 9)
    · replace hq := hq.2.2.2.2.2.2.2.2.2.1 (c57)
      refine hp_tswV (off := 242) E (nI 9) 282 dX12_reckon_40 c57 (by decide) (by decide) (by decide) (by decide) ?_
      refine hp_aload_n E 0 dX12_reckon_282 rfl rfl ?_
      refine hp_gR E g_RX12_119 fM_0_52 dX12_reckon_283 ?_
      refine hp_iload E 5 dX12_reckon_286 rfl ?_
      refine hp_iald E 37 aM_37 hq.1 dX12_reckon_288 ?_
      replace hq := hq.2
      refine hp_aload_n E 0 dX12_reckon_289 rfl rfl ?_
      refine hp_gR E g_RX12_119 fM_0_52 dX12_reckon_290 ?_
      refine hp_iload E 6 dX12_reckon_293 rfl ?_
      refine hp_iald E 37 aM_37 hq.1 dX12_reckon_295 ?_
      replace hq := hq.2
      refine hp_imul E dX12_reckon_296 ?_
      refine hp_topi (fun v28 ev28 => ?_)
      replace hq := hq v28 ev28
      refine hp_istore (lv' := [(0, .ref (ad 0)), (1, .int a1), (2, .int a2), (3, .int a3), (4, .int v2), (5, .int v5), (6, .int v6), (7, .int v28)]) E dX12_reckon_297 (by decide) rfl rfl ?_
      refine hp_goto E 433 dX12_reckon_299 (by decide) ?_
      refine hp_sub (lv' := [(0, .ref (ad 0)), (1, .int a1), (2, .int a2), (3, .int a3), (4, .int v2), (7, .int v28)]) [0, 1, 2, 3, 4, 7] rfl ?_
      exact jK8 _ hq
    by_cases c58 : v7 = (nI 10)
    · replace hq := hq.2.2.2.2.2.2.2.2.2.2.1 (c58)
      refine hp_tswV (off := 262) E (nI 10) 302 dX12_reckon_40 c58 (by decide) (by decide) (by decide) (by decide) ?_
      refine hp_aload_n E 0 dX12_reckon_302 rfl rfl ?_
      refine hp_gR E g_RX12_119 fM_0_52 dX12_reckon_303 ?_
      refine hp_iload E 5 dX12_reckon_306 rfl ?_
      refine hp_iald E 37 aM_37 hq.1 dX12_reckon_308 ?_
      replace hq := hq.2
      refine hp_aload_n E 0 dX12_reckon_309 rfl rfl ?_
      refine hp_gR E g_RX12_119 fM_0_52 dX12_reckon_310 ?_
      refine hp_iload E 6 dX12_reckon_313 rfl ?_
      refine hp_iald E 37 aM_37 hq.1 dX12_reckon_315 ?_
      replace hq := hq.2
      obtain ⟨K30, hq, hK30⟩ := hq
      have jK30 : ∀ (v31 : Int32), K30 v31 → hp_G p l e rm_X12_reckon s m args below meth c SM cs ad A D 8 0 0 Z 324 [(0, .ref (ad 0)), (1, .int a1), (2, .int a2), (3, .int a3), (4, .int v2)] [.int v31] h3 := by
        intro v31 hq
        replace hq := hK30 v31 hq
        refine hp_istore (lv' := [(0, .ref (ad 0)), (1, .int a1), (2, .int a2), (3, .int a3), (4, .int v2), (7, .int v31)]) E dX12_reckon_324 (by decide) rfl rfl ?_
        refine hp_goto E 433 dX12_reckon_326 (by decide) ?_
        exact jK8 _ hq
      refine hp_icmp_ne E 323 dX12_reckon_316 (by decide) (fun c29 => ?_) (fun c29 => ?_)
      · replace hq := hq.2 c29
        refine hp_iconst E (nI 0) dX12_reckon_323 (by decide) ?_
        refine hp_sub (lv' := [(0, .ref (ad 0)), (1, .int a1), (2, .int a2), (3, .int a3), (4, .int v2)]) [0, 1, 2, 3, 4] rfl ?_
        exact jK30 _ hq
      · replace hq := hq.1 c29
        refine hp_iconst E (nI 1) dX12_reckon_319 (by decide) ?_
        refine hp_goto E 324 dX12_reckon_320 (by decide) ?_
        refine hp_sub (lv' := [(0, .ref (ad 0)), (1, .int a1), (2, .int a2), (3, .int a3), (4, .int v2)]) [0, 1, 2, 3, 4] rfl ?_
        exact jK30 _ hq
    by_cases c59 : v7 = (nI 11)
    · replace hq := hq.2.2.2.2.2.2.2.2.2.2.2.1 (c59)
      refine hp_tswV (off := 289) E (nI 11) 329 dX12_reckon_40 c59 (by decide) (by decide) (by decide) (by decide) ?_
      refine hp_aload_n E 0 dX12_reckon_329 rfl rfl ?_
      refine hp_gR E g_RX12_119 fM_0_52 dX12_reckon_330 ?_
      refine hp_iload E 5 dX12_reckon_333 rfl ?_
      refine hp_iald E 37 aM_37 hq.1 dX12_reckon_335 ?_
      replace hq := hq.2
      refine hp_aload_n E 0 dX12_reckon_336 rfl rfl ?_
      refine hp_gR E g_RX12_119 fM_0_52 dX12_reckon_337 ?_
      refine hp_iload E 6 dX12_reckon_340 rfl ?_
      refine hp_iald E 37 aM_37 hq.1 dX12_reckon_342 ?_
      replace hq := hq.2
      obtain ⟨K33, hq, hK33⟩ := hq
      have jK33 : ∀ (v34 : Int32), K33 v34 → hp_G p l e rm_X12_reckon s m args below meth c SM cs ad A D 8 0 0 Z 351 [(0, .ref (ad 0)), (1, .int a1), (2, .int a2), (3, .int a3), (4, .int v2)] [.int v34] h3 := by
        intro v34 hq
        replace hq := hK33 v34 hq
        refine hp_istore (lv' := [(0, .ref (ad 0)), (1, .int a1), (2, .int a2), (3, .int a3), (4, .int v2), (7, .int v34)]) E dX12_reckon_351 (by decide) rfl rfl ?_
        refine hp_goto E 433 dX12_reckon_353 (by decide) ?_
        exact jK8 _ hq
      refine hp_icmp_ge E 350 dX12_reckon_343 (by decide) (fun c32 => ?_) (fun c32 => ?_)
      · replace hq := hq.1 c32
        refine hp_iconst E (nI 0) dX12_reckon_350 (by decide) ?_
        refine hp_sub (lv' := [(0, .ref (ad 0)), (1, .int a1), (2, .int a2), (3, .int a3), (4, .int v2)]) [0, 1, 2, 3, 4] rfl ?_
        exact jK33 _ hq
      · replace hq := hq.2 c32
        refine hp_iconst E (nI 1) dX12_reckon_346 (by decide) ?_
        refine hp_goto E 351 dX12_reckon_347 (by decide) ?_
        refine hp_sub (lv' := [(0, .ref (ad 0)), (1, .int a1), (2, .int a2), (3, .int a3), (4, .int v2)]) [0, 1, 2, 3, 4] rfl ?_
        exact jK33 _ hq
    by_cases c60 : v7 = (nI 12)
    · replace hq := hq.2.2.2.2.2.2.2.2.2.2.2.2.1 (c60)
      refine hp_tswV (off := 316) E (nI 12) 356 dX12_reckon_40 c60 (by decide) (by decide) (by decide) (by decide) ?_
      refine hp_aload_n E 0 dX12_reckon_356 rfl rfl ?_
      refine hp_gR E g_RX12_119 fM_0_52 dX12_reckon_357 ?_
      refine hp_iload E 5 dX12_reckon_360 rfl ?_
      refine hp_iald E 37 aM_37 hq.1 dX12_reckon_362 ?_
      replace hq := hq.2
      obtain ⟨K36, hq, hK36⟩ := hq
      have jK36 : ∀ (v37 : Int32), K36 v37 → hp_G p l e rm_X12_reckon s m args below meth c SM cs ad A D 8 0 0 Z 381 [(0, .ref (ad 0)), (1, .int a1), (2, .int a2), (3, .int a3), (4, .int v2)] [.int v37] h3 := by
        intro v37 hq
        replace hq := hK36 v37 hq
        refine hp_istore (lv' := [(0, .ref (ad 0)), (1, .int a1), (2, .int a2), (3, .int a3), (4, .int v2), (7, .int v37)]) E dX12_reckon_381 (by decide) rfl rfl ?_
        refine hp_goto E 433 dX12_reckon_383 (by decide) ?_
        exact jK8 _ hq
      obtain ⟨K38, hq, hK38⟩ := hq
      have jK38 : K38 → hp_G p l e rm_X12_reckon s m args below meth c SM cs ad A D 8 0 0 Z 380 [(0, .ref (ad 0)), (1, .int a1), (2, .int a2), (3, .int a3), (4, .int v2)] [] h3 := by
        intro  hq
        replace hq := hK38  hq
        refine hp_iconst E (nI 0) dX12_reckon_380 (by decide) ?_
        exact jK36 _ hq
      refine hp_if_eq E 380 dX12_reckon_363 (by decide) (fun c35 => ?_) (fun c35 => ?_)
      · replace hq := hq.1 c35
        refine hp_sub (lv' := [(0, .ref (ad 0)), (1, .int a1), (2, .int a2), (3, .int a3), (4, .int v2)]) [0, 1, 2, 3, 4] rfl ?_
        exact jK38  hq
      · replace hq := hq.2 c35
        refine hp_aload_n E 0 dX12_reckon_366 rfl rfl ?_
        refine hp_gR E g_RX12_119 fM_0_52 dX12_reckon_367 ?_
        refine hp_iload E 6 dX12_reckon_370 rfl ?_
        refine hp_iald E 37 aM_37 hq.1 dX12_reckon_372 ?_
        replace hq := hq.2
        refine hp_if_eq E 380 dX12_reckon_373 (by decide) (fun c39 => ?_) (fun c39 => ?_)
        · replace hq := hq.1 c39
          refine hp_sub (lv' := [(0, .ref (ad 0)), (1, .int a1), (2, .int a2), (3, .int a3), (4, .int v2)]) [0, 1, 2, 3, 4] rfl ?_
          exact jK38  hq
        · replace hq := hq.2 c39
          refine hp_iconst E (nI 1) dX12_reckon_376 (by decide) ?_
          refine hp_goto E 381 dX12_reckon_377 (by decide) ?_
          refine hp_sub (lv' := [(0, .ref (ad 0)), (1, .int a1), (2, .int a2), (3, .int a3), (4, .int v2)]) [0, 1, 2, 3, 4] rfl ?_
          exact jK36 _ hq
    by_cases c61 : v7 = (nI 13)
    · replace hq := hq.2.2.2.2.2.2.2.2.2.2.2.2.2.1 (c61)
      refine hp_tswV (off := 346) E (nI 13) 386 dX12_reckon_40 c61 (by decide) (by decide) (by decide) (by decide) ?_
      refine hp_aload_n E 0 dX12_reckon_386 rfl rfl ?_
      refine hp_gR E g_RX12_119 fM_0_52 dX12_reckon_387 ?_
      refine hp_iload E 5 dX12_reckon_390 rfl ?_
      refine hp_iald E 37 aM_37 hq.1 dX12_reckon_392 ?_
      replace hq := hq.2
      obtain ⟨K41, hq, hK41⟩ := hq
      have jK41 : ∀ (v42 : Int32), K41 v42 → hp_G p l e rm_X12_reckon s m args below meth c SM cs ad A D 8 0 0 Z 411 [(0, .ref (ad 0)), (1, .int a1), (2, .int a2), (3, .int a3), (4, .int v2)] [.int v42] h3 := by
        intro v42 hq
        replace hq := hK41 v42 hq
        refine hp_istore (lv' := [(0, .ref (ad 0)), (1, .int a1), (2, .int a2), (3, .int a3), (4, .int v2), (7, .int v42)]) E dX12_reckon_411 (by decide) rfl rfl ?_
        refine hp_goto E 433 dX12_reckon_413 (by decide) ?_
        exact jK8 _ hq
      obtain ⟨K43, hq, hK43⟩ := hq
      have jK43 : K43 → hp_G p l e rm_X12_reckon s m args below meth c SM cs ad A D 8 0 0 Z 406 [(0, .ref (ad 0)), (1, .int a1), (2, .int a2), (3, .int a3), (4, .int v2)] [] h3 := by
        intro  hq
        replace hq := hK43  hq
        refine hp_iconst E (nI 1) dX12_reckon_406 (by decide) ?_
        refine hp_goto E 411 dX12_reckon_407 (by decide) ?_
        exact jK41 _ hq
      refine hp_if_ne E 406 dX12_reckon_393 (by decide) (fun c40 => ?_) (fun c40 => ?_)
      · replace hq := hq.2 c40
        refine hp_sub (lv' := [(0, .ref (ad 0)), (1, .int a1), (2, .int a2), (3, .int a3), (4, .int v2)]) [0, 1, 2, 3, 4] rfl ?_
        exact jK43  hq
      · replace hq := hq.1 c40
        refine hp_aload_n E 0 dX12_reckon_396 rfl rfl ?_
        refine hp_gR E g_RX12_119 fM_0_52 dX12_reckon_397 ?_
        refine hp_iload E 6 dX12_reckon_400 rfl ?_
        refine hp_iald E 37 aM_37 hq.1 dX12_reckon_402 ?_
        replace hq := hq.2
        refine hp_if_eq E 410 dX12_reckon_403 (by decide) (fun c44 => ?_) (fun c44 => ?_)
        · replace hq := hq.1 c44
          refine hp_iconst E (nI 0) dX12_reckon_410 (by decide) ?_
          refine hp_sub (lv' := [(0, .ref (ad 0)), (1, .int a1), (2, .int a2), (3, .int a3), (4, .int v2)]) [0, 1, 2, 3, 4] rfl ?_
          exact jK41 _ hq
        · replace hq := hq.2 c44
          refine hp_sub (lv' := [(0, .ref (ad 0)), (1, .int a1), (2, .int a2), (3, .int a3), (4, .int v2)]) [0, 1, 2, 3, 4] rfl ?_
          exact jK43  hq
    replace hq := hq.2.2.2.2.2.2.2.2.2.2.2.2.2.2 ⟨c48, c49, c50, c51, c52, c53, c54, c55, c56, c57, c58, c59, c60, c61⟩
    refine hp_tswD E 416 dX12_reckon_40 (hp_out (fun i h1 h2 => ?_)) (by decide) ?_
    · rcases (show i = 0 ∨ i = 1 ∨ i = 2 ∨ i = 3 ∨ i = 4 ∨ i = 5 ∨ i = 6 ∨ i = 7 ∨ i = 8 ∨ i = 9 ∨ i = 10 ∨ i = 11 ∨ i = 12 ∨ i = 13 by omega) with rfl | rfl | rfl | rfl | rfl | rfl | rfl | rfl | rfl | rfl | rfl | rfl | rfl | rfl
      · exact hp_nat c48 (by decide)
      · exact hp_nat c49 (by decide)
      · exact hp_nat c50 (by decide)
      · exact hp_nat c51 (by decide)
      · exact hp_nat c52 (by decide)
      · exact hp_nat c53 (by decide)
      · exact hp_nat c54 (by decide)
      · exact hp_nat c55 (by decide)
      · exact hp_nat c56 (by decide)
      · exact hp_nat c57 (by decide)
      · exact hp_nat c58 (by decide)
      · exact hp_nat c59 (by decide)
      · exact hp_nat c60 (by decide)
      · exact hp_nat c61 (by decide)
    · refine hp_aload_n E 0 dX12_reckon_416 rfl rfl ?_
      refine hp_gR E g_RX12_119 fM_0_52 dX12_reckon_417 ?_
      refine hp_iload E 5 dX12_reckon_420 rfl ?_
      refine hp_iald E 37 aM_37 hq.1 dX12_reckon_422 ?_
      replace hq := hq.2
      obtain ⟨K46, hq, hK46⟩ := hq
      have jK46 : ∀ (v47 : Int32), K46 v47 → hp_G p l e rm_X12_reckon s m args below meth c SM cs ad A D 8 0 0 Z 431 [(0, .ref (ad 0)), (1, .int a1), (2, .int a2), (3, .int a3), (4, .int v2)] [.int v47] h3 := by
        intro v47 hq
        replace hq := hK46 v47 hq
        refine hp_istore (lv' := [(0, .ref (ad 0)), (1, .int a1), (2, .int a2), (3, .int a3), (4, .int v2), (7, .int v47)]) E dX12_reckon_431 (by decide) rfl rfl ?_
        exact jK8 _ hq
      refine hp_if_ne E 430 dX12_reckon_423 (by decide) (fun c45 => ?_) (fun c45 => ?_)
      · replace hq := hq.2 c45
        refine hp_iconst E (nI 0) dX12_reckon_430 (by decide) ?_
        refine hp_sub (lv' := [(0, .ref (ad 0)), (1, .int a1), (2, .int a2), (3, .int a3), (4, .int v2)]) [0, 1, 2, 3, 4] rfl ?_
        exact jK46 _ hq
      · replace hq := hq.1 c45
        refine hp_iconst E (nI 1) dX12_reckon_426 (by decide) ?_
        refine hp_goto E 431 dX12_reckon_427 (by decide) ?_
        refine hp_sub (lv' := [(0, .ref (ad 0)), (1, .int a1), (2, .int a2), (3, .int a3), (4, .int v2)]) [0, 1, 2, 3, 4] rfl ?_
        exact jK46 _ hq
theorem dX12_isBehind_0 : decode cX12_isBehind 0 = .ok (.iload_n 1, 1) := by decide +kernel
theorem dX12_isBehind_1 : decode cX12_isBehind 1 = .ok (.iload_n 2, 1) := by decide +kernel
theorem dX12_isBehind_2 : decode cX12_isBehind 2 = .ok (.invokestatic 212, 3) := by decide +kernel
theorem dX12_isBehind_5 : decode cX12_isBehind 5 = .ok (.istore 4, 2) := by decide +kernel
theorem dX12_isBehind_7 : decode cX12_isBehind 7 = .ok (.iload_n 1, 1) := by decide +kernel
theorem dX12_isBehind_8 : decode cX12_isBehind 8 = .ok (.iload_n 3, 1) := by decide +kernel
theorem dX12_isBehind_9 : decode cX12_isBehind 9 = .ok (.invokestatic 212, 3) := by decide +kernel
theorem dX12_isBehind_12 : decode cX12_isBehind 12 = .ok (.istore 5, 2) := by decide +kernel
theorem dX12_isBehind_14 : decode cX12_isBehind 14 = .ok (.iconst 0, 1) := by decide +kernel
theorem dX12_isBehind_15 : decode cX12_isBehind 15 = .ok (.istore 6, 2) := by decide +kernel
theorem dX12_isBehind_17 : decode cX12_isBehind 17 = .ok (.iload 6, 2) := by decide +kernel
theorem dX12_isBehind_19 : decode cX12_isBehind 19 = .ok (.iconst 4, 1) := by decide +kernel
theorem dX12_isBehind_20 : decode cX12_isBehind 20 = .ok (.if_icmp .ge 61, 3) := by decide +kernel
theorem dX12_isBehind_23 : decode cX12_isBehind 23 = .ok (.aload_n 0, 1) := by decide +kernel
theorem dX12_isBehind_24 : decode cX12_isBehind 24 = .ok (.getfield 116, 3) := by decide +kernel
theorem dX12_isBehind_27 : decode cX12_isBehind 27 = .ok (.iload 4, 2) := by decide +kernel
theorem dX12_isBehind_29 : decode cX12_isBehind 29 = .ok (.iload 6, 2) := by decide +kernel
theorem dX12_isBehind_31 : decode cX12_isBehind 31 = .ok (.iadd, 1) := by decide +kernel
theorem dX12_isBehind_32 : decode cX12_isBehind 32 = .ok (.iaload, 1) := by decide +kernel
theorem dX12_isBehind_33 : decode cX12_isBehind 33 = .ok (.aload_n 0, 1) := by decide +kernel
theorem dX12_isBehind_34 : decode cX12_isBehind 34 = .ok (.getfield 116, 3) := by decide +kernel
theorem dX12_isBehind_37 : decode cX12_isBehind 37 = .ok (.iload 5, 2) := by decide +kernel
theorem dX12_isBehind_39 : decode cX12_isBehind 39 = .ok (.iload 6, 2) := by decide +kernel
theorem dX12_isBehind_41 : decode cX12_isBehind 41 = .ok (.iadd, 1) := by decide +kernel
theorem dX12_isBehind_42 : decode cX12_isBehind 42 = .ok (.iaload, 1) := by decide +kernel
theorem dX12_isBehind_43 : decode cX12_isBehind 43 = .ok (.if_icmp .eq 32, 3) := by decide +kernel
theorem dX12_isBehind_46 : decode cX12_isBehind 46 = .ok (.aload_n 0, 1) := by decide +kernel
theorem dX12_isBehind_47 : decode cX12_isBehind 47 = .ok (.getfield 116, 3) := by decide +kernel
theorem dX12_isBehind_50 : decode cX12_isBehind 50 = .ok (.iload 4, 2) := by decide +kernel
theorem dX12_isBehind_52 : decode cX12_isBehind 52 = .ok (.iload 6, 2) := by decide +kernel
theorem dX12_isBehind_54 : decode cX12_isBehind 54 = .ok (.iadd, 1) := by decide +kernel
theorem dX12_isBehind_55 : decode cX12_isBehind 55 = .ok (.iaload, 1) := by decide +kernel
theorem dX12_isBehind_56 : decode cX12_isBehind 56 = .ok (.aload_n 0, 1) := by decide +kernel
theorem dX12_isBehind_57 : decode cX12_isBehind 57 = .ok (.getfield 116, 3) := by decide +kernel
theorem dX12_isBehind_60 : decode cX12_isBehind 60 = .ok (.iload 5, 2) := by decide +kernel
theorem dX12_isBehind_62 : decode cX12_isBehind 62 = .ok (.iload 6, 2) := by decide +kernel
theorem dX12_isBehind_64 : decode cX12_isBehind 64 = .ok (.iadd, 1) := by decide +kernel
theorem dX12_isBehind_65 : decode cX12_isBehind 65 = .ok (.iaload, 1) := by decide +kernel
theorem dX12_isBehind_66 : decode cX12_isBehind 66 = .ok (.if_icmp .le 7, 3) := by decide +kernel
theorem dX12_isBehind_69 : decode cX12_isBehind 69 = .ok (.iconst 1, 1) := by decide +kernel
theorem dX12_isBehind_70 : decode cX12_isBehind 70 = .ok (.goto 4, 3) := by decide +kernel
theorem dX12_isBehind_73 : decode cX12_isBehind 73 = .ok (.iconst 0, 1) := by decide +kernel
theorem dX12_isBehind_74 : decode cX12_isBehind 74 = .ok (.ireturn, 1) := by decide +kernel
theorem dX12_isBehind_75 : decode cX12_isBehind 75 = .ok (.iinc 6 1, 3) := by decide +kernel
theorem dX12_isBehind_78 : decode cX12_isBehind 78 = .ok (.goto (-61), 3) := by decide +kernel
theorem dX12_isBehind_81 : decode cX12_isBehind 81 = .ok (.iconst 0, 1) := by decide +kernel
theorem dX12_isBehind_82 : decode cX12_isBehind 82 = .ok (.ireturn, 1) := by decide +kernel
set_option maxHeartbeats 4000000 in
set_option maxRecDepth 100000 in
theorem c_X12_isBehind (l : Launch) {cs : Nat → ClassId} {ad : Nat → Nat} {A : Nat → Prop} {D : va_G} (hJ : hp_J SM ad A)   {h : hp_H} {a1 a2 a3 : Int32} {Q : Int32 → Prop} (hq : q_X12_isBehind h a1 a2 a3 Q) : hp_Mi l yX12_isBehind cX12_isBehind 7 (some .boolean) rm_X12_isBehind [.ref (ad 0), .int a1, .int a2, .int a3] SM cs ad A D h (fun r h' => Q r ∧ h' = h) := by
  refine hp_met (own := RX12) rfl (by decide) (Nat.le_of_ble_eq_true rfl) rfl (fun p e s m args below meth c Z E hZ hnm => ?_)
  refine hp_sub (lv' := [(0, .ref (ad 0)), (1, .int a1), (2, .int a2), (3, .int a3)]) [0, 1, 2, 3] rfl ?_
  unfold q_X12_isBehind at hq
  refine hp_iload_n E 1 dX12_isBehind_0 rfl rfl ?_
  refine hp_iload_n E 2 dX12_isBehind_1 rfl rfl ?_
  refine hp_callSip (rest := []) E (c_X12_memberAt l hJ hq) F_X12_memberAt m_RX12_212 ⟨rfl, rfl⟩ ⟨Nat.le_of_ble_eq_true rfl, Nat.le_of_ble_eq_true rfl⟩ ⟨Nat.zero_le _, Nat.zero_le _⟩ rfl rfl (Nat.le_of_ble_eq_true rfl) dX12_isBehind_2 (fun r1 hq => ?_)
  refine hp_istore (lv' := [(0, .ref (ad 0)), (1, .int a1), (2, .int a2), (3, .int a3), (4, .int r1)]) E dX12_isBehind_5 (by decide) rfl rfl ?_
  refine hp_iload_n E 1 dX12_isBehind_7 rfl rfl ?_
  refine hp_iload_n E 3 dX12_isBehind_8 rfl rfl ?_
  refine hp_callSip (rest := []) E (c_X12_memberAt l hJ hq) F_X12_memberAt m_RX12_212 ⟨rfl, rfl⟩ ⟨Nat.le_of_ble_eq_true rfl, Nat.le_of_ble_eq_true rfl⟩ ⟨Nat.zero_le _, Nat.zero_le _⟩ rfl rfl (Nat.le_of_ble_eq_true rfl) dX12_isBehind_9 (fun r2 hq => ?_)
  refine hp_istore (lv' := [(0, .ref (ad 0)), (1, .int a1), (2, .int a2), (3, .int a3), (4, .int r1), (5, .int r2)]) E dX12_isBehind_12 (by decide) rfl rfl ?_
  refine hp_iconst E (nI 0) dX12_isBehind_14 (by decide) ?_
  refine hp_istore (lv' := [(0, .ref (ad 0)), (1, .int a1), (2, .int a2), (3, .int a3), (4, .int r1), (5, .int r2), (6, .int (nI 0))]) E dX12_isBehind_15 (by decide) rfl rfl ?_
  refine hp_sub (lv' := [(0, .ref (ad 0)), (4, .int r1), (5, .int r2), (6, .int (nI 0))]) [0, 4, 5, 6] rfl ?_
  refine hq (fun v4 => hp_G p l e rm_X12_isBehind s m args below meth c SM cs ad A D 7 0 0 Z 17 [(0, .ref (ad 0)), (4, .int r1), (5, .int r2), (6, .int v4)] [] h) (fun v4 hB => ?_)
  obtain ⟨B3, hq, hB3⟩ := hB
  refine hp_iload E 3 dX12_isBehind_17 rfl ?_
  refine hp_iconst E (nI 4) dX12_isBehind_19 (by decide) ?_
  refine hp_icmp_ge E 81 dX12_isBehind_20 (by decide) (fun c5 => ?_) (fun c5 => ?_)
  · replace hq := hq.1 c5
    refine hp_iconst E (nI 0) dX12_isBehind_81 (by decide) ?_
    exact hp_zret E (by unfold hp_bz; decide) ⟨hq, rfl⟩ hZ dX12_isBehind_82
  · replace hq := hq.2 c5
    refine hp_aload_n E 0 dX12_isBehind_23 rfl rfl ?_
    refine hp_gR E g_RX12_116 fM_0_51 dX12_isBehind_24 ?_
    refine hp_iload E 1 dX12_isBehind_27 rfl ?_
    refine hp_iload E 3 dX12_isBehind_29 rfl ?_
    refine hp_iadd E dX12_isBehind_31 ?_
    refine hp_iald E 36 aM_36 hq.1 dX12_isBehind_32 ?_
    replace hq := hq.2
    refine hp_aload_n E 0 dX12_isBehind_33 rfl rfl ?_
    refine hp_gR E g_RX12_116 fM_0_51 dX12_isBehind_34 ?_
    refine hp_iload E 2 dX12_isBehind_37 rfl ?_
    refine hp_iload E 3 dX12_isBehind_39 rfl ?_
    refine hp_iadd E dX12_isBehind_41 ?_
    refine hp_iald E 36 aM_36 hq.1 dX12_isBehind_42 ?_
    replace hq := hq.2
    refine hp_icmp_eq E 75 dX12_isBehind_43 (by decide) (fun c6 => ?_) (fun c6 => ?_)
    · replace hq := hq.1 c6
      obtain ⟨v7, ev7⟩ : ∃ z : Int32, z = v4 + (nI 1) := ⟨_, rfl⟩
      replace hq := hq v7 ev7
      refine hp_iinc (lv' := [(0, .ref (ad 0)), (4, .int r1), (5, .int r2), (6, .int v7)]) E 3 v7 dX12_isBehind_75 rfl (by rw [ev7]; rfl) (by decide) rfl rfl ?_
      refine hp_goto E 17 dX12_isBehind_78 (by decide) ?_
      exact hB3 _ hq
    · replace hq := hq.2 c6
      refine hp_aload_n E 0 dX12_isBehind_46 rfl rfl ?_
      refine hp_gR E g_RX12_116 fM_0_51 dX12_isBehind_47 ?_
      refine hp_iload E 1 dX12_isBehind_50 rfl ?_
      refine hp_iload E 3 dX12_isBehind_52 rfl ?_
      refine hp_iadd E dX12_isBehind_54 ?_
      refine hp_iald E 36 aM_36 hq.1 dX12_isBehind_55 ?_
      replace hq := hq.2
      refine hp_aload_n E 0 dX12_isBehind_56 rfl rfl ?_
      refine hp_gR E g_RX12_116 fM_0_51 dX12_isBehind_57 ?_
      refine hp_iload E 2 dX12_isBehind_60 rfl ?_
      refine hp_iload E 3 dX12_isBehind_62 rfl ?_
      refine hp_iadd E dX12_isBehind_64 ?_
      refine hp_iald E 36 aM_36 hq.1 dX12_isBehind_65 ?_
      replace hq := hq.2
      refine hp_icmp_le E 73 dX12_isBehind_66 (by decide) (fun c8 => ?_) (fun c8 => ?_)
      · replace hq := hq.1 c8
        refine hp_iconst E (nI 0) dX12_isBehind_73 (by decide) ?_
        exact hp_zret E (by unfold hp_bz; decide) ⟨hq, rfl⟩ hZ dX12_isBehind_74
      · replace hq := hq.2 c8
        refine hp_iconst E (nI 1) dX12_isBehind_69 (by decide) ?_
        refine hp_goto E 74 dX12_isBehind_70 (by decide) ?_
        exact hp_zret E (by unfold hp_bz; decide) ⟨hq, rfl⟩ hZ dX12_isBehind_74
theorem dX12_order_0 : decode cX12_order 0 = .ok (.iconst 0, 1) := by decide +kernel
theorem dX12_order_1 : decode cX12_order 1 = .ok (.istore_n 1, 1) := by decide +kernel
theorem dX12_order_2 : decode cX12_order 2 = .ok (.iload_n 1, 1) := by decide +kernel
theorem dX12_order_3 : decode cX12_order 3 = .ok (.aload_n 0, 1) := by decide +kernel
theorem dX12_order_4 : decode cX12_order 4 = .ok (.getfield 183, 3) := by decide +kernel
theorem dX12_order_7 : decode cX12_order 7 = .ok (.if_icmp .ge 124, 3) := by decide +kernel
theorem dX12_order_10 : decode cX12_order 10 = .ok (.iconst 0, 1) := by decide +kernel
theorem dX12_order_11 : decode cX12_order 11 = .ok (.istore_n 2, 1) := by decide +kernel
theorem dX12_order_12 : decode cX12_order 12 = .ok (.iload_n 2, 1) := by decide +kernel
theorem dX12_order_13 : decode cX12_order 13 = .ok (.iconst 2, 1) := by decide +kernel
theorem dX12_order_14 : decode cX12_order 14 = .ok (.if_icmp .ge 111, 3) := by decide +kernel
theorem dX12_order_17 : decode cX12_order 17 = .ok (.iconst 0, 1) := by decide +kernel
theorem dX12_order_18 : decode cX12_order 18 = .ok (.istore_n 3, 1) := by decide +kernel
theorem dX12_order_19 : decode cX12_order 19 = .ok (.iload_n 3, 1) := by decide +kernel
theorem dX12_order_20 : decode cX12_order 20 = .ok (.iconst 1, 1) := by decide +kernel
theorem dX12_order_21 : decode cX12_order 21 = .ok (.iadd, 1) := by decide +kernel
theorem dX12_order_22 : decode cX12_order 22 = .ok (.aload_n 0, 1) := by decide +kernel
theorem dX12_order_23 : decode cX12_order 23 = .ok (.getfield 19, 3) := by decide +kernel
theorem dX12_order_26 : decode cX12_order 26 = .ok (.iload_n 1, 1) := by decide +kernel
theorem dX12_order_27 : decode cX12_order 27 = .ok (.iaload, 1) := by decide +kernel
theorem dX12_order_28 : decode cX12_order 28 = .ok (.if_icmp .ge 91, 3) := by decide +kernel
theorem dX12_order_31 : decode cX12_order 31 = .ok (.aload_n 0, 1) := by decide +kernel
theorem dX12_order_32 : decode cX12_order 32 = .ok (.iload_n 1, 1) := by decide +kernel
theorem dX12_order_33 : decode cX12_order 33 = .ok (.iload_n 3, 1) := by decide +kernel
theorem dX12_order_34 : decode cX12_order 34 = .ok (.iload_n 3, 1) := by decide +kernel
theorem dX12_order_35 : decode cX12_order 35 = .ok (.iconst 1, 1) := by decide +kernel
theorem dX12_order_36 : decode cX12_order 36 = .ok (.iadd, 1) := by decide +kernel
theorem dX12_order_37 : decode cX12_order 37 = .ok (.invokevirtual 227, 3) := by decide +kernel
theorem dX12_order_40 : decode cX12_order 40 = .ok (.ifCond .eq 73, 3) := by decide +kernel
theorem dX12_order_43 : decode cX12_order 43 = .ok (.iload_n 1, 1) := by decide +kernel
theorem dX12_order_44 : decode cX12_order 44 = .ok (.iload_n 3, 1) := by decide +kernel
theorem dX12_order_45 : decode cX12_order 45 = .ok (.invokestatic 212, 3) := by decide +kernel
theorem dX12_order_48 : decode cX12_order 48 = .ok (.istore 4, 2) := by decide +kernel
theorem dX12_order_50 : decode cX12_order 50 = .ok (.iconst 0, 1) := by decide +kernel
theorem dX12_order_51 : decode cX12_order 51 = .ok (.istore 5, 2) := by decide +kernel
theorem dX12_order_53 : decode cX12_order 53 = .ok (.iload 5, 2) := by decide +kernel
theorem dX12_order_55 : decode cX12_order 55 = .ok (.iconst 4, 1) := by decide +kernel
theorem dX12_order_56 : decode cX12_order 56 = .ok (.if_icmp .ge 57, 3) := by decide +kernel
theorem dX12_order_59 : decode cX12_order 59 = .ok (.aload_n 0, 1) := by decide +kernel
theorem dX12_order_60 : decode cX12_order 60 = .ok (.getfield 116, 3) := by decide +kernel
theorem dX12_order_63 : decode cX12_order 63 = .ok (.iload 4, 2) := by decide +kernel
theorem dX12_order_65 : decode cX12_order 65 = .ok (.iload 5, 2) := by decide +kernel
theorem dX12_order_67 : decode cX12_order 67 = .ok (.iadd, 1) := by decide +kernel
theorem dX12_order_68 : decode cX12_order 68 = .ok (.iaload, 1) := by decide +kernel
theorem dX12_order_69 : decode cX12_order 69 = .ok (.istore 6, 2) := by decide +kernel
theorem dX12_order_71 : decode cX12_order 71 = .ok (.aload_n 0, 1) := by decide +kernel
theorem dX12_order_72 : decode cX12_order 72 = .ok (.getfield 116, 3) := by decide +kernel
theorem dX12_order_75 : decode cX12_order 75 = .ok (.iload 4, 2) := by decide +kernel
theorem dX12_order_77 : decode cX12_order 77 = .ok (.iload 5, 2) := by decide +kernel
theorem dX12_order_79 : decode cX12_order 79 = .ok (.iadd, 1) := by decide +kernel
theorem dX12_order_80 : decode cX12_order 80 = .ok (.aload_n 0, 1) := by decide +kernel
theorem dX12_order_81 : decode cX12_order 81 = .ok (.getfield 116, 3) := by decide +kernel
theorem dX12_order_84 : decode cX12_order 84 = .ok (.iload 4, 2) := by decide +kernel
theorem dX12_order_86 : decode cX12_order 86 = .ok (.iconst 4, 1) := by decide +kernel
theorem dX12_order_87 : decode cX12_order 87 = .ok (.iadd, 1) := by decide +kernel
theorem dX12_order_88 : decode cX12_order 88 = .ok (.iload 5, 2) := by decide +kernel
theorem dX12_order_90 : decode cX12_order 90 = .ok (.iadd, 1) := by decide +kernel
theorem dX12_order_91 : decode cX12_order 91 = .ok (.iaload, 1) := by decide +kernel
theorem dX12_order_92 : decode cX12_order 92 = .ok (.iastore, 1) := by decide +kernel
theorem dX12_order_93 : decode cX12_order 93 = .ok (.aload_n 0, 1) := by decide +kernel
theorem dX12_order_94 : decode cX12_order 94 = .ok (.getfield 116, 3) := by decide +kernel
theorem dX12_order_97 : decode cX12_order 97 = .ok (.iload 4, 2) := by decide +kernel
theorem dX12_order_99 : decode cX12_order 99 = .ok (.iconst 4, 1) := by decide +kernel
theorem dX12_order_100 : decode cX12_order 100 = .ok (.iadd, 1) := by decide +kernel
theorem dX12_order_101 : decode cX12_order 101 = .ok (.iload 5, 2) := by decide +kernel
theorem dX12_order_103 : decode cX12_order 103 = .ok (.iadd, 1) := by decide +kernel
theorem dX12_order_104 : decode cX12_order 104 = .ok (.iload 6, 2) := by decide +kernel
theorem dX12_order_106 : decode cX12_order 106 = .ok (.iastore, 1) := by decide +kernel
theorem dX12_order_107 : decode cX12_order 107 = .ok (.iinc 5 1, 3) := by decide +kernel
theorem dX12_order_110 : decode cX12_order 110 = .ok (.goto (-57), 3) := by decide +kernel
theorem dX12_order_113 : decode cX12_order 113 = .ok (.iinc 3 1, 3) := by decide +kernel
theorem dX12_order_116 : decode cX12_order 116 = .ok (.goto (-97), 3) := by decide +kernel
theorem dX12_order_119 : decode cX12_order 119 = .ok (.iinc 2 1, 3) := by decide +kernel
theorem dX12_order_122 : decode cX12_order 122 = .ok (.goto (-110), 3) := by decide +kernel
theorem dX12_order_125 : decode cX12_order 125 = .ok (.iinc 1 1, 3) := by decide +kernel
theorem dX12_order_128 : decode cX12_order 128 = .ok (.goto (-126), 3) := by decide +kernel
theorem dX12_order_131 : decode cX12_order 131 = .ok (.return_, 1) := by decide +kernel
set_option maxHeartbeats 4000000 in
set_option maxRecDepth 100000 in
theorem c_X12_order (l : Launch) {cs : Nat → ClassId} {ad : Nat → Nat} {A : Nat → Prop} {D : va_G} (hJ : hp_J SM ad A)   {h : hp_H} {Q : hp_H → Prop} (hq : q_X12_order h Q) : hp_Mv l yX12_order cX12_order 7 none rm_X12_order [.ref (ad 0)] SM cs ad A D h Q := by
  refine hp_met (own := RX12) rfl (by decide) (Nat.le_of_ble_eq_true rfl) rfl (fun p e s m args below meth c Z E hZ hnm => ?_)
  refine hp_sub (lv' := [(0, .ref (ad 0))]) [0] rfl ?_
  unfold q_X12_order at hq
  refine hp_iconst E (nI 0) dX12_order_0 (by decide) ?_
  refine hp_istore_n (lv' := [(0, .ref (ad 0)), (1, .int (nI 0))]) E dX12_order_1 rfl (by decide) rfl rfl ?_
  refine hq (fun v2 h3 => hp_G p l e rm_X12_order s m args below meth c SM cs ad A D 7 0 0 Z 2 [(0, .ref (ad 0)), (1, .int v2)] [] h3) (fun v2 h3 hB => ?_)
  obtain ⟨B1, hq, hB1⟩ := hB
  refine hp_iload_n E 1 dX12_order_2 rfl rfl ?_
  refine hp_aload_n E 0 dX12_order_3 rfl rfl ?_
  refine hp_gI E g_RX12_183 fM_0_4 dX12_order_4 ?_
  refine hp_icmp_ge E 131 dX12_order_7 (by decide) (fun c4 => ?_) (fun c4 => ?_)
  · replace hq := hq.1 c4
    exact hp_vret E hq hZ dX12_order_131
  · replace hq := hq.2 c4
    refine hp_iconst E (nI 0) dX12_order_10 (by decide) ?_
    refine hp_istore_n (lv' := [(0, .ref (ad 0)), (1, .int v2), (2, .int (nI 0))]) E dX12_order_11 rfl (by decide) rfl rfl ?_
    refine hq (fun v6 h7 => hp_G p l e rm_X12_order s m args below meth c SM cs ad A D 7 0 0 Z 12 [(0, .ref (ad 0)), (1, .int v2), (2, .int v6)] [] h7) (fun v6 h7 hB => ?_)
    obtain ⟨B5, hq, hB5⟩ := hB
    refine hp_iload_n E 2 dX12_order_12 rfl rfl ?_
    refine hp_iconst E (nI 2) dX12_order_13 (by decide) ?_
    refine hp_icmp_ge E 125 dX12_order_14 (by decide) (fun c8 => ?_) (fun c8 => ?_)
    · replace hq := hq.1 c8
      obtain ⟨v9, ev9⟩ : ∃ z : Int32, z = v2 + (nI 1) := ⟨_, rfl⟩
      replace hq := hq v9 ev9
      refine hp_iinc (lv' := [(0, .ref (ad 0)), (1, .int v9), (2, .int v6)]) E 1 v9 dX12_order_125 rfl (by rw [ev9]; rfl) (by decide) rfl rfl ?_
      refine hp_goto E 2 dX12_order_128 (by decide) ?_
      refine hp_sub (lv' := [(0, .ref (ad 0)), (1, .int v9)]) [0, 1] rfl ?_
      exact hB1 _ _ hq
    · replace hq := hq.2 c8
      refine hp_iconst E (nI 0) dX12_order_17 (by decide) ?_
      refine hp_istore_n (lv' := [(0, .ref (ad 0)), (1, .int v2), (2, .int v6), (3, .int (nI 0))]) E dX12_order_18 rfl (by decide) rfl rfl ?_
      refine hq (fun v11 h12 => hp_G p l e rm_X12_order s m args below meth c SM cs ad A D 7 0 0 Z 19 [(0, .ref (ad 0)), (1, .int v2), (2, .int v6), (3, .int v11)] [] h12) (fun v11 h12 hB => ?_)
      obtain ⟨B10, hq, hB10⟩ := hB
      refine hp_iload_n E 3 dX12_order_19 rfl rfl ?_
      refine hp_iconst E (nI 1) dX12_order_20 (by decide) ?_
      refine hp_iadd E dX12_order_21 ?_
      refine hp_aload_n E 0 dX12_order_22 rfl rfl ?_
      refine hp_gR E g_RX12_19 fM_0_5 dX12_order_23 ?_
      refine hp_iload_n E 1 dX12_order_26 rfl rfl ?_
      refine hp_iald E 4 aM_4 hq.1 dX12_order_27 ?_
      replace hq := hq.2
      refine hp_icmp_ge E 119 dX12_order_28 (by decide) (fun c13 => ?_) (fun c13 => ?_)
      · replace hq := hq.1 c13
        obtain ⟨v14, ev14⟩ : ∃ z : Int32, z = v6 + (nI 1) := ⟨_, rfl⟩
        replace hq := hq v14 ev14
        refine hp_iinc (lv' := [(0, .ref (ad 0)), (1, .int v2), (2, .int v14), (3, .int v11)]) E 2 v14 dX12_order_119 rfl (by rw [ev14]; rfl) (by decide) rfl rfl ?_
        refine hp_goto E 12 dX12_order_122 (by decide) ?_
        refine hp_sub (lv' := [(0, .ref (ad 0)), (1, .int v2), (2, .int v14)]) [0, 1, 2] rfl ?_
        exact hB5 _ _ hq
      · replace hq := hq.2 c13
        refine hp_aload_n E 0 dX12_order_31 rfl rfl ?_
        refine hp_iload_n E 1 dX12_order_32 rfl rfl ?_
        refine hp_iload_n E 3 dX12_order_33 rfl rfl ?_
        refine hp_iload_n E 3 dX12_order_34 rfl rfl ?_
        refine hp_iconst E (nI 1) dX12_order_35 (by decide) ?_
        refine hp_iadd E dX12_order_36 ?_
        refine hp_callVip (rest := []) E 0 fM_0_0 vcl_12 (c_X12_isBehind l hJ hq) F_X12_isBehind m_RX12_227 ⟨rfl, rfl⟩ ⟨Nat.le_of_ble_eq_true rfl, Nat.le_of_ble_eq_true rfl⟩ ⟨Nat.zero_le _, Nat.zero_le _⟩ rfl rfl (Nat.le_of_ble_eq_true rfl) dX12_order_37 (fun r15 hq => ?_)
        obtain ⟨K17, hq, hK17⟩ := hq
        have jK17 : ∀  (h18 : hp_H), K17 h18 → hp_G p l e rm_X12_order s m args below meth c SM cs ad A D 7 0 0 Z 113 [(0, .ref (ad 0)), (1, .int v2), (2, .int v6), (3, .int v11)] [] h18 := by
          intro h18 hq
          replace hq := hK17 h18 hq
          obtain ⟨v28, ev28⟩ : ∃ z : Int32, z = v11 + (nI 1) := ⟨_, rfl⟩
          replace hq := hq v28 ev28
          refine hp_iinc (lv' := [(0, .ref (ad 0)), (1, .int v2), (2, .int v6), (3, .int v28)]) E 3 v28 dX12_order_113 rfl (by rw [ev28]; rfl) (by decide) rfl rfl ?_
          refine hp_goto E 19 dX12_order_116 (by decide) ?_
          exact hB10 _ _ hq
        refine hp_if_eq E 113 dX12_order_40 (by decide) (fun c16 => ?_) (fun c16 => ?_)
        · replace hq := hq.1 c16
          exact jK17 _ hq
        · replace hq := hq.2 c16
          refine hp_iload_n E 1 dX12_order_43 rfl rfl ?_
          refine hp_iload_n E 3 dX12_order_44 rfl rfl ?_
          refine hp_callSip (rest := []) E (c_X12_memberAt l hJ hq) F_X12_memberAt m_RX12_212 ⟨rfl, rfl⟩ ⟨Nat.le_of_ble_eq_true rfl, Nat.le_of_ble_eq_true rfl⟩ ⟨Nat.zero_le _, Nat.zero_le _⟩ rfl rfl (Nat.le_of_ble_eq_true rfl) dX12_order_45 (fun r19 hq => ?_)
          refine hp_istore (lv' := [(0, .ref (ad 0)), (1, .int v2), (2, .int v6), (3, .int v11), (4, .int r19)]) E dX12_order_48 (by decide) rfl rfl ?_
          refine hp_iconst E (nI 0) dX12_order_50 (by decide) ?_
          refine hp_istore (lv' := [(0, .ref (ad 0)), (1, .int v2), (2, .int v6), (3, .int v11), (4, .int r19), (5, .int (nI 0))]) E dX12_order_51 (by decide) rfl rfl ?_
          refine hq (fun v21 h22 => hp_G p l e rm_X12_order s m args below meth c SM cs ad A D 7 0 0 Z 53 [(0, .ref (ad 0)), (1, .int v2), (2, .int v6), (3, .int v11), (4, .int r19), (5, .int v21)] [] h22) (fun v21 h22 hB => ?_)
          obtain ⟨B20, hq, hB20⟩ := hB
          refine hp_iload E 5 dX12_order_53 rfl ?_
          refine hp_iconst E (nI 4) dX12_order_55 (by decide) ?_
          refine hp_icmp_ge E 113 dX12_order_56 (by decide) (fun c23 => ?_) (fun c23 => ?_)
          · replace hq := hq.1 c23
            refine hp_sub (lv' := [(0, .ref (ad 0)), (1, .int v2), (2, .int v6), (3, .int v11)]) [0, 1, 2, 3] rfl ?_
            exact jK17 _ hq
          · replace hq := hq.2 c23
            refine hp_aload_n E 0 dX12_order_59 rfl rfl ?_
            refine hp_gR E g_RX12_116 fM_0_51 dX12_order_60 ?_
            refine hp_iload E 4 dX12_order_63 rfl ?_
            refine hp_iload E 5 dX12_order_65 rfl ?_
            refine hp_iadd E dX12_order_67 ?_
            refine hp_iald E 36 aM_36 hq.1 dX12_order_68 ?_
            replace hq := hq.2
            refine hp_topi (fun v24 ev24 => ?_)
            replace hq := hq v24 ev24
            refine hp_istore (lv' := [(0, .ref (ad 0)), (1, .int v2), (2, .int v6), (3, .int v11), (4, .int r19), (5, .int v21), (6, .int v24)]) E dX12_order_69 (by decide) rfl rfl ?_
            refine hp_aload_n E 0 dX12_order_71 rfl rfl ?_
            refine hp_gR E g_RX12_116 fM_0_51 dX12_order_72 ?_
            refine hp_iload E 4 dX12_order_75 rfl ?_
            refine hp_iload E 5 dX12_order_77 rfl ?_
            refine hp_iadd E dX12_order_79 ?_
            refine hp_aload_n E 0 dX12_order_80 rfl rfl ?_
            refine hp_gR E g_RX12_116 fM_0_51 dX12_order_81 ?_
            refine hp_iload E 4 dX12_order_84 rfl ?_
            refine hp_iconst E (nI 4) dX12_order_86 (by decide) ?_
            refine hp_iadd E dX12_order_87 ?_
            refine hp_iload E 5 dX12_order_88 rfl ?_
            refine hp_iadd E dX12_order_90 ?_
            refine hp_iald E 36 aM_36 hq.1 dX12_order_91 ?_
            replace hq := hq.2
            have hin := hq.1
            replace hq := hq.2
            refine hp_iast E 36 aM_36 zM_36 hJ hin dX12_order_92 ?_
            refine hp_toph (fun h25 eh25 => ?_)
            replace hq := hq h25 eh25
            refine hp_aload_n E 0 dX12_order_93 rfl rfl ?_
            refine hp_gR E g_RX12_116 fM_0_51 dX12_order_94 ?_
            refine hp_iload E 4 dX12_order_97 rfl ?_
            refine hp_iconst E (nI 4) dX12_order_99 (by decide) ?_
            refine hp_iadd E dX12_order_100 ?_
            refine hp_iload E 5 dX12_order_101 rfl ?_
            refine hp_iadd E dX12_order_103 ?_
            refine hp_iload E 6 dX12_order_104 rfl ?_
            have hin := hq.1
            replace hq := hq.2
            refine hp_iast E 36 aM_36 zM_36 hJ hin dX12_order_106 ?_
            refine hp_toph (fun h26 eh26 => ?_)
            replace hq := hq h26 eh26
            obtain ⟨v27, ev27⟩ : ∃ z : Int32, z = v21 + (nI 1) := ⟨_, rfl⟩
            replace hq := hq v27 ev27
            refine hp_iinc (lv' := [(0, .ref (ad 0)), (1, .int v2), (2, .int v6), (3, .int v11), (4, .int r19), (5, .int v27), (6, .int v24)]) E 5 v27 dX12_order_107 rfl (by rw [ev27]; rfl) (by decide) rfl rfl ?_
            refine hp_goto E 53 dX12_order_110 (by decide) ?_
            refine hp_sub (lv' := [(0, .ref (ad 0)), (1, .int v2), (2, .int v6), (3, .int v11), (4, .int r19), (5, .int v27)]) [0, 1, 2, 3, 4, 5] rfl ?_
            exact hB20 _ _ hq
theorem dX12_placeOf_0 : decode cX12_placeOf 0 = .ok (.iconst 0, 1) := by decide +kernel
theorem dX12_placeOf_1 : decode cX12_placeOf 1 = .ok (.istore_n 1, 1) := by decide +kernel
theorem dX12_placeOf_2 : decode cX12_placeOf 2 = .ok (.iload_n 1, 1) := by decide +kernel
theorem dX12_placeOf_3 : decode cX12_placeOf 3 = .ok (.aload_n 0, 1) := by decide +kernel
theorem dX12_placeOf_4 : decode cX12_placeOf 4 = .ok (.getfield 167, 3) := by decide +kernel
theorem dX12_placeOf_7 : decode cX12_placeOf 7 = .ok (.if_icmp .ge 61, 3) := by decide +kernel
theorem dX12_placeOf_10 : decode cX12_placeOf 10 = .ok (.iconst 1, 1) := by decide +kernel
theorem dX12_placeOf_11 : decode cX12_placeOf 11 = .ok (.istore_n 2, 1) := by decide +kernel
theorem dX12_placeOf_12 : decode cX12_placeOf 12 = .ok (.iconst 0, 1) := by decide +kernel
theorem dX12_placeOf_13 : decode cX12_placeOf 13 = .ok (.istore_n 3, 1) := by decide +kernel
theorem dX12_placeOf_14 : decode cX12_placeOf 14 = .ok (.iload_n 3, 1) := by decide +kernel
theorem dX12_placeOf_15 : decode cX12_placeOf 15 = .ok (.bipush 54, 2) := by decide +kernel
theorem dX12_placeOf_17 : decode cX12_placeOf 17 = .ok (.if_icmp .ge 39, 3) := by decide +kernel
theorem dX12_placeOf_20 : decode cX12_placeOf 20 = .ok (.iload_n 2, 1) := by decide +kernel
theorem dX12_placeOf_21 : decode cX12_placeOf 21 = .ok (.ifCond .eq 35, 3) := by decide +kernel
theorem dX12_placeOf_24 : decode cX12_placeOf 24 = .ok (.aload_n 0, 1) := by decide +kernel
theorem dX12_placeOf_25 : decode cX12_placeOf 25 = .ok (.getfield 89, 3) := by decide +kernel
theorem dX12_placeOf_28 : decode cX12_placeOf 28 = .ok (.bipush 54, 2) := by decide +kernel
theorem dX12_placeOf_30 : decode cX12_placeOf 30 = .ok (.iload_n 1, 1) := by decide +kernel
theorem dX12_placeOf_31 : decode cX12_placeOf 31 = .ok (.imul, 1) := by decide +kernel
theorem dX12_placeOf_32 : decode cX12_placeOf 32 = .ok (.iload_n 3, 1) := by decide +kernel
theorem dX12_placeOf_33 : decode cX12_placeOf 33 = .ok (.iadd, 1) := by decide +kernel
theorem dX12_placeOf_34 : decode cX12_placeOf 34 = .ok (.iaload, 1) := by decide +kernel
theorem dX12_placeOf_35 : decode cX12_placeOf 35 = .ok (.aload_n 0, 1) := by decide +kernel
theorem dX12_placeOf_36 : decode cX12_placeOf 36 = .ok (.getfield 116, 3) := by decide +kernel
theorem dX12_placeOf_39 : decode cX12_placeOf 39 = .ok (.iload_n 3, 1) := by decide +kernel
theorem dX12_placeOf_40 : decode cX12_placeOf 40 = .ok (.iaload, 1) := by decide +kernel
theorem dX12_placeOf_41 : decode cX12_placeOf 41 = .ok (.if_icmp .ne 7, 3) := by decide +kernel
theorem dX12_placeOf_44 : decode cX12_placeOf 44 = .ok (.iconst 1, 1) := by decide +kernel
theorem dX12_placeOf_45 : decode cX12_placeOf 45 = .ok (.goto 4, 3) := by decide +kernel
theorem dX12_placeOf_48 : decode cX12_placeOf 48 = .ok (.iconst 0, 1) := by decide +kernel
theorem dX12_placeOf_49 : decode cX12_placeOf 49 = .ok (.istore_n 2, 1) := by decide +kernel
theorem dX12_placeOf_50 : decode cX12_placeOf 50 = .ok (.iinc 3 1, 3) := by decide +kernel
theorem dX12_placeOf_53 : decode cX12_placeOf 53 = .ok (.goto (-39), 3) := by decide +kernel
theorem dX12_placeOf_56 : decode cX12_placeOf 56 = .ok (.iload_n 2, 1) := by decide +kernel
theorem dX12_placeOf_57 : decode cX12_placeOf 57 = .ok (.ifCond .eq 5, 3) := by decide +kernel
theorem dX12_placeOf_60 : decode cX12_placeOf 60 = .ok (.iload_n 1, 1) := by decide +kernel
theorem dX12_placeOf_61 : decode cX12_placeOf 61 = .ok (.ireturn, 1) := by decide +kernel
theorem dX12_placeOf_62 : decode cX12_placeOf 62 = .ok (.iinc 1 1, 3) := by decide +kernel
theorem dX12_placeOf_65 : decode cX12_placeOf 65 = .ok (.goto (-63), 3) := by decide +kernel
theorem dX12_placeOf_68 : decode cX12_placeOf 68 = .ok (.iconst (-1), 1) := by decide +kernel
theorem dX12_placeOf_69 : decode cX12_placeOf 69 = .ok (.ireturn, 1) := by decide +kernel
set_option maxHeartbeats 4000000 in
set_option maxRecDepth 100000 in
theorem c_X12_placeOf (l : Launch) {cs : Nat → ClassId} {ad : Nat → Nat} {A : Nat → Prop} {D : va_G} (hJ : hp_J SM ad A)   {h : hp_H} {Q : Int32 → Prop} (hq : q_X12_placeOf h Q) : hp_Mi l yX12_placeOf cX12_placeOf 4 (some .int) rm_X12_placeOf [.ref (ad 0)] SM cs ad A D h (fun r h' => Q r ∧ h' = h) := by
  refine hp_met (own := RX12) rfl (by decide) (Nat.le_of_ble_eq_true rfl) rfl (fun p e s m args below meth c Z E hZ hnm => ?_)
  refine hp_sub (lv' := [(0, .ref (ad 0))]) [0] rfl ?_
  unfold q_X12_placeOf at hq
  refine hp_iconst E (nI 0) dX12_placeOf_0 (by decide) ?_
  refine hp_istore_n (lv' := [(0, .ref (ad 0)), (1, .int (nI 0))]) E dX12_placeOf_1 rfl (by decide) rfl rfl ?_
  refine hq (fun v2 => hp_G p l e rm_X12_placeOf s m args below meth c SM cs ad A D 4 0 0 Z 2 [(0, .ref (ad 0)), (1, .int v2)] [] h) (fun v2 hB => ?_)
  obtain ⟨B1, hq, hB1⟩ := hB
  refine hp_iload_n E 1 dX12_placeOf_2 rfl rfl ?_
  refine hp_aload_n E 0 dX12_placeOf_3 rfl rfl ?_
  refine hp_gI E g_RX12_167 fM_0_35 dX12_placeOf_4 ?_
  refine hp_icmp_ge E 68 dX12_placeOf_7 (by decide) (fun c3 => ?_) (fun c3 => ?_)
  · replace hq := hq.1 c3
    refine hp_iconst E (-1) dX12_placeOf_68 (by decide) ?_
    exact hp_iret E ⟨hq, rfl⟩ hZ dX12_placeOf_69
  · replace hq := hq.2 c3
    refine hp_iconst E (nI 1) dX12_placeOf_10 (by decide) ?_
    refine hp_istore_n (lv' := [(0, .ref (ad 0)), (1, .int v2), (2, .int (nI 1))]) E dX12_placeOf_11 rfl (by decide) rfl rfl ?_
    refine hp_iconst E (nI 0) dX12_placeOf_12 (by decide) ?_
    refine hp_istore_n (lv' := [(0, .ref (ad 0)), (1, .int v2), (2, .int (nI 1)), (3, .int (nI 0))]) E dX12_placeOf_13 rfl (by decide) rfl rfl ?_
    refine hq (fun v5 v6 => hp_G p l e rm_X12_placeOf s m args below meth c SM cs ad A D 4 0 0 Z 14 [(0, .ref (ad 0)), (1, .int v2), (2, .int v5), (3, .int v6)] [] h) (fun v5 v6 hB => ?_)
    obtain ⟨B4, hq, hB4⟩ := hB
    refine hp_iload_n E 3 dX12_placeOf_14 rfl rfl ?_
    refine hp_bipush E (nI 54) dX12_placeOf_15 (by decide) ?_
    obtain ⟨K8, hq, hK8⟩ := hq
    have jK8 : K8 → hp_G p l e rm_X12_placeOf s m args below meth c SM cs ad A D 4 0 0 Z 56 [(0, .ref (ad 0)), (1, .int v2), (2, .int v5)] [] h := by
      intro  hq
      replace hq := hK8  hq
      refine hp_iload_n E 2 dX12_placeOf_56 rfl rfl ?_
      refine hp_if_eq E 62 dX12_placeOf_57 (by decide) (fun c14 => ?_) (fun c14 => ?_)
      · replace hq := hq.1 c14
        obtain ⟨v15, ev15⟩ : ∃ z : Int32, z = v2 + (nI 1) := ⟨_, rfl⟩
        replace hq := hq v15 ev15
        refine hp_iinc (lv' := [(0, .ref (ad 0)), (1, .int v15), (2, .int v5)]) E 1 v15 dX12_placeOf_62 rfl (by rw [ev15]; rfl) (by decide) rfl rfl ?_
        refine hp_goto E 2 dX12_placeOf_65 (by decide) ?_
        refine hp_sub (lv' := [(0, .ref (ad 0)), (1, .int v15)]) [0, 1] rfl ?_
        exact hB1 _ hq
      · replace hq := hq.2 c14
        refine hp_iload_n E 1 dX12_placeOf_60 rfl rfl ?_
        exact hp_iret E ⟨hq, rfl⟩ hZ dX12_placeOf_61
    refine hp_icmp_ge E 56 dX12_placeOf_17 (by decide) (fun c7 => ?_) (fun c7 => ?_)
    · replace hq := hq.1 c7
      refine hp_sub (lv' := [(0, .ref (ad 0)), (1, .int v2), (2, .int v5)]) [0, 1, 2] rfl ?_
      exact jK8  hq
    · replace hq := hq.2 c7
      refine hp_iload_n E 2 dX12_placeOf_20 rfl rfl ?_
      refine hp_if_eq E 56 dX12_placeOf_21 (by decide) (fun c9 => ?_) (fun c9 => ?_)
      · replace hq := hq.1 c9
        refine hp_sub (lv' := [(0, .ref (ad 0)), (1, .int v2), (2, .int v5)]) [0, 1, 2] rfl ?_
        exact jK8  hq
      · replace hq := hq.2 c9
        refine hp_aload_n E 0 dX12_placeOf_24 rfl rfl ?_
        refine hp_gR E g_RX12_89 fM_0_36 dX12_placeOf_25 ?_
        refine hp_bipush E (nI 54) dX12_placeOf_28 (by decide) ?_
        refine hp_iload_n E 1 dX12_placeOf_30 rfl rfl ?_
        refine hp_imul E dX12_placeOf_31 ?_
        refine hp_iload_n E 3 dX12_placeOf_32 rfl rfl ?_
        refine hp_iadd E dX12_placeOf_33 ?_
        refine hp_iald E 27 aM_27 hq.1 dX12_placeOf_34 ?_
        replace hq := hq.2
        refine hp_aload_n E 0 dX12_placeOf_35 rfl rfl ?_
        refine hp_gR E g_RX12_116 fM_0_51 dX12_placeOf_36 ?_
        refine hp_iload_n E 3 dX12_placeOf_39 rfl rfl ?_
        refine hp_iald E 36 aM_36 hq.1 dX12_placeOf_40 ?_
        replace hq := hq.2
        obtain ⟨K11, hq, hK11⟩ := hq
        have jK11 : ∀ (v12 : Int32), K11 v12 → hp_G p l e rm_X12_placeOf s m args below meth c SM cs ad A D 4 0 0 Z 49 [(0, .ref (ad 0)), (1, .int v2), (3, .int v6)] [.int v12] h := by
          intro v12 hq
          replace hq := hK11 v12 hq
          refine hp_istore_n (lv' := [(0, .ref (ad 0)), (1, .int v2), (2, .int v12), (3, .int v6)]) E dX12_placeOf_49 rfl (by decide) rfl rfl ?_
          obtain ⟨v13, ev13⟩ : ∃ z : Int32, z = v6 + (nI 1) := ⟨_, rfl⟩
          replace hq := hq v13 ev13
          refine hp_iinc (lv' := [(0, .ref (ad 0)), (1, .int v2), (2, .int v12), (3, .int v13)]) E 3 v13 dX12_placeOf_50 rfl (by rw [ev13]; rfl) (by decide) rfl rfl ?_
          refine hp_goto E 14 dX12_placeOf_53 (by decide) ?_
          exact hB4 _ _ hq
        refine hp_icmp_ne E 48 dX12_placeOf_41 (by decide) (fun c10 => ?_) (fun c10 => ?_)
        · replace hq := hq.2 c10
          refine hp_iconst E (nI 0) dX12_placeOf_48 (by decide) ?_
          refine hp_sub (lv' := [(0, .ref (ad 0)), (1, .int v2), (3, .int v6)]) [0, 1, 3] rfl ?_
          exact jK11 _ hq
        · replace hq := hq.1 c10
          refine hp_iconst E (nI 1) dX12_placeOf_44 (by decide) ?_
          refine hp_goto E 49 dX12_placeOf_45 (by decide) ?_
          refine hp_sub (lv' := [(0, .ref (ad 0)), (1, .int v2), (3, .int v6)]) [0, 1, 3] rfl ?_
          exact jK11 _ hq
theorem dX12_take_0 : decode cX12_take 0 = .ok (.iconst 0, 1) := by decide +kernel
theorem dX12_take_1 : decode cX12_take 1 = .ok (.istore_n 2, 1) := by decide +kernel
theorem dX12_take_2 : decode cX12_take 2 = .ok (.iload_n 2, 1) := by decide +kernel
theorem dX12_take_3 : decode cX12_take 3 = .ok (.bipush 54, 2) := by decide +kernel
theorem dX12_take_5 : decode cX12_take 5 = .ok (.if_icmp .ge 26, 3) := by decide +kernel
theorem dX12_take_8 : decode cX12_take 8 = .ok (.aload_n 0, 1) := by decide +kernel
theorem dX12_take_9 : decode cX12_take 9 = .ok (.getfield 116, 3) := by decide +kernel
theorem dX12_take_12 : decode cX12_take 12 = .ok (.iload_n 2, 1) := by decide +kernel
theorem dX12_take_13 : decode cX12_take 13 = .ok (.aload_n 0, 1) := by decide +kernel
theorem dX12_take_14 : decode cX12_take 14 = .ok (.getfield 89, 3) := by decide +kernel
theorem dX12_take_17 : decode cX12_take 17 = .ok (.bipush 54, 2) := by decide +kernel
theorem dX12_take_19 : decode cX12_take 19 = .ok (.iload_n 1, 1) := by decide +kernel
theorem dX12_take_20 : decode cX12_take 20 = .ok (.imul, 1) := by decide +kernel
theorem dX12_take_21 : decode cX12_take 21 = .ok (.iload_n 2, 1) := by decide +kernel
theorem dX12_take_22 : decode cX12_take 22 = .ok (.iadd, 1) := by decide +kernel
theorem dX12_take_23 : decode cX12_take 23 = .ok (.iaload, 1) := by decide +kernel
theorem dX12_take_24 : decode cX12_take 24 = .ok (.iastore, 1) := by decide +kernel
theorem dX12_take_25 : decode cX12_take 25 = .ok (.iinc 2 1, 3) := by decide +kernel
theorem dX12_take_28 : decode cX12_take 28 = .ok (.goto (-26), 3) := by decide +kernel
theorem dX12_take_31 : decode cX12_take 31 = .ok (.return_, 1) := by decide +kernel
set_option maxHeartbeats 4000000 in
set_option maxRecDepth 100000 in
theorem c_X12_take (l : Launch) {cs : Nat → ClassId} {ad : Nat → Nat} {A : Nat → Prop} {D : va_G} (hJ : hp_J SM ad A)   {h : hp_H} {a1 : Int32} {Q : hp_H → Prop} (hq : q_X12_take h a1 Q) : hp_Mv l yX12_take cX12_take 3 none rm_X12_take [.ref (ad 0), .int a1] SM cs ad A D h Q := by
  refine hp_met (own := RX12) rfl (by decide) (Nat.le_of_ble_eq_true rfl) rfl (fun p e s m args below meth c Z E hZ hnm => ?_)
  refine hp_sub (lv' := [(0, .ref (ad 0)), (1, .int a1)]) [0, 1] rfl ?_
  unfold q_X12_take at hq
  refine hp_iconst E (nI 0) dX12_take_0 (by decide) ?_
  refine hp_istore_n (lv' := [(0, .ref (ad 0)), (1, .int a1), (2, .int (nI 0))]) E dX12_take_1 rfl (by decide) rfl rfl ?_
  refine hq (fun v2 h3 => hp_G p l e rm_X12_take s m args below meth c SM cs ad A D 3 0 0 Z 2 [(0, .ref (ad 0)), (1, .int a1), (2, .int v2)] [] h3) (fun v2 h3 hB => ?_)
  obtain ⟨B1, hq, hB1⟩ := hB
  refine hp_iload_n E 2 dX12_take_2 rfl rfl ?_
  refine hp_bipush E (nI 54) dX12_take_3 (by decide) ?_
  refine hp_icmp_ge E 31 dX12_take_5 (by decide) (fun c4 => ?_) (fun c4 => ?_)
  · replace hq := hq.1 c4
    exact hp_vret E hq hZ dX12_take_31
  · replace hq := hq.2 c4
    refine hp_aload_n E 0 dX12_take_8 rfl rfl ?_
    refine hp_gR E g_RX12_116 fM_0_51 dX12_take_9 ?_
    refine hp_iload_n E 2 dX12_take_12 rfl rfl ?_
    refine hp_aload_n E 0 dX12_take_13 rfl rfl ?_
    refine hp_gR E g_RX12_89 fM_0_36 dX12_take_14 ?_
    refine hp_bipush E (nI 54) dX12_take_17 (by decide) ?_
    refine hp_iload_n E 1 dX12_take_19 rfl rfl ?_
    refine hp_imul E dX12_take_20 ?_
    refine hp_iload_n E 2 dX12_take_21 rfl rfl ?_
    refine hp_iadd E dX12_take_22 ?_
    refine hp_iald E 27 aM_27 hq.1 dX12_take_23 ?_
    replace hq := hq.2
    have hin := hq.1
    replace hq := hq.2
    refine hp_iast E 36 aM_36 zM_36 hJ hin dX12_take_24 ?_
    refine hp_toph (fun h5 eh5 => ?_)
    replace hq := hq h5 eh5
    obtain ⟨v6, ev6⟩ : ∃ z : Int32, z = v2 + (nI 1) := ⟨_, rfl⟩
    replace hq := hq v6 ev6
    refine hp_iinc (lv' := [(0, .ref (ad 0)), (1, .int a1), (2, .int v6)]) E 2 v6 dX12_take_25 rfl (by rw [ev6]; rfl) (by decide) rfl rfl ?_
    refine hp_goto E 2 dX12_take_28 (by decide) ?_
    exact hB1 _ _ hq
theorem dX12_comes_0 : decode cX12_comes 0 = .ok (.aload_n 0, 1) := by decide +kernel
theorem dX12_comes_1 : decode cX12_comes 1 = .ok (.getfield 171, 3) := by decide +kernel
theorem dX12_comes_4 : decode cX12_comes 4 = .ok (.sipush 6000, 3) := by decide +kernel
theorem dX12_comes_7 : decode cX12_comes 7 = .ok (.if_icmp .ne 5, 3) := by decide +kernel
theorem dX12_comes_10 : decode cX12_comes 10 = .ok (.iconst 0, 1) := by decide +kernel
theorem dX12_comes_11 : decode cX12_comes 11 = .ok (.ireturn, 1) := by decide +kernel
theorem dX12_comes_12 : decode cX12_comes 12 = .ok (.aload_n 0, 1) := by decide +kernel
theorem dX12_comes_13 : decode cX12_comes 13 = .ok (.getfield 209, 3) := by decide +kernel
theorem dX12_comes_16 : decode cX12_comes 16 = .ok (.ifCond .eq 7, 3) := by decide +kernel
theorem dX12_comes_19 : decode cX12_comes 19 = .ok (.aload_n 0, 1) := by decide +kernel
theorem dX12_comes_20 : decode cX12_comes 20 = .ok (.invokevirtual 230, 3) := by decide +kernel
theorem dX12_comes_23 : decode cX12_comes 23 = .ok (.aload_n 0, 1) := by decide +kernel
theorem dX12_comes_24 : decode cX12_comes 24 = .ok (.invokevirtual 233, 3) := by decide +kernel
theorem dX12_comes_27 : decode cX12_comes 27 = .ok (.istore 5, 2) := by decide +kernel
theorem dX12_comes_29 : decode cX12_comes 29 = .ok (.iload 5, 2) := by decide +kernel
theorem dX12_comes_31 : decode cX12_comes 31 = .ok (.iconst (-1), 1) := by decide +kernel
theorem dX12_comes_32 : decode cX12_comes 32 = .ok (.if_icmp .ne 108, 3) := by decide +kernel
theorem dX12_comes_35 : decode cX12_comes 35 = .ok (.aload_n 0, 1) := by decide +kernel
theorem dX12_comes_36 : decode cX12_comes 36 = .ok (.getfield 167, 3) := by decide +kernel
theorem dX12_comes_39 : decode cX12_comes 39 = .ok (.sipush 400, 3) := by decide +kernel
theorem dX12_comes_42 : decode cX12_comes 42 = .ok (.if_icmp .ne 5, 3) := by decide +kernel
theorem dX12_comes_45 : decode cX12_comes 45 = .ok (.iconst 0, 1) := by decide +kernel
theorem dX12_comes_46 : decode cX12_comes 46 = .ok (.ireturn, 1) := by decide +kernel
theorem dX12_comes_47 : decode cX12_comes 47 = .ok (.aload_n 0, 1) := by decide +kernel
theorem dX12_comes_48 : decode cX12_comes 48 = .ok (.getfield 167, 3) := by decide +kernel
theorem dX12_comes_51 : decode cX12_comes 51 = .ok (.istore 5, 2) := by decide +kernel
theorem dX12_comes_53 : decode cX12_comes 53 = .ok (.iconst 0, 1) := by decide +kernel
theorem dX12_comes_54 : decode cX12_comes 54 = .ok (.istore 6, 2) := by decide +kernel
theorem dX12_comes_56 : decode cX12_comes 56 = .ok (.iload 6, 2) := by decide +kernel
theorem dX12_comes_58 : decode cX12_comes 58 = .ok (.bipush 54, 2) := by decide +kernel
theorem dX12_comes_60 : decode cX12_comes 60 = .ok (.if_icmp .ge 29, 3) := by decide +kernel
theorem dX12_comes_63 : decode cX12_comes 63 = .ok (.aload_n 0, 1) := by decide +kernel
theorem dX12_comes_64 : decode cX12_comes 64 = .ok (.getfield 89, 3) := by decide +kernel
theorem dX12_comes_67 : decode cX12_comes 67 = .ok (.bipush 54, 2) := by decide +kernel
theorem dX12_comes_69 : decode cX12_comes 69 = .ok (.iload 5, 2) := by decide +kernel
theorem dX12_comes_71 : decode cX12_comes 71 = .ok (.imul, 1) := by decide +kernel
theorem dX12_comes_72 : decode cX12_comes 72 = .ok (.iload 6, 2) := by decide +kernel
theorem dX12_comes_74 : decode cX12_comes 74 = .ok (.iadd, 1) := by decide +kernel
theorem dX12_comes_75 : decode cX12_comes 75 = .ok (.aload_n 0, 1) := by decide +kernel
theorem dX12_comes_76 : decode cX12_comes 76 = .ok (.getfield 116, 3) := by decide +kernel
theorem dX12_comes_79 : decode cX12_comes 79 = .ok (.iload 6, 2) := by decide +kernel
theorem dX12_comes_81 : decode cX12_comes 81 = .ok (.iaload, 1) := by decide +kernel
theorem dX12_comes_82 : decode cX12_comes 82 = .ok (.iastore, 1) := by decide +kernel
theorem dX12_comes_83 : decode cX12_comes 83 = .ok (.iinc 6 1, 3) := by decide +kernel
theorem dX12_comes_86 : decode cX12_comes 86 = .ok (.goto (-30), 3) := by decide +kernel
theorem dX12_comes_89 : decode cX12_comes 89 = .ok (.aload_n 0, 1) := by decide +kernel
theorem dX12_comes_90 : decode cX12_comes 90 = .ok (.getfield 92, 3) := by decide +kernel
theorem dX12_comes_93 : decode cX12_comes 93 = .ok (.iload 5, 2) := by decide +kernel
theorem dX12_comes_95 : decode cX12_comes 95 = .ok (.iload_n 1, 1) := by decide +kernel
theorem dX12_comes_96 : decode cX12_comes 96 = .ok (.iastore, 1) := by decide +kernel
theorem dX12_comes_97 : decode cX12_comes 97 = .ok (.aload_n 0, 1) := by decide +kernel
theorem dX12_comes_98 : decode cX12_comes 98 = .ok (.getfield 95, 3) := by decide +kernel
theorem dX12_comes_101 : decode cX12_comes 101 = .ok (.iload 5, 2) := by decide +kernel
theorem dX12_comes_103 : decode cX12_comes 103 = .ok (.aload_n 0, 1) := by decide +kernel
theorem dX12_comes_104 : decode cX12_comes 104 = .ok (.getfield 171, 3) := by decide +kernel
theorem dX12_comes_107 : decode cX12_comes 107 = .ok (.aload_n 0, 1) := by decide +kernel
theorem dX12_comes_108 : decode cX12_comes 108 = .ok (.getfield 101, 3) := by decide +kernel
theorem dX12_comes_111 : decode cX12_comes 111 = .ok (.iload_n 1, 1) := by decide +kernel
theorem dX12_comes_112 : decode cX12_comes 112 = .ok (.iaload, 1) := by decide +kernel
theorem dX12_comes_113 : decode cX12_comes 113 = .ok (.isub, 1) := by decide +kernel
theorem dX12_comes_114 : decode cX12_comes 114 = .ok (.iastore, 1) := by decide +kernel
theorem dX12_comes_115 : decode cX12_comes 115 = .ok (.aload_n 0, 1) := by decide +kernel
theorem dX12_comes_116 : decode cX12_comes 116 = .ok (.getfield 98, 3) := by decide +kernel
theorem dX12_comes_119 : decode cX12_comes 119 = .ok (.iload 5, 2) := by decide +kernel
theorem dX12_comes_121 : decode cX12_comes 121 = .ok (.aload_n 0, 1) := by decide +kernel
theorem dX12_comes_122 : decode cX12_comes 122 = .ok (.getfield 98, 3) := by decide +kernel
theorem dX12_comes_125 : decode cX12_comes 125 = .ok (.iload_n 1, 1) := by decide +kernel
theorem dX12_comes_126 : decode cX12_comes 126 = .ok (.iaload, 1) := by decide +kernel
theorem dX12_comes_127 : decode cX12_comes 127 = .ok (.iconst 1, 1) := by decide +kernel
theorem dX12_comes_128 : decode cX12_comes 128 = .ok (.iadd, 1) := by decide +kernel
theorem dX12_comes_129 : decode cX12_comes 129 = .ok (.iastore, 1) := by decide +kernel
theorem dX12_comes_130 : decode cX12_comes 130 = .ok (.aload_n 0, 1) := by decide +kernel
theorem dX12_comes_131 : decode cX12_comes 131 = .ok (.dup, 1) := by decide +kernel
theorem dX12_comes_132 : decode cX12_comes 132 = .ok (.getfield 167, 3) := by decide +kernel
theorem dX12_comes_135 : decode cX12_comes 135 = .ok (.iconst 1, 1) := by decide +kernel
theorem dX12_comes_136 : decode cX12_comes 136 = .ok (.iadd, 1) := by decide +kernel
theorem dX12_comes_137 : decode cX12_comes 137 = .ok (.putfield 167, 3) := by decide +kernel
theorem dX12_comes_140 : decode cX12_comes 140 = .ok (.aload_n 0, 1) := by decide +kernel
theorem dX12_comes_141 : decode cX12_comes 141 = .ok (.getfield 104, 3) := by decide +kernel
theorem dX12_comes_144 : decode cX12_comes 144 = .ok (.aload_n 0, 1) := by decide +kernel
theorem dX12_comes_145 : decode cX12_comes 145 = .ok (.getfield 171, 3) := by decide +kernel
theorem dX12_comes_148 : decode cX12_comes 148 = .ok (.iload 5, 2) := by decide +kernel
theorem dX12_comes_150 : decode cX12_comes 150 = .ok (.iastore, 1) := by decide +kernel
theorem dX12_comes_151 : decode cX12_comes 151 = .ok (.aload_n 0, 1) := by decide +kernel
theorem dX12_comes_152 : decode cX12_comes 152 = .ok (.getfield 107, 3) := by decide +kernel
theorem dX12_comes_155 : decode cX12_comes 155 = .ok (.aload_n 0, 1) := by decide +kernel
theorem dX12_comes_156 : decode cX12_comes 156 = .ok (.getfield 171, 3) := by decide +kernel
theorem dX12_comes_159 : decode cX12_comes 159 = .ok (.iload_n 2, 1) := by decide +kernel
theorem dX12_comes_160 : decode cX12_comes 160 = .ok (.iastore, 1) := by decide +kernel
theorem dX12_comes_161 : decode cX12_comes 161 = .ok (.aload_n 0, 1) := by decide +kernel
theorem dX12_comes_162 : decode cX12_comes 162 = .ok (.getfield 110, 3) := by decide +kernel
theorem dX12_comes_165 : decode cX12_comes 165 = .ok (.aload_n 0, 1) := by decide +kernel
theorem dX12_comes_166 : decode cX12_comes 166 = .ok (.getfield 171, 3) := by decide +kernel
theorem dX12_comes_169 : decode cX12_comes 169 = .ok (.iload_n 3, 1) := by decide +kernel
theorem dX12_comes_170 : decode cX12_comes 170 = .ok (.iastore, 1) := by decide +kernel
theorem dX12_comes_171 : decode cX12_comes 171 = .ok (.aload_n 0, 1) := by decide +kernel
theorem dX12_comes_172 : decode cX12_comes 172 = .ok (.getfield 113, 3) := by decide +kernel
theorem dX12_comes_175 : decode cX12_comes 175 = .ok (.aload_n 0, 1) := by decide +kernel
theorem dX12_comes_176 : decode cX12_comes 176 = .ok (.getfield 171, 3) := by decide +kernel
theorem dX12_comes_179 : decode cX12_comes 179 = .ok (.iload 4, 2) := by decide +kernel
theorem dX12_comes_181 : decode cX12_comes 181 = .ok (.iastore, 1) := by decide +kernel
theorem dX12_comes_182 : decode cX12_comes 182 = .ok (.aload_n 0, 1) := by decide +kernel
theorem dX12_comes_183 : decode cX12_comes 183 = .ok (.dup, 1) := by decide +kernel
theorem dX12_comes_184 : decode cX12_comes 184 = .ok (.getfield 171, 3) := by decide +kernel
theorem dX12_comes_187 : decode cX12_comes 187 = .ok (.iconst 1, 1) := by decide +kernel
theorem dX12_comes_188 : decode cX12_comes 188 = .ok (.iadd, 1) := by decide +kernel
theorem dX12_comes_189 : decode cX12_comes 189 = .ok (.putfield 171, 3) := by decide +kernel
theorem dX12_comes_192 : decode cX12_comes 192 = .ok (.iconst 1, 1) := by decide +kernel
theorem dX12_comes_193 : decode cX12_comes 193 = .ok (.ireturn, 1) := by decide +kernel
set_option maxHeartbeats 4000000 in
set_option maxRecDepth 100000 in
theorem c_X12_comes (l : Launch) {cs : Nat → ClassId} {ad : Nat → Nat} {A : Nat → Prop} {D : va_G} (hJ : hp_J SM ad A)   {h : hp_H} {a1 a2 a3 a4 : Int32} {Q : Int32 → hp_H → Prop} (hq : q_X12_comes h a1 a2 a3 a4 Q) : hp_Mi l yX12_comes cX12_comes 7 (some .boolean) rm_X12_comes [.ref (ad 0), .int a1, .int a2, .int a3, .int a4] SM cs ad A D h Q := by
  refine hp_met (own := RX12) rfl (by decide) (Nat.le_of_ble_eq_true rfl) rfl (fun p e s m args below meth c Z E hZ hnm => ?_)
  refine hp_sub (lv' := [(0, .ref (ad 0)), (1, .int a1), (2, .int a2), (3, .int a3), (4, .int a4)]) [0, 1, 2, 3, 4] rfl ?_
  unfold q_X12_comes at hq
  refine hp_aload_n E 0 dX12_comes_0 rfl rfl ?_
  refine hp_gI E g_RX12_171 fM_0_40 dX12_comes_1 ?_
  refine hp_sipush E (nI 6000) dX12_comes_4 (by decide) ?_
  refine hp_icmp_ne E 12 dX12_comes_7 (by decide) (fun c1 => ?_) (fun c1 => ?_)
  · replace hq := hq.2 c1
    refine hp_aload_n E 0 dX12_comes_12 rfl rfl ?_
    refine hp_gI E g_RX12_209 fM_0_30 dX12_comes_13 ?_
    obtain ⟨K3, hq, hK3⟩ := hq
    have jK3 : ∀  (h4 : hp_H), K3 h4 → hp_G p l e rm_X12_comes s m args below meth c SM cs ad A D 7 0 0 Z 23 [(0, .ref (ad 0)), (1, .int a1), (2, .int a2), (3, .int a3), (4, .int a4)] [] h4 := by
      intro h4 hq
      replace hq := hK3 h4 hq
      refine hp_aload_n E 0 dX12_comes_23 rfl rfl ?_
      refine hp_callVip (rest := []) E 0 fM_0_0 vcl_12 (c_X12_placeOf l hJ hq) F_X12_placeOf m_RX12_233 ⟨rfl, rfl⟩ ⟨Nat.le_of_ble_eq_true rfl, Nat.le_of_ble_eq_true rfl⟩ ⟨Nat.zero_le _, Nat.zero_le _⟩ rfl rfl (Nat.le_of_ble_eq_true rfl) dX12_comes_24 (fun r6 hq => ?_)
      refine hp_istore (lv' := [(0, .ref (ad 0)), (1, .int a1), (2, .int a2), (3, .int a3), (4, .int a4), (5, .int r6)]) E dX12_comes_27 (by decide) rfl rfl ?_
      refine hp_iload E 5 dX12_comes_29 rfl ?_
      refine hp_iconst E (-1) dX12_comes_31 (by decide) ?_
      obtain ⟨K8, hq, hK8⟩ := hq
      have jK8 : ∀ (v9 : Int32) (h10 : hp_H), K8 v9 h10 → hp_G p l e rm_X12_comes s m args below meth c SM cs ad A D 7 0 0 Z 140 [(0, .ref (ad 0)), (2, .int a2), (3, .int a3), (4, .int a4), (5, .int v9)] [] h10 := by
        intro v9 h10 hq
        replace hq := hK8 v9 h10 hq
        refine hp_aload_n E 0 dX12_comes_140 rfl rfl ?_
        refine hp_gR E g_RX12_104 fM_0_42 dX12_comes_141 ?_
        refine hp_aload_n E 0 dX12_comes_144 rfl rfl ?_
        refine hp_gI E g_RX12_171 fM_0_40 dX12_comes_145 ?_
        refine hp_iload E 4 dX12_comes_148 rfl ?_
        have hin := hq.1
        replace hq := hq.2
        refine hp_iast E 32 aM_32 zM_32 hJ hin dX12_comes_150 ?_
        refine hp_toph (fun h23 eh23 => ?_)
        replace hq := hq h23 eh23
        refine hp_aload_n E 0 dX12_comes_151 rfl rfl ?_
        refine hp_gR E g_RX12_107 fM_0_43 dX12_comes_152 ?_
        refine hp_aload_n E 0 dX12_comes_155 rfl rfl ?_
        refine hp_gI E g_RX12_171 fM_0_40 dX12_comes_156 ?_
        refine hp_iload_n E 1 dX12_comes_159 rfl rfl ?_
        have hin := hq.1
        replace hq := hq.2
        refine hp_iast E 33 aM_33 zM_33 hJ hin dX12_comes_160 ?_
        refine hp_toph (fun h24 eh24 => ?_)
        replace hq := hq h24 eh24
        refine hp_aload_n E 0 dX12_comes_161 rfl rfl ?_
        refine hp_gR E g_RX12_110 fM_0_44 dX12_comes_162 ?_
        refine hp_aload_n E 0 dX12_comes_165 rfl rfl ?_
        refine hp_gI E g_RX12_171 fM_0_40 dX12_comes_166 ?_
        refine hp_iload_n E 2 dX12_comes_169 rfl rfl ?_
        have hin := hq.1
        replace hq := hq.2
        refine hp_iast E 34 aM_34 zM_34 hJ hin dX12_comes_170 ?_
        refine hp_toph (fun h25 eh25 => ?_)
        replace hq := hq h25 eh25
        refine hp_aload_n E 0 dX12_comes_171 rfl rfl ?_
        refine hp_gR E g_RX12_113 fM_0_45 dX12_comes_172 ?_
        refine hp_aload_n E 0 dX12_comes_175 rfl rfl ?_
        refine hp_gI E g_RX12_171 fM_0_40 dX12_comes_176 ?_
        refine hp_iload E 3 dX12_comes_179 rfl ?_
        have hin := hq.1
        replace hq := hq.2
        refine hp_iast E 35 aM_35 zM_35 hJ hin dX12_comes_181 ?_
        refine hp_toph (fun h26 eh26 => ?_)
        replace hq := hq h26 eh26
        refine hp_aload_n E 0 dX12_comes_182 rfl rfl ?_
        refine hp_dup E rfl dX12_comes_183 ?_
        refine hp_gI E g_RX12_171 fM_0_40 dX12_comes_184 ?_
        refine hp_iconst E (nI 1) dX12_comes_187 (by decide) ?_
        refine hp_iadd E dX12_comes_188 ?_
        refine hp_pI E p_RX12_171 fM_0_40 (by decide) hJ dX12_comes_189 ?_
        refine hp_toph (fun h27 eh27 => ?_)
        replace hq := hq h27 eh27
        refine hp_iconst E (nI 1) dX12_comes_192 (by decide) ?_
        exact hp_zret E (by unfold hp_bz; decide) hq hZ dX12_comes_193
      refine hp_icmp_ne E 140 dX12_comes_32 (by decide) (fun c7 => ?_) (fun c7 => ?_)
      · replace hq := hq.2 c7
        refine hp_sub (lv' := [(0, .ref (ad 0)), (2, .int a2), (3, .int a3), (4, .int a4), (5, .int r6)]) [0, 2, 3, 4, 5] rfl ?_
        exact jK8 _ _ hq
      · replace hq := hq.1 c7
        refine hp_aload_n E 0 dX12_comes_35 rfl rfl ?_
        refine hp_gI E g_RX12_167 fM_0_35 dX12_comes_36 ?_
        refine hp_sipush E (nI 400) dX12_comes_39 (by decide) ?_
        refine hp_icmp_ne E 47 dX12_comes_42 (by decide) (fun c11 => ?_) (fun c11 => ?_)
        · replace hq := hq.2 c11
          refine hp_aload_n E 0 dX12_comes_47 rfl rfl ?_
          refine hp_gI E g_RX12_167 fM_0_35 dX12_comes_48 ?_
          refine hp_topi (fun v12 ev12 => ?_)
          replace hq := hq v12 ev12
          refine hp_istore (lv' := [(0, .ref (ad 0)), (1, .int a1), (2, .int a2), (3, .int a3), (4, .int a4), (5, .int v12)]) E dX12_comes_51 (by decide) rfl rfl ?_
          refine hp_iconst E (nI 0) dX12_comes_53 (by decide) ?_
          refine hp_istore (lv' := [(0, .ref (ad 0)), (1, .int a1), (2, .int a2), (3, .int a3), (4, .int a4), (5, .int v12), (6, .int (nI 0))]) E dX12_comes_54 (by decide) rfl rfl ?_
          refine hq (fun v14 h15 => hp_G p l e rm_X12_comes s m args below meth c SM cs ad A D 7 0 0 Z 56 [(0, .ref (ad 0)), (1, .int a1), (2, .int a2), (3, .int a3), (4, .int a4), (5, .int v12), (6, .int v14)] [] h15) (fun v14 h15 hB => ?_)
          obtain ⟨B13, hq, hB13⟩ := hB
          refine hp_iload E 6 dX12_comes_56 rfl ?_
          refine hp_bipush E (nI 54) dX12_comes_58 (by decide) ?_
          refine hp_icmp_ge E 89 dX12_comes_60 (by decide) (fun c16 => ?_) (fun c16 => ?_)
          · replace hq := hq.1 c16
            refine hp_aload_n E 0 dX12_comes_89 rfl rfl ?_
            refine hp_gR E g_RX12_92 fM_0_37 dX12_comes_90 ?_
            refine hp_iload E 5 dX12_comes_93 rfl ?_
            refine hp_iload_n E 1 dX12_comes_95 rfl rfl ?_
            have hin := hq.1
            replace hq := hq.2
            refine hp_iast E 28 aM_28 zM_28 hJ hin dX12_comes_96 ?_
            refine hp_toph (fun h17 eh17 => ?_)
            replace hq := hq h17 eh17
            refine hp_aload_n E 0 dX12_comes_97 rfl rfl ?_
            refine hp_gR E g_RX12_95 fM_0_38 dX12_comes_98 ?_
            refine hp_iload E 5 dX12_comes_101 rfl ?_
            refine hp_aload_n E 0 dX12_comes_103 rfl rfl ?_
            refine hp_gI E g_RX12_171 fM_0_40 dX12_comes_104 ?_
            refine hp_aload_n E 0 dX12_comes_107 rfl rfl ?_
            refine hp_gR E g_RX12_101 fM_0_41 dX12_comes_108 ?_
            refine hp_iload_n E 1 dX12_comes_111 rfl rfl ?_
            refine hp_iald E 31 aM_31 hq.1 dX12_comes_112 ?_
            replace hq := hq.2
            refine hp_isub E dX12_comes_113 ?_
            have hin := hq.1
            replace hq := hq.2
            refine hp_iast E 29 aM_29 zM_29 hJ hin dX12_comes_114 ?_
            refine hp_toph (fun h18 eh18 => ?_)
            replace hq := hq h18 eh18
            refine hp_aload_n E 0 dX12_comes_115 rfl rfl ?_
            refine hp_gR E g_RX12_98 fM_0_39 dX12_comes_116 ?_
            refine hp_iload E 5 dX12_comes_119 rfl ?_
            refine hp_aload_n E 0 dX12_comes_121 rfl rfl ?_
            refine hp_gR E g_RX12_98 fM_0_39 dX12_comes_122 ?_
            refine hp_iload_n E 1 dX12_comes_125 rfl rfl ?_
            refine hp_iald E 30 aM_30 hq.1 dX12_comes_126 ?_
            replace hq := hq.2
            refine hp_iconst E (nI 1) dX12_comes_127 (by decide) ?_
            refine hp_iadd E dX12_comes_128 ?_
            have hin := hq.1
            replace hq := hq.2
            refine hp_iast E 30 aM_30 zM_30 hJ hin dX12_comes_129 ?_
            refine hp_toph (fun h19 eh19 => ?_)
            replace hq := hq h19 eh19
            refine hp_aload_n E 0 dX12_comes_130 rfl rfl ?_
            refine hp_dup E rfl dX12_comes_131 ?_
            refine hp_gI E g_RX12_167 fM_0_35 dX12_comes_132 ?_
            refine hp_iconst E (nI 1) dX12_comes_135 (by decide) ?_
            refine hp_iadd E dX12_comes_136 ?_
            refine hp_pI E p_RX12_167 fM_0_35 (by decide) hJ dX12_comes_137 ?_
            refine hp_toph (fun h20 eh20 => ?_)
            replace hq := hq h20 eh20
            refine hp_sub (lv' := [(0, .ref (ad 0)), (2, .int a2), (3, .int a3), (4, .int a4), (5, .int v12)]) [0, 2, 3, 4, 5] rfl ?_
            exact jK8 _ _ hq
          · replace hq := hq.2 c16
            refine hp_aload_n E 0 dX12_comes_63 rfl rfl ?_
            refine hp_gR E g_RX12_89 fM_0_36 dX12_comes_64 ?_
            refine hp_bipush E (nI 54) dX12_comes_67 (by decide) ?_
            refine hp_iload E 5 dX12_comes_69 rfl ?_
            refine hp_imul E dX12_comes_71 ?_
            refine hp_iload E 6 dX12_comes_72 rfl ?_
            refine hp_iadd E dX12_comes_74 ?_
            refine hp_aload_n E 0 dX12_comes_75 rfl rfl ?_
            refine hp_gR E g_RX12_116 fM_0_51 dX12_comes_76 ?_
            refine hp_iload E 6 dX12_comes_79 rfl ?_
            refine hp_iald E 36 aM_36 hq.1 dX12_comes_81 ?_
            replace hq := hq.2
            have hin := hq.1
            replace hq := hq.2
            refine hp_iast E 27 aM_27 zM_27 hJ hin dX12_comes_82 ?_
            refine hp_toph (fun h21 eh21 => ?_)
            replace hq := hq h21 eh21
            obtain ⟨v22, ev22⟩ : ∃ z : Int32, z = v14 + (nI 1) := ⟨_, rfl⟩
            replace hq := hq v22 ev22
            refine hp_iinc (lv' := [(0, .ref (ad 0)), (1, .int a1), (2, .int a2), (3, .int a3), (4, .int a4), (5, .int v12), (6, .int v22)]) E 6 v22 dX12_comes_83 rfl (by rw [ev22]; rfl) (by decide) rfl rfl ?_
            refine hp_goto E 56 dX12_comes_86 (by decide) ?_
            exact hB13 _ _ hq
        · replace hq := hq.1 c11
          refine hp_iconst E (nI 0) dX12_comes_45 (by decide) ?_
          exact hp_zret E (by unfold hp_bz; decide) hq hZ dX12_comes_46
    refine hp_if_eq E 23 dX12_comes_16 (by decide) (fun c2 => ?_) (fun c2 => ?_)
    · replace hq := hq.1 c2
      exact jK3 _ hq
    · replace hq := hq.2 c2
      refine hp_aload_n E 0 dX12_comes_19 rfl rfl ?_
      refine hp_callVv' (rest := []) E 0 fM_0_0 vcl_12 (c_X12_order l hJ hq) F_X12_order m_RX12_230 ⟨rfl, rfl⟩ ⟨Nat.le_of_ble_eq_true rfl, Nat.le_of_ble_eq_true rfl⟩ ⟨Nat.zero_le _, Nat.zero_le _⟩ rfl rfl (Nat.le_of_ble_eq_true rfl) dX12_comes_20 (fun h5 hq => ?_)
      exact jK3 _ hq
  · replace hq := hq.1 c1
    refine hp_iconst E (nI 0) dX12_comes_10 (by decide) ?_
    exact hp_zret E (by unfold hp_bz; decide) hq hZ dX12_comes_11
theorem dX12_can_0 : decode cX12_can 0 = .ok (.aload_n 0, 1) := by decide +kernel
theorem dX12_can_1 : decode cX12_can 1 = .ok (.getfield 62, 3) := by decide +kernel
theorem dX12_can_4 : decode cX12_can 4 = .ok (.iload_n 3, 1) := by decide +kernel
theorem dX12_can_5 : decode cX12_can 5 = .ok (.iaload, 1) := by decide +kernel
theorem dX12_can_6 : decode cX12_can 6 = .ok (.istore 4, 2) := by decide +kernel
theorem dX12_can_8 : decode cX12_can 8 = .ok (.aload_n 0, 1) := by decide +kernel
theorem dX12_can_9 : decode cX12_can 9 = .ok (.iload_n 1, 1) := by decide +kernel
theorem dX12_can_10 : decode cX12_can 10 = .ok (.iload 4, 2) := by decide +kernel
theorem dX12_can_12 : decode cX12_can 12 = .ok (.iload_n 2, 1) := by decide +kernel
theorem dX12_can_13 : decode cX12_can 13 = .ok (.invokestatic 212, 3) := by decide +kernel
theorem dX12_can_16 : decode cX12_can 16 = .ok (.invokevirtual 216, 3) := by decide +kernel
theorem dX12_can_19 : decode cX12_can 19 = .ok (.aload_n 0, 1) := by decide +kernel
theorem dX12_can_20 : decode cX12_can 20 = .ok (.getfield 65, 3) := by decide +kernel
theorem dX12_can_23 : decode cX12_can 23 = .ok (.iload_n 3, 1) := by decide +kernel
theorem dX12_can_24 : decode cX12_can 24 = .ok (.iaload, 1) := by decide +kernel
theorem dX12_can_25 : decode cX12_can 25 = .ok (.if_icmp .ne 31, 3) := by decide +kernel
theorem dX12_can_28 : decode cX12_can 28 = .ok (.aload_n 0, 1) := by decide +kernel
theorem dX12_can_29 : decode cX12_can 29 = .ok (.getfield 71, 3) := by decide +kernel
theorem dX12_can_32 : decode cX12_can 32 = .ok (.iload_n 3, 1) := by decide +kernel
theorem dX12_can_33 : decode cX12_can 33 = .ok (.iaload, 1) := by decide +kernel
theorem dX12_can_34 : decode cX12_can 34 = .ok (.iconst (-1), 1) := by decide +kernel
theorem dX12_can_35 : decode cX12_can 35 = .ok (.if_icmp .eq 17, 3) := by decide +kernel
theorem dX12_can_38 : decode cX12_can 38 = .ok (.aload_n 0, 1) := by decide +kernel
theorem dX12_can_39 : decode cX12_can 39 = .ok (.getfield 119, 3) := by decide +kernel
theorem dX12_can_42 : decode cX12_can 42 = .ok (.aload_n 0, 1) := by decide +kernel
theorem dX12_can_43 : decode cX12_can 43 = .ok (.getfield 71, 3) := by decide +kernel
theorem dX12_can_46 : decode cX12_can 46 = .ok (.iload_n 3, 1) := by decide +kernel
theorem dX12_can_47 : decode cX12_can 47 = .ok (.iaload, 1) := by decide +kernel
theorem dX12_can_48 : decode cX12_can 48 = .ok (.iaload, 1) := by decide +kernel
theorem dX12_can_49 : decode cX12_can 49 = .ok (.ifCond .eq 7, 3) := by decide +kernel
theorem dX12_can_52 : decode cX12_can 52 = .ok (.iconst 1, 1) := by decide +kernel
theorem dX12_can_53 : decode cX12_can 53 = .ok (.goto 4, 3) := by decide +kernel
theorem dX12_can_56 : decode cX12_can 56 = .ok (.iconst 0, 1) := by decide +kernel
theorem dX12_can_57 : decode cX12_can 57 = .ok (.istore 5, 2) := by decide +kernel
theorem dX12_can_59 : decode cX12_can 59 = .ok (.iconst 0, 1) := by decide +kernel
theorem dX12_can_60 : decode cX12_can 60 = .ok (.istore 6, 2) := by decide +kernel
theorem dX12_can_62 : decode cX12_can 62 = .ok (.iload 6, 2) := by decide +kernel
theorem dX12_can_64 : decode cX12_can 64 = .ok (.aload_n 0, 1) := by decide +kernel
theorem dX12_can_65 : decode cX12_can 65 = .ok (.getfield 74, 3) := by decide +kernel
theorem dX12_can_68 : decode cX12_can 68 = .ok (.iload_n 3, 1) := by decide +kernel
theorem dX12_can_69 : decode cX12_can 69 = .ok (.iaload, 1) := by decide +kernel
theorem dX12_can_70 : decode cX12_can 70 = .ok (.if_icmp .ge 108, 3) := by decide +kernel
theorem dX12_can_73 : decode cX12_can 73 = .ok (.iload 5, 2) := by decide +kernel
theorem dX12_can_75 : decode cX12_can 75 = .ok (.ifCond .eq 103, 3) := by decide +kernel
theorem dX12_can_78 : decode cX12_can 78 = .ok (.iconst 4, 1) := by decide +kernel
theorem dX12_can_79 : decode cX12_can 79 = .ok (.iload_n 3, 1) := by decide +kernel
theorem dX12_can_80 : decode cX12_can 80 = .ok (.imul, 1) := by decide +kernel
theorem dX12_can_81 : decode cX12_can 81 = .ok (.iload 6, 2) := by decide +kernel
theorem dX12_can_83 : decode cX12_can 83 = .ok (.iadd, 1) := by decide +kernel
theorem dX12_can_84 : decode cX12_can 84 = .ok (.istore 7, 2) := by decide +kernel
theorem dX12_can_86 : decode cX12_can 86 = .ok (.aload_n 0, 1) := by decide +kernel
theorem dX12_can_87 : decode cX12_can 87 = .ok (.getfield 77, 3) := by decide +kernel
theorem dX12_can_90 : decode cX12_can 90 = .ok (.iload 7, 2) := by decide +kernel
theorem dX12_can_92 : decode cX12_can 92 = .ok (.iaload, 1) := by decide +kernel
theorem dX12_can_93 : decode cX12_can 93 = .ok (.iconst 1, 1) := by decide +kernel
theorem dX12_can_94 : decode cX12_can 94 = .ok (.if_icmp .le 21, 3) := by decide +kernel
theorem dX12_can_97 : decode cX12_can 97 = .ok (.aload_n 0, 1) := by decide +kernel
theorem dX12_can_98 : decode cX12_can 98 = .ok (.iload_n 1, 1) := by decide +kernel
theorem dX12_can_99 : decode cX12_can 99 = .ok (.aload_n 0, 1) := by decide +kernel
theorem dX12_can_100 : decode cX12_can 100 = .ok (.getfield 80, 3) := by decide +kernel
theorem dX12_can_103 : decode cX12_can 103 = .ok (.iload 7, 2) := by decide +kernel
theorem dX12_can_105 : decode cX12_can 105 = .ok (.iaload, 1) := by decide +kernel
theorem dX12_can_106 : decode cX12_can 106 = .ok (.invokestatic 223, 3) := by decide +kernel
theorem dX12_can_109 : decode cX12_can 109 = .ok (.invokevirtual 216, 3) := by decide +kernel
theorem dX12_can_112 : decode cX12_can 112 = .ok (.goto 4, 3) := by decide +kernel
theorem dX12_can_115 : decode cX12_can 115 = .ok (.iconst 0, 1) := by decide +kernel
theorem dX12_can_116 : decode cX12_can 116 = .ok (.istore 8, 2) := by decide +kernel
theorem dX12_can_118 : decode cX12_can 118 = .ok (.aload_n 0, 1) := by decide +kernel
theorem dX12_can_119 : decode cX12_can 119 = .ok (.getfield 77, 3) := by decide +kernel
theorem dX12_can_122 : decode cX12_can 122 = .ok (.iload 7, 2) := by decide +kernel
theorem dX12_can_124 : decode cX12_can 124 = .ok (.iaload, 1) := by decide +kernel
theorem dX12_can_125 : decode cX12_can 125 = .ok (.iconst 2, 1) := by decide +kernel
theorem dX12_can_126 : decode cX12_can 126 = .ok (.if_icmp .lt 39, 3) := by decide +kernel
theorem dX12_can_129 : decode cX12_can 129 = .ok (.aload_n 0, 1) := by decide +kernel
theorem dX12_can_130 : decode cX12_can 130 = .ok (.getfield 77, 3) := by decide +kernel
theorem dX12_can_133 : decode cX12_can 133 = .ok (.iload 7, 2) := by decide +kernel
theorem dX12_can_135 : decode cX12_can 135 = .ok (.iaload, 1) := by decide +kernel
theorem dX12_can_136 : decode cX12_can 136 = .ok (.iconst 2, 1) := by decide +kernel
theorem dX12_can_137 : decode cX12_can 137 = .ok (.if_icmp .ne 23, 3) := by decide +kernel
theorem dX12_can_140 : decode cX12_can 140 = .ok (.iload 8, 2) := by decide +kernel
theorem dX12_can_142 : decode cX12_can 142 = .ok (.aload_n 0, 1) := by decide +kernel
theorem dX12_can_143 : decode cX12_can 143 = .ok (.getfield 38, 3) := by decide +kernel
theorem dX12_can_146 : decode cX12_can 146 = .ok (.aload_n 0, 1) := by decide +kernel
theorem dX12_can_147 : decode cX12_can 147 = .ok (.getfield 80, 3) := by decide +kernel
theorem dX12_can_150 : decode cX12_can 150 = .ok (.iload 7, 2) := by decide +kernel
theorem dX12_can_152 : decode cX12_can 152 = .ok (.iaload, 1) := by decide +kernel
theorem dX12_can_153 : decode cX12_can 153 = .ok (.iaload, 1) := by decide +kernel
theorem dX12_can_154 : decode cX12_can 154 = .ok (.if_icmp .ge 15, 3) := by decide +kernel
theorem dX12_can_157 : decode cX12_can 157 = .ok (.goto 8, 3) := by decide +kernel
theorem dX12_can_160 : decode cX12_can 160 = .ok (.iload 8, 2) := by decide +kernel
theorem dX12_can_162 : decode cX12_can 162 = .ok (.ifCond .le 7, 3) := by decide +kernel
theorem dX12_can_165 : decode cX12_can 165 = .ok (.iconst 1, 1) := by decide +kernel
theorem dX12_can_166 : decode cX12_can 166 = .ok (.goto 4, 3) := by decide +kernel
theorem dX12_can_169 : decode cX12_can 169 = .ok (.iconst 0, 1) := by decide +kernel
theorem dX12_can_170 : decode cX12_can 170 = .ok (.istore 5, 2) := by decide +kernel
theorem dX12_can_172 : decode cX12_can 172 = .ok (.iinc 6 1, 3) := by decide +kernel
theorem dX12_can_175 : decode cX12_can 175 = .ok (.goto (-113), 3) := by decide +kernel
theorem dX12_can_178 : decode cX12_can 178 = .ok (.iload 5, 2) := by decide +kernel
theorem dX12_can_180 : decode cX12_can 180 = .ok (.ireturn, 1) := by decide +kernel
set_option maxHeartbeats 4000000 in
set_option maxRecDepth 100000 in
theorem c_X12_can (l : Launch) {cs : Nat → ClassId} {ad : Nat → Nat} {A : Nat → Prop} {D : va_G} (hJ : hp_J SM ad A)   {h : hp_H} {a1 a2 a3 : Int32} {Q : Int32 → Prop} (hq : q_X12_can h a1 a2 a3 Q) : hp_Mi l yX12_can cX12_can 9 (some .boolean) rm_X12_can [.ref (ad 0), .int a1, .int a2, .int a3] SM cs ad A D h (fun r h' => Q r ∧ h' = h) := by
  refine hp_met (own := RX12) rfl (by decide) (Nat.le_of_ble_eq_true rfl) rfl (fun p e s m args below meth c Z E hZ hnm => ?_)
  refine hp_sub (lv' := [(0, .ref (ad 0)), (1, .int a1), (2, .int a2), (3, .int a3)]) [0, 1, 2, 3] rfl ?_
  unfold q_X12_can at hq
  refine hp_aload_n E 0 dX12_can_0 rfl rfl ?_
  refine hp_gR E g_RX12_62 fM_0_22 dX12_can_1 ?_
  refine hp_iload_n E 3 dX12_can_4 rfl rfl ?_
  refine hp_iald E 18 aM_18 hq.1 dX12_can_5 ?_
  replace hq := hq.2
  refine hp_topi (fun v1 ev1 => ?_)
  replace hq := hq v1 ev1
  refine hp_istore (lv' := [(0, .ref (ad 0)), (1, .int a1), (2, .int a2), (3, .int a3), (4, .int v1)]) E dX12_can_6 (by decide) rfl rfl ?_
  refine hp_aload_n E 0 dX12_can_8 rfl rfl ?_
  refine hp_iload_n E 1 dX12_can_9 rfl rfl ?_
  refine hp_iload E 4 dX12_can_10 rfl ?_
  refine hp_iload_n E 2 dX12_can_12 rfl rfl ?_
  refine hp_callSip (rest := [.int a1, .ref (ad 0)]) E (c_X12_memberAt l hJ hq) F_X12_memberAt m_RX12_212 ⟨rfl, rfl⟩ ⟨Nat.le_of_ble_eq_true rfl, Nat.le_of_ble_eq_true rfl⟩ ⟨Nat.zero_le _, Nat.zero_le _⟩ rfl rfl (Nat.le_of_ble_eq_true rfl) dX12_can_13 (fun r2 hq => ?_)
  refine hp_callVip (rest := []) E 0 fM_0_0 vcl_12 (c_X12_cell l hJ hq) F_X12_cell m_RX12_216 ⟨rfl, rfl⟩ ⟨Nat.le_of_ble_eq_true rfl, Nat.le_of_ble_eq_true rfl⟩ ⟨Nat.zero_le _, Nat.zero_le _⟩ rfl rfl (Nat.le_of_ble_eq_true rfl) dX12_can_16 (fun r3 hq => ?_)
  refine hp_aload_n E 0 dX12_can_19 rfl rfl ?_
  refine hp_gR E g_RX12_65 fM_0_23 dX12_can_20 ?_
  refine hp_iload_n E 3 dX12_can_23 rfl rfl ?_
  refine hp_iald E 19 aM_19 hq.1 dX12_can_24 ?_
  replace hq := hq.2
  obtain ⟨K5, hq, hK5⟩ := hq
  have jK5 : ∀ (v6 : Int32), K5 v6 → hp_G p l e rm_X12_can s m args below meth c SM cs ad A D 9 0 0 Z 57 [(0, .ref (ad 0)), (1, .int a1), (3, .int a3)] [.int v6] h := by
    intro v6 hq
    replace hq := hK5 v6 hq
    refine hp_istore (lv' := [(0, .ref (ad 0)), (1, .int a1), (3, .int a3), (5, .int v6)]) E dX12_can_57 (by decide) rfl rfl ?_
    refine hp_iconst E (nI 0) dX12_can_59 (by decide) ?_
    refine hp_istore (lv' := [(0, .ref (ad 0)), (1, .int a1), (3, .int a3), (5, .int v6), (6, .int (nI 0))]) E dX12_can_60 (by decide) rfl rfl ?_
    refine hq (fun v12 v13 => hp_G p l e rm_X12_can s m args below meth c SM cs ad A D 9 0 0 Z 62 [(0, .ref (ad 0)), (1, .int a1), (3, .int a3), (5, .int v12), (6, .int v13)] [] h) (fun v12 v13 hB => ?_)
    obtain ⟨B11, hq, hB11⟩ := hB
    refine hp_iload E 4 dX12_can_62 rfl ?_
    refine hp_aload_n E 0 dX12_can_64 rfl rfl ?_
    refine hp_gR E g_RX12_74 fM_0_26 dX12_can_65 ?_
    refine hp_iload_n E 2 dX12_can_68 rfl rfl ?_
    refine hp_iald E 22 aM_22 hq.1 dX12_can_69 ?_
    replace hq := hq.2
    refine hp_icmp_ge E 178 dX12_can_70 (by decide) (fun c14 => ?_) (fun c14 => ?_)
    · replace hq := hq.1 c14
      refine hp_iload E 3 dX12_can_178 rfl ?_
      have hbz := hq.1
      replace hq := hq.2
      exact hp_zret E hbz ⟨hq, rfl⟩ hZ dX12_can_180
    · replace hq := hq.2 c14
      refine hp_iload E 3 dX12_can_73 rfl ?_
      refine hp_if_eq E 178 dX12_can_75 (by decide) (fun c15 => ?_) (fun c15 => ?_)
      · replace hq := hq.1 c15
        refine hp_iload E 3 dX12_can_178 rfl ?_
        have hbz := hq.1
        replace hq := hq.2
        exact hp_zret E hbz ⟨hq, rfl⟩ hZ dX12_can_180
      · replace hq := hq.2 c15
        refine hp_iconst E (nI 4) dX12_can_78 (by decide) ?_
        refine hp_iload_n E 2 dX12_can_79 rfl rfl ?_
        refine hp_imul E dX12_can_80 ?_
        refine hp_iload E 4 dX12_can_81 rfl ?_
        refine hp_iadd E dX12_can_83 ?_
        refine hp_topi (fun v16 ev16 => ?_)
        replace hq := hq v16 ev16
        refine hp_istore (lv' := [(0, .ref (ad 0)), (1, .int a1), (3, .int a3), (5, .int v12), (6, .int v13), (7, .int v16)]) E dX12_can_84 (by decide) rfl rfl ?_
        refine hp_aload_n E 0 dX12_can_86 rfl rfl ?_
        refine hp_gR E g_RX12_77 fM_0_27 dX12_can_87 ?_
        refine hp_iload E 5 dX12_can_90 rfl ?_
        refine hp_iald E 23 aM_23 hq.1 dX12_can_92 ?_
        replace hq := hq.2
        refine hp_iconst E (nI 1) dX12_can_93 (by decide) ?_
        obtain ⟨K18, hq, hK18⟩ := hq
        have jK18 : ∀ (v19 : Int32), K18 v19 → hp_G p l e rm_X12_can s m args below meth c SM cs ad A D 9 0 0 Z 116 [(0, .ref (ad 0)), (1, .int a1), (3, .int a3), (6, .int v13), (7, .int v16)] [.int v19] h := by
          intro v19 hq
          replace hq := hK18 v19 hq
          refine hp_istore (lv' := [(0, .ref (ad 0)), (1, .int a1), (3, .int a3), (6, .int v13), (7, .int v16), (8, .int v19)]) E dX12_can_116 (by decide) rfl rfl ?_
          refine hp_aload_n E 0 dX12_can_118 rfl rfl ?_
          refine hp_gR E g_RX12_77 fM_0_27 dX12_can_119 ?_
          refine hp_iload E 4 dX12_can_122 rfl ?_
          refine hp_iald E 23 aM_23 hq.1 dX12_can_124 ?_
          replace hq := hq.2
          refine hp_iconst E (nI 2) dX12_can_125 (by decide) ?_
          obtain ⟨K23, hq, hK23⟩ := hq
          have jK23 : ∀ (v24 : Int32), K23 v24 → hp_G p l e rm_X12_can s m args below meth c SM cs ad A D 9 0 0 Z 170 [(0, .ref (ad 0)), (1, .int a1), (3, .int a3), (6, .int v13)] [.int v24] h := by
            intro v24 hq
            replace hq := hK23 v24 hq
            refine hp_istore (lv' := [(0, .ref (ad 0)), (1, .int a1), (3, .int a3), (5, .int v24), (6, .int v13)]) E dX12_can_170 (by decide) rfl rfl ?_
            obtain ⟨v30, ev30⟩ : ∃ z : Int32, z = v13 + (nI 1) := ⟨_, rfl⟩
            replace hq := hq v30 ev30
            refine hp_iinc (lv' := [(0, .ref (ad 0)), (1, .int a1), (3, .int a3), (5, .int v24), (6, .int v30)]) E 4 v30 dX12_can_172 rfl (by rw [ev30]; rfl) (by decide) rfl rfl ?_
            refine hp_goto E 62 dX12_can_175 (by decide) ?_
            exact hB11 _ _ hq
          obtain ⟨K25, hq, hK25⟩ := hq
          have jK25 : K25 → hp_G p l e rm_X12_can s m args below meth c SM cs ad A D 9 0 0 Z 165 [(0, .ref (ad 0)), (1, .int a1), (3, .int a3), (6, .int v13)] [] h := by
            intro  hq
            replace hq := hK25  hq
            refine hp_iconst E (nI 1) dX12_can_165 (by decide) ?_
            refine hp_goto E 170 dX12_can_166 (by decide) ?_
            exact jK23 _ hq
          refine hp_icmp_lt E 165 dX12_can_126 (by decide) (fun c22 => ?_) (fun c22 => ?_)
          · replace hq := hq.1 c22
            refine hp_sub (lv' := [(0, .ref (ad 0)), (1, .int a1), (3, .int a3), (6, .int v13)]) [0, 1, 2, 3] rfl ?_
            exact jK25  hq
          · replace hq := hq.2 c22
            refine hp_aload_n E 0 dX12_can_129 rfl rfl ?_
            refine hp_gR E g_RX12_77 fM_0_27 dX12_can_130 ?_
            refine hp_iload E 4 dX12_can_133 rfl ?_
            refine hp_iald E 23 aM_23 hq.1 dX12_can_135 ?_
            replace hq := hq.2
            refine hp_iconst E (nI 2) dX12_can_136 (by decide) ?_
            obtain ⟨K27, hq, hK27⟩ := hq
            have jK27 : K27 → hp_G p l e rm_X12_can s m args below meth c SM cs ad A D 9 0 0 Z 169 [(0, .ref (ad 0)), (1, .int a1), (3, .int a3), (6, .int v13)] [] h := by
              intro  hq
              replace hq := hK27  hq
              refine hp_iconst E (nI 0) dX12_can_169 (by decide) ?_
              exact jK23 _ hq
            refine hp_icmp_ne E 160 dX12_can_137 (by decide) (fun c26 => ?_) (fun c26 => ?_)
            · replace hq := hq.2 c26
              refine hp_iload E 5 dX12_can_160 rfl ?_
              refine hp_if_le E 169 dX12_can_162 (by decide) (fun c28 => ?_) (fun c28 => ?_)
              · replace hq := hq.1 c28
                refine hp_sub (lv' := [(0, .ref (ad 0)), (1, .int a1), (3, .int a3), (6, .int v13)]) [0, 1, 2, 3] rfl ?_
                exact jK27  hq
              · replace hq := hq.2 c28
                refine hp_sub (lv' := [(0, .ref (ad 0)), (1, .int a1), (3, .int a3), (6, .int v13)]) [0, 1, 2, 3] rfl ?_
                exact jK25  hq
            · replace hq := hq.1 c26
              refine hp_iload E 5 dX12_can_140 rfl ?_
              refine hp_aload_n E 0 dX12_can_142 rfl rfl ?_
              refine hp_gR E g_RX12_38 fM_0_12 dX12_can_143 ?_
              refine hp_aload_n E 0 dX12_can_146 rfl rfl ?_
              refine hp_gR E g_RX12_80 fM_0_28 dX12_can_147 ?_
              refine hp_iload E 4 dX12_can_150 rfl ?_
              refine hp_iald E 24 aM_24 hq.1 dX12_can_152 ?_
              replace hq := hq.2
              refine hp_iald E 10 aM_10 hq.1 dX12_can_153 ?_
              replace hq := hq.2
              refine hp_icmp_ge E 169 dX12_can_154 (by decide) (fun c29 => ?_) (fun c29 => ?_)
              · replace hq := hq.1 c29
                refine hp_sub (lv' := [(0, .ref (ad 0)), (1, .int a1), (3, .int a3), (6, .int v13)]) [0, 1, 2, 3] rfl ?_
                exact jK27  hq
              · replace hq := hq.2 c29
                refine hp_goto E 165 dX12_can_157 (by decide) ?_
                refine hp_sub (lv' := [(0, .ref (ad 0)), (1, .int a1), (3, .int a3), (6, .int v13)]) [0, 1, 2, 3] rfl ?_
                exact jK25  hq
        refine hp_icmp_le E 115 dX12_can_94 (by decide) (fun c17 => ?_) (fun c17 => ?_)
        · replace hq := hq.1 c17
          refine hp_iconst E (nI 0) dX12_can_115 (by decide) ?_
          refine hp_sub (lv' := [(0, .ref (ad 0)), (1, .int a1), (3, .int a3), (6, .int v13), (7, .int v16)]) [0, 1, 2, 4, 5] rfl ?_
          exact jK18 _ hq
        · replace hq := hq.2 c17
          refine hp_aload_n E 0 dX12_can_97 rfl rfl ?_
          refine hp_iload_n E 1 dX12_can_98 rfl rfl ?_
          refine hp_aload_n E 0 dX12_can_99 rfl rfl ?_
          refine hp_gR E g_RX12_80 fM_0_28 dX12_can_100 ?_
          refine hp_iload E 5 dX12_can_103 rfl ?_
          refine hp_iald E 24 aM_24 hq.1 dX12_can_105 ?_
          replace hq := hq.2
          refine hp_callSip (rest := [.int a1, .ref (ad 0)]) E (c_X12_channelAt l hJ hq) F_X12_channelAt m_RX12_223 ⟨rfl, rfl⟩ ⟨Nat.le_of_ble_eq_true rfl, Nat.le_of_ble_eq_true rfl⟩ ⟨Nat.zero_le _, Nat.zero_le _⟩ rfl rfl (Nat.le_of_ble_eq_true rfl) dX12_can_106 (fun r20 hq => ?_)
          refine hp_callVip (rest := []) E 0 fM_0_0 vcl_12 (c_X12_cell l hJ hq) F_X12_cell m_RX12_216 ⟨rfl, rfl⟩ ⟨Nat.le_of_ble_eq_true rfl, Nat.le_of_ble_eq_true rfl⟩ ⟨Nat.zero_le _, Nat.zero_le _⟩ rfl rfl (Nat.le_of_ble_eq_true rfl) dX12_can_109 (fun r21 hq => ?_)
          refine hp_goto E 116 dX12_can_112 (by decide) ?_
          refine hp_sub (lv' := [(0, .ref (ad 0)), (1, .int a1), (3, .int a3), (6, .int v13), (7, .int v16)]) [0, 1, 2, 4, 5] rfl ?_
          exact jK18 _ hq
  obtain ⟨K7, hq, hK7⟩ := hq
  have jK7 : K7 → hp_G p l e rm_X12_can s m args below meth c SM cs ad A D 9 0 0 Z 56 [(0, .ref (ad 0)), (1, .int a1), (3, .int a3)] [] h := by
    intro  hq
    replace hq := hK7  hq
    refine hp_iconst E (nI 0) dX12_can_56 (by decide) ?_
    exact jK5 _ hq
  refine hp_icmp_ne E 56 dX12_can_25 (by decide) (fun c4 => ?_) (fun c4 => ?_)
  · replace hq := hq.2 c4
    refine hp_sub (lv' := [(0, .ref (ad 0)), (1, .int a1), (3, .int a3)]) [0, 1, 3] rfl ?_
    exact jK7  hq
  · replace hq := hq.1 c4
    refine hp_aload_n E 0 dX12_can_28 rfl rfl ?_
    refine hp_gR E g_RX12_71 fM_0_25 dX12_can_29 ?_
    refine hp_iload_n E 3 dX12_can_32 rfl rfl ?_
    refine hp_iald E 21 aM_21 hq.1 dX12_can_33 ?_
    replace hq := hq.2
    refine hp_iconst E (-1) dX12_can_34 (by decide) ?_
    obtain ⟨K9, hq, hK9⟩ := hq
    have jK9 : K9 → hp_G p l e rm_X12_can s m args below meth c SM cs ad A D 9 0 0 Z 52 [(0, .ref (ad 0)), (1, .int a1), (3, .int a3)] [] h := by
      intro  hq
      replace hq := hK9  hq
      refine hp_iconst E (nI 1) dX12_can_52 (by decide) ?_
      refine hp_goto E 57 dX12_can_53 (by decide) ?_
      exact jK5 _ hq
    refine hp_icmp_eq E 52 dX12_can_35 (by decide) (fun c8 => ?_) (fun c8 => ?_)
    · replace hq := hq.1 c8
      refine hp_sub (lv' := [(0, .ref (ad 0)), (1, .int a1), (3, .int a3)]) [0, 1, 3] rfl ?_
      exact jK9  hq
    · replace hq := hq.2 c8
      refine hp_aload_n E 0 dX12_can_38 rfl rfl ?_
      refine hp_gR E g_RX12_119 fM_0_52 dX12_can_39 ?_
      refine hp_aload_n E 0 dX12_can_42 rfl rfl ?_
      refine hp_gR E g_RX12_71 fM_0_25 dX12_can_43 ?_
      refine hp_iload_n E 3 dX12_can_46 rfl rfl ?_
      refine hp_iald E 21 aM_21 hq.1 dX12_can_47 ?_
      replace hq := hq.2
      refine hp_iald E 37 aM_37 hq.1 dX12_can_48 ?_
      replace hq := hq.2
      refine hp_if_eq E 56 dX12_can_49 (by decide) (fun c10 => ?_) (fun c10 => ?_)
      · replace hq := hq.1 c10
        refine hp_sub (lv' := [(0, .ref (ad 0)), (1, .int a1), (3, .int a3)]) [0, 1, 3] rfl ?_
        exact jK7  hq
      · replace hq := hq.2 c10
        refine hp_sub (lv' := [(0, .ref (ad 0)), (1, .int a1), (3, .int a3)]) [0, 1, 3] rfl ?_
        exact jK9  hq
theorem dX12_isFirst_0 : decode cX12_isFirst 0 = .ok (.iload_n 2, 1) := by decide +kernel
theorem dX12_isFirst_1 : decode cX12_isFirst 1 = .ok (.invokestatic 223, 3) := by decide +kernel
theorem dX12_isFirst_4 : decode cX12_isFirst 4 = .ok (.iconst 1, 1) := by decide +kernel
theorem dX12_isFirst_5 : decode cX12_isFirst 5 = .ok (.iadd, 1) := by decide +kernel
theorem dX12_isFirst_6 : decode cX12_isFirst 6 = .ok (.istore 4, 2) := by decide +kernel
theorem dX12_isFirst_8 : decode cX12_isFirst 8 = .ok (.iconst 0, 1) := by decide +kernel
theorem dX12_isFirst_9 : decode cX12_isFirst 9 = .ok (.istore 5, 2) := by decide +kernel
theorem dX12_isFirst_11 : decode cX12_isFirst 11 = .ok (.iload 5, 2) := by decide +kernel
theorem dX12_isFirst_13 : decode cX12_isFirst 13 = .ok (.iload_n 3, 1) := by decide +kernel
theorem dX12_isFirst_14 : decode cX12_isFirst 14 = .ok (.if_icmp .ge 33, 3) := by decide +kernel
theorem dX12_isFirst_17 : decode cX12_isFirst 17 = .ok (.aload_n 0, 1) := by decide +kernel
theorem dX12_isFirst_18 : decode cX12_isFirst 18 = .ok (.iload_n 1, 1) := by decide +kernel
theorem dX12_isFirst_19 : decode cX12_isFirst 19 = .ok (.iload 4, 2) := by decide +kernel
theorem dX12_isFirst_21 : decode cX12_isFirst 21 = .ok (.iload 5, 2) := by decide +kernel
theorem dX12_isFirst_23 : decode cX12_isFirst 23 = .ok (.iadd, 1) := by decide +kernel
theorem dX12_isFirst_24 : decode cX12_isFirst 24 = .ok (.invokevirtual 216, 3) := by decide +kernel
theorem dX12_isFirst_27 : decode cX12_isFirst 27 = .ok (.aload_n 0, 1) := by decide +kernel
theorem dX12_isFirst_28 : decode cX12_isFirst 28 = .ok (.iload_n 1, 1) := by decide +kernel
theorem dX12_isFirst_29 : decode cX12_isFirst 29 = .ok (.iload 4, 2) := by decide +kernel
theorem dX12_isFirst_31 : decode cX12_isFirst 31 = .ok (.iload_n 3, 1) := by decide +kernel
theorem dX12_isFirst_32 : decode cX12_isFirst 32 = .ok (.iadd, 1) := by decide +kernel
theorem dX12_isFirst_33 : decode cX12_isFirst 33 = .ok (.invokevirtual 216, 3) := by decide +kernel
theorem dX12_isFirst_36 : decode cX12_isFirst 36 = .ok (.if_icmp .ne 5, 3) := by decide +kernel
theorem dX12_isFirst_39 : decode cX12_isFirst 39 = .ok (.iconst 0, 1) := by decide +kernel
theorem dX12_isFirst_40 : decode cX12_isFirst 40 = .ok (.ireturn, 1) := by decide +kernel
theorem dX12_isFirst_41 : decode cX12_isFirst 41 = .ok (.iinc 5 1, 3) := by decide +kernel
theorem dX12_isFirst_44 : decode cX12_isFirst 44 = .ok (.goto (-33), 3) := by decide +kernel
theorem dX12_isFirst_47 : decode cX12_isFirst 47 = .ok (.iconst 1, 1) := by decide +kernel
theorem dX12_isFirst_48 : decode cX12_isFirst 48 = .ok (.ireturn, 1) := by decide +kernel
set_option maxHeartbeats 4000000 in
set_option maxRecDepth 100000 in
theorem c_X12_isFirst (l : Launch) {cs : Nat → ClassId} {ad : Nat → Nat} {A : Nat → Prop} {D : va_G} (hJ : hp_J SM ad A)   {h : hp_H} {a1 a2 a3 : Int32} {Q : Int32 → Prop} (hq : q_X12_isFirst h a1 a2 a3 Q) : hp_Mi l yX12_isFirst cX12_isFirst 6 (some .boolean) rm_X12_isFirst [.ref (ad 0), .int a1, .int a2, .int a3] SM cs ad A D h (fun r h' => Q r ∧ h' = h) := by
  refine hp_met (own := RX12) rfl (by decide) (Nat.le_of_ble_eq_true rfl) rfl (fun p e s m args below meth c Z E hZ hnm => ?_)
  refine hp_sub (lv' := [(0, .ref (ad 0)), (1, .int a1), (2, .int a2), (3, .int a3)]) [0, 1, 2, 3] rfl ?_
  unfold q_X12_isFirst at hq
  refine hp_iload_n E 2 dX12_isFirst_0 rfl rfl ?_
  refine hp_callSip (rest := []) E (c_X12_channelAt l hJ hq) F_X12_channelAt m_RX12_223 ⟨rfl, rfl⟩ ⟨Nat.le_of_ble_eq_true rfl, Nat.le_of_ble_eq_true rfl⟩ ⟨Nat.zero_le _, Nat.zero_le _⟩ rfl rfl (Nat.le_of_ble_eq_true rfl) dX12_isFirst_1 (fun r1 hq => ?_)
  refine hp_iconst E (nI 1) dX12_isFirst_4 (by decide) ?_
  refine hp_iadd E dX12_isFirst_5 ?_
  refine hp_topi (fun v2 ev2 => ?_)
  replace hq := hq v2 ev2
  refine hp_istore (lv' := [(0, .ref (ad 0)), (1, .int a1), (2, .int a2), (3, .int a3), (4, .int v2)]) E dX12_isFirst_6 (by decide) rfl rfl ?_
  refine hp_iconst E (nI 0) dX12_isFirst_8 (by decide) ?_
  refine hp_istore (lv' := [(0, .ref (ad 0)), (1, .int a1), (2, .int a2), (3, .int a3), (4, .int v2), (5, .int (nI 0))]) E dX12_isFirst_9 (by decide) rfl rfl ?_
  refine hp_sub (lv' := [(0, .ref (ad 0)), (1, .int a1), (3, .int a3), (4, .int v2), (5, .int (nI 0))]) [0, 1, 3, 4, 5] rfl ?_
  refine hq (fun v4 => hp_G p l e rm_X12_isFirst s m args below meth c SM cs ad A D 6 0 0 Z 11 [(0, .ref (ad 0)), (1, .int a1), (3, .int a3), (4, .int v2), (5, .int v4)] [] h) (fun v4 hB => ?_)
  obtain ⟨B3, hq, hB3⟩ := hB
  refine hp_iload E 4 dX12_isFirst_11 rfl ?_
  refine hp_iload_n E 2 dX12_isFirst_13 rfl rfl ?_
  refine hp_icmp_ge E 47 dX12_isFirst_14 (by decide) (fun c5 => ?_) (fun c5 => ?_)
  · replace hq := hq.1 c5
    refine hp_iconst E (nI 1) dX12_isFirst_47 (by decide) ?_
    exact hp_zret E (by unfold hp_bz; decide) ⟨hq, rfl⟩ hZ dX12_isFirst_48
  · replace hq := hq.2 c5
    refine hp_aload_n E 0 dX12_isFirst_17 rfl rfl ?_
    refine hp_iload_n E 1 dX12_isFirst_18 rfl rfl ?_
    refine hp_iload E 3 dX12_isFirst_19 rfl ?_
    refine hp_iload E 4 dX12_isFirst_21 rfl ?_
    refine hp_iadd E dX12_isFirst_23 ?_
    refine hp_callVip (rest := []) E 0 fM_0_0 vcl_12 (c_X12_cell l hJ hq) F_X12_cell m_RX12_216 ⟨rfl, rfl⟩ ⟨Nat.le_of_ble_eq_true rfl, Nat.le_of_ble_eq_true rfl⟩ ⟨Nat.zero_le _, Nat.zero_le _⟩ rfl rfl (Nat.le_of_ble_eq_true rfl) dX12_isFirst_24 (fun r6 hq => ?_)
    refine hp_aload_n E 0 dX12_isFirst_27 rfl rfl ?_
    refine hp_iload_n E 1 dX12_isFirst_28 rfl rfl ?_
    refine hp_iload E 3 dX12_isFirst_29 rfl ?_
    refine hp_iload_n E 2 dX12_isFirst_31 rfl rfl ?_
    refine hp_iadd E dX12_isFirst_32 ?_
    refine hp_callVip (rest := [.int r6]) E 0 fM_0_0 vcl_12 (c_X12_cell l hJ hq) F_X12_cell m_RX12_216 ⟨rfl, rfl⟩ ⟨Nat.le_of_ble_eq_true rfl, Nat.le_of_ble_eq_true rfl⟩ ⟨Nat.zero_le _, Nat.zero_le _⟩ rfl rfl (Nat.le_of_ble_eq_true rfl) dX12_isFirst_33 (fun r7 hq => ?_)
    refine hp_icmp_ne E 41 dX12_isFirst_36 (by decide) (fun c8 => ?_) (fun c8 => ?_)
    · replace hq := hq.2 c8
      obtain ⟨v9, ev9⟩ : ∃ z : Int32, z = v4 + (nI 1) := ⟨_, rfl⟩
      replace hq := hq v9 ev9
      refine hp_iinc (lv' := [(0, .ref (ad 0)), (1, .int a1), (3, .int a3), (4, .int v2), (5, .int v9)]) E 4 v9 dX12_isFirst_41 rfl (by rw [ev9]; rfl) (by decide) rfl rfl ?_
      refine hp_goto E 11 dX12_isFirst_44 (by decide) ?_
      exact hB3 _ hq
    · replace hq := hq.1 c8
      refine hp_iconst E (nI 0) dX12_isFirst_39 (by decide) ?_
      exact hp_zret E (by unfold hp_bz; decide) ⟨hq, rfl⟩ hZ dX12_isFirst_40
theorem dX12_nextChoice_0 : decode cX12_nextChoice 0 = .ok (.aload_n 0, 1) := by decide +kernel
theorem dX12_nextChoice_1 : decode cX12_nextChoice 1 = .ok (.getfield 80, 3) := by decide +kernel
theorem dX12_nextChoice_4 : decode cX12_nextChoice 4 = .ok (.iload_n 2, 1) := by decide +kernel
theorem dX12_nextChoice_5 : decode cX12_nextChoice 5 = .ok (.iaload, 1) := by decide +kernel
theorem dX12_nextChoice_6 : decode cX12_nextChoice 6 = .ok (.istore 4, 2) := by decide +kernel
theorem dX12_nextChoice_8 : decode cX12_nextChoice 8 = .ok (.aload_n 0, 1) := by decide +kernel
theorem dX12_nextChoice_9 : decode cX12_nextChoice 9 = .ok (.iload_n 1, 1) := by decide +kernel
theorem dX12_nextChoice_10 : decode cX12_nextChoice 10 = .ok (.iload 4, 2) := by decide +kernel
theorem dX12_nextChoice_12 : decode cX12_nextChoice 12 = .ok (.invokestatic 223, 3) := by decide +kernel
theorem dX12_nextChoice_15 : decode cX12_nextChoice 15 = .ok (.invokevirtual 216, 3) := by decide +kernel
theorem dX12_nextChoice_18 : decode cX12_nextChoice 18 = .ok (.istore 5, 2) := by decide +kernel
theorem dX12_nextChoice_20 : decode cX12_nextChoice 20 = .ok (.iload_n 3, 1) := by decide +kernel
theorem dX12_nextChoice_21 : decode cX12_nextChoice 21 = .ok (.istore 6, 2) := by decide +kernel
theorem dX12_nextChoice_23 : decode cX12_nextChoice 23 = .ok (.iload 6, 2) := by decide +kernel
theorem dX12_nextChoice_25 : decode cX12_nextChoice 25 = .ok (.iload 5, 2) := by decide +kernel
theorem dX12_nextChoice_27 : decode cX12_nextChoice 27 = .ok (.if_icmp .ge 21, 3) := by decide +kernel
theorem dX12_nextChoice_30 : decode cX12_nextChoice 30 = .ok (.aload_n 0, 1) := by decide +kernel
theorem dX12_nextChoice_31 : decode cX12_nextChoice 31 = .ok (.iload_n 1, 1) := by decide +kernel
theorem dX12_nextChoice_32 : decode cX12_nextChoice 32 = .ok (.iload 4, 2) := by decide +kernel
theorem dX12_nextChoice_34 : decode cX12_nextChoice 34 = .ok (.iload 6, 2) := by decide +kernel
theorem dX12_nextChoice_36 : decode cX12_nextChoice 36 = .ok (.invokevirtual 237, 3) := by decide +kernel
theorem dX12_nextChoice_39 : decode cX12_nextChoice 39 = .ok (.ifCond .ne 9, 3) := by decide +kernel
theorem dX12_nextChoice_42 : decode cX12_nextChoice 42 = .ok (.iinc 6 1, 3) := by decide +kernel
theorem dX12_nextChoice_45 : decode cX12_nextChoice 45 = .ok (.goto (-22), 3) := by decide +kernel
theorem dX12_nextChoice_48 : decode cX12_nextChoice 48 = .ok (.iload 6, 2) := by decide +kernel
theorem dX12_nextChoice_50 : decode cX12_nextChoice 50 = .ok (.iload 5, 2) := by decide +kernel
theorem dX12_nextChoice_52 : decode cX12_nextChoice 52 = .ok (.if_icmp .ge 23, 3) := by decide +kernel
theorem dX12_nextChoice_55 : decode cX12_nextChoice 55 = .ok (.aload_n 0, 1) := by decide +kernel
theorem dX12_nextChoice_56 : decode cX12_nextChoice 56 = .ok (.getfield 41, 3) := by decide +kernel
theorem dX12_nextChoice_59 : decode cX12_nextChoice 59 = .ok (.iload 4, 2) := by decide +kernel
theorem dX12_nextChoice_61 : decode cX12_nextChoice 61 = .ok (.baload, 1) := by decide +kernel
theorem dX12_nextChoice_62 : decode cX12_nextChoice 62 = .ok (.ifCond .ne 8, 3) := by decide +kernel
theorem dX12_nextChoice_65 : decode cX12_nextChoice 65 = .ok (.iload 6, 2) := by decide +kernel
theorem dX12_nextChoice_67 : decode cX12_nextChoice 67 = .ok (.ifCond .ne 8, 3) := by decide +kernel
theorem dX12_nextChoice_70 : decode cX12_nextChoice 70 = .ok (.iload 6, 2) := by decide +kernel
theorem dX12_nextChoice_72 : decode cX12_nextChoice 72 = .ok (.goto 4, 3) := by decide +kernel
theorem dX12_nextChoice_75 : decode cX12_nextChoice 75 = .ok (.iconst (-1), 1) := by decide +kernel
theorem dX12_nextChoice_76 : decode cX12_nextChoice 76 = .ok (.ireturn, 1) := by decide +kernel
set_option maxHeartbeats 4000000 in
set_option maxRecDepth 100000 in
theorem c_X12_nextChoice (l : Launch) {cs : Nat → ClassId} {ad : Nat → Nat} {A : Nat → Prop} {D : va_G} (hJ : hp_J SM ad A)   {h : hp_H} {a1 a2 a3 : Int32} {Q : Int32 → Prop} (hq : q_X12_nextChoice h a1 a2 a3 Q) : hp_Mi l yX12_nextChoice cX12_nextChoice 7 (some .int) rm_X12_nextChoice [.ref (ad 0), .int a1, .int a2, .int a3] SM cs ad A D h (fun r h' => Q r ∧ h' = h) := by
  refine hp_met (own := RX12) rfl (by decide) (Nat.le_of_ble_eq_true rfl) rfl (fun p e s m args below meth c Z E hZ hnm => ?_)
  refine hp_sub (lv' := [(0, .ref (ad 0)), (1, .int a1), (2, .int a2), (3, .int a3)]) [0, 1, 2, 3] rfl ?_
  unfold q_X12_nextChoice at hq
  refine hp_aload_n E 0 dX12_nextChoice_0 rfl rfl ?_
  refine hp_gR E g_RX12_80 fM_0_28 dX12_nextChoice_1 ?_
  refine hp_iload_n E 2 dX12_nextChoice_4 rfl rfl ?_
  refine hp_iald E 24 aM_24 hq.1 dX12_nextChoice_5 ?_
  replace hq := hq.2
  refine hp_topi (fun v1 ev1 => ?_)
  replace hq := hq v1 ev1
  refine hp_istore (lv' := [(0, .ref (ad 0)), (1, .int a1), (2, .int a2), (3, .int a3), (4, .int v1)]) E dX12_nextChoice_6 (by decide) rfl rfl ?_
  refine hp_aload_n E 0 dX12_nextChoice_8 rfl rfl ?_
  refine hp_iload_n E 1 dX12_nextChoice_9 rfl rfl ?_
  refine hp_iload E 4 dX12_nextChoice_10 rfl ?_
  refine hp_callSip (rest := [.int a1, .ref (ad 0)]) E (c_X12_channelAt l hJ hq) F_X12_channelAt m_RX12_223 ⟨rfl, rfl⟩ ⟨Nat.le_of_ble_eq_true rfl, Nat.le_of_ble_eq_true rfl⟩ ⟨Nat.zero_le _, Nat.zero_le _⟩ rfl rfl (Nat.le_of_ble_eq_true rfl) dX12_nextChoice_12 (fun r2 hq => ?_)
  refine hp_callVip (rest := []) E 0 fM_0_0 vcl_12 (c_X12_cell l hJ hq) F_X12_cell m_RX12_216 ⟨rfl, rfl⟩ ⟨Nat.le_of_ble_eq_true rfl, Nat.le_of_ble_eq_true rfl⟩ ⟨Nat.zero_le _, Nat.zero_le _⟩ rfl rfl (Nat.le_of_ble_eq_true rfl) dX12_nextChoice_15 (fun r3 hq => ?_)
  refine hp_istore (lv' := [(0, .ref (ad 0)), (1, .int a1), (2, .int a2), (3, .int a3), (4, .int v1), (5, .int r3)]) E dX12_nextChoice_18 (by decide) rfl rfl ?_
  refine hp_iload_n E 3 dX12_nextChoice_20 rfl rfl ?_
  refine hp_istore (lv' := [(0, .ref (ad 0)), (1, .int a1), (2, .int a2), (3, .int a3), (4, .int v1), (5, .int r3), (6, .int a3)]) E dX12_nextChoice_21 (by decide) rfl rfl ?_
  refine hp_sub (lv' := [(0, .ref (ad 0)), (1, .int a1), (4, .int v1), (5, .int r3), (6, .int a3)]) [0, 1, 4, 5, 6] rfl ?_
  refine hq (fun v5 => hp_G p l e rm_X12_nextChoice s m args below meth c SM cs ad A D 7 0 0 Z 23 [(0, .ref (ad 0)), (1, .int a1), (4, .int v1), (5, .int r3), (6, .int v5)] [] h) (fun v5 hB => ?_)
  obtain ⟨B4, hq, hB4⟩ := hB
  refine hp_iload E 4 dX12_nextChoice_23 rfl ?_
  refine hp_iload E 3 dX12_nextChoice_25 rfl ?_
  obtain ⟨K7, hq, hK7⟩ := hq
  have jK7 : K7 → hp_G p l e rm_X12_nextChoice s m args below meth c SM cs ad A D 7 0 0 Z 48 [(0, .ref (ad 0)), (4, .int v1), (5, .int r3), (6, .int v5)] [] h := by
    intro  hq
    replace hq := hK7  hq
    refine hp_iload E 3 dX12_nextChoice_48 rfl ?_
    refine hp_iload E 2 dX12_nextChoice_50 rfl ?_
    refine hp_icmp_ge E 75 dX12_nextChoice_52 (by decide) (fun c11 => ?_) (fun c11 => ?_)
    · replace hq := hq.1 c11
      refine hp_iconst E (-1) dX12_nextChoice_75 (by decide) ?_
      exact hp_iret E ⟨hq, rfl⟩ hZ dX12_nextChoice_76
    · replace hq := hq.2 c11
      refine hp_aload_n E 0 dX12_nextChoice_55 rfl rfl ?_
      refine hp_gR E g_RX12_41 fM_0_13 dX12_nextChoice_56 ?_
      refine hp_iload E 1 dX12_nextChoice_59 rfl ?_
      refine hp_zald E 11 aM_11 hq.1 dX12_nextChoice_61 ?_
      replace hq := hq.2
      refine hp_if_ne E 70 dX12_nextChoice_62 (by decide) (fun c12 => ?_) (fun c12 => ?_)
      · replace hq := hq.2 c12
        refine hp_iload E 3 dX12_nextChoice_70 rfl ?_
        refine hp_goto E 76 dX12_nextChoice_72 (by decide) ?_
        exact hp_iret E ⟨hq, rfl⟩ hZ dX12_nextChoice_76
      · replace hq := hq.1 c12
        refine hp_iload E 3 dX12_nextChoice_65 rfl ?_
        refine hp_if_ne E 75 dX12_nextChoice_67 (by decide) (fun c13 => ?_) (fun c13 => ?_)
        · replace hq := hq.2 c13
          refine hp_iconst E (-1) dX12_nextChoice_75 (by decide) ?_
          exact hp_iret E ⟨hq, rfl⟩ hZ dX12_nextChoice_76
        · replace hq := hq.1 c13
          refine hp_iload E 3 dX12_nextChoice_70 rfl ?_
          refine hp_goto E 76 dX12_nextChoice_72 (by decide) ?_
          exact hp_iret E ⟨hq, rfl⟩ hZ dX12_nextChoice_76
  refine hp_icmp_ge E 48 dX12_nextChoice_27 (by decide) (fun c6 => ?_) (fun c6 => ?_)
  · replace hq := hq.1 c6
    refine hp_sub (lv' := [(0, .ref (ad 0)), (4, .int v1), (5, .int r3), (6, .int v5)]) [0, 2, 3, 4] rfl ?_
    exact jK7  hq
  · replace hq := hq.2 c6
    refine hp_aload_n E 0 dX12_nextChoice_30 rfl rfl ?_
    refine hp_iload_n E 1 dX12_nextChoice_31 rfl rfl ?_
    refine hp_iload E 2 dX12_nextChoice_32 rfl ?_
    refine hp_iload E 4 dX12_nextChoice_34 rfl ?_
    refine hp_callVip (rest := []) E 0 fM_0_0 vcl_12 (c_X12_isFirst l hJ hq) F_X12_isFirst m_RX12_237 ⟨rfl, rfl⟩ ⟨Nat.le_of_ble_eq_true rfl, Nat.le_of_ble_eq_true rfl⟩ ⟨Nat.zero_le _, Nat.zero_le _⟩ rfl rfl (Nat.le_of_ble_eq_true rfl) dX12_nextChoice_36 (fun r8 hq => ?_)
    refine hp_if_ne E 48 dX12_nextChoice_39 (by decide) (fun c9 => ?_) (fun c9 => ?_)
    · replace hq := hq.2 c9
      refine hp_sub (lv' := [(0, .ref (ad 0)), (4, .int v1), (5, .int r3), (6, .int v5)]) [0, 2, 3, 4] rfl ?_
      exact jK7  hq
    · replace hq := hq.1 c9
      obtain ⟨v10, ev10⟩ : ∃ z : Int32, z = v5 + (nI 1) := ⟨_, rfl⟩
      replace hq := hq v10 ev10
      refine hp_iinc (lv' := [(0, .ref (ad 0)), (1, .int a1), (4, .int v1), (5, .int r3), (6, .int v10)]) E 4 v10 dX12_nextChoice_42 rfl (by rw [ev10]; rfl) (by decide) rfl rfl ?_
      refine hp_goto E 23 dX12_nextChoice_45 (by decide) ?_
      exact hB4 _ hq
