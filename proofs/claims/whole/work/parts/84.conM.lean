theorem dX12_findKnots_0 : decode cX12_findKnots 0 = .ok (.iconst 0, 1) := by decide +kernel
theorem dX12_findKnots_1 : decode cX12_findKnots 1 = .ok (.istore_n 2, 1) := by decide +kernel
theorem dX12_findKnots_2 : decode cX12_findKnots 2 = .ok (.iload_n 2, 1) := by decide +kernel
theorem dX12_findKnots_3 : decode cX12_findKnots 3 = .ok (.aload_n 0, 1) := by decide +kernel
theorem dX12_findKnots_4 : decode cX12_findKnots 4 = .ok (.getfield 167, 3) := by decide +kernel
theorem dX12_findKnots_7 : decode cX12_findKnots 7 = .ok (.if_icmp .ge 23, 3) := by decide +kernel
theorem dX12_findKnots_10 : decode cX12_findKnots 10 = .ok (.aload_n 0, 1) := by decide +kernel
theorem dX12_findKnots_11 : decode cX12_findKnots 11 = .ok (.getfield 137, 3) := by decide +kernel
theorem dX12_findKnots_14 : decode cX12_findKnots 14 = .ok (.iload_n 2, 1) := by decide +kernel
theorem dX12_findKnots_15 : decode cX12_findKnots 15 = .ok (.iconst 0, 1) := by decide +kernel
theorem dX12_findKnots_16 : decode cX12_findKnots 16 = .ok (.bastore, 1) := by decide +kernel
theorem dX12_findKnots_17 : decode cX12_findKnots 17 = .ok (.aload_n 0, 1) := by decide +kernel
theorem dX12_findKnots_18 : decode cX12_findKnots 18 = .ok (.getfield 140, 3) := by decide +kernel
theorem dX12_findKnots_21 : decode cX12_findKnots 21 = .ok (.iload_n 2, 1) := by decide +kernel
theorem dX12_findKnots_22 : decode cX12_findKnots 22 = .ok (.iconst 0, 1) := by decide +kernel
theorem dX12_findKnots_23 : decode cX12_findKnots 23 = .ok (.bastore, 1) := by decide +kernel
theorem dX12_findKnots_24 : decode cX12_findKnots 24 = .ok (.iinc 2 1, 3) := by decide +kernel
theorem dX12_findKnots_27 : decode cX12_findKnots 27 = .ok (.goto (-25), 3) := by decide +kernel
theorem dX12_findKnots_30 : decode cX12_findKnots 30 = .ok (.iconst 0, 1) := by decide +kernel
theorem dX12_findKnots_31 : decode cX12_findKnots 31 = .ok (.istore_n 2, 1) := by decide +kernel
theorem dX12_findKnots_32 : decode cX12_findKnots 32 = .ok (.iload_n 2, 1) := by decide +kernel
theorem dX12_findKnots_33 : decode cX12_findKnots 33 = .ok (.aload_n 0, 1) := by decide +kernel
theorem dX12_findKnots_34 : decode cX12_findKnots 34 = .ok (.getfield 167, 3) := by decide +kernel
theorem dX12_findKnots_37 : decode cX12_findKnots 37 = .ok (.if_icmp .ge 197, 3) := by decide +kernel
theorem dX12_findKnots_40 : decode cX12_findKnots 40 = .ok (.aload_n 0, 1) := by decide +kernel
theorem dX12_findKnots_41 : decode cX12_findKnots 41 = .ok (.getfield 128, 3) := by decide +kernel
theorem dX12_findKnots_44 : decode cX12_findKnots 44 = .ok (.iload_n 2, 1) := by decide +kernel
theorem dX12_findKnots_45 : decode cX12_findKnots 45 = .ok (.baload, 1) := by decide +kernel
theorem dX12_findKnots_46 : decode cX12_findKnots 46 = .ok (.ifCond .eq 182, 3) := by decide +kernel
theorem dX12_findKnots_49 : decode cX12_findKnots 49 = .ok (.aload_n 0, 1) := by decide +kernel
theorem dX12_findKnots_50 : decode cX12_findKnots 50 = .ok (.getfield 140, 3) := by decide +kernel
theorem dX12_findKnots_53 : decode cX12_findKnots 53 = .ok (.iload_n 2, 1) := by decide +kernel
theorem dX12_findKnots_54 : decode cX12_findKnots 54 = .ok (.baload, 1) := by decide +kernel
theorem dX12_findKnots_55 : decode cX12_findKnots 55 = .ok (.ifCond .ne 173, 3) := by decide +kernel
theorem dX12_findKnots_58 : decode cX12_findKnots 58 = .ok (.aload_n 0, 1) := by decide +kernel
theorem dX12_findKnots_59 : decode cX12_findKnots 59 = .ok (.iload_n 2, 1) := by decide +kernel
theorem dX12_findKnots_60 : decode cX12_findKnots 60 = .ok (.aload_n 0, 1) := by decide +kernel
theorem dX12_findKnots_61 : decode cX12_findKnots 61 = .ok (.getfield 131, 3) := by decide +kernel
theorem dX12_findKnots_64 : decode cX12_findKnots 64 = .ok (.invokevirtual 322, 3) := by decide +kernel
theorem dX12_findKnots_67 : decode cX12_findKnots 67 = .ok (.aload_n 0, 1) := by decide +kernel
theorem dX12_findKnots_68 : decode cX12_findKnots 68 = .ok (.iload_n 2, 1) := by decide +kernel
theorem dX12_findKnots_69 : decode cX12_findKnots 69 = .ok (.aload_n 0, 1) := by decide +kernel
theorem dX12_findKnots_70 : decode cX12_findKnots 70 = .ok (.getfield 134, 3) := by decide +kernel
theorem dX12_findKnots_73 : decode cX12_findKnots 73 = .ok (.invokevirtual 326, 3) := by decide +kernel
theorem dX12_findKnots_76 : decode cX12_findKnots 76 = .ok (.iconst 0, 1) := by decide +kernel
theorem dX12_findKnots_77 : decode cX12_findKnots 77 = .ok (.istore_n 3, 1) := by decide +kernel
theorem dX12_findKnots_78 : decode cX12_findKnots 78 = .ok (.iload_n 3, 1) := by decide +kernel
theorem dX12_findKnots_79 : decode cX12_findKnots 79 = .ok (.aload_n 0, 1) := by decide +kernel
theorem dX12_findKnots_80 : decode cX12_findKnots 80 = .ok (.getfield 167, 3) := by decide +kernel
theorem dX12_findKnots_83 : decode cX12_findKnots 83 = .ok (.if_icmp .ge 67, 3) := by decide +kernel
theorem dX12_findKnots_86 : decode cX12_findKnots 86 = .ok (.aload_n 0, 1) := by decide +kernel
theorem dX12_findKnots_87 : decode cX12_findKnots 87 = .ok (.getfield 131, 3) := by decide +kernel
theorem dX12_findKnots_90 : decode cX12_findKnots 90 = .ok (.iload_n 3, 1) := by decide +kernel
theorem dX12_findKnots_91 : decode cX12_findKnots 91 = .ok (.aload_n 0, 1) := by decide +kernel
theorem dX12_findKnots_92 : decode cX12_findKnots 92 = .ok (.getfield 131, 3) := by decide +kernel
theorem dX12_findKnots_95 : decode cX12_findKnots 95 = .ok (.iload_n 3, 1) := by decide +kernel
theorem dX12_findKnots_96 : decode cX12_findKnots 96 = .ok (.baload, 1) := by decide +kernel
theorem dX12_findKnots_97 : decode cX12_findKnots 97 = .ok (.ifCond .eq 16, 3) := by decide +kernel
theorem dX12_findKnots_100 : decode cX12_findKnots 100 = .ok (.aload_n 0, 1) := by decide +kernel
theorem dX12_findKnots_101 : decode cX12_findKnots 101 = .ok (.getfield 134, 3) := by decide +kernel
theorem dX12_findKnots_104 : decode cX12_findKnots 104 = .ok (.iload_n 3, 1) := by decide +kernel
theorem dX12_findKnots_105 : decode cX12_findKnots 105 = .ok (.baload, 1) := by decide +kernel
theorem dX12_findKnots_106 : decode cX12_findKnots 106 = .ok (.ifCond .eq 7, 3) := by decide +kernel
theorem dX12_findKnots_109 : decode cX12_findKnots 109 = .ok (.iconst 1, 1) := by decide +kernel
theorem dX12_findKnots_110 : decode cX12_findKnots 110 = .ok (.goto 4, 3) := by decide +kernel
theorem dX12_findKnots_113 : decode cX12_findKnots 113 = .ok (.iconst 0, 1) := by decide +kernel
theorem dX12_findKnots_114 : decode cX12_findKnots 114 = .ok (.bastore, 1) := by decide +kernel
theorem dX12_findKnots_115 : decode cX12_findKnots 115 = .ok (.aload_n 0, 1) := by decide +kernel
theorem dX12_findKnots_116 : decode cX12_findKnots 116 = .ok (.getfield 140, 3) := by decide +kernel
theorem dX12_findKnots_119 : decode cX12_findKnots 119 = .ok (.iload_n 3, 1) := by decide +kernel
theorem dX12_findKnots_120 : decode cX12_findKnots 120 = .ok (.aload_n 0, 1) := by decide +kernel
theorem dX12_findKnots_121 : decode cX12_findKnots 121 = .ok (.getfield 140, 3) := by decide +kernel
theorem dX12_findKnots_124 : decode cX12_findKnots 124 = .ok (.iload_n 3, 1) := by decide +kernel
theorem dX12_findKnots_125 : decode cX12_findKnots 125 = .ok (.baload, 1) := by decide +kernel
theorem dX12_findKnots_126 : decode cX12_findKnots 126 = .ok (.ifCond .ne 12, 3) := by decide +kernel
theorem dX12_findKnots_129 : decode cX12_findKnots 129 = .ok (.aload_n 0, 1) := by decide +kernel
theorem dX12_findKnots_130 : decode cX12_findKnots 130 = .ok (.getfield 131, 3) := by decide +kernel
theorem dX12_findKnots_133 : decode cX12_findKnots 133 = .ok (.iload_n 3, 1) := by decide +kernel
theorem dX12_findKnots_134 : decode cX12_findKnots 134 = .ok (.baload, 1) := by decide +kernel
theorem dX12_findKnots_135 : decode cX12_findKnots 135 = .ok (.ifCond .eq 7, 3) := by decide +kernel
theorem dX12_findKnots_138 : decode cX12_findKnots 138 = .ok (.iconst 1, 1) := by decide +kernel
theorem dX12_findKnots_139 : decode cX12_findKnots 139 = .ok (.goto 4, 3) := by decide +kernel
theorem dX12_findKnots_142 : decode cX12_findKnots 142 = .ok (.iconst 0, 1) := by decide +kernel
theorem dX12_findKnots_143 : decode cX12_findKnots 143 = .ok (.bastore, 1) := by decide +kernel
theorem dX12_findKnots_144 : decode cX12_findKnots 144 = .ok (.iinc 3 1, 3) := by decide +kernel
theorem dX12_findKnots_147 : decode cX12_findKnots 147 = .ok (.goto (-69), 3) := by decide +kernel
theorem dX12_findKnots_150 : decode cX12_findKnots 150 = .ok (.aload_n 0, 1) := by decide +kernel
theorem dX12_findKnots_151 : decode cX12_findKnots 151 = .ok (.invokevirtual 329, 3) := by decide +kernel
theorem dX12_findKnots_154 : decode cX12_findKnots 154 = .ok (.ifCond .eq 18, 3) := by decide +kernel
theorem dX12_findKnots_157 : decode cX12_findKnots 157 = .ok (.iload_n 1, 1) := by decide +kernel
theorem dX12_findKnots_158 : decode cX12_findKnots 158 = .ok (.ifCond .eq 10, 3) := by decide +kernel
theorem dX12_findKnots_161 : decode cX12_findKnots 161 = .ok (.aload_n 0, 1) := by decide +kernel
theorem dX12_findKnots_162 : decode cX12_findKnots 162 = .ok (.invokevirtual 332, 3) := by decide +kernel
theorem dX12_findKnots_165 : decode cX12_findKnots 165 = .ok (.ifCond .eq 7, 3) := by decide +kernel
theorem dX12_findKnots_168 : decode cX12_findKnots 168 = .ok (.iconst 1, 1) := by decide +kernel
theorem dX12_findKnots_169 : decode cX12_findKnots 169 = .ok (.goto 4, 3) := by decide +kernel
theorem dX12_findKnots_172 : decode cX12_findKnots 172 = .ok (.iconst 0, 1) := by decide +kernel
theorem dX12_findKnots_173 : decode cX12_findKnots 173 = .ok (.istore_n 3, 1) := by decide +kernel
theorem dX12_findKnots_174 : decode cX12_findKnots 174 = .ok (.iconst 0, 1) := by decide +kernel
theorem dX12_findKnots_175 : decode cX12_findKnots 175 = .ok (.istore 4, 2) := by decide +kernel
theorem dX12_findKnots_177 : decode cX12_findKnots 177 = .ok (.iload 4, 2) := by decide +kernel
theorem dX12_findKnots_179 : decode cX12_findKnots 179 = .ok (.aload_n 0, 1) := by decide +kernel
theorem dX12_findKnots_180 : decode cX12_findKnots 180 = .ok (.getfield 167, 3) := by decide +kernel
theorem dX12_findKnots_183 : decode cX12_findKnots 183 = .ok (.if_icmp .ge 45, 3) := by decide +kernel
theorem dX12_findKnots_186 : decode cX12_findKnots 186 = .ok (.aload_n 0, 1) := by decide +kernel
theorem dX12_findKnots_187 : decode cX12_findKnots 187 = .ok (.getfield 137, 3) := by decide +kernel
theorem dX12_findKnots_190 : decode cX12_findKnots 190 = .ok (.iload 4, 2) := by decide +kernel
theorem dX12_findKnots_192 : decode cX12_findKnots 192 = .ok (.aload_n 0, 1) := by decide +kernel
theorem dX12_findKnots_193 : decode cX12_findKnots 193 = .ok (.getfield 137, 3) := by decide +kernel
theorem dX12_findKnots_196 : decode cX12_findKnots 196 = .ok (.iload 4, 2) := by decide +kernel
theorem dX12_findKnots_198 : decode cX12_findKnots 198 = .ok (.baload, 1) := by decide +kernel
theorem dX12_findKnots_199 : decode cX12_findKnots 199 = .ok (.ifCond .ne 17, 3) := by decide +kernel
theorem dX12_findKnots_202 : decode cX12_findKnots 202 = .ok (.aload_n 0, 1) := by decide +kernel
theorem dX12_findKnots_203 : decode cX12_findKnots 203 = .ok (.getfield 131, 3) := by decide +kernel
theorem dX12_findKnots_206 : decode cX12_findKnots 206 = .ok (.iload 4, 2) := by decide +kernel
theorem dX12_findKnots_208 : decode cX12_findKnots 208 = .ok (.baload, 1) := by decide +kernel
theorem dX12_findKnots_209 : decode cX12_findKnots 209 = .ok (.ifCond .eq 11, 3) := by decide +kernel
theorem dX12_findKnots_212 : decode cX12_findKnots 212 = .ok (.iload_n 3, 1) := by decide +kernel
theorem dX12_findKnots_213 : decode cX12_findKnots 213 = .ok (.ifCond .eq 7, 3) := by decide +kernel
theorem dX12_findKnots_216 : decode cX12_findKnots 216 = .ok (.iconst 1, 1) := by decide +kernel
theorem dX12_findKnots_217 : decode cX12_findKnots 217 = .ok (.goto 4, 3) := by decide +kernel
theorem dX12_findKnots_220 : decode cX12_findKnots 220 = .ok (.iconst 0, 1) := by decide +kernel
theorem dX12_findKnots_221 : decode cX12_findKnots 221 = .ok (.bastore, 1) := by decide +kernel
theorem dX12_findKnots_222 : decode cX12_findKnots 222 = .ok (.iinc 4 1, 3) := by decide +kernel
theorem dX12_findKnots_225 : decode cX12_findKnots 225 = .ok (.goto (-48), 3) := by decide +kernel
theorem dX12_findKnots_228 : decode cX12_findKnots 228 = .ok (.iinc 2 1, 3) := by decide +kernel
theorem dX12_findKnots_231 : decode cX12_findKnots 231 = .ok (.goto (-199), 3) := by decide +kernel
theorem dX12_findKnots_234 : decode cX12_findKnots 234 = .ok (.return_, 1) := by decide +kernel
set_option maxHeartbeats 4000000 in
set_option maxRecDepth 100000 in
theorem c_X12_findKnots (l : Launch) {cs : Nat → ClassId} {ad : Nat → Nat} {A : Nat → Prop} {D : va_G} (hJ : hp_J SM ad A)   {h : hp_H} {a1 : Int32} {Q : hp_H → Prop} (hq : q_X12_findKnots h a1 Q) : hp_Mv l yX12_findKnots cX12_findKnots 5 none rm_X12_findKnots [.ref (ad 0), .int a1] SM cs ad A D h Q := by
  refine hp_met (own := RX12) rfl (by decide) (Nat.le_of_ble_eq_true rfl) rfl (fun p e s m args below meth c Z E hZ hnm => ?_)
  refine hp_sub (lv' := [(0, .ref (ad 0)), (1, .int a1)]) [0, 1] rfl ?_
  unfold q_X12_findKnots at hq
  refine hp_iconst E (nI 0) dX12_findKnots_0 (by decide) ?_
  refine hp_istore_n (lv' := [(0, .ref (ad 0)), (1, .int a1), (2, .int (nI 0))]) E dX12_findKnots_1 rfl (by decide) rfl rfl ?_
  refine hq (fun v2 h3 => hp_G p l e rm_X12_findKnots s m args below meth c SM cs ad A D 5 0 0 Z 2 [(0, .ref (ad 0)), (1, .int a1), (2, .int v2)] [] h3) (fun v2 h3 hB => ?_)
  obtain ⟨B1, hq, hB1⟩ := hB
  refine hp_iload_n E 2 dX12_findKnots_2 rfl rfl ?_
  refine hp_aload_n E 0 dX12_findKnots_3 rfl rfl ?_
  refine hp_gI E g_RX12_167 fM_0_35 dX12_findKnots_4 ?_
  refine hp_icmp_ge E 30 dX12_findKnots_7 (by decide) (fun c4 => ?_) (fun c4 => ?_)
  · replace hq := hq.1 c4
    refine hp_iconst E (nI 0) dX12_findKnots_30 (by decide) ?_
    refine hp_istore_n (lv' := [(0, .ref (ad 0)), (1, .int a1), (2, .int (nI 0))]) E dX12_findKnots_31 rfl (by decide) rfl rfl ?_
    refine hq (fun v6 h7 => hp_G p l e rm_X12_findKnots s m args below meth c SM cs ad A D 5 0 0 Z 32 [(0, .ref (ad 0)), (1, .int a1), (2, .int v6)] [] h7) (fun v6 h7 hB => ?_)
    obtain ⟨B5, hq, hB5⟩ := hB
    refine hp_iload_n E 2 dX12_findKnots_32 rfl rfl ?_
    refine hp_aload_n E 0 dX12_findKnots_33 rfl rfl ?_
    refine hp_gI E g_RX12_167 fM_0_35 dX12_findKnots_34 ?_
    refine hp_icmp_ge E 234 dX12_findKnots_37 (by decide) (fun c8 => ?_) (fun c8 => ?_)
    · replace hq := hq.1 c8
      exact hp_vret E hq hZ dX12_findKnots_234
    · replace hq := hq.2 c8
      refine hp_aload_n E 0 dX12_findKnots_40 rfl rfl ?_
      refine hp_gR E g_RX12_128 fM_0_55 dX12_findKnots_41 ?_
      refine hp_iload_n E 2 dX12_findKnots_44 rfl rfl ?_
      refine hp_zald E 40 aM_40 hq.1 dX12_findKnots_45 ?_
      replace hq := hq.2
      obtain ⟨K10, hq, hK10⟩ := hq
      have jK10 : ∀  (h11 : hp_H), K10 h11 → hp_G p l e rm_X12_findKnots s m args below meth c SM cs ad A D 5 0 0 Z 228 [(0, .ref (ad 0)), (1, .int a1), (2, .int v6)] [] h11 := by
        intro h11 hq
        replace hq := hK10 h11 hq
        obtain ⟨v54, ev54⟩ : ∃ z : Int32, z = v6 + (nI 1) := ⟨_, rfl⟩
        replace hq := hq v54 ev54
        refine hp_iinc (lv' := [(0, .ref (ad 0)), (1, .int a1), (2, .int v54)]) E 2 v54 dX12_findKnots_228 rfl (by rw [ev54]; rfl) (by decide) rfl rfl ?_
        refine hp_goto E 32 dX12_findKnots_231 (by decide) ?_
        exact hB5 _ _ hq
      refine hp_if_eq E 228 dX12_findKnots_46 (by decide) (fun c9 => ?_) (fun c9 => ?_)
      · replace hq := hq.1 c9
        exact jK10 _ hq
      · replace hq := hq.2 c9
        refine hp_aload_n E 0 dX12_findKnots_49 rfl rfl ?_
        refine hp_gR E g_RX12_140 fM_0_59 dX12_findKnots_50 ?_
        refine hp_iload_n E 2 dX12_findKnots_53 rfl rfl ?_
        refine hp_zald E 44 aM_44 hq.1 dX12_findKnots_54 ?_
        replace hq := hq.2
        refine hp_if_ne E 228 dX12_findKnots_55 (by decide) (fun c12 => ?_) (fun c12 => ?_)
        · replace hq := hq.2 c12
          exact jK10 _ hq
        · replace hq := hq.1 c12
          refine hp_aload_n E 0 dX12_findKnots_58 rfl rfl ?_
          refine hp_iload_n E 2 dX12_findKnots_59 rfl rfl ?_
          refine hp_aload_n E 0 dX12_findKnots_60 rfl rfl ?_
          refine hp_gR E g_RX12_131 fM_0_56 dX12_findKnots_61 ?_
          refine hp_callVv' (rest := []) E 0 fM_0_0 vcl_12 (c_X12_goAhead l hJ hq) F_X12_goAhead m_RX12_322 ⟨rfl, rfl⟩ ⟨Nat.le_of_ble_eq_true rfl, Nat.le_of_ble_eq_true rfl⟩ ⟨Nat.zero_le _, Nat.zero_le _⟩ rfl rfl (Nat.le_of_ble_eq_true rfl) dX12_findKnots_64 (fun h13 hq => ?_)
          refine hp_aload_n E 0 dX12_findKnots_67 rfl rfl ?_
          refine hp_iload_n E 2 dX12_findKnots_68 rfl rfl ?_
          refine hp_aload_n E 0 dX12_findKnots_69 rfl rfl ?_
          refine hp_gR E g_RX12_134 fM_0_57 dX12_findKnots_70 ?_
          refine hp_callVv' (rest := []) E 0 fM_0_0 vcl_12 (c_X12_goBack l hJ hq) F_X12_goBack m_RX12_326 ⟨rfl, rfl⟩ ⟨Nat.le_of_ble_eq_true rfl, Nat.le_of_ble_eq_true rfl⟩ ⟨Nat.zero_le _, Nat.zero_le _⟩ rfl rfl (Nat.le_of_ble_eq_true rfl) dX12_findKnots_73 (fun h14 hq => ?_)
          refine hp_iconst E (nI 0) dX12_findKnots_76 (by decide) ?_
          refine hp_istore_n (lv' := [(0, .ref (ad 0)), (1, .int a1), (2, .int v6), (3, .int (nI 0))]) E dX12_findKnots_77 rfl (by decide) rfl rfl ?_
          refine hq (fun v16 h17 => hp_G p l e rm_X12_findKnots s m args below meth c SM cs ad A D 5 0 0 Z 78 [(0, .ref (ad 0)), (1, .int a1), (2, .int v6), (3, .int v16)] [] h17) (fun v16 h17 hB => ?_)
          obtain ⟨B15, hq, hB15⟩ := hB
          refine hp_iload_n E 3 dX12_findKnots_78 rfl rfl ?_
          refine hp_aload_n E 0 dX12_findKnots_79 rfl rfl ?_
          refine hp_gI E g_RX12_167 fM_0_35 dX12_findKnots_80 ?_
          refine hp_icmp_ge E 150 dX12_findKnots_83 (by decide) (fun c18 => ?_) (fun c18 => ?_)
          · replace hq := hq.1 c18
            refine hp_aload_n E 0 dX12_findKnots_150 rfl rfl ?_
            refine hp_callVip (rest := []) E 0 fM_0_0 vcl_12 (c_X12_hasMove l hJ hq) F_X12_hasMove m_RX12_329 ⟨rfl, rfl⟩ ⟨Nat.le_of_ble_eq_true rfl, Nat.le_of_ble_eq_true rfl⟩ ⟨Nat.zero_le _, Nat.zero_le _⟩ rfl rfl (Nat.le_of_ble_eq_true rfl) dX12_findKnots_151 (fun r19 hq => ?_)
            obtain ⟨K21, hq, hK21⟩ := hq
            have jK21 : ∀ (v22 : Int32), K21 v22 → hp_G p l e rm_X12_findKnots s m args below meth c SM cs ad A D 5 0 0 Z 173 [(0, .ref (ad 0)), (1, .int a1), (2, .int v6)] [.int v22] h17 := by
              intro v22 hq
              replace hq := hK21 v22 hq
              refine hp_istore_n (lv' := [(0, .ref (ad 0)), (1, .int a1), (2, .int v6), (3, .int v22)]) E dX12_findKnots_173 rfl (by decide) rfl rfl ?_
              refine hp_iconst E (nI 0) dX12_findKnots_174 (by decide) ?_
              refine hp_istore (lv' := [(0, .ref (ad 0)), (1, .int a1), (2, .int v6), (3, .int v22), (4, .int (nI 0))]) E dX12_findKnots_175 (by decide) rfl rfl ?_
              refine hq (fun v29 h30 => hp_G p l e rm_X12_findKnots s m args below meth c SM cs ad A D 5 0 0 Z 177 [(0, .ref (ad 0)), (1, .int a1), (2, .int v6), (3, .int v22), (4, .int v29)] [] h30) (fun v29 h30 hB => ?_)
              obtain ⟨B28, hq, hB28⟩ := hB
              refine hp_iload E 4 dX12_findKnots_177 rfl ?_
              refine hp_aload_n E 0 dX12_findKnots_179 rfl rfl ?_
              refine hp_gI E g_RX12_167 fM_0_35 dX12_findKnots_180 ?_
              refine hp_icmp_ge E 228 dX12_findKnots_183 (by decide) (fun c31 => ?_) (fun c31 => ?_)
              · replace hq := hq.1 c31
                refine hp_sub (lv' := [(0, .ref (ad 0)), (1, .int a1), (2, .int v6)]) [0, 1, 2] rfl ?_
                exact jK10 _ hq
              · replace hq := hq.2 c31
                refine hp_aload_n E 0 dX12_findKnots_186 rfl rfl ?_
                refine hp_gR E g_RX12_137 fM_0_58 dX12_findKnots_187 ?_
                refine hp_iload E 4 dX12_findKnots_190 rfl ?_
                refine hp_aload_n E 0 dX12_findKnots_192 rfl rfl ?_
                refine hp_gR E g_RX12_137 fM_0_58 dX12_findKnots_193 ?_
                refine hp_iload E 4 dX12_findKnots_196 rfl ?_
                refine hp_zald E 43 aM_43 hq.1 dX12_findKnots_198 ?_
                replace hq := hq.2
                obtain ⟨K33, hq, hK33⟩ := hq
                have jK33 : ∀ (v34 : Int32), K33 v34 → hp_G p l e rm_X12_findKnots s m args below meth c SM cs ad A D 5 0 0 Z 221 [(0, .ref (ad 0)), (1, .int a1), (2, .int v6), (3, .int v22), (4, .int v29)] [.int v34, .int v29, .ref (ad 43)] h30 := by
                  intro v34 hq
                  replace hq := hK33 v34 hq
                  have hin := hq.1
                  replace hq := hq.2
                  have hbz := hq.1
                  replace hq := hq.2
                  refine hp_zast E 43 aM_43 zM_43 hJ hin hbz dX12_findKnots_221 ?_
                  refine hp_toph (fun h39 eh39 => ?_)
                  replace hq := hq h39 eh39
                  obtain ⟨v40, ev40⟩ : ∃ z : Int32, z = v29 + (nI 1) := ⟨_, rfl⟩
                  replace hq := hq v40 ev40
                  refine hp_iinc (lv' := [(0, .ref (ad 0)), (1, .int a1), (2, .int v6), (3, .int v22), (4, .int v40)]) E 4 v40 dX12_findKnots_222 rfl (by rw [ev40]; rfl) (by decide) rfl rfl ?_
                  refine hp_goto E 177 dX12_findKnots_225 (by decide) ?_
                  exact hB28 _ _ hq
                obtain ⟨K35, hq, hK35⟩ := hq
                have jK35 : K35 → hp_G p l e rm_X12_findKnots s m args below meth c SM cs ad A D 5 0 0 Z 216 [(0, .ref (ad 0)), (1, .int a1), (2, .int v6), (3, .int v22), (4, .int v29)] [.int v29, .ref (ad 43)] h30 := by
                  intro  hq
                  replace hq := hK35  hq
                  refine hp_iconst E (nI 1) dX12_findKnots_216 (by decide) ?_
                  refine hp_goto E 221 dX12_findKnots_217 (by decide) ?_
                  exact jK33 _ hq
                refine hp_if_ne E 216 dX12_findKnots_199 (by decide) (fun c32 => ?_) (fun c32 => ?_)
                · replace hq := hq.2 c32
                  exact jK35  hq
                · replace hq := hq.1 c32
                  refine hp_aload_n E 0 dX12_findKnots_202 rfl rfl ?_
                  refine hp_gR E g_RX12_131 fM_0_56 dX12_findKnots_203 ?_
                  refine hp_iload E 4 dX12_findKnots_206 rfl ?_
                  refine hp_zald E 41 aM_41 hq.1 dX12_findKnots_208 ?_
                  replace hq := hq.2
                  obtain ⟨K37, hq, hK37⟩ := hq
                  have jK37 : K37 → hp_G p l e rm_X12_findKnots s m args below meth c SM cs ad A D 5 0 0 Z 220 [(0, .ref (ad 0)), (1, .int a1), (2, .int v6), (3, .int v22), (4, .int v29)] [.int v29, .ref (ad 43)] h30 := by
                    intro  hq
                    replace hq := hK37  hq
                    refine hp_iconst E (nI 0) dX12_findKnots_220 (by decide) ?_
                    exact jK33 _ hq
                  refine hp_if_eq E 220 dX12_findKnots_209 (by decide) (fun c36 => ?_) (fun c36 => ?_)
                  · replace hq := hq.1 c36
                    exact jK37  hq
                  · replace hq := hq.2 c36
                    refine hp_iload_n E 3 dX12_findKnots_212 rfl rfl ?_
                    refine hp_if_eq E 220 dX12_findKnots_213 (by decide) (fun c38 => ?_) (fun c38 => ?_)
                    · replace hq := hq.1 c38
                      exact jK37  hq
                    · replace hq := hq.2 c38
                      exact jK35  hq
            obtain ⟨K23, hq, hK23⟩ := hq
            have jK23 : K23 → hp_G p l e rm_X12_findKnots s m args below meth c SM cs ad A D 5 0 0 Z 172 [(0, .ref (ad 0)), (1, .int a1), (2, .int v6)] [] h17 := by
              intro  hq
              replace hq := hK23  hq
              refine hp_iconst E (nI 0) dX12_findKnots_172 (by decide) ?_
              exact jK21 _ hq
            refine hp_if_eq E 172 dX12_findKnots_154 (by decide) (fun c20 => ?_) (fun c20 => ?_)
            · replace hq := hq.1 c20
              refine hp_sub (lv' := [(0, .ref (ad 0)), (1, .int a1), (2, .int v6)]) [0, 1, 2] rfl ?_
              exact jK23  hq
            · replace hq := hq.2 c20
              refine hp_iload_n E 1 dX12_findKnots_157 rfl rfl ?_
              obtain ⟨K25, hq, hK25⟩ := hq
              have jK25 : K25 → hp_G p l e rm_X12_findKnots s m args below meth c SM cs ad A D 5 0 0 Z 168 [(0, .ref (ad 0)), (1, .int a1), (2, .int v6)] [] h17 := by
                intro  hq
                replace hq := hK25  hq
                refine hp_iconst E (nI 1) dX12_findKnots_168 (by decide) ?_
                refine hp_goto E 173 dX12_findKnots_169 (by decide) ?_
                exact jK21 _ hq
              refine hp_if_eq E 168 dX12_findKnots_158 (by decide) (fun c24 => ?_) (fun c24 => ?_)
              · replace hq := hq.1 c24
                refine hp_sub (lv' := [(0, .ref (ad 0)), (1, .int a1), (2, .int v6)]) [0, 1, 2] rfl ?_
                exact jK25  hq
              · replace hq := hq.2 c24
                refine hp_aload_n E 0 dX12_findKnots_161 rfl rfl ?_
                refine hp_callVip (rest := []) E 0 fM_0_0 vcl_12 (c_X12_isFair l hJ hq) F_X12_isFair m_RX12_332 ⟨rfl, rfl⟩ ⟨Nat.le_of_ble_eq_true rfl, Nat.le_of_ble_eq_true rfl⟩ ⟨Nat.zero_le _, Nat.zero_le _⟩ rfl rfl (Nat.le_of_ble_eq_true rfl) dX12_findKnots_162 (fun r26 hq => ?_)
                refine hp_if_eq E 172 dX12_findKnots_165 (by decide) (fun c27 => ?_) (fun c27 => ?_)
                · replace hq := hq.1 c27
                  refine hp_sub (lv' := [(0, .ref (ad 0)), (1, .int a1), (2, .int v6)]) [0, 1, 2] rfl ?_
                  exact jK23  hq
                · replace hq := hq.2 c27
                  refine hp_sub (lv' := [(0, .ref (ad 0)), (1, .int a1), (2, .int v6)]) [0, 1, 2] rfl ?_
                  exact jK25  hq
          · replace hq := hq.2 c18
            refine hp_aload_n E 0 dX12_findKnots_86 rfl rfl ?_
            refine hp_gR E g_RX12_131 fM_0_56 dX12_findKnots_87 ?_
            refine hp_iload_n E 3 dX12_findKnots_90 rfl rfl ?_
            refine hp_aload_n E 0 dX12_findKnots_91 rfl rfl ?_
            refine hp_gR E g_RX12_131 fM_0_56 dX12_findKnots_92 ?_
            refine hp_iload_n E 3 dX12_findKnots_95 rfl rfl ?_
            refine hp_zald E 41 aM_41 hq.1 dX12_findKnots_96 ?_
            replace hq := hq.2
            obtain ⟨K42, hq, hK42⟩ := hq
            have jK42 : ∀ (v43 : Int32), K42 v43 → hp_G p l e rm_X12_findKnots s m args below meth c SM cs ad A D 5 0 0 Z 114 [(0, .ref (ad 0)), (1, .int a1), (2, .int v6), (3, .int v16)] [.int v43, .int v16, .ref (ad 41)] h17 := by
              intro v43 hq
              replace hq := hK42 v43 hq
              have hin := hq.1
              replace hq := hq.2
              have hbz := hq.1
              replace hq := hq.2
              refine hp_zast E 41 aM_41 zM_41 hJ hin hbz dX12_findKnots_114 ?_
              refine hp_toph (fun h46 eh46 => ?_)
              replace hq := hq h46 eh46
              refine hp_aload_n E 0 dX12_findKnots_115 rfl rfl ?_
              refine hp_gR E g_RX12_140 fM_0_59 dX12_findKnots_116 ?_
              refine hp_iload_n E 3 dX12_findKnots_119 rfl rfl ?_
              refine hp_aload_n E 0 dX12_findKnots_120 rfl rfl ?_
              refine hp_gR E g_RX12_140 fM_0_59 dX12_findKnots_121 ?_
              refine hp_iload_n E 3 dX12_findKnots_124 rfl rfl ?_
              refine hp_zald E 44 aM_44 hq.1 dX12_findKnots_125 ?_
              replace hq := hq.2
              obtain ⟨K48, hq, hK48⟩ := hq
              have jK48 : ∀ (v49 : Int32), K48 v49 → hp_G p l e rm_X12_findKnots s m args below meth c SM cs ad A D 5 0 0 Z 143 [(0, .ref (ad 0)), (1, .int a1), (2, .int v6), (3, .int v16)] [.int v49, .int v16, .ref (ad 44)] h46 := by
                intro v49 hq
                replace hq := hK48 v49 hq
                have hin := hq.1
                replace hq := hq.2
                have hbz := hq.1
                replace hq := hq.2
                refine hp_zast E 44 aM_44 zM_44 hJ hin hbz dX12_findKnots_143 ?_
                refine hp_toph (fun h52 eh52 => ?_)
                replace hq := hq h52 eh52
                obtain ⟨v53, ev53⟩ : ∃ z : Int32, z = v16 + (nI 1) := ⟨_, rfl⟩
                replace hq := hq v53 ev53
                refine hp_iinc (lv' := [(0, .ref (ad 0)), (1, .int a1), (2, .int v6), (3, .int v53)]) E 3 v53 dX12_findKnots_144 rfl (by rw [ev53]; rfl) (by decide) rfl rfl ?_
                refine hp_goto E 78 dX12_findKnots_147 (by decide) ?_
                exact hB15 _ _ hq
              obtain ⟨K50, hq, hK50⟩ := hq
              have jK50 : K50 → hp_G p l e rm_X12_findKnots s m args below meth c SM cs ad A D 5 0 0 Z 138 [(0, .ref (ad 0)), (1, .int a1), (2, .int v6), (3, .int v16)] [.int v16, .ref (ad 44)] h46 := by
                intro  hq
                replace hq := hK50  hq
                refine hp_iconst E (nI 1) dX12_findKnots_138 (by decide) ?_
                refine hp_goto E 143 dX12_findKnots_139 (by decide) ?_
                exact jK48 _ hq
              refine hp_if_ne E 138 dX12_findKnots_126 (by decide) (fun c47 => ?_) (fun c47 => ?_)
              · replace hq := hq.2 c47
                exact jK50  hq
              · replace hq := hq.1 c47
                refine hp_aload_n E 0 dX12_findKnots_129 rfl rfl ?_
                refine hp_gR E g_RX12_131 fM_0_56 dX12_findKnots_130 ?_
                refine hp_iload_n E 3 dX12_findKnots_133 rfl rfl ?_
                refine hp_zald E 41 aM_41 hq.1 dX12_findKnots_134 ?_
                replace hq := hq.2
                refine hp_if_eq E 142 dX12_findKnots_135 (by decide) (fun c51 => ?_) (fun c51 => ?_)
                · replace hq := hq.1 c51
                  refine hp_iconst E (nI 0) dX12_findKnots_142 (by decide) ?_
                  exact jK48 _ hq
                · replace hq := hq.2 c51
                  exact jK50  hq
            obtain ⟨K44, hq, hK44⟩ := hq
            have jK44 : K44 → hp_G p l e rm_X12_findKnots s m args below meth c SM cs ad A D 5 0 0 Z 113 [(0, .ref (ad 0)), (1, .int a1), (2, .int v6), (3, .int v16)] [.int v16, .ref (ad 41)] h17 := by
              intro  hq
              replace hq := hK44  hq
              refine hp_iconst E (nI 0) dX12_findKnots_113 (by decide) ?_
              exact jK42 _ hq
            refine hp_if_eq E 113 dX12_findKnots_97 (by decide) (fun c41 => ?_) (fun c41 => ?_)
            · replace hq := hq.1 c41
              exact jK44  hq
            · replace hq := hq.2 c41
              refine hp_aload_n E 0 dX12_findKnots_100 rfl rfl ?_
              refine hp_gR E g_RX12_134 fM_0_57 dX12_findKnots_101 ?_
              refine hp_iload_n E 3 dX12_findKnots_104 rfl rfl ?_
              refine hp_zald E 42 aM_42 hq.1 dX12_findKnots_105 ?_
              replace hq := hq.2
              refine hp_if_eq E 113 dX12_findKnots_106 (by decide) (fun c45 => ?_) (fun c45 => ?_)
              · replace hq := hq.1 c45
                exact jK44  hq
              · replace hq := hq.2 c45
                refine hp_iconst E (nI 1) dX12_findKnots_109 (by decide) ?_
                refine hp_goto E 114 dX12_findKnots_110 (by decide) ?_
                exact jK42 _ hq
  · replace hq := hq.2 c4
    refine hp_aload_n E 0 dX12_findKnots_10 rfl rfl ?_
    refine hp_gR E g_RX12_137 fM_0_58 dX12_findKnots_11 ?_
    refine hp_iload_n E 2 dX12_findKnots_14 rfl rfl ?_
    refine hp_iconst E (nI 0) dX12_findKnots_15 (by decide) ?_
    have hin := hq.1
    replace hq := hq.2
    refine hp_zast E 43 aM_43 zM_43 hJ hin (by unfold hp_bz; decide) dX12_findKnots_16 ?_
    refine hp_toph (fun h55 eh55 => ?_)
    replace hq := hq h55 eh55
    refine hp_aload_n E 0 dX12_findKnots_17 rfl rfl ?_
    refine hp_gR E g_RX12_140 fM_0_59 dX12_findKnots_18 ?_
    refine hp_iload_n E 2 dX12_findKnots_21 rfl rfl ?_
    refine hp_iconst E (nI 0) dX12_findKnots_22 (by decide) ?_
    have hin := hq.1
    replace hq := hq.2
    refine hp_zast E 44 aM_44 zM_44 hJ hin (by unfold hp_bz; decide) dX12_findKnots_23 ?_
    refine hp_toph (fun h56 eh56 => ?_)
    replace hq := hq h56 eh56
    obtain ⟨v57, ev57⟩ : ∃ z : Int32, z = v2 + (nI 1) := ⟨_, rfl⟩
    replace hq := hq v57 ev57
    refine hp_iinc (lv' := [(0, .ref (ad 0)), (1, .int a1), (2, .int v57)]) E 2 v57 dX12_findKnots_24 rfl (by rw [ev57]; rfl) (by decide) rfl rfl ?_
    refine hp_goto E 2 dX12_findKnots_27 (by decide) ?_
    exact hB1 _ _ hq
theorem dX12_takeWhereNot_0 : decode cX12_takeWhereNot 0 = .ok (.iconst 0, 1) := by decide +kernel
theorem dX12_takeWhereNot_1 : decode cX12_takeWhereNot 1 = .ok (.istore_n 2, 1) := by decide +kernel
theorem dX12_takeWhereNot_2 : decode cX12_takeWhereNot 2 = .ok (.iload_n 2, 1) := by decide +kernel
theorem dX12_takeWhereNot_3 : decode cX12_takeWhereNot 3 = .ok (.aload_n 0, 1) := by decide +kernel
theorem dX12_takeWhereNot_4 : decode cX12_takeWhereNot 4 = .ok (.getfield 167, 3) := by decide +kernel
theorem dX12_takeWhereNot_7 : decode cX12_takeWhereNot 7 = .ok (.if_icmp .ge 36, 3) := by decide +kernel
theorem dX12_takeWhereNot_10 : decode cX12_takeWhereNot 10 = .ok (.aload_n 0, 1) := by decide +kernel
theorem dX12_takeWhereNot_11 : decode cX12_takeWhereNot 11 = .ok (.iload_n 2, 1) := by decide +kernel
theorem dX12_takeWhereNot_12 : decode cX12_takeWhereNot 12 = .ok (.iconst (-1), 1) := by decide +kernel
theorem dX12_takeWhereNot_13 : decode cX12_takeWhereNot 13 = .ok (.iconst (-1), 1) := by decide +kernel
theorem dX12_takeWhereNot_14 : decode cX12_takeWhereNot 14 = .ok (.invokevirtual 280, 3) := by decide +kernel
theorem dX12_takeWhereNot_17 : decode cX12_takeWhereNot 17 = .ok (.aload_n 0, 1) := by decide +kernel
theorem dX12_takeWhereNot_18 : decode cX12_takeWhereNot 18 = .ok (.getfield 128, 3) := by decide +kernel
theorem dX12_takeWhereNot_21 : decode cX12_takeWhereNot 21 = .ok (.iload_n 2, 1) := by decide +kernel
theorem dX12_takeWhereNot_22 : decode cX12_takeWhereNot 22 = .ok (.aload_n 0, 1) := by decide +kernel
theorem dX12_takeWhereNot_23 : decode cX12_takeWhereNot 23 = .ok (.getfield 119, 3) := by decide +kernel
theorem dX12_takeWhereNot_26 : decode cX12_takeWhereNot 26 = .ok (.iload_n 1, 1) := by decide +kernel
theorem dX12_takeWhereNot_27 : decode cX12_takeWhereNot 27 = .ok (.iaload, 1) := by decide +kernel
theorem dX12_takeWhereNot_28 : decode cX12_takeWhereNot 28 = .ok (.ifCond .ne 7, 3) := by decide +kernel
theorem dX12_takeWhereNot_31 : decode cX12_takeWhereNot 31 = .ok (.iconst 1, 1) := by decide +kernel
theorem dX12_takeWhereNot_32 : decode cX12_takeWhereNot 32 = .ok (.goto 4, 3) := by decide +kernel
theorem dX12_takeWhereNot_35 : decode cX12_takeWhereNot 35 = .ok (.iconst 0, 1) := by decide +kernel
theorem dX12_takeWhereNot_36 : decode cX12_takeWhereNot 36 = .ok (.bastore, 1) := by decide +kernel
theorem dX12_takeWhereNot_37 : decode cX12_takeWhereNot 37 = .ok (.iinc 2 1, 3) := by decide +kernel
theorem dX12_takeWhereNot_40 : decode cX12_takeWhereNot 40 = .ok (.goto (-38), 3) := by decide +kernel
theorem dX12_takeWhereNot_43 : decode cX12_takeWhereNot 43 = .ok (.return_, 1) := by decide +kernel
set_option maxHeartbeats 4000000 in
set_option maxRecDepth 100000 in
theorem c_X12_takeWhereNot (l : Launch) {cs : Nat → ClassId} {ad : Nat → Nat} {A : Nat → Prop} {D : va_G} (hJ : hp_J SM ad A)   {h : hp_H} {a1 : Int32} {Q : hp_H → Prop} (hq : q_X12_takeWhereNot h a1 Q) : hp_Mv l yX12_takeWhereNot cX12_takeWhereNot 3 none rm_X12_takeWhereNot [.ref (ad 0), .int a1] SM cs ad A D h Q := by
  refine hp_met (own := RX12) rfl (by decide) (Nat.le_of_ble_eq_true rfl) rfl (fun p e s m args below meth c Z E hZ hnm => ?_)
  refine hp_sub (lv' := [(0, .ref (ad 0)), (1, .int a1)]) [0, 1] rfl ?_
  unfold q_X12_takeWhereNot at hq
  refine hp_iconst E (nI 0) dX12_takeWhereNot_0 (by decide) ?_
  refine hp_istore_n (lv' := [(0, .ref (ad 0)), (1, .int a1), (2, .int (nI 0))]) E dX12_takeWhereNot_1 rfl (by decide) rfl rfl ?_
  refine hq (fun v2 h3 => hp_G p l e rm_X12_takeWhereNot s m args below meth c SM cs ad A D 3 0 0 Z 2 [(0, .ref (ad 0)), (1, .int a1), (2, .int v2)] [] h3) (fun v2 h3 hB => ?_)
  obtain ⟨B1, hq, hB1⟩ := hB
  refine hp_iload_n E 2 dX12_takeWhereNot_2 rfl rfl ?_
  refine hp_aload_n E 0 dX12_takeWhereNot_3 rfl rfl ?_
  refine hp_gI E g_RX12_167 fM_0_35 dX12_takeWhereNot_4 ?_
  refine hp_icmp_ge E 43 dX12_takeWhereNot_7 (by decide) (fun c4 => ?_) (fun c4 => ?_)
  · replace hq := hq.1 c4
    exact hp_vret E hq hZ dX12_takeWhereNot_43
  · replace hq := hq.2 c4
    refine hp_aload_n E 0 dX12_takeWhereNot_10 rfl rfl ?_
    refine hp_iload_n E 2 dX12_takeWhereNot_11 rfl rfl ?_
    refine hp_iconst E (-1) dX12_takeWhereNot_12 (by decide) ?_
    refine hp_iconst E (-1) dX12_takeWhereNot_13 (by decide) ?_
    refine hp_callVv' (rest := []) E 0 fM_0_0 vcl_12 (c_X12_reckon l hJ hq) F_X12_reckon m_RX12_280 ⟨rfl, rfl⟩ ⟨Nat.le_of_ble_eq_true rfl, Nat.le_of_ble_eq_true rfl⟩ ⟨Nat.zero_le _, Nat.zero_le _⟩ rfl rfl (Nat.le_of_ble_eq_true rfl) dX12_takeWhereNot_14 (fun h5 hq => ?_)
    refine hp_aload_n E 0 dX12_takeWhereNot_17 rfl rfl ?_
    refine hp_gR E g_RX12_128 fM_0_55 dX12_takeWhereNot_18 ?_
    refine hp_iload_n E 2 dX12_takeWhereNot_21 rfl rfl ?_
    refine hp_aload_n E 0 dX12_takeWhereNot_22 rfl rfl ?_
    refine hp_gR E g_RX12_119 fM_0_52 dX12_takeWhereNot_23 ?_
    refine hp_iload_n E 1 dX12_takeWhereNot_26 rfl rfl ?_
    refine hp_iald E 37 aM_37 hq.1 dX12_takeWhereNot_27 ?_
    replace hq := hq.2
    obtain ⟨K7, hq, hK7⟩ := hq
    have jK7 : ∀ (v8 : Int32), K7 v8 → hp_G p l e rm_X12_takeWhereNot s m args below meth c SM cs ad A D 3 0 0 Z 36 [(0, .ref (ad 0)), (1, .int a1), (2, .int v2)] [.int v8, .int v2, .ref (ad 40)] h5 := by
      intro v8 hq
      replace hq := hK7 v8 hq
      have hin := hq.1
      replace hq := hq.2
      have hbz := hq.1
      replace hq := hq.2
      refine hp_zast E 40 aM_40 zM_40 hJ hin hbz dX12_takeWhereNot_36 ?_
      refine hp_toph (fun h9 eh9 => ?_)
      replace hq := hq h9 eh9
      obtain ⟨v10, ev10⟩ : ∃ z : Int32, z = v2 + (nI 1) := ⟨_, rfl⟩
      replace hq := hq v10 ev10
      refine hp_iinc (lv' := [(0, .ref (ad 0)), (1, .int a1), (2, .int v10)]) E 2 v10 dX12_takeWhereNot_37 rfl (by rw [ev10]; rfl) (by decide) rfl rfl ?_
      refine hp_goto E 2 dX12_takeWhereNot_40 (by decide) ?_
      exact hB1 _ _ hq
    refine hp_if_ne E 35 dX12_takeWhereNot_28 (by decide) (fun c6 => ?_) (fun c6 => ?_)
    · replace hq := hq.2 c6
      refine hp_iconst E (nI 0) dX12_takeWhereNot_35 (by decide) ?_
      exact jK7 _ hq
    · replace hq := hq.1 c6
      refine hp_iconst E (nI 1) dX12_takeWhereNot_31 (by decide) ?_
      refine hp_goto E 36 dX12_takeWhereNot_32 (by decide) ?_
      exact jK7 _ hq
theorem dX12_again_0 : decode cX12_again 0 = .ok (.aload_n 0, 1) := by decide +kernel
theorem dX12_again_1 : decode cX12_again 1 = .ok (.iload_n 1, 1) := by decide +kernel
theorem dX12_again_2 : decode cX12_again 2 = .ok (.invokevirtual 199, 3) := by decide +kernel
theorem dX12_again_5 : decode cX12_again 5 = .ok (.ifCond .ne 6, 3) := by decide +kernel
theorem dX12_again_8 : decode cX12_again 8 = .ok (.bipush (-2), 2) := by decide +kernel
theorem dX12_again_10 : decode cX12_again 10 = .ok (.ireturn, 1) := by decide +kernel
theorem dX12_again_11 : decode cX12_again 11 = .ok (.aload_n 0, 1) := by decide +kernel
theorem dX12_again_12 : decode cX12_again 12 = .ok (.getfield 59, 3) := by decide +kernel
theorem dX12_again_15 : decode cX12_again 15 = .ok (.iload_n 1, 1) := by decide +kernel
theorem dX12_again_16 : decode cX12_again 16 = .ok (.baload, 1) := by decide +kernel
theorem dX12_again_17 : decode cX12_again 17 = .ok (.ifCond .eq 6, 3) := by decide +kernel
theorem dX12_again_20 : decode cX12_again 20 = .ok (.bipush (-4), 2) := by decide +kernel
theorem dX12_again_22 : decode cX12_again 22 = .ok (.ireturn, 1) := by decide +kernel
theorem dX12_again_23 : decode cX12_again 23 = .ok (.aload_n 0, 1) := by decide +kernel
theorem dX12_again_24 : decode cX12_again 24 = .ok (.invokevirtual 303, 3) := by decide +kernel
theorem dX12_again_27 : decode cX12_again 27 = .ok (.ifCond .eq 14, 3) := by decide +kernel
theorem dX12_again_30 : decode cX12_again 30 = .ok (.iload_n 2, 1) := by decide +kernel
theorem dX12_again_31 : decode cX12_again 31 = .ok (.ifCond .eq 13, 3) := by decide +kernel
theorem dX12_again_34 : decode cX12_again 34 = .ok (.aload_n 0, 1) := by decide +kernel
theorem dX12_again_35 : decode cX12_again 35 = .ok (.getfield 209, 3) := by decide +kernel
theorem dX12_again_38 : decode cX12_again 38 = .ok (.ifCond .eq 6, 3) := by decide +kernel
theorem dX12_again_41 : decode cX12_again 41 = .ok (.bipush (-5), 2) := by decide +kernel
theorem dX12_again_43 : decode cX12_again 43 = .ok (.ireturn, 1) := by decide +kernel
theorem dX12_again_44 : decode cX12_again 44 = .ok (.aload_n 0, 1) := by decide +kernel
theorem dX12_again_45 : decode cX12_again 45 = .ok (.iload_n 1, 1) := by decide +kernel
theorem dX12_again_46 : decode cX12_again 46 = .ok (.invokevirtual 335, 3) := by decide +kernel
theorem dX12_again_49 : decode cX12_again 49 = .ok (.aload_n 0, 1) := by decide +kernel
theorem dX12_again_50 : decode cX12_again 50 = .ok (.iload_n 2, 1) := by decide +kernel
theorem dX12_again_51 : decode cX12_again 51 = .ok (.invokevirtual 338, 3) := by decide +kernel
theorem dX12_again_54 : decode cX12_again 54 = .ok (.iconst 0, 1) := by decide +kernel
theorem dX12_again_55 : decode cX12_again 55 = .ok (.istore_n 3, 1) := by decide +kernel
theorem dX12_again_56 : decode cX12_again 56 = .ok (.iload_n 3, 1) := by decide +kernel
theorem dX12_again_57 : decode cX12_again 57 = .ok (.aload_n 0, 1) := by decide +kernel
theorem dX12_again_58 : decode cX12_again 58 = .ok (.getfield 167, 3) := by decide +kernel
theorem dX12_again_61 : decode cX12_again 61 = .ok (.if_icmp .ge 20, 3) := by decide +kernel
theorem dX12_again_64 : decode cX12_again 64 = .ok (.aload_n 0, 1) := by decide +kernel
theorem dX12_again_65 : decode cX12_again 65 = .ok (.getfield 137, 3) := by decide +kernel
theorem dX12_again_68 : decode cX12_again 68 = .ok (.iload_n 3, 1) := by decide +kernel
theorem dX12_again_69 : decode cX12_again 69 = .ok (.baload, 1) := by decide +kernel
theorem dX12_again_70 : decode cX12_again 70 = .ok (.ifCond .eq 5, 3) := by decide +kernel
theorem dX12_again_73 : decode cX12_again 73 = .ok (.iload_n 3, 1) := by decide +kernel
theorem dX12_again_74 : decode cX12_again 74 = .ok (.ireturn, 1) := by decide +kernel
theorem dX12_again_75 : decode cX12_again 75 = .ok (.iinc 3 1, 3) := by decide +kernel
theorem dX12_again_78 : decode cX12_again 78 = .ok (.goto (-22), 3) := by decide +kernel
theorem dX12_again_81 : decode cX12_again 81 = .ok (.iconst (-1), 1) := by decide +kernel
theorem dX12_again_82 : decode cX12_again 82 = .ok (.ireturn, 1) := by decide +kernel
set_option maxHeartbeats 4000000 in
set_option maxRecDepth 100000 in
theorem c_X12_again (l : Launch) {cs : Nat → ClassId} {ad : Nat → Nat} {A : Nat → Prop} {D : va_G} (hJ : hp_J SM ad A)   {h : hp_H} {a1 a2 : Int32} {Q : Int32 → hp_H → Prop} (hq : q_X12_again h a1 a2 Q) : hp_Mi l yX12_again cX12_again 4 (some .int) rm_X12_again [.ref (ad 0), .int a1, .int a2] SM cs ad A D h Q := by
  refine hp_met (own := RX12) rfl (by decide) (Nat.le_of_ble_eq_true rfl) rfl (fun p e s m args below meth c Z E hZ hnm => ?_)
  refine hp_sub (lv' := [(0, .ref (ad 0)), (1, .int a1), (2, .int a2)]) [0, 1, 2] rfl ?_
  unfold q_X12_again at hq
  refine hp_aload_n E 0 dX12_again_0 rfl rfl ?_
  refine hp_iload_n E 1 dX12_again_1 rfl rfl ?_
  refine hp_callVip (rest := []) E 0 fM_0_0 vcl_12 (c_X12_isExpr l hJ hq) F_X12_isExpr m_RX12_199 ⟨rfl, rfl⟩ ⟨Nat.le_of_ble_eq_true rfl, Nat.le_of_ble_eq_true rfl⟩ ⟨Nat.zero_le _, Nat.zero_le _⟩ rfl rfl (Nat.le_of_ble_eq_true rfl) dX12_again_2 (fun r1 hq => ?_)
  refine hp_if_ne E 11 dX12_again_5 (by decide) (fun c2 => ?_) (fun c2 => ?_)
  · replace hq := hq.2 c2
    refine hp_aload_n E 0 dX12_again_11 rfl rfl ?_
    refine hp_gR E g_RX12_59 fM_0_20 dX12_again_12 ?_
    refine hp_iload_n E 1 dX12_again_15 rfl rfl ?_
    refine hp_zald E 17 aM_17 hq.1 dX12_again_16 ?_
    replace hq := hq.2
    refine hp_if_eq E 23 dX12_again_17 (by decide) (fun c3 => ?_) (fun c3 => ?_)
    · replace hq := hq.1 c3
      refine hp_aload_n E 0 dX12_again_23 rfl rfl ?_
      refine hp_callVip (rest := []) E 0 fM_0_0 vcl_12 (c_X12_hasStates l hJ hq) F_X12_hasStates m_RX12_303 ⟨rfl, rfl⟩ ⟨Nat.le_of_ble_eq_true rfl, Nat.le_of_ble_eq_true rfl⟩ ⟨Nat.zero_le _, Nat.zero_le _⟩ rfl rfl (Nat.le_of_ble_eq_true rfl) dX12_again_24 (fun r4 hq => ?_)
      refine hp_if_eq E 41 dX12_again_27 (by decide) (fun c5 => ?_) (fun c5 => ?_)
      · replace hq := hq.1 c5
        refine hp_bipush E (-5) dX12_again_41 (by decide) ?_
        exact hp_iret E hq hZ dX12_again_43
      · replace hq := hq.2 c5
        refine hp_iload_n E 2 dX12_again_30 rfl rfl ?_
        obtain ⟨K7, hq, hK7⟩ := hq
        have jK7 : K7 → hp_G p l e rm_X12_again s m args below meth c SM cs ad A D 4 0 0 Z 44 [(0, .ref (ad 0)), (1, .int a1), (2, .int a2)] [] h := by
          intro  hq
          replace hq := hK7  hq
          refine hp_aload_n E 0 dX12_again_44 rfl rfl ?_
          refine hp_iload_n E 1 dX12_again_45 rfl rfl ?_
          refine hp_callVv' (rest := []) E 0 fM_0_0 vcl_12 (c_X12_takeWhereNot l hJ hq) F_X12_takeWhereNot m_RX12_335 ⟨rfl, rfl⟩ ⟨Nat.le_of_ble_eq_true rfl, Nat.le_of_ble_eq_true rfl⟩ ⟨Nat.zero_le _, Nat.zero_le _⟩ rfl rfl (Nat.le_of_ble_eq_true rfl) dX12_again_46 (fun h9 hq => ?_)
          refine hp_aload_n E 0 dX12_again_49 rfl rfl ?_
          refine hp_iload_n E 2 dX12_again_50 rfl rfl ?_
          refine hp_callVv' (rest := []) E 0 fM_0_0 vcl_12 (c_X12_findKnots l hJ hq) F_X12_findKnots m_RX12_338 ⟨rfl, rfl⟩ ⟨Nat.le_of_ble_eq_true rfl, Nat.le_of_ble_eq_true rfl⟩ ⟨Nat.zero_le _, Nat.zero_le _⟩ rfl rfl (Nat.le_of_ble_eq_true rfl) dX12_again_51 (fun h10 hq => ?_)
          refine hp_iconst E (nI 0) dX12_again_54 (by decide) ?_
          refine hp_istore_n (lv' := [(0, .ref (ad 0)), (1, .int a1), (2, .int a2), (3, .int (nI 0))]) E dX12_again_55 rfl (by decide) rfl rfl ?_
          refine hp_sub (lv' := [(0, .ref (ad 0)), (3, .int (nI 0))]) [0, 3] rfl ?_
          refine hq (fun v12 => hp_G p l e rm_X12_again s m args below meth c SM cs ad A D 4 0 0 Z 56 [(0, .ref (ad 0)), (3, .int v12)] [] h10) (fun v12 hB => ?_)
          obtain ⟨B11, hq, hB11⟩ := hB
          refine hp_iload_n E 1 dX12_again_56 rfl rfl ?_
          refine hp_aload_n E 0 dX12_again_57 rfl rfl ?_
          refine hp_gI E g_RX12_167 fM_0_35 dX12_again_58 ?_
          refine hp_icmp_ge E 81 dX12_again_61 (by decide) (fun c13 => ?_) (fun c13 => ?_)
          · replace hq := hq.1 c13
            refine hp_iconst E (-1) dX12_again_81 (by decide) ?_
            exact hp_iret E hq hZ dX12_again_82
          · replace hq := hq.2 c13
            refine hp_aload_n E 0 dX12_again_64 rfl rfl ?_
            refine hp_gR E g_RX12_137 fM_0_58 dX12_again_65 ?_
            refine hp_iload_n E 1 dX12_again_68 rfl rfl ?_
            refine hp_zald E 43 aM_43 hq.1 dX12_again_69 ?_
            replace hq := hq.2
            refine hp_if_eq E 75 dX12_again_70 (by decide) (fun c14 => ?_) (fun c14 => ?_)
            · replace hq := hq.1 c14
              obtain ⟨v15, ev15⟩ : ∃ z : Int32, z = v12 + (nI 1) := ⟨_, rfl⟩
              replace hq := hq v15 ev15
              refine hp_iinc (lv' := [(0, .ref (ad 0)), (3, .int v15)]) E 1 v15 dX12_again_75 rfl (by rw [ev15]; rfl) (by decide) rfl rfl ?_
              refine hp_goto E 56 dX12_again_78 (by decide) ?_
              exact hB11 _ hq
            · replace hq := hq.2 c14
              refine hp_iload_n E 1 dX12_again_73 rfl rfl ?_
              exact hp_iret E hq hZ dX12_again_74
        refine hp_if_eq E 44 dX12_again_31 (by decide) (fun c6 => ?_) (fun c6 => ?_)
        · replace hq := hq.1 c6
          exact jK7  hq
        · replace hq := hq.2 c6
          refine hp_aload_n E 0 dX12_again_34 rfl rfl ?_
          refine hp_gI E g_RX12_209 fM_0_30 dX12_again_35 ?_
          refine hp_if_eq E 44 dX12_again_38 (by decide) (fun c8 => ?_) (fun c8 => ?_)
          · replace hq := hq.1 c8
            exact jK7  hq
          · replace hq := hq.2 c8
            refine hp_bipush E (-5) dX12_again_41 (by decide) ?_
            exact hp_iret E hq hZ dX12_again_43
    · replace hq := hq.2 c3
      refine hp_bipush E (-4) dX12_again_20 (by decide) ?_
      exact hp_iret E hq hZ dX12_again_22
  · replace hq := hq.1 c2
    refine hp_bipush E (-2) dX12_again_8 (by decide) ?_
    exact hp_iret E hq hZ dX12_again_10
theorem dX12_fromTo_0 : decode cX12_fromTo 0 = .ok (.aload_n 0, 1) := by decide +kernel
theorem dX12_fromTo_1 : decode cX12_fromTo 1 = .ok (.iload_n 1, 1) := by decide +kernel
theorem dX12_fromTo_2 : decode cX12_fromTo 2 = .ok (.invokevirtual 199, 3) := by decide +kernel
theorem dX12_fromTo_5 : decode cX12_fromTo 5 = .ok (.ifCond .eq 11, 3) := by decide +kernel
theorem dX12_fromTo_8 : decode cX12_fromTo 8 = .ok (.aload_n 0, 1) := by decide +kernel
theorem dX12_fromTo_9 : decode cX12_fromTo 9 = .ok (.iload_n 2, 1) := by decide +kernel
theorem dX12_fromTo_10 : decode cX12_fromTo 10 = .ok (.invokevirtual 199, 3) := by decide +kernel
theorem dX12_fromTo_13 : decode cX12_fromTo 13 = .ok (.ifCond .ne 6, 3) := by decide +kernel
theorem dX12_fromTo_16 : decode cX12_fromTo 16 = .ok (.bipush (-2), 2) := by decide +kernel
theorem dX12_fromTo_18 : decode cX12_fromTo 18 = .ok (.ireturn, 1) := by decide +kernel
theorem dX12_fromTo_19 : decode cX12_fromTo 19 = .ok (.aload_n 0, 1) := by decide +kernel
theorem dX12_fromTo_20 : decode cX12_fromTo 20 = .ok (.getfield 59, 3) := by decide +kernel
theorem dX12_fromTo_23 : decode cX12_fromTo 23 = .ok (.iload_n 1, 1) := by decide +kernel
theorem dX12_fromTo_24 : decode cX12_fromTo 24 = .ok (.baload, 1) := by decide +kernel
theorem dX12_fromTo_25 : decode cX12_fromTo 25 = .ok (.ifCond .ne 12, 3) := by decide +kernel
theorem dX12_fromTo_28 : decode cX12_fromTo 28 = .ok (.aload_n 0, 1) := by decide +kernel
theorem dX12_fromTo_29 : decode cX12_fromTo 29 = .ok (.getfield 59, 3) := by decide +kernel
theorem dX12_fromTo_32 : decode cX12_fromTo 32 = .ok (.iload_n 2, 1) := by decide +kernel
theorem dX12_fromTo_33 : decode cX12_fromTo 33 = .ok (.baload, 1) := by decide +kernel
theorem dX12_fromTo_34 : decode cX12_fromTo 34 = .ok (.ifCond .eq 6, 3) := by decide +kernel
theorem dX12_fromTo_37 : decode cX12_fromTo 37 = .ok (.bipush (-4), 2) := by decide +kernel
theorem dX12_fromTo_39 : decode cX12_fromTo 39 = .ok (.ireturn, 1) := by decide +kernel
theorem dX12_fromTo_40 : decode cX12_fromTo 40 = .ok (.aload_n 0, 1) := by decide +kernel
theorem dX12_fromTo_41 : decode cX12_fromTo 41 = .ok (.invokevirtual 303, 3) := by decide +kernel
theorem dX12_fromTo_44 : decode cX12_fromTo 44 = .ok (.ifCond .eq 14, 3) := by decide +kernel
theorem dX12_fromTo_47 : decode cX12_fromTo 47 = .ok (.iload_n 3, 1) := by decide +kernel
theorem dX12_fromTo_48 : decode cX12_fromTo 48 = .ok (.ifCond .eq 13, 3) := by decide +kernel
theorem dX12_fromTo_51 : decode cX12_fromTo 51 = .ok (.aload_n 0, 1) := by decide +kernel
theorem dX12_fromTo_52 : decode cX12_fromTo 52 = .ok (.getfield 209, 3) := by decide +kernel
theorem dX12_fromTo_55 : decode cX12_fromTo 55 = .ok (.ifCond .eq 6, 3) := by decide +kernel
theorem dX12_fromTo_58 : decode cX12_fromTo 58 = .ok (.bipush (-5), 2) := by decide +kernel
theorem dX12_fromTo_60 : decode cX12_fromTo 60 = .ok (.ireturn, 1) := by decide +kernel
theorem dX12_fromTo_61 : decode cX12_fromTo 61 = .ok (.aload_n 0, 1) := by decide +kernel
theorem dX12_fromTo_62 : decode cX12_fromTo 62 = .ok (.iload_n 2, 1) := by decide +kernel
theorem dX12_fromTo_63 : decode cX12_fromTo 63 = .ok (.invokevirtual 335, 3) := by decide +kernel
theorem dX12_fromTo_66 : decode cX12_fromTo 66 = .ok (.aload_n 0, 1) := by decide +kernel
theorem dX12_fromTo_67 : decode cX12_fromTo 67 = .ok (.iload_n 3, 1) := by decide +kernel
theorem dX12_fromTo_68 : decode cX12_fromTo 68 = .ok (.invokevirtual 338, 3) := by decide +kernel
theorem dX12_fromTo_71 : decode cX12_fromTo 71 = .ok (.iconst 0, 1) := by decide +kernel
theorem dX12_fromTo_72 : decode cX12_fromTo 72 = .ok (.istore 4, 2) := by decide +kernel
theorem dX12_fromTo_74 : decode cX12_fromTo 74 = .ok (.iload 4, 2) := by decide +kernel
theorem dX12_fromTo_76 : decode cX12_fromTo 76 = .ok (.aload_n 0, 1) := by decide +kernel
theorem dX12_fromTo_77 : decode cX12_fromTo 77 = .ok (.getfield 167, 3) := by decide +kernel
theorem dX12_fromTo_80 : decode cX12_fromTo 80 = .ok (.if_icmp .ge 87, 3) := by decide +kernel
theorem dX12_fromTo_83 : decode cX12_fromTo 83 = .ok (.aload_n 0, 1) := by decide +kernel
theorem dX12_fromTo_84 : decode cX12_fromTo 84 = .ok (.iload 4, 2) := by decide +kernel
theorem dX12_fromTo_86 : decode cX12_fromTo 86 = .ok (.iconst (-1), 1) := by decide +kernel
theorem dX12_fromTo_87 : decode cX12_fromTo 87 = .ok (.iconst (-1), 1) := by decide +kernel
theorem dX12_fromTo_88 : decode cX12_fromTo 88 = .ok (.invokevirtual 280, 3) := by decide +kernel
theorem dX12_fromTo_91 : decode cX12_fromTo 91 = .ok (.aload_n 0, 1) := by decide +kernel
theorem dX12_fromTo_92 : decode cX12_fromTo 92 = .ok (.getfield 128, 3) := by decide +kernel
theorem dX12_fromTo_95 : decode cX12_fromTo 95 = .ok (.iload 4, 2) := by decide +kernel
theorem dX12_fromTo_97 : decode cX12_fromTo 97 = .ok (.baload, 1) := by decide +kernel
theorem dX12_fromTo_98 : decode cX12_fromTo 98 = .ok (.ifCond .eq 63, 3) := by decide +kernel
theorem dX12_fromTo_101 : decode cX12_fromTo 101 = .ok (.aload_n 0, 1) := by decide +kernel
theorem dX12_fromTo_102 : decode cX12_fromTo 102 = .ok (.getfield 119, 3) := by decide +kernel
theorem dX12_fromTo_105 : decode cX12_fromTo 105 = .ok (.iload_n 1, 1) := by decide +kernel
theorem dX12_fromTo_106 : decode cX12_fromTo 106 = .ok (.iaload, 1) := by decide +kernel
theorem dX12_fromTo_107 : decode cX12_fromTo 107 = .ok (.ifCond .eq 54, 3) := by decide +kernel
theorem dX12_fromTo_110 : decode cX12_fromTo 110 = .ok (.aload_n 0, 1) := by decide +kernel
theorem dX12_fromTo_111 : decode cX12_fromTo 111 = .ok (.iload 4, 2) := by decide +kernel
theorem dX12_fromTo_113 : decode cX12_fromTo 113 = .ok (.aload_n 0, 1) := by decide +kernel
theorem dX12_fromTo_114 : decode cX12_fromTo 114 = .ok (.getfield 131, 3) := by decide +kernel
theorem dX12_fromTo_117 : decode cX12_fromTo 117 = .ok (.invokevirtual 322, 3) := by decide +kernel
theorem dX12_fromTo_120 : decode cX12_fromTo 120 = .ok (.iconst 0, 1) := by decide +kernel
theorem dX12_fromTo_121 : decode cX12_fromTo 121 = .ok (.istore 5, 2) := by decide +kernel
theorem dX12_fromTo_123 : decode cX12_fromTo 123 = .ok (.iload 5, 2) := by decide +kernel
theorem dX12_fromTo_125 : decode cX12_fromTo 125 = .ok (.aload_n 0, 1) := by decide +kernel
theorem dX12_fromTo_126 : decode cX12_fromTo 126 = .ok (.getfield 167, 3) := by decide +kernel
theorem dX12_fromTo_129 : decode cX12_fromTo 129 = .ok (.if_icmp .ge 32, 3) := by decide +kernel
theorem dX12_fromTo_132 : decode cX12_fromTo 132 = .ok (.aload_n 0, 1) := by decide +kernel
theorem dX12_fromTo_133 : decode cX12_fromTo 133 = .ok (.getfield 131, 3) := by decide +kernel
theorem dX12_fromTo_136 : decode cX12_fromTo 136 = .ok (.iload 5, 2) := by decide +kernel
theorem dX12_fromTo_138 : decode cX12_fromTo 138 = .ok (.baload, 1) := by decide +kernel
theorem dX12_fromTo_139 : decode cX12_fromTo 139 = .ok (.ifCond .eq 16, 3) := by decide +kernel
theorem dX12_fromTo_142 : decode cX12_fromTo 142 = .ok (.aload_n 0, 1) := by decide +kernel
theorem dX12_fromTo_143 : decode cX12_fromTo 143 = .ok (.getfield 137, 3) := by decide +kernel
theorem dX12_fromTo_146 : decode cX12_fromTo 146 = .ok (.iload 5, 2) := by decide +kernel
theorem dX12_fromTo_148 : decode cX12_fromTo 148 = .ok (.baload, 1) := by decide +kernel
theorem dX12_fromTo_149 : decode cX12_fromTo 149 = .ok (.ifCond .eq 6, 3) := by decide +kernel
theorem dX12_fromTo_152 : decode cX12_fromTo 152 = .ok (.iload 4, 2) := by decide +kernel
theorem dX12_fromTo_154 : decode cX12_fromTo 154 = .ok (.ireturn, 1) := by decide +kernel
theorem dX12_fromTo_155 : decode cX12_fromTo 155 = .ok (.iinc 5 1, 3) := by decide +kernel
theorem dX12_fromTo_158 : decode cX12_fromTo 158 = .ok (.goto (-35), 3) := by decide +kernel
theorem dX12_fromTo_161 : decode cX12_fromTo 161 = .ok (.iinc 4 1, 3) := by decide +kernel
theorem dX12_fromTo_164 : decode cX12_fromTo 164 = .ok (.goto (-90), 3) := by decide +kernel
theorem dX12_fromTo_167 : decode cX12_fromTo 167 = .ok (.iconst (-1), 1) := by decide +kernel
theorem dX12_fromTo_168 : decode cX12_fromTo 168 = .ok (.ireturn, 1) := by decide +kernel
set_option maxHeartbeats 4000000 in
set_option maxRecDepth 100000 in
theorem c_X12_fromTo (l : Launch) {cs : Nat → ClassId} {ad : Nat → Nat} {A : Nat → Prop} {D : va_G} (hJ : hp_J SM ad A)   {h : hp_H} {a1 a2 a3 : Int32} {Q : Int32 → hp_H → Prop} (hq : q_X12_fromTo h a1 a2 a3 Q) : hp_Mi l yX12_fromTo cX12_fromTo 6 (some .int) rm_X12_fromTo [.ref (ad 0), .int a1, .int a2, .int a3] SM cs ad A D h Q := by
  refine hp_met (own := RX12) rfl (by decide) (Nat.le_of_ble_eq_true rfl) rfl (fun p e s m args below meth c Z E hZ hnm => ?_)
  refine hp_sub (lv' := [(0, .ref (ad 0)), (1, .int a1), (2, .int a2), (3, .int a3)]) [0, 1, 2, 3] rfl ?_
  unfold q_X12_fromTo at hq
  refine hp_aload_n E 0 dX12_fromTo_0 rfl rfl ?_
  refine hp_iload_n E 1 dX12_fromTo_1 rfl rfl ?_
  refine hp_callVip (rest := []) E 0 fM_0_0 vcl_12 (c_X12_isExpr l hJ hq) F_X12_isExpr m_RX12_199 ⟨rfl, rfl⟩ ⟨Nat.le_of_ble_eq_true rfl, Nat.le_of_ble_eq_true rfl⟩ ⟨Nat.zero_le _, Nat.zero_le _⟩ rfl rfl (Nat.le_of_ble_eq_true rfl) dX12_fromTo_2 (fun r1 hq => ?_)
  refine hp_if_eq E 16 dX12_fromTo_5 (by decide) (fun c2 => ?_) (fun c2 => ?_)
  · replace hq := hq.1 c2
    refine hp_bipush E (-2) dX12_fromTo_16 (by decide) ?_
    exact hp_iret E hq hZ dX12_fromTo_18
  · replace hq := hq.2 c2
    refine hp_aload_n E 0 dX12_fromTo_8 rfl rfl ?_
    refine hp_iload_n E 2 dX12_fromTo_9 rfl rfl ?_
    refine hp_callVip (rest := []) E 0 fM_0_0 vcl_12 (c_X12_isExpr l hJ hq) F_X12_isExpr m_RX12_199 ⟨rfl, rfl⟩ ⟨Nat.le_of_ble_eq_true rfl, Nat.le_of_ble_eq_true rfl⟩ ⟨Nat.zero_le _, Nat.zero_le _⟩ rfl rfl (Nat.le_of_ble_eq_true rfl) dX12_fromTo_10 (fun r3 hq => ?_)
    refine hp_if_ne E 19 dX12_fromTo_13 (by decide) (fun c4 => ?_) (fun c4 => ?_)
    · replace hq := hq.2 c4
      refine hp_aload_n E 0 dX12_fromTo_19 rfl rfl ?_
      refine hp_gR E g_RX12_59 fM_0_20 dX12_fromTo_20 ?_
      refine hp_iload_n E 1 dX12_fromTo_23 rfl rfl ?_
      refine hp_zald E 17 aM_17 hq.1 dX12_fromTo_24 ?_
      replace hq := hq.2
      refine hp_if_ne E 37 dX12_fromTo_25 (by decide) (fun c5 => ?_) (fun c5 => ?_)
      · replace hq := hq.2 c5
        refine hp_bipush E (-4) dX12_fromTo_37 (by decide) ?_
        exact hp_iret E hq hZ dX12_fromTo_39
      · replace hq := hq.1 c5
        refine hp_aload_n E 0 dX12_fromTo_28 rfl rfl ?_
        refine hp_gR E g_RX12_59 fM_0_20 dX12_fromTo_29 ?_
        refine hp_iload_n E 2 dX12_fromTo_32 rfl rfl ?_
        refine hp_zald E 17 aM_17 hq.1 dX12_fromTo_33 ?_
        replace hq := hq.2
        refine hp_if_eq E 40 dX12_fromTo_34 (by decide) (fun c6 => ?_) (fun c6 => ?_)
        · replace hq := hq.1 c6
          refine hp_aload_n E 0 dX12_fromTo_40 rfl rfl ?_
          refine hp_callVip (rest := []) E 0 fM_0_0 vcl_12 (c_X12_hasStates l hJ hq) F_X12_hasStates m_RX12_303 ⟨rfl, rfl⟩ ⟨Nat.le_of_ble_eq_true rfl, Nat.le_of_ble_eq_true rfl⟩ ⟨Nat.zero_le _, Nat.zero_le _⟩ rfl rfl (Nat.le_of_ble_eq_true rfl) dX12_fromTo_41 (fun r7 hq => ?_)
          refine hp_if_eq E 58 dX12_fromTo_44 (by decide) (fun c8 => ?_) (fun c8 => ?_)
          · replace hq := hq.1 c8
            refine hp_bipush E (-5) dX12_fromTo_58 (by decide) ?_
            exact hp_iret E hq hZ dX12_fromTo_60
          · replace hq := hq.2 c8
            refine hp_iload_n E 3 dX12_fromTo_47 rfl rfl ?_
            obtain ⟨K10, hq, hK10⟩ := hq
            have jK10 : K10 → hp_G p l e rm_X12_fromTo s m args below meth c SM cs ad A D 6 0 0 Z 61 [(0, .ref (ad 0)), (1, .int a1), (2, .int a2), (3, .int a3)] [] h := by
              intro  hq
              replace hq := hK10  hq
              refine hp_aload_n E 0 dX12_fromTo_61 rfl rfl ?_
              refine hp_iload_n E 2 dX12_fromTo_62 rfl rfl ?_
              refine hp_callVv' (rest := []) E 0 fM_0_0 vcl_12 (c_X12_takeWhereNot l hJ hq) F_X12_takeWhereNot m_RX12_335 ⟨rfl, rfl⟩ ⟨Nat.le_of_ble_eq_true rfl, Nat.le_of_ble_eq_true rfl⟩ ⟨Nat.zero_le _, Nat.zero_le _⟩ rfl rfl (Nat.le_of_ble_eq_true rfl) dX12_fromTo_63 (fun h12 hq => ?_)
              refine hp_aload_n E 0 dX12_fromTo_66 rfl rfl ?_
              refine hp_iload_n E 3 dX12_fromTo_67 rfl rfl ?_
              refine hp_callVv' (rest := []) E 0 fM_0_0 vcl_12 (c_X12_findKnots l hJ hq) F_X12_findKnots m_RX12_338 ⟨rfl, rfl⟩ ⟨Nat.le_of_ble_eq_true rfl, Nat.le_of_ble_eq_true rfl⟩ ⟨Nat.zero_le _, Nat.zero_le _⟩ rfl rfl (Nat.le_of_ble_eq_true rfl) dX12_fromTo_68 (fun h13 hq => ?_)
              refine hp_iconst E (nI 0) dX12_fromTo_71 (by decide) ?_
              refine hp_istore (lv' := [(0, .ref (ad 0)), (1, .int a1), (2, .int a2), (3, .int a3), (4, .int (nI 0))]) E dX12_fromTo_72 (by decide) rfl rfl ?_
              refine hp_sub (lv' := [(0, .ref (ad 0)), (1, .int a1), (4, .int (nI 0))]) [0, 1, 4] rfl ?_
              refine hq (fun v15 h16 => hp_G p l e rm_X12_fromTo s m args below meth c SM cs ad A D 6 0 0 Z 74 [(0, .ref (ad 0)), (1, .int a1), (4, .int v15)] [] h16) (fun v15 h16 hB => ?_)
              obtain ⟨B14, hq, hB14⟩ := hB
              refine hp_iload E 2 dX12_fromTo_74 rfl ?_
              refine hp_aload_n E 0 dX12_fromTo_76 rfl rfl ?_
              refine hp_gI E g_RX12_167 fM_0_35 dX12_fromTo_77 ?_
              refine hp_icmp_ge E 167 dX12_fromTo_80 (by decide) (fun c17 => ?_) (fun c17 => ?_)
              · replace hq := hq.1 c17
                refine hp_iconst E (-1) dX12_fromTo_167 (by decide) ?_
                exact hp_iret E hq hZ dX12_fromTo_168
              · replace hq := hq.2 c17
                refine hp_aload_n E 0 dX12_fromTo_83 rfl rfl ?_
                refine hp_iload E 2 dX12_fromTo_84 rfl ?_
                refine hp_iconst E (-1) dX12_fromTo_86 (by decide) ?_
                refine hp_iconst E (-1) dX12_fromTo_87 (by decide) ?_
                refine hp_callVv' (rest := []) E 0 fM_0_0 vcl_12 (c_X12_reckon l hJ hq) F_X12_reckon m_RX12_280 ⟨rfl, rfl⟩ ⟨Nat.le_of_ble_eq_true rfl, Nat.le_of_ble_eq_true rfl⟩ ⟨Nat.zero_le _, Nat.zero_le _⟩ rfl rfl (Nat.le_of_ble_eq_true rfl) dX12_fromTo_88 (fun h18 hq => ?_)
                refine hp_aload_n E 0 dX12_fromTo_91 rfl rfl ?_
                refine hp_gR E g_RX12_128 fM_0_55 dX12_fromTo_92 ?_
                refine hp_iload E 2 dX12_fromTo_95 rfl ?_
                refine hp_zald E 40 aM_40 hq.1 dX12_fromTo_97 ?_
                replace hq := hq.2
                obtain ⟨K20, hq, hK20⟩ := hq
                have jK20 : ∀  (h21 : hp_H), K20 h21 → hp_G p l e rm_X12_fromTo s m args below meth c SM cs ad A D 6 0 0 Z 161 [(0, .ref (ad 0)), (1, .int a1), (4, .int v15)] [] h21 := by
                  intro h21 hq
                  replace hq := hK20 h21 hq
                  obtain ⟨v31, ev31⟩ : ∃ z : Int32, z = v15 + (nI 1) := ⟨_, rfl⟩
                  replace hq := hq v31 ev31
                  refine hp_iinc (lv' := [(0, .ref (ad 0)), (1, .int a1), (4, .int v31)]) E 2 v31 dX12_fromTo_161 rfl (by rw [ev31]; rfl) (by decide) rfl rfl ?_
                  refine hp_goto E 74 dX12_fromTo_164 (by decide) ?_
                  exact hB14 _ _ hq
                refine hp_if_eq E 161 dX12_fromTo_98 (by decide) (fun c19 => ?_) (fun c19 => ?_)
                · replace hq := hq.1 c19
                  exact jK20 _ hq
                · replace hq := hq.2 c19
                  refine hp_aload_n E 0 dX12_fromTo_101 rfl rfl ?_
                  refine hp_gR E g_RX12_119 fM_0_52 dX12_fromTo_102 ?_
                  refine hp_iload_n E 1 dX12_fromTo_105 rfl rfl ?_
                  refine hp_iald E 37 aM_37 hq.1 dX12_fromTo_106 ?_
                  replace hq := hq.2
                  refine hp_if_eq E 161 dX12_fromTo_107 (by decide) (fun c22 => ?_) (fun c22 => ?_)
                  · replace hq := hq.1 c22
                    exact jK20 _ hq
                  · replace hq := hq.2 c22
                    refine hp_aload_n E 0 dX12_fromTo_110 rfl rfl ?_
                    refine hp_iload E 2 dX12_fromTo_111 rfl ?_
                    refine hp_aload_n E 0 dX12_fromTo_113 rfl rfl ?_
                    refine hp_gR E g_RX12_131 fM_0_56 dX12_fromTo_114 ?_
                    refine hp_callVv' (rest := []) E 0 fM_0_0 vcl_12 (c_X12_goAhead l hJ hq) F_X12_goAhead m_RX12_322 ⟨rfl, rfl⟩ ⟨Nat.le_of_ble_eq_true rfl, Nat.le_of_ble_eq_true rfl⟩ ⟨Nat.zero_le _, Nat.zero_le _⟩ rfl rfl (Nat.le_of_ble_eq_true rfl) dX12_fromTo_117 (fun h23 hq => ?_)
                    refine hp_iconst E (nI 0) dX12_fromTo_120 (by decide) ?_
                    refine hp_istore (lv' := [(0, .ref (ad 0)), (1, .int a1), (4, .int v15), (5, .int (nI 0))]) E dX12_fromTo_121 (by decide) rfl rfl ?_
                    refine hq (fun v25 => hp_G p l e rm_X12_fromTo s m args below meth c SM cs ad A D 6 0 0 Z 123 [(0, .ref (ad 0)), (1, .int a1), (4, .int v15), (5, .int v25)] [] h23) (fun v25 hB => ?_)
                    obtain ⟨B24, hq, hB24⟩ := hB
                    refine hp_iload E 3 dX12_fromTo_123 rfl ?_
                    refine hp_aload_n E 0 dX12_fromTo_125 rfl rfl ?_
                    refine hp_gI E g_RX12_167 fM_0_35 dX12_fromTo_126 ?_
                    refine hp_icmp_ge E 161 dX12_fromTo_129 (by decide) (fun c26 => ?_) (fun c26 => ?_)
                    · replace hq := hq.1 c26
                      refine hp_sub (lv' := [(0, .ref (ad 0)), (1, .int a1), (4, .int v15)]) [0, 1, 2] rfl ?_
                      exact jK20 _ hq
                    · replace hq := hq.2 c26
                      refine hp_aload_n E 0 dX12_fromTo_132 rfl rfl ?_
                      refine hp_gR E g_RX12_131 fM_0_56 dX12_fromTo_133 ?_
                      refine hp_iload E 3 dX12_fromTo_136 rfl ?_
                      refine hp_zald E 41 aM_41 hq.1 dX12_fromTo_138 ?_
                      replace hq := hq.2
                      obtain ⟨K28, hq, hK28⟩ := hq
                      have jK28 : K28 → hp_G p l e rm_X12_fromTo s m args below meth c SM cs ad A D 6 0 0 Z 155 [(0, .ref (ad 0)), (1, .int a1), (4, .int v15), (5, .int v25)] [] h23 := by
                        intro  hq
                        replace hq := hK28  hq
                        obtain ⟨v30, ev30⟩ : ∃ z : Int32, z = v25 + (nI 1) := ⟨_, rfl⟩
                        replace hq := hq v30 ev30
                        refine hp_iinc (lv' := [(0, .ref (ad 0)), (1, .int a1), (4, .int v15), (5, .int v30)]) E 3 v30 dX12_fromTo_155 rfl (by rw [ev30]; rfl) (by decide) rfl rfl ?_
                        refine hp_goto E 123 dX12_fromTo_158 (by decide) ?_
                        exact hB24 _ hq
                      refine hp_if_eq E 155 dX12_fromTo_139 (by decide) (fun c27 => ?_) (fun c27 => ?_)
                      · replace hq := hq.1 c27
                        exact jK28  hq
                      · replace hq := hq.2 c27
                        refine hp_aload_n E 0 dX12_fromTo_142 rfl rfl ?_
                        refine hp_gR E g_RX12_137 fM_0_58 dX12_fromTo_143 ?_
                        refine hp_iload E 3 dX12_fromTo_146 rfl ?_
                        refine hp_zald E 43 aM_43 hq.1 dX12_fromTo_148 ?_
                        replace hq := hq.2
                        refine hp_if_eq E 155 dX12_fromTo_149 (by decide) (fun c29 => ?_) (fun c29 => ?_)
                        · replace hq := hq.1 c29
                          exact jK28  hq
                        · replace hq := hq.2 c29
                          refine hp_iload E 2 dX12_fromTo_152 rfl ?_
                          exact hp_iret E hq hZ dX12_fromTo_154
            refine hp_if_eq E 61 dX12_fromTo_48 (by decide) (fun c9 => ?_) (fun c9 => ?_)
            · replace hq := hq.1 c9
              exact jK10  hq
            · replace hq := hq.2 c9
              refine hp_aload_n E 0 dX12_fromTo_51 rfl rfl ?_
              refine hp_gI E g_RX12_209 fM_0_30 dX12_fromTo_52 ?_
              refine hp_if_eq E 61 dX12_fromTo_55 (by decide) (fun c11 => ?_) (fun c11 => ?_)
              · replace hq := hq.1 c11
                exact jK10  hq
              · replace hq := hq.2 c11
                refine hp_bipush E (-5) dX12_fromTo_58 (by decide) ?_
                exact hp_iret E hq hZ dX12_fromTo_60
        · replace hq := hq.2 c6
          refine hp_bipush E (-4) dX12_fromTo_37 (by decide) ?_
          exact hp_iret E hq hZ dX12_fromTo_39
    · replace hq := hq.1 c4
      refine hp_bipush E (-2) dX12_fromTo_16 (by decide) ?_
      exact hp_iret E hq hZ dX12_fromTo_18
theorem dX12_observe_0 : decode cX12_observe 0 = .ok (.aload_n 0, 1) := by decide +kernel
theorem dX12_observe_1 : decode cX12_observe 1 = .ok (.iload_n 1, 1) := by decide +kernel
theorem dX12_observe_2 : decode cX12_observe 2 = .ok (.invokevirtual 199, 3) := by decide +kernel
theorem dX12_observe_5 : decode cX12_observe 5 = .ok (.ifCond .ne 6, 3) := by decide +kernel
theorem dX12_observe_8 : decode cX12_observe 8 = .ok (.bipush (-2), 2) := by decide +kernel
theorem dX12_observe_10 : decode cX12_observe 10 = .ok (.ireturn, 1) := by decide +kernel
theorem dX12_observe_11 : decode cX12_observe 11 = .ok (.aload_n 0, 1) := by decide +kernel
theorem dX12_observe_12 : decode cX12_observe 12 = .ok (.getfield 59, 3) := by decide +kernel
theorem dX12_observe_15 : decode cX12_observe 15 = .ok (.iload_n 1, 1) := by decide +kernel
theorem dX12_observe_16 : decode cX12_observe 16 = .ok (.baload, 1) := by decide +kernel
theorem dX12_observe_17 : decode cX12_observe 17 = .ok (.ifCond .eq 6, 3) := by decide +kernel
theorem dX12_observe_20 : decode cX12_observe 20 = .ok (.bipush (-4), 2) := by decide +kernel
theorem dX12_observe_22 : decode cX12_observe 22 = .ok (.ireturn, 1) := by decide +kernel
theorem dX12_observe_23 : decode cX12_observe 23 = .ok (.iconst 0, 1) := by decide +kernel
theorem dX12_observe_24 : decode cX12_observe 24 = .ok (.istore_n 2, 1) := by decide +kernel
theorem dX12_observe_25 : decode cX12_observe 25 = .ok (.iload_n 2, 1) := by decide +kernel
theorem dX12_observe_26 : decode cX12_observe 26 = .ok (.aload_n 0, 1) := by decide +kernel
theorem dX12_observe_27 : decode cX12_observe 27 = .ok (.getfield 342, 3) := by decide +kernel
theorem dX12_observe_30 : decode cX12_observe 30 = .ok (.if_icmp .ge 22, 3) := by decide +kernel
theorem dX12_observe_33 : decode cX12_observe 33 = .ok (.aload_n 0, 1) := by decide +kernel
theorem dX12_observe_34 : decode cX12_observe 34 = .ok (.getfield 86, 3) := by decide +kernel
theorem dX12_observe_37 : decode cX12_observe 37 = .ok (.iload_n 2, 1) := by decide +kernel
theorem dX12_observe_38 : decode cX12_observe 38 = .ok (.iaload, 1) := by decide +kernel
theorem dX12_observe_39 : decode cX12_observe 39 = .ok (.iload_n 1, 1) := by decide +kernel
theorem dX12_observe_40 : decode cX12_observe 40 = .ok (.if_icmp .ne 6, 3) := by decide +kernel
theorem dX12_observe_43 : decode cX12_observe 43 = .ok (.bipush (-3), 2) := by decide +kernel
theorem dX12_observe_45 : decode cX12_observe 45 = .ok (.ireturn, 1) := by decide +kernel
theorem dX12_observe_46 : decode cX12_observe 46 = .ok (.iinc 2 1, 3) := by decide +kernel
theorem dX12_observe_49 : decode cX12_observe 49 = .ok (.goto (-24), 3) := by decide +kernel
theorem dX12_observe_52 : decode cX12_observe 52 = .ok (.aload_n 0, 1) := by decide +kernel
theorem dX12_observe_53 : decode cX12_observe 53 = .ok (.getfield 342, 3) := by decide +kernel
theorem dX12_observe_56 : decode cX12_observe 56 = .ok (.bipush 8, 2) := by decide +kernel
theorem dX12_observe_58 : decode cX12_observe 58 = .ok (.if_icmp .ne 6, 3) := by decide +kernel
theorem dX12_observe_61 : decode cX12_observe 61 = .ok (.bipush (-6), 2) := by decide +kernel
theorem dX12_observe_63 : decode cX12_observe 63 = .ok (.ireturn, 1) := by decide +kernel
theorem dX12_observe_64 : decode cX12_observe 64 = .ok (.aload_n 0, 1) := by decide +kernel
theorem dX12_observe_65 : decode cX12_observe 65 = .ok (.getfield 86, 3) := by decide +kernel
theorem dX12_observe_68 : decode cX12_observe 68 = .ok (.aload_n 0, 1) := by decide +kernel
theorem dX12_observe_69 : decode cX12_observe 69 = .ok (.getfield 342, 3) := by decide +kernel
theorem dX12_observe_72 : decode cX12_observe 72 = .ok (.iload_n 1, 1) := by decide +kernel
theorem dX12_observe_73 : decode cX12_observe 73 = .ok (.iastore, 1) := by decide +kernel
theorem dX12_observe_74 : decode cX12_observe 74 = .ok (.aload_n 0, 1) := by decide +kernel
theorem dX12_observe_75 : decode cX12_observe 75 = .ok (.dup, 1) := by decide +kernel
theorem dX12_observe_76 : decode cX12_observe 76 = .ok (.getfield 342, 3) := by decide +kernel
theorem dX12_observe_79 : decode cX12_observe 79 = .ok (.iconst 1, 1) := by decide +kernel
theorem dX12_observe_80 : decode cX12_observe 80 = .ok (.iadd, 1) := by decide +kernel
theorem dX12_observe_81 : decode cX12_observe 81 = .ok (.putfield 342, 3) := by decide +kernel
theorem dX12_observe_84 : decode cX12_observe 84 = .ok (.aload_n 0, 1) := by decide +kernel
theorem dX12_observe_85 : decode cX12_observe 85 = .ok (.getfield 342, 3) := by decide +kernel
theorem dX12_observe_88 : decode cX12_observe 88 = .ok (.ireturn, 1) := by decide +kernel
set_option maxHeartbeats 4000000 in
set_option maxRecDepth 100000 in
theorem c_X12_observe (l : Launch) {cs : Nat → ClassId} {ad : Nat → Nat} {A : Nat → Prop} {D : va_G} (hJ : hp_J SM ad A)   {h : hp_H} {a1 : Int32} {Q : Int32 → hp_H → Prop} (hq : q_X12_observe h a1 Q) : hp_Mi l yX12_observe cX12_observe 3 (some .int) rm_X12_observe [.ref (ad 0), .int a1] SM cs ad A D h Q := by
  refine hp_met (own := RX12) rfl (by decide) (Nat.le_of_ble_eq_true rfl) rfl (fun p e s m args below meth c Z E hZ hnm => ?_)
  refine hp_sub (lv' := [(0, .ref (ad 0)), (1, .int a1)]) [0, 1] rfl ?_
  unfold q_X12_observe at hq
  refine hp_aload_n E 0 dX12_observe_0 rfl rfl ?_
  refine hp_iload_n E 1 dX12_observe_1 rfl rfl ?_
  refine hp_callVip (rest := []) E 0 fM_0_0 vcl_12 (c_X12_isExpr l hJ hq) F_X12_isExpr m_RX12_199 ⟨rfl, rfl⟩ ⟨Nat.le_of_ble_eq_true rfl, Nat.le_of_ble_eq_true rfl⟩ ⟨Nat.zero_le _, Nat.zero_le _⟩ rfl rfl (Nat.le_of_ble_eq_true rfl) dX12_observe_2 (fun r1 hq => ?_)
  refine hp_if_ne E 11 dX12_observe_5 (by decide) (fun c2 => ?_) (fun c2 => ?_)
  · replace hq := hq.2 c2
    refine hp_aload_n E 0 dX12_observe_11 rfl rfl ?_
    refine hp_gR E g_RX12_59 fM_0_20 dX12_observe_12 ?_
    refine hp_iload_n E 1 dX12_observe_15 rfl rfl ?_
    refine hp_zald E 17 aM_17 hq.1 dX12_observe_16 ?_
    replace hq := hq.2
    refine hp_if_eq E 23 dX12_observe_17 (by decide) (fun c3 => ?_) (fun c3 => ?_)
    · replace hq := hq.1 c3
      refine hp_iconst E (nI 0) dX12_observe_23 (by decide) ?_
      refine hp_istore_n (lv' := [(0, .ref (ad 0)), (1, .int a1), (2, .int (nI 0))]) E dX12_observe_24 rfl (by decide) rfl rfl ?_
      refine hq (fun v5 => hp_G p l e rm_X12_observe s m args below meth c SM cs ad A D 3 0 0 Z 25 [(0, .ref (ad 0)), (1, .int a1), (2, .int v5)] [] h) (fun v5 hB => ?_)
      obtain ⟨B4, hq, hB4⟩ := hB
      refine hp_iload_n E 2 dX12_observe_25 rfl rfl ?_
      refine hp_aload_n E 0 dX12_observe_26 rfl rfl ?_
      refine hp_gI E g_RX12_342 fM_0_31 dX12_observe_27 ?_
      refine hp_icmp_ge E 52 dX12_observe_30 (by decide) (fun c6 => ?_) (fun c6 => ?_)
      · replace hq := hq.1 c6
        refine hp_aload_n E 0 dX12_observe_52 rfl rfl ?_
        refine hp_gI E g_RX12_342 fM_0_31 dX12_observe_53 ?_
        refine hp_bipush E (nI 8) dX12_observe_56 (by decide) ?_
        refine hp_icmp_ne E 64 dX12_observe_58 (by decide) (fun c7 => ?_) (fun c7 => ?_)
        · replace hq := hq.2 c7
          refine hp_aload_n E 0 dX12_observe_64 rfl rfl ?_
          refine hp_gR E g_RX12_86 fM_0_32 dX12_observe_65 ?_
          refine hp_aload_n E 0 dX12_observe_68 rfl rfl ?_
          refine hp_gI E g_RX12_342 fM_0_31 dX12_observe_69 ?_
          refine hp_iload_n E 1 dX12_observe_72 rfl rfl ?_
          have hin := hq.1
          replace hq := hq.2
          refine hp_iast E 26 aM_26 zM_26 hJ hin dX12_observe_73 ?_
          refine hp_toph (fun h8 eh8 => ?_)
          replace hq := hq h8 eh8
          refine hp_aload_n E 0 dX12_observe_74 rfl rfl ?_
          refine hp_dup E rfl dX12_observe_75 ?_
          refine hp_gI E g_RX12_342 fM_0_31 dX12_observe_76 ?_
          refine hp_iconst E (nI 1) dX12_observe_79 (by decide) ?_
          refine hp_iadd E dX12_observe_80 ?_
          refine hp_pI E p_RX12_342 fM_0_31 (by decide) hJ dX12_observe_81 ?_
          refine hp_toph (fun h9 eh9 => ?_)
          replace hq := hq h9 eh9
          refine hp_aload_n E 0 dX12_observe_84 rfl rfl ?_
          refine hp_gI E g_RX12_342 fM_0_31 dX12_observe_85 ?_
          exact hp_iret E hq hZ dX12_observe_88
        · replace hq := hq.1 c7
          refine hp_bipush E (-6) dX12_observe_61 (by decide) ?_
          exact hp_iret E hq hZ dX12_observe_63
      · replace hq := hq.2 c6
        refine hp_aload_n E 0 dX12_observe_33 rfl rfl ?_
        refine hp_gR E g_RX12_86 fM_0_32 dX12_observe_34 ?_
        refine hp_iload_n E 2 dX12_observe_37 rfl rfl ?_
        refine hp_iald E 26 aM_26 hq.1 dX12_observe_38 ?_
        replace hq := hq.2
        refine hp_iload_n E 1 dX12_observe_39 rfl rfl ?_
        refine hp_icmp_ne E 46 dX12_observe_40 (by decide) (fun c10 => ?_) (fun c10 => ?_)
        · replace hq := hq.2 c10
          obtain ⟨v11, ev11⟩ : ∃ z : Int32, z = v5 + (nI 1) := ⟨_, rfl⟩
          replace hq := hq v11 ev11
          refine hp_iinc (lv' := [(0, .ref (ad 0)), (1, .int a1), (2, .int v11)]) E 2 v11 dX12_observe_46 rfl (by rw [ev11]; rfl) (by decide) rfl rfl ?_
          refine hp_goto E 25 dX12_observe_49 (by decide) ?_
          exact hB4 _ hq
        · replace hq := hq.1 c10
          refine hp_bipush E (-3) dX12_observe_43 (by decide) ?_
          exact hp_iret E hq hZ dX12_observe_45
    · replace hq := hq.2 c3
      refine hp_bipush E (-4) dX12_observe_20 (by decide) ?_
      exact hp_iret E hq hZ dX12_observe_22
  · replace hq := hq.1 c2
    refine hp_bipush E (-2) dX12_observe_8 (by decide) ?_
    exact hp_iret E hq hZ dX12_observe_10
theorem dX12_isSeenAlike_0 : decode cX12_isSeenAlike 0 = .ok (.iconst 1, 1) := by decide +kernel
theorem dX12_isSeenAlike_1 : decode cX12_isSeenAlike 1 = .ok (.istore_n 3, 1) := by decide +kernel
theorem dX12_isSeenAlike_2 : decode cX12_isSeenAlike 2 = .ok (.iconst 0, 1) := by decide +kernel
theorem dX12_isSeenAlike_3 : decode cX12_isSeenAlike 3 = .ok (.istore 4, 2) := by decide +kernel
theorem dX12_isSeenAlike_5 : decode cX12_isSeenAlike 5 = .ok (.iload 4, 2) := by decide +kernel
theorem dX12_isSeenAlike_7 : decode cX12_isSeenAlike 7 = .ok (.aload_n 0, 1) := by decide +kernel
theorem dX12_isSeenAlike_8 : decode cX12_isSeenAlike 8 = .ok (.getfield 342, 3) := by decide +kernel
theorem dX12_isSeenAlike_11 : decode cX12_isSeenAlike 11 = .ok (.if_icmp .ge 46, 3) := by decide +kernel
theorem dX12_isSeenAlike_14 : decode cX12_isSeenAlike 14 = .ok (.iload_n 3, 1) := by decide +kernel
theorem dX12_isSeenAlike_15 : decode cX12_isSeenAlike 15 = .ok (.ifCond .eq 42, 3) := by decide +kernel
theorem dX12_isSeenAlike_18 : decode cX12_isSeenAlike 18 = .ok (.aload_n 0, 1) := by decide +kernel
theorem dX12_isSeenAlike_19 : decode cX12_isSeenAlike 19 = .ok (.getfield 153, 3) := by decide +kernel
theorem dX12_isSeenAlike_22 : decode cX12_isSeenAlike 22 = .ok (.bipush 8, 2) := by decide +kernel
theorem dX12_isSeenAlike_24 : decode cX12_isSeenAlike 24 = .ok (.iload_n 1, 1) := by decide +kernel
theorem dX12_isSeenAlike_25 : decode cX12_isSeenAlike 25 = .ok (.imul, 1) := by decide +kernel
theorem dX12_isSeenAlike_26 : decode cX12_isSeenAlike 26 = .ok (.iload 4, 2) := by decide +kernel
theorem dX12_isSeenAlike_28 : decode cX12_isSeenAlike 28 = .ok (.iadd, 1) := by decide +kernel
theorem dX12_isSeenAlike_29 : decode cX12_isSeenAlike 29 = .ok (.iaload, 1) := by decide +kernel
theorem dX12_isSeenAlike_30 : decode cX12_isSeenAlike 30 = .ok (.aload_n 0, 1) := by decide +kernel
theorem dX12_isSeenAlike_31 : decode cX12_isSeenAlike 31 = .ok (.getfield 153, 3) := by decide +kernel
theorem dX12_isSeenAlike_34 : decode cX12_isSeenAlike 34 = .ok (.bipush 8, 2) := by decide +kernel
theorem dX12_isSeenAlike_36 : decode cX12_isSeenAlike 36 = .ok (.iload_n 2, 1) := by decide +kernel
theorem dX12_isSeenAlike_37 : decode cX12_isSeenAlike 37 = .ok (.imul, 1) := by decide +kernel
theorem dX12_isSeenAlike_38 : decode cX12_isSeenAlike 38 = .ok (.iload 4, 2) := by decide +kernel
theorem dX12_isSeenAlike_40 : decode cX12_isSeenAlike 40 = .ok (.iadd, 1) := by decide +kernel
theorem dX12_isSeenAlike_41 : decode cX12_isSeenAlike 41 = .ok (.iaload, 1) := by decide +kernel
theorem dX12_isSeenAlike_42 : decode cX12_isSeenAlike 42 = .ok (.if_icmp .ne 7, 3) := by decide +kernel
theorem dX12_isSeenAlike_45 : decode cX12_isSeenAlike 45 = .ok (.iconst 1, 1) := by decide +kernel
theorem dX12_isSeenAlike_46 : decode cX12_isSeenAlike 46 = .ok (.goto 4, 3) := by decide +kernel
theorem dX12_isSeenAlike_49 : decode cX12_isSeenAlike 49 = .ok (.iconst 0, 1) := by decide +kernel
theorem dX12_isSeenAlike_50 : decode cX12_isSeenAlike 50 = .ok (.istore_n 3, 1) := by decide +kernel
theorem dX12_isSeenAlike_51 : decode cX12_isSeenAlike 51 = .ok (.iinc 4 1, 3) := by decide +kernel
theorem dX12_isSeenAlike_54 : decode cX12_isSeenAlike 54 = .ok (.goto (-49), 3) := by decide +kernel
theorem dX12_isSeenAlike_57 : decode cX12_isSeenAlike 57 = .ok (.iload_n 3, 1) := by decide +kernel
theorem dX12_isSeenAlike_58 : decode cX12_isSeenAlike 58 = .ok (.ireturn, 1) := by decide +kernel
set_option maxHeartbeats 4000000 in
set_option maxRecDepth 100000 in
theorem c_X12_isSeenAlike (l : Launch) {cs : Nat → ClassId} {ad : Nat → Nat} {A : Nat → Prop} {D : va_G} (hJ : hp_J SM ad A)   {h : hp_H} {a1 a2 : Int32} {Q : Int32 → Prop} (hq : q_X12_isSeenAlike h a1 a2 Q) : hp_Mi l yX12_isSeenAlike cX12_isSeenAlike 5 (some .boolean) rm_X12_isSeenAlike [.ref (ad 0), .int a1, .int a2] SM cs ad A D h (fun r h' => Q r ∧ h' = h) := by
  refine hp_met (own := RX12) rfl (by decide) (Nat.le_of_ble_eq_true rfl) rfl (fun p e s m args below meth c Z E hZ hnm => ?_)
  refine hp_sub (lv' := [(0, .ref (ad 0)), (1, .int a1), (2, .int a2)]) [0, 1, 2] rfl ?_
  unfold q_X12_isSeenAlike at hq
  refine hp_iconst E (nI 1) dX12_isSeenAlike_0 (by decide) ?_
  refine hp_istore_n (lv' := [(0, .ref (ad 0)), (1, .int a1), (2, .int a2), (3, .int (nI 1))]) E dX12_isSeenAlike_1 rfl (by decide) rfl rfl ?_
  refine hp_iconst E (nI 0) dX12_isSeenAlike_2 (by decide) ?_
  refine hp_istore (lv' := [(0, .ref (ad 0)), (1, .int a1), (2, .int a2), (3, .int (nI 1)), (4, .int (nI 0))]) E dX12_isSeenAlike_3 (by decide) rfl rfl ?_
  refine hq (fun v2 v3 => hp_G p l e rm_X12_isSeenAlike s m args below meth c SM cs ad A D 5 0 0 Z 5 [(0, .ref (ad 0)), (1, .int a1), (2, .int a2), (3, .int v2), (4, .int v3)] [] h) (fun v2 v3 hB => ?_)
  obtain ⟨B1, hq, hB1⟩ := hB
  refine hp_iload E 4 dX12_isSeenAlike_5 rfl ?_
  refine hp_aload_n E 0 dX12_isSeenAlike_7 rfl rfl ?_
  refine hp_gI E g_RX12_342 fM_0_31 dX12_isSeenAlike_8 ?_
  refine hp_icmp_ge E 57 dX12_isSeenAlike_11 (by decide) (fun c4 => ?_) (fun c4 => ?_)
  · replace hq := hq.1 c4
    refine hp_iload_n E 3 dX12_isSeenAlike_57 rfl rfl ?_
    have hbz := hq.1
    replace hq := hq.2
    exact hp_zret E hbz ⟨hq, rfl⟩ hZ dX12_isSeenAlike_58
  · replace hq := hq.2 c4
    refine hp_iload_n E 3 dX12_isSeenAlike_14 rfl rfl ?_
    refine hp_if_eq E 57 dX12_isSeenAlike_15 (by decide) (fun c5 => ?_) (fun c5 => ?_)
    · replace hq := hq.1 c5
      refine hp_iload_n E 3 dX12_isSeenAlike_57 rfl rfl ?_
      have hbz := hq.1
      replace hq := hq.2
      exact hp_zret E hbz ⟨hq, rfl⟩ hZ dX12_isSeenAlike_58
    · replace hq := hq.2 c5
      refine hp_aload_n E 0 dX12_isSeenAlike_18 rfl rfl ?_
      refine hp_gR E g_RX12_153 fM_0_63 dX12_isSeenAlike_19 ?_
      refine hp_bipush E (nI 8) dX12_isSeenAlike_22 (by decide) ?_
      refine hp_iload_n E 1 dX12_isSeenAlike_24 rfl rfl ?_
      refine hp_imul E dX12_isSeenAlike_25 ?_
      refine hp_iload E 4 dX12_isSeenAlike_26 rfl ?_
      refine hp_iadd E dX12_isSeenAlike_28 ?_
      refine hp_iald E 48 aM_48 hq.1 dX12_isSeenAlike_29 ?_
      replace hq := hq.2
      refine hp_aload_n E 0 dX12_isSeenAlike_30 rfl rfl ?_
      refine hp_gR E g_RX12_153 fM_0_63 dX12_isSeenAlike_31 ?_
      refine hp_bipush E (nI 8) dX12_isSeenAlike_34 (by decide) ?_
      refine hp_iload_n E 2 dX12_isSeenAlike_36 rfl rfl ?_
      refine hp_imul E dX12_isSeenAlike_37 ?_
      refine hp_iload E 4 dX12_isSeenAlike_38 rfl ?_
      refine hp_iadd E dX12_isSeenAlike_40 ?_
      refine hp_iald E 48 aM_48 hq.1 dX12_isSeenAlike_41 ?_
      replace hq := hq.2
      obtain ⟨K7, hq, hK7⟩ := hq
      have jK7 : ∀ (v8 : Int32), K7 v8 → hp_G p l e rm_X12_isSeenAlike s m args below meth c SM cs ad A D 5 0 0 Z 50 [(0, .ref (ad 0)), (1, .int a1), (2, .int a2), (4, .int v3)] [.int v8] h := by
        intro v8 hq
        replace hq := hK7 v8 hq
        refine hp_istore_n (lv' := [(0, .ref (ad 0)), (1, .int a1), (2, .int a2), (3, .int v8), (4, .int v3)]) E dX12_isSeenAlike_50 rfl (by decide) rfl rfl ?_
        obtain ⟨v9, ev9⟩ : ∃ z : Int32, z = v3 + (nI 1) := ⟨_, rfl⟩
        replace hq := hq v9 ev9
        refine hp_iinc (lv' := [(0, .ref (ad 0)), (1, .int a1), (2, .int a2), (3, .int v8), (4, .int v9)]) E 4 v9 dX12_isSeenAlike_51 rfl (by rw [ev9]; rfl) (by decide) rfl rfl ?_
        refine hp_goto E 5 dX12_isSeenAlike_54 (by decide) ?_
        exact hB1 _ _ hq
      refine hp_icmp_ne E 49 dX12_isSeenAlike_42 (by decide) (fun c6 => ?_) (fun c6 => ?_)
      · replace hq := hq.2 c6
        refine hp_iconst E (nI 0) dX12_isSeenAlike_49 (by decide) ?_
        refine hp_sub (lv' := [(0, .ref (ad 0)), (1, .int a1), (2, .int a2), (4, .int v3)]) [0, 1, 2, 4] rfl ?_
        exact jK7 _ hq
      · replace hq := hq.1 c6
        refine hp_iconst E (nI 1) dX12_isSeenAlike_45 (by decide) ?_
        refine hp_goto E 50 dX12_isSeenAlike_46 (by decide) ?_
        refine hp_sub (lv' := [(0, .ref (ad 0)), (1, .int a1), (2, .int a2), (4, .int v3)]) [0, 1, 2, 4] rfl ?_
        exact jK7 _ hq
theorem dX12_findSigns_0 : decode cX12_findSigns 0 = .ok (.iconst 0, 1) := by decide +kernel
theorem dX12_findSigns_1 : decode cX12_findSigns 1 = .ok (.istore_n 1, 1) := by decide +kernel
theorem dX12_findSigns_2 : decode cX12_findSigns 2 = .ok (.iload_n 1, 1) := by decide +kernel
theorem dX12_findSigns_3 : decode cX12_findSigns 3 = .ok (.bipush 7, 2) := by decide +kernel
theorem dX12_findSigns_5 : decode cX12_findSigns 5 = .ok (.aload_n 0, 1) := by decide +kernel
theorem dX12_findSigns_6 : decode cX12_findSigns 6 = .ok (.getfield 167, 3) := by decide +kernel
theorem dX12_findSigns_9 : decode cX12_findSigns 9 = .ok (.imul, 1) := by decide +kernel
theorem dX12_findSigns_10 : decode cX12_findSigns 10 = .ok (.if_icmp .ge 16, 3) := by decide +kernel
theorem dX12_findSigns_13 : decode cX12_findSigns 13 = .ok (.aload_n 0, 1) := by decide +kernel
theorem dX12_findSigns_14 : decode cX12_findSigns 14 = .ok (.getfield 149, 3) := by decide +kernel
theorem dX12_findSigns_17 : decode cX12_findSigns 17 = .ok (.iload_n 1, 1) := by decide +kernel
theorem dX12_findSigns_18 : decode cX12_findSigns 18 = .ok (.lconst 0, 1) := by decide +kernel
theorem dX12_findSigns_19 : decode cX12_findSigns 19 = .ok (.lastore, 1) := by decide +kernel
theorem dX12_findSigns_20 : decode cX12_findSigns 20 = .ok (.iinc 1 1, 3) := by decide +kernel
theorem dX12_findSigns_23 : decode cX12_findSigns 23 = .ok (.goto (-21), 3) := by decide +kernel
theorem dX12_findSigns_26 : decode cX12_findSigns 26 = .ok (.iconst 0, 1) := by decide +kernel
theorem dX12_findSigns_27 : decode cX12_findSigns 27 = .ok (.istore_n 1, 1) := by decide +kernel
theorem dX12_findSigns_28 : decode cX12_findSigns 28 = .ok (.iload_n 1, 1) := by decide +kernel
theorem dX12_findSigns_29 : decode cX12_findSigns 29 = .ok (.aload_n 0, 1) := by decide +kernel
theorem dX12_findSigns_30 : decode cX12_findSigns 30 = .ok (.getfield 167, 3) := by decide +kernel
theorem dX12_findSigns_33 : decode cX12_findSigns 33 = .ok (.if_icmp .ge 69, 3) := by decide +kernel
theorem dX12_findSigns_36 : decode cX12_findSigns 36 = .ok (.aload_n 0, 1) := by decide +kernel
theorem dX12_findSigns_37 : decode cX12_findSigns 37 = .ok (.getfield 101, 3) := by decide +kernel
theorem dX12_findSigns_40 : decode cX12_findSigns 40 = .ok (.iload_n 1, 1) := by decide +kernel
theorem dX12_findSigns_41 : decode cX12_findSigns 41 = .ok (.iaload, 1) := by decide +kernel
theorem dX12_findSigns_42 : decode cX12_findSigns 42 = .ok (.istore_n 2, 1) := by decide +kernel
theorem dX12_findSigns_43 : decode cX12_findSigns 43 = .ok (.iload_n 2, 1) := by decide +kernel
theorem dX12_findSigns_44 : decode cX12_findSigns 44 = .ok (.aload_n 0, 1) := by decide +kernel
theorem dX12_findSigns_45 : decode cX12_findSigns 45 = .ok (.getfield 101, 3) := by decide +kernel
theorem dX12_findSigns_48 : decode cX12_findSigns 48 = .ok (.iload_n 1, 1) := by decide +kernel
theorem dX12_findSigns_49 : decode cX12_findSigns 49 = .ok (.iconst 1, 1) := by decide +kernel
theorem dX12_findSigns_50 : decode cX12_findSigns 50 = .ok (.iadd, 1) := by decide +kernel
theorem dX12_findSigns_51 : decode cX12_findSigns 51 = .ok (.iaload, 1) := by decide +kernel
theorem dX12_findSigns_52 : decode cX12_findSigns 52 = .ok (.if_icmp .ge 44, 3) := by decide +kernel
theorem dX12_findSigns_55 : decode cX12_findSigns 55 = .ok (.aload_n 0, 1) := by decide +kernel
theorem dX12_findSigns_56 : decode cX12_findSigns 56 = .ok (.getfield 143, 3) := by decide +kernel
theorem dX12_findSigns_59 : decode cX12_findSigns 59 = .ok (.aload_n 0, 1) := by decide +kernel
theorem dX12_findSigns_60 : decode cX12_findSigns 60 = .ok (.getfield 104, 3) := by decide +kernel
theorem dX12_findSigns_63 : decode cX12_findSigns 63 = .ok (.iload_n 2, 1) := by decide +kernel
theorem dX12_findSigns_64 : decode cX12_findSigns 64 = .ok (.iaload, 1) := by decide +kernel
theorem dX12_findSigns_65 : decode cX12_findSigns 65 = .ok (.iaload, 1) := by decide +kernel
theorem dX12_findSigns_66 : decode cX12_findSigns 66 = .ok (.istore_n 3, 1) := by decide +kernel
theorem dX12_findSigns_67 : decode cX12_findSigns 67 = .ok (.aload_n 0, 1) := by decide +kernel
theorem dX12_findSigns_68 : decode cX12_findSigns 68 = .ok (.getfield 149, 3) := by decide +kernel
theorem dX12_findSigns_71 : decode cX12_findSigns 71 = .ok (.bipush 7, 2) := by decide +kernel
theorem dX12_findSigns_73 : decode cX12_findSigns 73 = .ok (.iload_n 1, 1) := by decide +kernel
theorem dX12_findSigns_74 : decode cX12_findSigns 74 = .ok (.imul, 1) := by decide +kernel
theorem dX12_findSigns_75 : decode cX12_findSigns 75 = .ok (.iload_n 3, 1) := by decide +kernel
theorem dX12_findSigns_76 : decode cX12_findSigns 76 = .ok (.bipush 64, 2) := by decide +kernel
theorem dX12_findSigns_78 : decode cX12_findSigns 78 = .ok (.idiv, 1) := by decide +kernel
theorem dX12_findSigns_79 : decode cX12_findSigns 79 = .ok (.iadd, 1) := by decide +kernel
theorem dX12_findSigns_80 : decode cX12_findSigns 80 = .ok (.dup2, 1) := by decide +kernel
theorem dX12_findSigns_81 : decode cX12_findSigns 81 = .ok (.laload, 1) := by decide +kernel
theorem dX12_findSigns_82 : decode cX12_findSigns 82 = .ok (.lconst 1, 1) := by decide +kernel
theorem dX12_findSigns_83 : decode cX12_findSigns 83 = .ok (.iload_n 3, 1) := by decide +kernel
theorem dX12_findSigns_84 : decode cX12_findSigns 84 = .ok (.bipush 64, 2) := by decide +kernel
theorem dX12_findSigns_86 : decode cX12_findSigns 86 = .ok (.irem, 1) := by decide +kernel
theorem dX12_findSigns_87 : decode cX12_findSigns 87 = .ok (.lshl, 1) := by decide +kernel
theorem dX12_findSigns_88 : decode cX12_findSigns 88 = .ok (.lor, 1) := by decide +kernel
theorem dX12_findSigns_89 : decode cX12_findSigns 89 = .ok (.lastore, 1) := by decide +kernel
theorem dX12_findSigns_90 : decode cX12_findSigns 90 = .ok (.iinc 2 1, 3) := by decide +kernel
theorem dX12_findSigns_93 : decode cX12_findSigns 93 = .ok (.goto (-50), 3) := by decide +kernel
theorem dX12_findSigns_96 : decode cX12_findSigns 96 = .ok (.iinc 1 1, 3) := by decide +kernel
theorem dX12_findSigns_99 : decode cX12_findSigns 99 = .ok (.goto (-71), 3) := by decide +kernel
theorem dX12_findSigns_102 : decode cX12_findSigns 102 = .ok (.return_, 1) := by decide +kernel
set_option maxHeartbeats 4000000 in
set_option maxRecDepth 100000 in
theorem c_X12_findSigns (l : Launch) {cs : Nat → ClassId} {ad : Nat → Nat} {A : Nat → Prop} {D : va_G} (hJ : hp_J SM ad A)   {h : hp_H} {Q : hp_H → Prop} (hq : q_X12_findSigns h Q) : hp_Mv l yX12_findSigns cX12_findSigns 4 none rm_X12_findSigns [.ref (ad 0)] SM cs ad A D h Q := by
  refine hp_met (own := RX12) rfl (by decide) (Nat.le_of_ble_eq_true rfl) rfl (fun p e s m args below meth c Z E hZ hnm => ?_)
  refine hp_sub (lv' := [(0, .ref (ad 0))]) [0] rfl ?_
  unfold q_X12_findSigns at hq
  refine hp_iconst E (nI 0) dX12_findSigns_0 (by decide) ?_
  refine hp_istore_n (lv' := [(0, .ref (ad 0)), (1, .int (nI 0))]) E dX12_findSigns_1 rfl (by decide) rfl rfl ?_
  refine hq (fun v2 h3 => hp_G p l e rm_X12_findSigns s m args below meth c SM cs ad A D 4 0 0 Z 2 [(0, .ref (ad 0)), (1, .int v2)] [] h3) (fun v2 h3 hB => ?_)
  obtain ⟨B1, hq, hB1⟩ := hB
  refine hp_iload_n E 1 dX12_findSigns_2 rfl rfl ?_
  refine hp_bipush E (nI 7) dX12_findSigns_3 (by decide) ?_
  refine hp_aload_n E 0 dX12_findSigns_5 rfl rfl ?_
  refine hp_gI E g_RX12_167 fM_0_35 dX12_findSigns_6 ?_
  refine hp_imul E dX12_findSigns_9 ?_
  refine hp_icmp_ge E 26 dX12_findSigns_10 (by decide) (fun c4 => ?_) (fun c4 => ?_)
  · replace hq := hq.1 c4
    refine hp_iconst E (nI 0) dX12_findSigns_26 (by decide) ?_
    refine hp_istore_n (lv' := [(0, .ref (ad 0)), (1, .int (nI 0))]) E dX12_findSigns_27 rfl (by decide) rfl rfl ?_
    refine hq (fun v6 h7 => hp_G p l e rm_X12_findSigns s m args below meth c SM cs ad A D 4 0 0 Z 28 [(0, .ref (ad 0)), (1, .int v6)] [] h7) (fun v6 h7 hB => ?_)
    obtain ⟨B5, hq, hB5⟩ := hB
    refine hp_iload_n E 1 dX12_findSigns_28 rfl rfl ?_
    refine hp_aload_n E 0 dX12_findSigns_29 rfl rfl ?_
    refine hp_gI E g_RX12_167 fM_0_35 dX12_findSigns_30 ?_
    refine hp_icmp_ge E 102 dX12_findSigns_33 (by decide) (fun c8 => ?_) (fun c8 => ?_)
    · replace hq := hq.1 c8
      exact hp_vret E hq hZ dX12_findSigns_102
    · replace hq := hq.2 c8
      refine hp_aload_n E 0 dX12_findSigns_36 rfl rfl ?_
      refine hp_gR E g_RX12_101 fM_0_41 dX12_findSigns_37 ?_
      refine hp_iload_n E 1 dX12_findSigns_40 rfl rfl ?_
      refine hp_iald E 31 aM_31 hq.1 dX12_findSigns_41 ?_
      replace hq := hq.2
      refine hp_topi (fun v9 ev9 => ?_)
      replace hq := hq v9 ev9
      refine hp_istore_n (lv' := [(0, .ref (ad 0)), (1, .int v6), (2, .int v9)]) E dX12_findSigns_42 rfl (by decide) rfl rfl ?_
      refine hq (fun v11 h12 => hp_G p l e rm_X12_findSigns s m args below meth c SM cs ad A D 4 0 0 Z 43 [(0, .ref (ad 0)), (1, .int v6), (2, .int v11)] [] h12) (fun v11 h12 hB => ?_)
      obtain ⟨B10, hq, hB10⟩ := hB
      refine hp_iload_n E 2 dX12_findSigns_43 rfl rfl ?_
      refine hp_aload_n E 0 dX12_findSigns_44 rfl rfl ?_
      refine hp_gR E g_RX12_101 fM_0_41 dX12_findSigns_45 ?_
      refine hp_iload_n E 1 dX12_findSigns_48 rfl rfl ?_
      refine hp_iconst E (nI 1) dX12_findSigns_49 (by decide) ?_
      refine hp_iadd E dX12_findSigns_50 ?_
      refine hp_iald E 31 aM_31 hq.1 dX12_findSigns_51 ?_
      replace hq := hq.2
      refine hp_icmp_ge E 96 dX12_findSigns_52 (by decide) (fun c13 => ?_) (fun c13 => ?_)
      · replace hq := hq.1 c13
        obtain ⟨v14, ev14⟩ : ∃ z : Int32, z = v6 + (nI 1) := ⟨_, rfl⟩
        replace hq := hq v14 ev14
        refine hp_iinc (lv' := [(0, .ref (ad 0)), (1, .int v14), (2, .int v11)]) E 1 v14 dX12_findSigns_96 rfl (by rw [ev14]; rfl) (by decide) rfl rfl ?_
        refine hp_goto E 28 dX12_findSigns_99 (by decide) ?_
        refine hp_sub (lv' := [(0, .ref (ad 0)), (1, .int v14)]) [0, 1] rfl ?_
        exact hB5 _ _ hq
      · replace hq := hq.2 c13
        refine hp_aload_n E 0 dX12_findSigns_55 rfl rfl ?_
        refine hp_gR E g_RX12_143 fM_0_60 dX12_findSigns_56 ?_
        refine hp_aload_n E 0 dX12_findSigns_59 rfl rfl ?_
        refine hp_gR E g_RX12_104 fM_0_42 dX12_findSigns_60 ?_
        refine hp_iload_n E 2 dX12_findSigns_63 rfl rfl ?_
        refine hp_iald E 32 aM_32 hq.1 dX12_findSigns_64 ?_
        replace hq := hq.2
        refine hp_iald E 45 aM_45 hq.1 dX12_findSigns_65 ?_
        replace hq := hq.2
        refine hp_topi (fun v15 ev15 => ?_)
        replace hq := hq v15 ev15
        refine hp_istore_n (lv' := [(0, .ref (ad 0)), (1, .int v6), (2, .int v11), (3, .int v15)]) E dX12_findSigns_66 rfl (by decide) rfl rfl ?_
        refine hp_aload_n E 0 dX12_findSigns_67 rfl rfl ?_
        refine hp_gR E g_RX12_149 fM_0_62 dX12_findSigns_68 ?_
        refine hp_bipush E (nI 7) dX12_findSigns_71 (by decide) ?_
        refine hp_iload_n E 1 dX12_findSigns_73 rfl rfl ?_
        refine hp_imul E dX12_findSigns_74 ?_
        refine hp_iload_n E 3 dX12_findSigns_75 rfl rfl ?_
        refine hp_bipush E (nI 64) dX12_findSigns_76 (by decide) ?_
        refine hp_idiv E (by decide) dX12_findSigns_78 ?_
        refine hp_iadd E dX12_findSigns_79 ?_
        refine hp_dup2 E rfl rfl dX12_findSigns_80 ?_
        refine hp_lald E 47 aM_47 hq.1 dX12_findSigns_81 ?_
        replace hq := hq.2
        refine hp_lconst E 1 dX12_findSigns_82 (by decide) ?_
        refine hp_iload_n E 3 dX12_findSigns_83 rfl rfl ?_
        refine hp_bipush E (nI 64) dX12_findSigns_84 (by decide) ?_
        refine hp_irem E (by decide) dX12_findSigns_86 ?_
        refine hp_lshl E dX12_findSigns_87 ?_
        refine hp_lor E dX12_findSigns_88 ?_
        have hin := hq.1
        replace hq := hq.2
        refine hp_last E 47 aM_47 zM_47 hJ hin dX12_findSigns_89 ?_
        refine hp_toph (fun h16 eh16 => ?_)
        replace hq := hq h16 eh16
        obtain ⟨v17, ev17⟩ : ∃ z : Int32, z = v11 + (nI 1) := ⟨_, rfl⟩
        replace hq := hq v17 ev17
        refine hp_iinc (lv' := [(0, .ref (ad 0)), (1, .int v6), (2, .int v17), (3, .int v15)]) E 2 v17 dX12_findSigns_90 rfl (by rw [ev17]; rfl) (by decide) rfl rfl ?_
        refine hp_goto E 43 dX12_findSigns_93 (by decide) ?_
        refine hp_sub (lv' := [(0, .ref (ad 0)), (1, .int v6), (2, .int v17)]) [0, 1, 2] rfl ?_
        exact hB10 _ _ hq
  · replace hq := hq.2 c4
    refine hp_aload_n E 0 dX12_findSigns_13 rfl rfl ?_
    refine hp_gR E g_RX12_149 fM_0_62 dX12_findSigns_14 ?_
    refine hp_iload_n E 1 dX12_findSigns_17 rfl rfl ?_
    refine hp_lconst E 0 dX12_findSigns_18 (by decide) ?_
    have hin := hq.1
    replace hq := hq.2
    refine hp_last E 47 aM_47 zM_47 hJ hin dX12_findSigns_19 ?_
    refine hp_toph (fun h18 eh18 => ?_)
    replace hq := hq h18 eh18
    obtain ⟨v19, ev19⟩ : ∃ z : Int32, z = v2 + (nI 1) := ⟨_, rfl⟩
    replace hq := hq v19 ev19
    refine hp_iinc (lv' := [(0, .ref (ad 0)), (1, .int v19)]) E 1 v19 dX12_findSigns_20 rfl (by rw [ev19]; rfl) (by decide) rfl rfl ?_
    refine hp_goto E 2 dX12_findSigns_23 (by decide) ?_
    exact hB1 _ _ hq
theorem dX12_hasSameSigns_0 : decode cX12_hasSameSigns 0 = .ok (.aload_n 0, 1) := by decide +kernel
theorem dX12_hasSameSigns_1 : decode cX12_hasSameSigns 1 = .ok (.getfield 143, 3) := by decide +kernel
theorem dX12_hasSameSigns_4 : decode cX12_hasSameSigns 4 = .ok (.iload_n 1, 1) := by decide +kernel
theorem dX12_hasSameSigns_5 : decode cX12_hasSameSigns 5 = .ok (.iaload, 1) := by decide +kernel
theorem dX12_hasSameSigns_6 : decode cX12_hasSameSigns 6 = .ok (.aload_n 0, 1) := by decide +kernel
theorem dX12_hasSameSigns_7 : decode cX12_hasSameSigns 7 = .ok (.getfield 143, 3) := by decide +kernel
theorem dX12_hasSameSigns_10 : decode cX12_hasSameSigns 10 = .ok (.iload_n 2, 1) := by decide +kernel
theorem dX12_hasSameSigns_11 : decode cX12_hasSameSigns 11 = .ok (.iaload, 1) := by decide +kernel
theorem dX12_hasSameSigns_12 : decode cX12_hasSameSigns 12 = .ok (.if_icmp .ne 7, 3) := by decide +kernel
theorem dX12_hasSameSigns_15 : decode cX12_hasSameSigns 15 = .ok (.iconst 1, 1) := by decide +kernel
theorem dX12_hasSameSigns_16 : decode cX12_hasSameSigns 16 = .ok (.goto 4, 3) := by decide +kernel
theorem dX12_hasSameSigns_19 : decode cX12_hasSameSigns 19 = .ok (.iconst 0, 1) := by decide +kernel
theorem dX12_hasSameSigns_20 : decode cX12_hasSameSigns 20 = .ok (.istore_n 3, 1) := by decide +kernel
theorem dX12_hasSameSigns_21 : decode cX12_hasSameSigns 21 = .ok (.iconst 0, 1) := by decide +kernel
theorem dX12_hasSameSigns_22 : decode cX12_hasSameSigns 22 = .ok (.istore 4, 2) := by decide +kernel
theorem dX12_hasSameSigns_24 : decode cX12_hasSameSigns 24 = .ok (.iload 4, 2) := by decide +kernel
theorem dX12_hasSameSigns_26 : decode cX12_hasSameSigns 26 = .ok (.bipush 7, 2) := by decide +kernel
theorem dX12_hasSameSigns_28 : decode cX12_hasSameSigns 28 = .ok (.if_icmp .ge 47, 3) := by decide +kernel
theorem dX12_hasSameSigns_31 : decode cX12_hasSameSigns 31 = .ok (.iload_n 3, 1) := by decide +kernel
theorem dX12_hasSameSigns_32 : decode cX12_hasSameSigns 32 = .ok (.ifCond .eq 43, 3) := by decide +kernel
theorem dX12_hasSameSigns_35 : decode cX12_hasSameSigns 35 = .ok (.aload_n 0, 1) := by decide +kernel
theorem dX12_hasSameSigns_36 : decode cX12_hasSameSigns 36 = .ok (.getfield 149, 3) := by decide +kernel
theorem dX12_hasSameSigns_39 : decode cX12_hasSameSigns 39 = .ok (.bipush 7, 2) := by decide +kernel
theorem dX12_hasSameSigns_41 : decode cX12_hasSameSigns 41 = .ok (.iload_n 1, 1) := by decide +kernel
theorem dX12_hasSameSigns_42 : decode cX12_hasSameSigns 42 = .ok (.imul, 1) := by decide +kernel
theorem dX12_hasSameSigns_43 : decode cX12_hasSameSigns 43 = .ok (.iload 4, 2) := by decide +kernel
theorem dX12_hasSameSigns_45 : decode cX12_hasSameSigns 45 = .ok (.iadd, 1) := by decide +kernel
theorem dX12_hasSameSigns_46 : decode cX12_hasSameSigns 46 = .ok (.laload, 1) := by decide +kernel
theorem dX12_hasSameSigns_47 : decode cX12_hasSameSigns 47 = .ok (.aload_n 0, 1) := by decide +kernel
theorem dX12_hasSameSigns_48 : decode cX12_hasSameSigns 48 = .ok (.getfield 149, 3) := by decide +kernel
theorem dX12_hasSameSigns_51 : decode cX12_hasSameSigns 51 = .ok (.bipush 7, 2) := by decide +kernel
theorem dX12_hasSameSigns_53 : decode cX12_hasSameSigns 53 = .ok (.iload_n 2, 1) := by decide +kernel
theorem dX12_hasSameSigns_54 : decode cX12_hasSameSigns 54 = .ok (.imul, 1) := by decide +kernel
theorem dX12_hasSameSigns_55 : decode cX12_hasSameSigns 55 = .ok (.iload 4, 2) := by decide +kernel
theorem dX12_hasSameSigns_57 : decode cX12_hasSameSigns 57 = .ok (.iadd, 1) := by decide +kernel
theorem dX12_hasSameSigns_58 : decode cX12_hasSameSigns 58 = .ok (.laload, 1) := by decide +kernel
theorem dX12_hasSameSigns_59 : decode cX12_hasSameSigns 59 = .ok (.lcmp, 1) := by decide +kernel
theorem dX12_hasSameSigns_60 : decode cX12_hasSameSigns 60 = .ok (.ifCond .ne 7, 3) := by decide +kernel
theorem dX12_hasSameSigns_63 : decode cX12_hasSameSigns 63 = .ok (.iconst 1, 1) := by decide +kernel
theorem dX12_hasSameSigns_64 : decode cX12_hasSameSigns 64 = .ok (.goto 4, 3) := by decide +kernel
theorem dX12_hasSameSigns_67 : decode cX12_hasSameSigns 67 = .ok (.iconst 0, 1) := by decide +kernel
theorem dX12_hasSameSigns_68 : decode cX12_hasSameSigns 68 = .ok (.istore_n 3, 1) := by decide +kernel
theorem dX12_hasSameSigns_69 : decode cX12_hasSameSigns 69 = .ok (.iinc 4 1, 3) := by decide +kernel
theorem dX12_hasSameSigns_72 : decode cX12_hasSameSigns 72 = .ok (.goto (-48), 3) := by decide +kernel
theorem dX12_hasSameSigns_75 : decode cX12_hasSameSigns 75 = .ok (.iload_n 3, 1) := by decide +kernel
theorem dX12_hasSameSigns_76 : decode cX12_hasSameSigns 76 = .ok (.ireturn, 1) := by decide +kernel
set_option maxHeartbeats 4000000 in
set_option maxRecDepth 100000 in
theorem c_X12_hasSameSigns (l : Launch) {cs : Nat → ClassId} {ad : Nat → Nat} {A : Nat → Prop} {D : va_G} (hJ : hp_J SM ad A)   {h : hp_H} {a1 a2 : Int32} {Q : Int32 → Prop} (hq : q_X12_hasSameSigns h a1 a2 Q) : hp_Mi l yX12_hasSameSigns cX12_hasSameSigns 5 (some .boolean) rm_X12_hasSameSigns [.ref (ad 0), .int a1, .int a2] SM cs ad A D h (fun r h' => Q r ∧ h' = h) := by
  refine hp_met (own := RX12) rfl (by decide) (Nat.le_of_ble_eq_true rfl) rfl (fun p e s m args below meth c Z E hZ hnm => ?_)
  refine hp_sub (lv' := [(0, .ref (ad 0)), (1, .int a1), (2, .int a2)]) [0, 1, 2] rfl ?_
  unfold q_X12_hasSameSigns at hq
  refine hp_aload_n E 0 dX12_hasSameSigns_0 rfl rfl ?_
  refine hp_gR E g_RX12_143 fM_0_60 dX12_hasSameSigns_1 ?_
  refine hp_iload_n E 1 dX12_hasSameSigns_4 rfl rfl ?_
  refine hp_iald E 45 aM_45 hq.1 dX12_hasSameSigns_5 ?_
  replace hq := hq.2
  refine hp_aload_n E 0 dX12_hasSameSigns_6 rfl rfl ?_
  refine hp_gR E g_RX12_143 fM_0_60 dX12_hasSameSigns_7 ?_
  refine hp_iload_n E 2 dX12_hasSameSigns_10 rfl rfl ?_
  refine hp_iald E 45 aM_45 hq.1 dX12_hasSameSigns_11 ?_
  replace hq := hq.2
  obtain ⟨K2, hq, hK2⟩ := hq
  have jK2 : ∀ (v3 : Int32), K2 v3 → hp_G p l e rm_X12_hasSameSigns s m args below meth c SM cs ad A D 5 0 0 Z 20 [(0, .ref (ad 0)), (1, .int a1), (2, .int a2)] [.int v3] h := by
    intro v3 hq
    replace hq := hK2 v3 hq
    refine hp_istore_n (lv' := [(0, .ref (ad 0)), (1, .int a1), (2, .int a2), (3, .int v3)]) E dX12_hasSameSigns_20 rfl (by decide) rfl rfl ?_
    refine hp_iconst E (nI 0) dX12_hasSameSigns_21 (by decide) ?_
    refine hp_istore (lv' := [(0, .ref (ad 0)), (1, .int a1), (2, .int a2), (3, .int v3), (4, .int (nI 0))]) E dX12_hasSameSigns_22 (by decide) rfl rfl ?_
    refine hq (fun v5 v6 => hp_G p l e rm_X12_hasSameSigns s m args below meth c SM cs ad A D 5 0 0 Z 24 [(0, .ref (ad 0)), (1, .int a1), (2, .int a2), (3, .int v5), (4, .int v6)] [] h) (fun v5 v6 hB => ?_)
    obtain ⟨B4, hq, hB4⟩ := hB
    refine hp_iload E 4 dX12_hasSameSigns_24 rfl ?_
    refine hp_bipush E (nI 7) dX12_hasSameSigns_26 (by decide) ?_
    refine hp_icmp_ge E 75 dX12_hasSameSigns_28 (by decide) (fun c7 => ?_) (fun c7 => ?_)
    · replace hq := hq.1 c7
      refine hp_iload_n E 3 dX12_hasSameSigns_75 rfl rfl ?_
      have hbz := hq.1
      replace hq := hq.2
      exact hp_zret E hbz ⟨hq, rfl⟩ hZ dX12_hasSameSigns_76
    · replace hq := hq.2 c7
      refine hp_iload_n E 3 dX12_hasSameSigns_31 rfl rfl ?_
      refine hp_if_eq E 75 dX12_hasSameSigns_32 (by decide) (fun c8 => ?_) (fun c8 => ?_)
      · replace hq := hq.1 c8
        refine hp_iload_n E 3 dX12_hasSameSigns_75 rfl rfl ?_
        have hbz := hq.1
        replace hq := hq.2
        exact hp_zret E hbz ⟨hq, rfl⟩ hZ dX12_hasSameSigns_76
      · replace hq := hq.2 c8
        refine hp_aload_n E 0 dX12_hasSameSigns_35 rfl rfl ?_
        refine hp_gR E g_RX12_149 fM_0_62 dX12_hasSameSigns_36 ?_
        refine hp_bipush E (nI 7) dX12_hasSameSigns_39 (by decide) ?_
        refine hp_iload_n E 1 dX12_hasSameSigns_41 rfl rfl ?_
        refine hp_imul E dX12_hasSameSigns_42 ?_
        refine hp_iload E 4 dX12_hasSameSigns_43 rfl ?_
        refine hp_iadd E dX12_hasSameSigns_45 ?_
        refine hp_lald E 47 aM_47 hq.1 dX12_hasSameSigns_46 ?_
        replace hq := hq.2
        refine hp_aload_n E 0 dX12_hasSameSigns_47 rfl rfl ?_
        refine hp_gR E g_RX12_149 fM_0_62 dX12_hasSameSigns_48 ?_
        refine hp_bipush E (nI 7) dX12_hasSameSigns_51 (by decide) ?_
        refine hp_iload_n E 2 dX12_hasSameSigns_53 rfl rfl ?_
        refine hp_imul E dX12_hasSameSigns_54 ?_
        refine hp_iload E 4 dX12_hasSameSigns_55 rfl ?_
        refine hp_iadd E dX12_hasSameSigns_57 ?_
        refine hp_lald E 47 aM_47 hq.1 dX12_hasSameSigns_58 ?_
        replace hq := hq.2
        refine hp_lcmp E dX12_hasSameSigns_59 ?_
        obtain ⟨K10, hq, hK10⟩ := hq
        have jK10 : ∀ (v11 : Int32), K10 v11 → hp_G p l e rm_X12_hasSameSigns s m args below meth c SM cs ad A D 5 0 0 Z 68 [(0, .ref (ad 0)), (1, .int a1), (2, .int a2), (4, .int v6)] [.int v11] h := by
          intro v11 hq
          replace hq := hK10 v11 hq
          refine hp_istore_n (lv' := [(0, .ref (ad 0)), (1, .int a1), (2, .int a2), (3, .int v11), (4, .int v6)]) E dX12_hasSameSigns_68 rfl (by decide) rfl rfl ?_
          obtain ⟨v12, ev12⟩ : ∃ z : Int32, z = v6 + (nI 1) := ⟨_, rfl⟩
          replace hq := hq v12 ev12
          refine hp_iinc (lv' := [(0, .ref (ad 0)), (1, .int a1), (2, .int a2), (3, .int v11), (4, .int v12)]) E 4 v12 dX12_hasSameSigns_69 rfl (by rw [ev12]; rfl) (by decide) rfl rfl ?_
          refine hp_goto E 24 dX12_hasSameSigns_72 (by decide) ?_
          exact hB4 _ _ hq
        refine hp_if_ne E 67 dX12_hasSameSigns_60 (by decide) (fun c9 => ?_) (fun c9 => ?_)
        · replace hq := hq.2 c9
          refine hp_iconst E (nI 0) dX12_hasSameSigns_67 (by decide) ?_
          refine hp_sub (lv' := [(0, .ref (ad 0)), (1, .int a1), (2, .int a2), (4, .int v6)]) [0, 1, 2, 4] rfl ?_
          exact jK10 _ hq
        · replace hq := hq.1 c9
          refine hp_iconst E (nI 1) dX12_hasSameSigns_63 (by decide) ?_
          refine hp_goto E 68 dX12_hasSameSigns_64 (by decide) ?_
          refine hp_sub (lv' := [(0, .ref (ad 0)), (1, .int a1), (2, .int a2), (4, .int v6)]) [0, 1, 2, 4] rfl ?_
          exact jK10 _ hq
  refine hp_icmp_ne E 19 dX12_hasSameSigns_12 (by decide) (fun c1 => ?_) (fun c1 => ?_)
  · replace hq := hq.2 c1
    refine hp_iconst E (nI 0) dX12_hasSameSigns_19 (by decide) ?_
    exact jK2 _ hq
  · replace hq := hq.1 c1
    refine hp_iconst E (nI 1) dX12_hasSameSigns_15 (by decide) ?_
    refine hp_goto E 20 dX12_hasSameSigns_16 (by decide) ?_
    exact jK2 _ hq
theorem dX12_divide_0 : decode cX12_divide 0 = .ok (.iconst 0, 1) := by decide +kernel
theorem dX12_divide_1 : decode cX12_divide 1 = .ok (.istore_n 1, 1) := by decide +kernel
theorem dX12_divide_2 : decode cX12_divide 2 = .ok (.iconst 0, 1) := by decide +kernel
theorem dX12_divide_3 : decode cX12_divide 3 = .ok (.istore_n 2, 1) := by decide +kernel
theorem dX12_divide_4 : decode cX12_divide 4 = .ok (.iload_n 2, 1) := by decide +kernel
theorem dX12_divide_5 : decode cX12_divide 5 = .ok (.aload_n 0, 1) := by decide +kernel
theorem dX12_divide_6 : decode cX12_divide 6 = .ok (.getfield 167, 3) := by decide +kernel
theorem dX12_divide_9 : decode cX12_divide 9 = .ok (.if_icmp .ge 54, 3) := by decide +kernel
theorem dX12_divide_12 : decode cX12_divide 12 = .ok (.aload_n 0, 1) := by decide +kernel
theorem dX12_divide_13 : decode cX12_divide 13 = .ok (.iload_n 2, 1) := by decide +kernel
theorem dX12_divide_14 : decode cX12_divide 14 = .ok (.iconst (-1), 1) := by decide +kernel
theorem dX12_divide_15 : decode cX12_divide 15 = .ok (.iconst (-1), 1) := by decide +kernel
theorem dX12_divide_16 : decode cX12_divide 16 = .ok (.invokevirtual 280, 3) := by decide +kernel
theorem dX12_divide_19 : decode cX12_divide 19 = .ok (.iconst 0, 1) := by decide +kernel
theorem dX12_divide_20 : decode cX12_divide 20 = .ok (.istore_n 3, 1) := by decide +kernel
theorem dX12_divide_21 : decode cX12_divide 21 = .ok (.iload_n 3, 1) := by decide +kernel
theorem dX12_divide_22 : decode cX12_divide 22 = .ok (.aload_n 0, 1) := by decide +kernel
theorem dX12_divide_23 : decode cX12_divide 23 = .ok (.getfield 342, 3) := by decide +kernel
theorem dX12_divide_26 : decode cX12_divide 26 = .ok (.if_icmp .ge 31, 3) := by decide +kernel
theorem dX12_divide_29 : decode cX12_divide 29 = .ok (.aload_n 0, 1) := by decide +kernel
theorem dX12_divide_30 : decode cX12_divide 30 = .ok (.getfield 153, 3) := by decide +kernel
theorem dX12_divide_33 : decode cX12_divide 33 = .ok (.bipush 8, 2) := by decide +kernel
theorem dX12_divide_35 : decode cX12_divide 35 = .ok (.iload_n 2, 1) := by decide +kernel
theorem dX12_divide_36 : decode cX12_divide 36 = .ok (.imul, 1) := by decide +kernel
theorem dX12_divide_37 : decode cX12_divide 37 = .ok (.iload_n 3, 1) := by decide +kernel
theorem dX12_divide_38 : decode cX12_divide 38 = .ok (.iadd, 1) := by decide +kernel
theorem dX12_divide_39 : decode cX12_divide 39 = .ok (.aload_n 0, 1) := by decide +kernel
theorem dX12_divide_40 : decode cX12_divide 40 = .ok (.getfield 119, 3) := by decide +kernel
theorem dX12_divide_43 : decode cX12_divide 43 = .ok (.aload_n 0, 1) := by decide +kernel
theorem dX12_divide_44 : decode cX12_divide 44 = .ok (.getfield 86, 3) := by decide +kernel
theorem dX12_divide_47 : decode cX12_divide 47 = .ok (.iload_n 3, 1) := by decide +kernel
theorem dX12_divide_48 : decode cX12_divide 48 = .ok (.iaload, 1) := by decide +kernel
theorem dX12_divide_49 : decode cX12_divide 49 = .ok (.iaload, 1) := by decide +kernel
theorem dX12_divide_50 : decode cX12_divide 50 = .ok (.iastore, 1) := by decide +kernel
theorem dX12_divide_51 : decode cX12_divide 51 = .ok (.iinc 3 1, 3) := by decide +kernel
theorem dX12_divide_54 : decode cX12_divide 54 = .ok (.goto (-33), 3) := by decide +kernel
theorem dX12_divide_57 : decode cX12_divide 57 = .ok (.iinc 2 1, 3) := by decide +kernel
theorem dX12_divide_60 : decode cX12_divide 60 = .ok (.goto (-56), 3) := by decide +kernel
theorem dX12_divide_63 : decode cX12_divide 63 = .ok (.iconst 0, 1) := by decide +kernel
theorem dX12_divide_64 : decode cX12_divide 64 = .ok (.istore_n 2, 1) := by decide +kernel
theorem dX12_divide_65 : decode cX12_divide 65 = .ok (.iload_n 2, 1) := by decide +kernel
theorem dX12_divide_66 : decode cX12_divide 66 = .ok (.aload_n 0, 1) := by decide +kernel
theorem dX12_divide_67 : decode cX12_divide 67 = .ok (.getfield 167, 3) := by decide +kernel
theorem dX12_divide_70 : decode cX12_divide 70 = .ok (.if_icmp .ge 65, 3) := by decide +kernel
theorem dX12_divide_73 : decode cX12_divide 73 = .ok (.iconst 0, 1) := by decide +kernel
theorem dX12_divide_74 : decode cX12_divide 74 = .ok (.istore_n 3, 1) := by decide +kernel
theorem dX12_divide_75 : decode cX12_divide 75 = .ok (.iload_n 3, 1) := by decide +kernel
theorem dX12_divide_76 : decode cX12_divide 76 = .ok (.iload_n 2, 1) := by decide +kernel
theorem dX12_divide_77 : decode cX12_divide 77 = .ok (.if_icmp .ge 18, 3) := by decide +kernel
theorem dX12_divide_80 : decode cX12_divide 80 = .ok (.aload_n 0, 1) := by decide +kernel
theorem dX12_divide_81 : decode cX12_divide 81 = .ok (.iload_n 3, 1) := by decide +kernel
theorem dX12_divide_82 : decode cX12_divide 82 = .ok (.iload_n 2, 1) := by decide +kernel
theorem dX12_divide_83 : decode cX12_divide 83 = .ok (.invokevirtual 345, 3) := by decide +kernel
theorem dX12_divide_86 : decode cX12_divide 86 = .ok (.ifCond .ne 9, 3) := by decide +kernel
theorem dX12_divide_89 : decode cX12_divide 89 = .ok (.iinc 3 1, 3) := by decide +kernel
theorem dX12_divide_92 : decode cX12_divide 92 = .ok (.goto (-17), 3) := by decide +kernel
theorem dX12_divide_95 : decode cX12_divide 95 = .ok (.aload_n 0, 1) := by decide +kernel
theorem dX12_divide_96 : decode cX12_divide 96 = .ok (.getfield 143, 3) := by decide +kernel
theorem dX12_divide_99 : decode cX12_divide 99 = .ok (.iload_n 2, 1) := by decide +kernel
theorem dX12_divide_100 : decode cX12_divide 100 = .ok (.iload_n 3, 1) := by decide +kernel
theorem dX12_divide_101 : decode cX12_divide 101 = .ok (.iload_n 2, 1) := by decide +kernel
theorem dX12_divide_102 : decode cX12_divide 102 = .ok (.if_icmp .ge 12, 3) := by decide +kernel
theorem dX12_divide_105 : decode cX12_divide 105 = .ok (.aload_n 0, 1) := by decide +kernel
theorem dX12_divide_106 : decode cX12_divide 106 = .ok (.getfield 143, 3) := by decide +kernel
theorem dX12_divide_109 : decode cX12_divide 109 = .ok (.iload_n 3, 1) := by decide +kernel
theorem dX12_divide_110 : decode cX12_divide 110 = .ok (.iaload, 1) := by decide +kernel
theorem dX12_divide_111 : decode cX12_divide 111 = .ok (.goto 4, 3) := by decide +kernel
theorem dX12_divide_114 : decode cX12_divide 114 = .ok (.iload_n 1, 1) := by decide +kernel
theorem dX12_divide_115 : decode cX12_divide 115 = .ok (.iastore, 1) := by decide +kernel
theorem dX12_divide_116 : decode cX12_divide 116 = .ok (.iload_n 1, 1) := by decide +kernel
theorem dX12_divide_117 : decode cX12_divide 117 = .ok (.iload_n 3, 1) := by decide +kernel
theorem dX12_divide_118 : decode cX12_divide 118 = .ok (.iload_n 2, 1) := by decide +kernel
theorem dX12_divide_119 : decode cX12_divide 119 = .ok (.if_icmp .ge 7, 3) := by decide +kernel
theorem dX12_divide_122 : decode cX12_divide 122 = .ok (.iconst 0, 1) := by decide +kernel
theorem dX12_divide_123 : decode cX12_divide 123 = .ok (.goto 4, 3) := by decide +kernel
theorem dX12_divide_126 : decode cX12_divide 126 = .ok (.iconst 1, 1) := by decide +kernel
theorem dX12_divide_127 : decode cX12_divide 127 = .ok (.iadd, 1) := by decide +kernel
theorem dX12_divide_128 : decode cX12_divide 128 = .ok (.istore_n 1, 1) := by decide +kernel
theorem dX12_divide_129 : decode cX12_divide 129 = .ok (.iinc 2 1, 3) := by decide +kernel
theorem dX12_divide_132 : decode cX12_divide 132 = .ok (.goto (-67), 3) := by decide +kernel
theorem dX12_divide_135 : decode cX12_divide 135 = .ok (.iconst 0, 1) := by decide +kernel
theorem dX12_divide_136 : decode cX12_divide 136 = .ok (.istore_n 2, 1) := by decide +kernel
theorem dX12_divide_137 : decode cX12_divide 137 = .ok (.iload_n 1, 1) := by decide +kernel
theorem dX12_divide_138 : decode cX12_divide 138 = .ok (.iload_n 2, 1) := by decide +kernel
theorem dX12_divide_139 : decode cX12_divide 139 = .ok (.if_icmp .le 120, 3) := by decide +kernel
theorem dX12_divide_142 : decode cX12_divide 142 = .ok (.iload_n 1, 1) := by decide +kernel
theorem dX12_divide_143 : decode cX12_divide 143 = .ok (.istore_n 2, 1) := by decide +kernel
theorem dX12_divide_144 : decode cX12_divide 144 = .ok (.iconst 0, 1) := by decide +kernel
theorem dX12_divide_145 : decode cX12_divide 145 = .ok (.istore_n 1, 1) := by decide +kernel
theorem dX12_divide_146 : decode cX12_divide 146 = .ok (.aload_n 0, 1) := by decide +kernel
theorem dX12_divide_147 : decode cX12_divide 147 = .ok (.invokevirtual 348, 3) := by decide +kernel
theorem dX12_divide_150 : decode cX12_divide 150 = .ok (.iconst 0, 1) := by decide +kernel
theorem dX12_divide_151 : decode cX12_divide 151 = .ok (.istore_n 3, 1) := by decide +kernel
theorem dX12_divide_152 : decode cX12_divide 152 = .ok (.iload_n 3, 1) := by decide +kernel
theorem dX12_divide_153 : decode cX12_divide 153 = .ok (.aload_n 0, 1) := by decide +kernel
theorem dX12_divide_154 : decode cX12_divide 154 = .ok (.getfield 167, 3) := by decide +kernel
theorem dX12_divide_157 : decode cX12_divide 157 = .ok (.if_icmp .ge 71, 3) := by decide +kernel
theorem dX12_divide_160 : decode cX12_divide 160 = .ok (.iconst 0, 1) := by decide +kernel
theorem dX12_divide_161 : decode cX12_divide 161 = .ok (.istore 4, 2) := by decide +kernel
theorem dX12_divide_163 : decode cX12_divide 163 = .ok (.iload 4, 2) := by decide +kernel
theorem dX12_divide_165 : decode cX12_divide 165 = .ok (.iload_n 3, 1) := by decide +kernel
theorem dX12_divide_166 : decode cX12_divide 166 = .ok (.if_icmp .ge 19, 3) := by decide +kernel
theorem dX12_divide_169 : decode cX12_divide 169 = .ok (.aload_n 0, 1) := by decide +kernel
theorem dX12_divide_170 : decode cX12_divide 170 = .ok (.iload 4, 2) := by decide +kernel
theorem dX12_divide_172 : decode cX12_divide 172 = .ok (.iload_n 3, 1) := by decide +kernel
theorem dX12_divide_173 : decode cX12_divide 173 = .ok (.invokevirtual 351, 3) := by decide +kernel
theorem dX12_divide_176 : decode cX12_divide 176 = .ok (.ifCond .ne 9, 3) := by decide +kernel
theorem dX12_divide_179 : decode cX12_divide 179 = .ok (.iinc 4 1, 3) := by decide +kernel
theorem dX12_divide_182 : decode cX12_divide 182 = .ok (.goto (-19), 3) := by decide +kernel
theorem dX12_divide_185 : decode cX12_divide 185 = .ok (.aload_n 0, 1) := by decide +kernel
theorem dX12_divide_186 : decode cX12_divide 186 = .ok (.getfield 146, 3) := by decide +kernel
theorem dX12_divide_189 : decode cX12_divide 189 = .ok (.iload_n 3, 1) := by decide +kernel
theorem dX12_divide_190 : decode cX12_divide 190 = .ok (.iload 4, 2) := by decide +kernel
theorem dX12_divide_192 : decode cX12_divide 192 = .ok (.iload_n 3, 1) := by decide +kernel
theorem dX12_divide_193 : decode cX12_divide 193 = .ok (.if_icmp .ge 13, 3) := by decide +kernel
theorem dX12_divide_196 : decode cX12_divide 196 = .ok (.aload_n 0, 1) := by decide +kernel
theorem dX12_divide_197 : decode cX12_divide 197 = .ok (.getfield 146, 3) := by decide +kernel
theorem dX12_divide_200 : decode cX12_divide 200 = .ok (.iload 4, 2) := by decide +kernel
theorem dX12_divide_202 : decode cX12_divide 202 = .ok (.iaload, 1) := by decide +kernel
theorem dX12_divide_203 : decode cX12_divide 203 = .ok (.goto 4, 3) := by decide +kernel
theorem dX12_divide_206 : decode cX12_divide 206 = .ok (.iload_n 1, 1) := by decide +kernel
theorem dX12_divide_207 : decode cX12_divide 207 = .ok (.iastore, 1) := by decide +kernel
theorem dX12_divide_208 : decode cX12_divide 208 = .ok (.iload_n 1, 1) := by decide +kernel
theorem dX12_divide_209 : decode cX12_divide 209 = .ok (.iload 4, 2) := by decide +kernel
theorem dX12_divide_211 : decode cX12_divide 211 = .ok (.iload_n 3, 1) := by decide +kernel
theorem dX12_divide_212 : decode cX12_divide 212 = .ok (.if_icmp .ge 7, 3) := by decide +kernel
theorem dX12_divide_215 : decode cX12_divide 215 = .ok (.iconst 0, 1) := by decide +kernel
theorem dX12_divide_216 : decode cX12_divide 216 = .ok (.goto 4, 3) := by decide +kernel
theorem dX12_divide_219 : decode cX12_divide 219 = .ok (.iconst 1, 1) := by decide +kernel
theorem dX12_divide_220 : decode cX12_divide 220 = .ok (.iadd, 1) := by decide +kernel
theorem dX12_divide_221 : decode cX12_divide 221 = .ok (.istore_n 1, 1) := by decide +kernel
theorem dX12_divide_222 : decode cX12_divide 222 = .ok (.iinc 3 1, 3) := by decide +kernel
theorem dX12_divide_225 : decode cX12_divide 225 = .ok (.goto (-73), 3) := by decide +kernel
theorem dX12_divide_228 : decode cX12_divide 228 = .ok (.iconst 0, 1) := by decide +kernel
theorem dX12_divide_229 : decode cX12_divide 229 = .ok (.istore_n 3, 1) := by decide +kernel
theorem dX12_divide_230 : decode cX12_divide 230 = .ok (.iload_n 3, 1) := by decide +kernel
theorem dX12_divide_231 : decode cX12_divide 231 = .ok (.aload_n 0, 1) := by decide +kernel
theorem dX12_divide_232 : decode cX12_divide 232 = .ok (.getfield 167, 3) := by decide +kernel
theorem dX12_divide_235 : decode cX12_divide 235 = .ok (.if_icmp .ge 21, 3) := by decide +kernel
theorem dX12_divide_238 : decode cX12_divide 238 = .ok (.aload_n 0, 1) := by decide +kernel
theorem dX12_divide_239 : decode cX12_divide 239 = .ok (.getfield 143, 3) := by decide +kernel
theorem dX12_divide_242 : decode cX12_divide 242 = .ok (.iload_n 3, 1) := by decide +kernel
theorem dX12_divide_243 : decode cX12_divide 243 = .ok (.aload_n 0, 1) := by decide +kernel
theorem dX12_divide_244 : decode cX12_divide 244 = .ok (.getfield 146, 3) := by decide +kernel
theorem dX12_divide_247 : decode cX12_divide 247 = .ok (.iload_n 3, 1) := by decide +kernel
theorem dX12_divide_248 : decode cX12_divide 248 = .ok (.iaload, 1) := by decide +kernel
theorem dX12_divide_249 : decode cX12_divide 249 = .ok (.iastore, 1) := by decide +kernel
theorem dX12_divide_250 : decode cX12_divide 250 = .ok (.iinc 3 1, 3) := by decide +kernel
theorem dX12_divide_253 : decode cX12_divide 253 = .ok (.goto (-23), 3) := by decide +kernel
theorem dX12_divide_256 : decode cX12_divide 256 = .ok (.goto (-119), 3) := by decide +kernel
theorem dX12_divide_259 : decode cX12_divide 259 = .ok (.iload_n 1, 1) := by decide +kernel
theorem dX12_divide_260 : decode cX12_divide 260 = .ok (.ireturn, 1) := by decide +kernel
set_option maxHeartbeats 4000000 in
set_option maxRecDepth 100000 in
theorem c_X12_divide (l : Launch) {cs : Nat → ClassId} {ad : Nat → Nat} {A : Nat → Prop} {D : va_G} (hJ : hp_J SM ad A)   {h : hp_H} {Q : Int32 → hp_H → Prop} (hq : q_X12_divide h Q) : hp_Mi l yX12_divide cX12_divide 5 (some .int) rm_X12_divide [.ref (ad 0)] SM cs ad A D h Q := by
  refine hp_met (own := RX12) rfl (by decide) (Nat.le_of_ble_eq_true rfl) rfl (fun p e s m args below meth c Z E hZ hnm => ?_)
  refine hp_sub (lv' := [(0, .ref (ad 0))]) [0] rfl ?_
  unfold q_X12_divide at hq
  refine hp_iconst E (nI 0) dX12_divide_0 (by decide) ?_
  refine hp_istore_n (lv' := [(0, .ref (ad 0)), (1, .int (nI 0))]) E dX12_divide_1 rfl (by decide) rfl rfl ?_
  refine hp_iconst E (nI 0) dX12_divide_2 (by decide) ?_
  refine hp_istore_n (lv' := [(0, .ref (ad 0)), (1, .int (nI 0)), (2, .int (nI 0))]) E dX12_divide_3 rfl (by decide) rfl rfl ?_
  refine hq (fun v2 h3 => hp_G p l e rm_X12_divide s m args below meth c SM cs ad A D 5 0 0 Z 4 [(0, .ref (ad 0)), (1, .int (nI 0)), (2, .int v2)] [] h3) (fun v2 h3 hB => ?_)
  obtain ⟨B1, hq, hB1⟩ := hB
  refine hp_iload_n E 2 dX12_divide_4 rfl rfl ?_
  refine hp_aload_n E 0 dX12_divide_5 rfl rfl ?_
  refine hp_gI E g_RX12_167 fM_0_35 dX12_divide_6 ?_
  refine hp_icmp_ge E 63 dX12_divide_9 (by decide) (fun c4 => ?_) (fun c4 => ?_)
  · replace hq := hq.1 c4
    refine hp_iconst E (nI 0) dX12_divide_63 (by decide) ?_
    refine hp_istore_n (lv' := [(0, .ref (ad 0)), (1, .int (nI 0)), (2, .int (nI 0))]) E dX12_divide_64 rfl (by decide) rfl rfl ?_
    refine hq (fun v6 v7 h8 => hp_G p l e rm_X12_divide s m args below meth c SM cs ad A D 5 0 0 Z 65 [(0, .ref (ad 0)), (1, .int v6), (2, .int v7)] [] h8) (fun v6 v7 h8 hB => ?_)
    obtain ⟨B5, hq, hB5⟩ := hB
    refine hp_iload_n E 2 dX12_divide_65 rfl rfl ?_
    refine hp_aload_n E 0 dX12_divide_66 rfl rfl ?_
    refine hp_gI E g_RX12_167 fM_0_35 dX12_divide_67 ?_
    refine hp_icmp_ge E 135 dX12_divide_70 (by decide) (fun c9 => ?_) (fun c9 => ?_)
    · replace hq := hq.1 c9
      refine hp_iconst E (nI 0) dX12_divide_135 (by decide) ?_
      refine hp_istore_n (lv' := [(0, .ref (ad 0)), (1, .int v6), (2, .int (nI 0))]) E dX12_divide_136 rfl (by decide) rfl rfl ?_
      refine hq (fun v11 v12 h13 => hp_G p l e rm_X12_divide s m args below meth c SM cs ad A D 5 0 0 Z 137 [(0, .ref (ad 0)), (1, .int v11), (2, .int v12)] [] h13) (fun v11 v12 h13 hB => ?_)
      obtain ⟨B10, hq, hB10⟩ := hB
      refine hp_iload_n E 1 dX12_divide_137 rfl rfl ?_
      refine hp_iload_n E 2 dX12_divide_138 rfl rfl ?_
      refine hp_icmp_le E 259 dX12_divide_139 (by decide) (fun c14 => ?_) (fun c14 => ?_)
      · replace hq := hq.1 c14
        refine hp_iload_n E 1 dX12_divide_259 rfl rfl ?_
        exact hp_iret E hq hZ dX12_divide_260
      · replace hq := hq.2 c14
        refine hp_iload_n E 1 dX12_divide_142 rfl rfl ?_
        refine hp_istore_n (lv' := [(0, .ref (ad 0)), (1, .int v11), (2, .int v11)]) E dX12_divide_143 rfl (by decide) rfl rfl ?_
        refine hp_iconst E (nI 0) dX12_divide_144 (by decide) ?_
        refine hp_istore_n (lv' := [(0, .ref (ad 0)), (1, .int (nI 0)), (2, .int v11)]) E dX12_divide_145 rfl (by decide) rfl rfl ?_
        refine hp_aload_n E 0 dX12_divide_146 rfl rfl ?_
        refine hp_callVv' (rest := []) E 0 fM_0_0 vcl_12 (c_X12_findSigns l hJ hq) F_X12_findSigns m_RX12_348 ⟨rfl, rfl⟩ ⟨Nat.le_of_ble_eq_true rfl, Nat.le_of_ble_eq_true rfl⟩ ⟨Nat.zero_le _, Nat.zero_le _⟩ rfl rfl (Nat.le_of_ble_eq_true rfl) dX12_divide_147 (fun h15 hq => ?_)
        refine hp_iconst E (nI 0) dX12_divide_150 (by decide) ?_
        refine hp_istore_n (lv' := [(0, .ref (ad 0)), (1, .int (nI 0)), (2, .int v11), (3, .int (nI 0))]) E dX12_divide_151 rfl (by decide) rfl rfl ?_
        refine hq (fun v17 v18 h19 => hp_G p l e rm_X12_divide s m args below meth c SM cs ad A D 5 0 0 Z 152 [(0, .ref (ad 0)), (1, .int v17), (2, .int v11), (3, .int v18)] [] h19) (fun v17 v18 h19 hB => ?_)
        obtain ⟨B16, hq, hB16⟩ := hB
        refine hp_iload_n E 3 dX12_divide_152 rfl rfl ?_
        refine hp_aload_n E 0 dX12_divide_153 rfl rfl ?_
        refine hp_gI E g_RX12_167 fM_0_35 dX12_divide_154 ?_
        refine hp_icmp_ge E 228 dX12_divide_157 (by decide) (fun c20 => ?_) (fun c20 => ?_)
        · replace hq := hq.1 c20
          refine hp_iconst E (nI 0) dX12_divide_228 (by decide) ?_
          refine hp_istore_n (lv' := [(0, .ref (ad 0)), (1, .int v17), (2, .int v11), (3, .int (nI 0))]) E dX12_divide_229 rfl (by decide) rfl rfl ?_
          refine hq (fun v22 h23 => hp_G p l e rm_X12_divide s m args below meth c SM cs ad A D 5 0 0 Z 230 [(0, .ref (ad 0)), (1, .int v17), (2, .int v11), (3, .int v22)] [] h23) (fun v22 h23 hB => ?_)
          obtain ⟨B21, hq, hB21⟩ := hB
          refine hp_iload_n E 3 dX12_divide_230 rfl rfl ?_
          refine hp_aload_n E 0 dX12_divide_231 rfl rfl ?_
          refine hp_gI E g_RX12_167 fM_0_35 dX12_divide_232 ?_
          refine hp_icmp_ge E 256 dX12_divide_235 (by decide) (fun c24 => ?_) (fun c24 => ?_)
          · replace hq := hq.1 c24
            refine hp_goto E 137 dX12_divide_256 (by decide) ?_
            refine hp_sub (lv' := [(0, .ref (ad 0)), (1, .int v17), (2, .int v11)]) [0, 1, 2] rfl ?_
            exact hB10 _ _ _ hq
          · replace hq := hq.2 c24
            refine hp_aload_n E 0 dX12_divide_238 rfl rfl ?_
            refine hp_gR E g_RX12_143 fM_0_60 dX12_divide_239 ?_
            refine hp_iload_n E 3 dX12_divide_242 rfl rfl ?_
            refine hp_aload_n E 0 dX12_divide_243 rfl rfl ?_
            refine hp_gR E g_RX12_146 fM_0_61 dX12_divide_244 ?_
            refine hp_iload_n E 3 dX12_divide_247 rfl rfl ?_
            refine hp_iald E 46 aM_46 hq.1 dX12_divide_248 ?_
            replace hq := hq.2
            have hin := hq.1
            replace hq := hq.2
            refine hp_iast E 45 aM_45 zM_45 hJ hin dX12_divide_249 ?_
            refine hp_toph (fun h25 eh25 => ?_)
            replace hq := hq h25 eh25
            obtain ⟨v26, ev26⟩ : ∃ z : Int32, z = v22 + (nI 1) := ⟨_, rfl⟩
            replace hq := hq v26 ev26
            refine hp_iinc (lv' := [(0, .ref (ad 0)), (1, .int v17), (2, .int v11), (3, .int v26)]) E 3 v26 dX12_divide_250 rfl (by rw [ev26]; rfl) (by decide) rfl rfl ?_
            refine hp_goto E 230 dX12_divide_253 (by decide) ?_
            exact hB21 _ _ hq
        · replace hq := hq.2 c20
          refine hp_iconst E (nI 0) dX12_divide_160 (by decide) ?_
          refine hp_istore (lv' := [(0, .ref (ad 0)), (1, .int v17), (2, .int v11), (3, .int v18), (4, .int (nI 0))]) E dX12_divide_161 (by decide) rfl rfl ?_
          refine hq (fun v28 => hp_G p l e rm_X12_divide s m args below meth c SM cs ad A D 5 0 0 Z 163 [(0, .ref (ad 0)), (1, .int v17), (2, .int v11), (3, .int v18), (4, .int v28)] [] h19) (fun v28 hB => ?_)
          obtain ⟨B27, hq, hB27⟩ := hB
          refine hp_iload E 4 dX12_divide_163 rfl ?_
          refine hp_iload_n E 3 dX12_divide_165 rfl rfl ?_
          obtain ⟨K30, hq, hK30⟩ := hq
          have jK30 : K30 → hp_G p l e rm_X12_divide s m args below meth c SM cs ad A D 5 0 0 Z 185 [(0, .ref (ad 0)), (1, .int v17), (2, .int v11), (3, .int v18), (4, .int v28)] [] h19 := by
            intro  hq
            replace hq := hK30  hq
            refine hp_aload_n E 0 dX12_divide_185 rfl rfl ?_
            refine hp_gR E g_RX12_146 fM_0_61 dX12_divide_186 ?_
            refine hp_iload_n E 3 dX12_divide_189 rfl rfl ?_
            refine hp_iload E 4 dX12_divide_190 rfl ?_
            refine hp_iload_n E 3 dX12_divide_192 rfl rfl ?_
            obtain ⟨K35, hq, hK35⟩ := hq
            have jK35 : ∀ (v36 : Int32), K35 v36 → hp_G p l e rm_X12_divide s m args below meth c SM cs ad A D 5 0 0 Z 207 [(0, .ref (ad 0)), (1, .int v17), (2, .int v11), (3, .int v18), (4, .int v28)] [.int v36, .int v18, .ref (ad 46)] h19 := by
              intro v36 hq
              replace hq := hK35 v36 hq
              have hin := hq.1
              replace hq := hq.2
              refine hp_iast E 46 aM_46 zM_46 hJ hin dX12_divide_207 ?_
              refine hp_toph (fun h37 eh37 => ?_)
              replace hq := hq h37 eh37
              refine hp_iload_n E 1 dX12_divide_208 rfl rfl ?_
              refine hp_iload E 4 dX12_divide_209 rfl ?_
              refine hp_iload_n E 3 dX12_divide_211 rfl rfl ?_
              obtain ⟨K39, hq, hK39⟩ := hq
              have jK39 : ∀ (v40 : Int32), K39 v40 → hp_G p l e rm_X12_divide s m args below meth c SM cs ad A D 5 0 0 Z 220 [(0, .ref (ad 0)), (2, .int v11), (3, .int v18)] [.int v40, .int v17] h37 := by
                intro v40 hq
                replace hq := hK39 v40 hq
                refine hp_iadd E dX12_divide_220 ?_
                refine hp_topi (fun v41 ev41 => ?_)
                replace hq := hq v41 ev41
                refine hp_istore_n (lv' := [(0, .ref (ad 0)), (1, .int v41), (2, .int v11), (3, .int v18)]) E dX12_divide_221 rfl (by decide) rfl rfl ?_
                obtain ⟨v42, ev42⟩ : ∃ z : Int32, z = v18 + (nI 1) := ⟨_, rfl⟩
                replace hq := hq v42 ev42
                refine hp_iinc (lv' := [(0, .ref (ad 0)), (1, .int v41), (2, .int v11), (3, .int v42)]) E 3 v42 dX12_divide_222 rfl (by rw [ev42]; rfl) (by decide) rfl rfl ?_
                refine hp_goto E 152 dX12_divide_225 (by decide) ?_
                exact hB16 _ _ _ hq
              refine hp_icmp_ge E 219 dX12_divide_212 (by decide) (fun c38 => ?_) (fun c38 => ?_)
              · replace hq := hq.1 c38
                refine hp_iconst E (nI 1) dX12_divide_219 (by decide) ?_
                refine hp_sub (lv' := [(0, .ref (ad 0)), (2, .int v11), (3, .int v18)]) [0, 2, 3] rfl ?_
                exact jK39 _ hq
              · replace hq := hq.2 c38
                refine hp_iconst E (nI 0) dX12_divide_215 (by decide) ?_
                refine hp_goto E 220 dX12_divide_216 (by decide) ?_
                refine hp_sub (lv' := [(0, .ref (ad 0)), (2, .int v11), (3, .int v18)]) [0, 2, 3] rfl ?_
                exact jK39 _ hq
            refine hp_icmp_ge E 206 dX12_divide_193 (by decide) (fun c34 => ?_) (fun c34 => ?_)
            · replace hq := hq.1 c34
              refine hp_iload_n E 1 dX12_divide_206 rfl rfl ?_
              exact jK35 _ hq
            · replace hq := hq.2 c34
              refine hp_aload_n E 0 dX12_divide_196 rfl rfl ?_
              refine hp_gR E g_RX12_146 fM_0_61 dX12_divide_197 ?_
              refine hp_iload E 4 dX12_divide_200 rfl ?_
              refine hp_iald E 46 aM_46 hq.1 dX12_divide_202 ?_
              replace hq := hq.2
              refine hp_goto E 207 dX12_divide_203 (by decide) ?_
              exact jK35 _ hq
          refine hp_icmp_ge E 185 dX12_divide_166 (by decide) (fun c29 => ?_) (fun c29 => ?_)
          · replace hq := hq.1 c29
            exact jK30  hq
          · replace hq := hq.2 c29
            refine hp_aload_n E 0 dX12_divide_169 rfl rfl ?_
            refine hp_iload E 4 dX12_divide_170 rfl ?_
            refine hp_iload_n E 3 dX12_divide_172 rfl rfl ?_
            refine hp_callVip (rest := []) E 0 fM_0_0 vcl_12 (c_X12_hasSameSigns l hJ hq) F_X12_hasSameSigns m_RX12_351 ⟨rfl, rfl⟩ ⟨Nat.le_of_ble_eq_true rfl, Nat.le_of_ble_eq_true rfl⟩ ⟨Nat.zero_le _, Nat.zero_le _⟩ rfl rfl (Nat.le_of_ble_eq_true rfl) dX12_divide_173 (fun r31 hq => ?_)
            refine hp_if_ne E 185 dX12_divide_176 (by decide) (fun c32 => ?_) (fun c32 => ?_)
            · replace hq := hq.2 c32
              exact jK30  hq
            · replace hq := hq.1 c32
              obtain ⟨v33, ev33⟩ : ∃ z : Int32, z = v28 + (nI 1) := ⟨_, rfl⟩
              replace hq := hq v33 ev33
              refine hp_iinc (lv' := [(0, .ref (ad 0)), (1, .int v17), (2, .int v11), (3, .int v18), (4, .int v33)]) E 4 v33 dX12_divide_179 rfl (by rw [ev33]; rfl) (by decide) rfl rfl ?_
              refine hp_goto E 163 dX12_divide_182 (by decide) ?_
              exact hB27 _ hq
    · replace hq := hq.2 c9
      refine hp_iconst E (nI 0) dX12_divide_73 (by decide) ?_
      refine hp_istore_n (lv' := [(0, .ref (ad 0)), (1, .int v6), (2, .int v7), (3, .int (nI 0))]) E dX12_divide_74 rfl (by decide) rfl rfl ?_
      refine hq (fun v44 => hp_G p l e rm_X12_divide s m args below meth c SM cs ad A D 5 0 0 Z 75 [(0, .ref (ad 0)), (1, .int v6), (2, .int v7), (3, .int v44)] [] h8) (fun v44 hB => ?_)
      obtain ⟨B43, hq, hB43⟩ := hB
      refine hp_iload_n E 3 dX12_divide_75 rfl rfl ?_
      refine hp_iload_n E 2 dX12_divide_76 rfl rfl ?_
      obtain ⟨K46, hq, hK46⟩ := hq
      have jK46 : K46 → hp_G p l e rm_X12_divide s m args below meth c SM cs ad A D 5 0 0 Z 95 [(0, .ref (ad 0)), (1, .int v6), (2, .int v7), (3, .int v44)] [] h8 := by
        intro  hq
        replace hq := hK46  hq
        refine hp_aload_n E 0 dX12_divide_95 rfl rfl ?_
        refine hp_gR E g_RX12_143 fM_0_60 dX12_divide_96 ?_
        refine hp_iload_n E 2 dX12_divide_99 rfl rfl ?_
        refine hp_iload_n E 3 dX12_divide_100 rfl rfl ?_
        refine hp_iload_n E 2 dX12_divide_101 rfl rfl ?_
        obtain ⟨K51, hq, hK51⟩ := hq
        have jK51 : ∀ (v52 : Int32), K51 v52 → hp_G p l e rm_X12_divide s m args below meth c SM cs ad A D 5 0 0 Z 115 [(0, .ref (ad 0)), (1, .int v6), (2, .int v7), (3, .int v44)] [.int v52, .int v7, .ref (ad 45)] h8 := by
          intro v52 hq
          replace hq := hK51 v52 hq
          have hin := hq.1
          replace hq := hq.2
          refine hp_iast E 45 aM_45 zM_45 hJ hin dX12_divide_115 ?_
          refine hp_toph (fun h53 eh53 => ?_)
          replace hq := hq h53 eh53
          refine hp_iload_n E 1 dX12_divide_116 rfl rfl ?_
          refine hp_iload_n E 3 dX12_divide_117 rfl rfl ?_
          refine hp_iload_n E 2 dX12_divide_118 rfl rfl ?_
          obtain ⟨K55, hq, hK55⟩ := hq
          have jK55 : ∀ (v56 : Int32), K55 v56 → hp_G p l e rm_X12_divide s m args below meth c SM cs ad A D 5 0 0 Z 127 [(0, .ref (ad 0)), (2, .int v7)] [.int v56, .int v6] h53 := by
            intro v56 hq
            replace hq := hK55 v56 hq
            refine hp_iadd E dX12_divide_127 ?_
            refine hp_topi (fun v57 ev57 => ?_)
            replace hq := hq v57 ev57
            refine hp_istore_n (lv' := [(0, .ref (ad 0)), (1, .int v57), (2, .int v7)]) E dX12_divide_128 rfl (by decide) rfl rfl ?_
            obtain ⟨v58, ev58⟩ : ∃ z : Int32, z = v7 + (nI 1) := ⟨_, rfl⟩
            replace hq := hq v58 ev58
            refine hp_iinc (lv' := [(0, .ref (ad 0)), (1, .int v57), (2, .int v58)]) E 2 v58 dX12_divide_129 rfl (by rw [ev58]; rfl) (by decide) rfl rfl ?_
            refine hp_goto E 65 dX12_divide_132 (by decide) ?_
            exact hB5 _ _ _ hq
          refine hp_icmp_ge E 126 dX12_divide_119 (by decide) (fun c54 => ?_) (fun c54 => ?_)
          · replace hq := hq.1 c54
            refine hp_iconst E (nI 1) dX12_divide_126 (by decide) ?_
            refine hp_sub (lv' := [(0, .ref (ad 0)), (2, .int v7)]) [0, 2] rfl ?_
            exact jK55 _ hq
          · replace hq := hq.2 c54
            refine hp_iconst E (nI 0) dX12_divide_122 (by decide) ?_
            refine hp_goto E 127 dX12_divide_123 (by decide) ?_
            refine hp_sub (lv' := [(0, .ref (ad 0)), (2, .int v7)]) [0, 2] rfl ?_
            exact jK55 _ hq
        refine hp_icmp_ge E 114 dX12_divide_102 (by decide) (fun c50 => ?_) (fun c50 => ?_)
        · replace hq := hq.1 c50
          refine hp_iload_n E 1 dX12_divide_114 rfl rfl ?_
          exact jK51 _ hq
        · replace hq := hq.2 c50
          refine hp_aload_n E 0 dX12_divide_105 rfl rfl ?_
          refine hp_gR E g_RX12_143 fM_0_60 dX12_divide_106 ?_
          refine hp_iload_n E 3 dX12_divide_109 rfl rfl ?_
          refine hp_iald E 45 aM_45 hq.1 dX12_divide_110 ?_
          replace hq := hq.2
          refine hp_goto E 115 dX12_divide_111 (by decide) ?_
          exact jK51 _ hq
      refine hp_icmp_ge E 95 dX12_divide_77 (by decide) (fun c45 => ?_) (fun c45 => ?_)
      · replace hq := hq.1 c45
        exact jK46  hq
      · replace hq := hq.2 c45
        refine hp_aload_n E 0 dX12_divide_80 rfl rfl ?_
        refine hp_iload_n E 3 dX12_divide_81 rfl rfl ?_
        refine hp_iload_n E 2 dX12_divide_82 rfl rfl ?_
        refine hp_callVip (rest := []) E 0 fM_0_0 vcl_12 (c_X12_isSeenAlike l hJ hq) F_X12_isSeenAlike m_RX12_345 ⟨rfl, rfl⟩ ⟨Nat.le_of_ble_eq_true rfl, Nat.le_of_ble_eq_true rfl⟩ ⟨Nat.zero_le _, Nat.zero_le _⟩ rfl rfl (Nat.le_of_ble_eq_true rfl) dX12_divide_83 (fun r47 hq => ?_)
        refine hp_if_ne E 95 dX12_divide_86 (by decide) (fun c48 => ?_) (fun c48 => ?_)
        · replace hq := hq.2 c48
          exact jK46  hq
        · replace hq := hq.1 c48
          obtain ⟨v49, ev49⟩ : ∃ z : Int32, z = v44 + (nI 1) := ⟨_, rfl⟩
          replace hq := hq v49 ev49
          refine hp_iinc (lv' := [(0, .ref (ad 0)), (1, .int v6), (2, .int v7), (3, .int v49)]) E 3 v49 dX12_divide_89 rfl (by rw [ev49]; rfl) (by decide) rfl rfl ?_
          refine hp_goto E 75 dX12_divide_92 (by decide) ?_
          exact hB43 _ hq
  · replace hq := hq.2 c4
    refine hp_aload_n E 0 dX12_divide_12 rfl rfl ?_
    refine hp_iload_n E 2 dX12_divide_13 rfl rfl ?_
    refine hp_iconst E (-1) dX12_divide_14 (by decide) ?_
    refine hp_iconst E (-1) dX12_divide_15 (by decide) ?_
    refine hp_callVv' (rest := []) E 0 fM_0_0 vcl_12 (c_X12_reckon l hJ hq) F_X12_reckon m_RX12_280 ⟨rfl, rfl⟩ ⟨Nat.le_of_ble_eq_true rfl, Nat.le_of_ble_eq_true rfl⟩ ⟨Nat.zero_le _, Nat.zero_le _⟩ rfl rfl (Nat.le_of_ble_eq_true rfl) dX12_divide_16 (fun h59 hq => ?_)
    refine hp_iconst E (nI 0) dX12_divide_19 (by decide) ?_
    refine hp_istore_n (lv' := [(0, .ref (ad 0)), (1, .int (nI 0)), (2, .int v2), (3, .int (nI 0))]) E dX12_divide_20 rfl (by decide) rfl rfl ?_
    refine hq (fun v61 h62 => hp_G p l e rm_X12_divide s m args below meth c SM cs ad A D 5 0 0 Z 21 [(0, .ref (ad 0)), (1, .int (nI 0)), (2, .int v2), (3, .int v61)] [] h62) (fun v61 h62 hB => ?_)
    obtain ⟨B60, hq, hB60⟩ := hB
    refine hp_iload_n E 3 dX12_divide_21 rfl rfl ?_
    refine hp_aload_n E 0 dX12_divide_22 rfl rfl ?_
    refine hp_gI E g_RX12_342 fM_0_31 dX12_divide_23 ?_
    refine hp_icmp_ge E 57 dX12_divide_26 (by decide) (fun c63 => ?_) (fun c63 => ?_)
    · replace hq := hq.1 c63
      obtain ⟨v64, ev64⟩ : ∃ z : Int32, z = v2 + (nI 1) := ⟨_, rfl⟩
      replace hq := hq v64 ev64
      refine hp_iinc (lv' := [(0, .ref (ad 0)), (1, .int (nI 0)), (2, .int v64), (3, .int v61)]) E 2 v64 dX12_divide_57 rfl (by rw [ev64]; rfl) (by decide) rfl rfl ?_
      refine hp_goto E 4 dX12_divide_60 (by decide) ?_
      refine hp_sub (lv' := [(0, .ref (ad 0)), (1, .int (nI 0)), (2, .int v64)]) [0, 1, 2] rfl ?_
      exact hB1 _ _ hq
    · replace hq := hq.2 c63
      refine hp_aload_n E 0 dX12_divide_29 rfl rfl ?_
      refine hp_gR E g_RX12_153 fM_0_63 dX12_divide_30 ?_
      refine hp_bipush E (nI 8) dX12_divide_33 (by decide) ?_
      refine hp_iload_n E 2 dX12_divide_35 rfl rfl ?_
      refine hp_imul E dX12_divide_36 ?_
      refine hp_iload_n E 3 dX12_divide_37 rfl rfl ?_
      refine hp_iadd E dX12_divide_38 ?_
      refine hp_aload_n E 0 dX12_divide_39 rfl rfl ?_
      refine hp_gR E g_RX12_119 fM_0_52 dX12_divide_40 ?_
      refine hp_aload_n E 0 dX12_divide_43 rfl rfl ?_
      refine hp_gR E g_RX12_86 fM_0_32 dX12_divide_44 ?_
      refine hp_iload_n E 3 dX12_divide_47 rfl rfl ?_
      refine hp_iald E 26 aM_26 hq.1 dX12_divide_48 ?_
      replace hq := hq.2
      refine hp_iald E 37 aM_37 hq.1 dX12_divide_49 ?_
      replace hq := hq.2
      have hin := hq.1
      replace hq := hq.2
      refine hp_iast E 48 aM_48 zM_48 hJ hin dX12_divide_50 ?_
      refine hp_toph (fun h65 eh65 => ?_)
      replace hq := hq h65 eh65
      obtain ⟨v66, ev66⟩ : ∃ z : Int32, z = v61 + (nI 1) := ⟨_, rfl⟩
      replace hq := hq v66 ev66
      refine hp_iinc (lv' := [(0, .ref (ad 0)), (1, .int (nI 0)), (2, .int v2), (3, .int v66)]) E 3 v66 dX12_divide_51 rfl (by rw [ev66]; rfl) (by decide) rfl rfl ?_
      refine hp_goto E 21 dX12_divide_54 (by decide) ?_
      exact hB60 _ _ hq
theorem dX12_classes_0 : decode cX12_classes 0 = .ok (.aload_n 0, 1) := by decide +kernel
theorem dX12_classes_1 : decode cX12_classes 1 = .ok (.invokevirtual 303, 3) := by decide +kernel
theorem dX12_classes_4 : decode cX12_classes 4 = .ok (.ifCond .eq 10, 3) := by decide +kernel
theorem dX12_classes_7 : decode cX12_classes 7 = .ok (.aload_n 0, 1) := by decide +kernel
theorem dX12_classes_8 : decode cX12_classes 8 = .ok (.invokevirtual 354, 3) := by decide +kernel
theorem dX12_classes_11 : decode cX12_classes 11 = .ok (.goto 5, 3) := by decide +kernel
theorem dX12_classes_14 : decode cX12_classes 14 = .ok (.bipush (-5), 2) := by decide +kernel
theorem dX12_classes_16 : decode cX12_classes 16 = .ok (.ireturn, 1) := by decide +kernel
set_option maxHeartbeats 4000000 in
set_option maxRecDepth 100000 in
theorem c_X12_classes (l : Launch) {cs : Nat → ClassId} {ad : Nat → Nat} {A : Nat → Prop} {D : va_G} (hJ : hp_J SM ad A)   {h : hp_H} {Q : Int32 → hp_H → Prop} (hq : q_X12_classes h Q) : hp_Mi l yX12_classes cX12_classes 1 (some .int) rm_X12_classes [.ref (ad 0)] SM cs ad A D h Q := by
  refine hp_met (own := RX12) rfl (by decide) (Nat.le_of_ble_eq_true rfl) rfl (fun p e s m args below meth c Z E hZ hnm => ?_)
  refine hp_sub (lv' := [(0, .ref (ad 0))]) [0] rfl ?_
  unfold q_X12_classes at hq
  refine hp_aload_n E 0 dX12_classes_0 rfl rfl ?_
  refine hp_callVip (rest := []) E 0 fM_0_0 vcl_12 (c_X12_hasStates l hJ hq) F_X12_hasStates m_RX12_303 ⟨rfl, rfl⟩ ⟨Nat.le_of_ble_eq_true rfl, Nat.le_of_ble_eq_true rfl⟩ ⟨Nat.zero_le _, Nat.zero_le _⟩ rfl rfl (Nat.le_of_ble_eq_true rfl) dX12_classes_1 (fun r1 hq => ?_)
  refine hp_if_eq E 14 dX12_classes_4 (by decide) (fun c2 => ?_) (fun c2 => ?_)
  · replace hq := hq.1 c2
    refine hp_bipush E (-5) dX12_classes_14 (by decide) ?_
    exact hp_iret E hq hZ dX12_classes_16
  · replace hq := hq.2 c2
    refine hp_aload_n E 0 dX12_classes_7 rfl rfl ?_
    refine hp_callVi' (rest := []) E 0 fM_0_0 vcl_12 (c_X12_divide l hJ hq) F_X12_divide m_RX12_354 ⟨rfl, rfl⟩ ⟨Nat.le_of_ble_eq_true rfl, Nat.le_of_ble_eq_true rfl⟩ ⟨Nat.zero_le _, Nat.zero_le _⟩ rfl rfl (Nat.le_of_ble_eq_true rfl) dX12_classes_8 (fun r3 h4 hq => ?_)
    refine hp_goto E 16 dX12_classes_11 (by decide) ?_
    exact hp_iret E hq hZ dX12_classes_16
theorem dX12_classOf_0 : decode cX12_classOf 0 = .ok (.aload_n 0, 1) := by decide +kernel
theorem dX12_classOf_1 : decode cX12_classOf 1 = .ok (.invokevirtual 303, 3) := by decide +kernel
theorem dX12_classOf_4 : decode cX12_classOf 4 = .ok (.ifCond .ne 6, 3) := by decide +kernel
theorem dX12_classOf_7 : decode cX12_classOf 7 = .ok (.bipush (-5), 2) := by decide +kernel
theorem dX12_classOf_9 : decode cX12_classOf 9 = .ok (.ireturn, 1) := by decide +kernel
theorem dX12_classOf_10 : decode cX12_classOf 10 = .ok (.aload_n 0, 1) := by decide +kernel
theorem dX12_classOf_11 : decode cX12_classOf 11 = .ok (.iload_n 1, 1) := by decide +kernel
theorem dX12_classOf_12 : decode cX12_classOf 12 = .ok (.invokevirtual 306, 3) := by decide +kernel
theorem dX12_classOf_15 : decode cX12_classOf 15 = .ok (.ifCond .ne 6, 3) := by decide +kernel
theorem dX12_classOf_18 : decode cX12_classOf 18 = .ok (.bipush (-2), 2) := by decide +kernel
theorem dX12_classOf_20 : decode cX12_classOf 20 = .ok (.ireturn, 1) := by decide +kernel
theorem dX12_classOf_21 : decode cX12_classOf 21 = .ok (.aload_n 0, 1) := by decide +kernel
theorem dX12_classOf_22 : decode cX12_classOf 22 = .ok (.invokevirtual 354, 3) := by decide +kernel
theorem dX12_classOf_25 : decode cX12_classOf 25 = .ok (.istore_n 2, 1) := by decide +kernel
theorem dX12_classOf_26 : decode cX12_classOf 26 = .ok (.iload_n 2, 1) := by decide +kernel
theorem dX12_classOf_27 : decode cX12_classOf 27 = .ok (.ifCond .le 12, 3) := by decide +kernel
theorem dX12_classOf_30 : decode cX12_classOf 30 = .ok (.aload_n 0, 1) := by decide +kernel
theorem dX12_classOf_31 : decode cX12_classOf 31 = .ok (.getfield 143, 3) := by decide +kernel
theorem dX12_classOf_34 : decode cX12_classOf 34 = .ok (.iload_n 1, 1) := by decide +kernel
theorem dX12_classOf_35 : decode cX12_classOf 35 = .ok (.iaload, 1) := by decide +kernel
theorem dX12_classOf_36 : decode cX12_classOf 36 = .ok (.goto 5, 3) := by decide +kernel
theorem dX12_classOf_39 : decode cX12_classOf 39 = .ok (.bipush (-2), 2) := by decide +kernel
theorem dX12_classOf_41 : decode cX12_classOf 41 = .ok (.ireturn, 1) := by decide +kernel
set_option maxHeartbeats 4000000 in
set_option maxRecDepth 100000 in
theorem c_X12_classOf (l : Launch) {cs : Nat → ClassId} {ad : Nat → Nat} {A : Nat → Prop} {D : va_G} (hJ : hp_J SM ad A)   {h : hp_H} {a1 : Int32} {Q : Int32 → hp_H → Prop} (hq : q_X12_classOf h a1 Q) : hp_Mi l yX12_classOf cX12_classOf 3 (some .int) rm_X12_classOf [.ref (ad 0), .int a1] SM cs ad A D h Q := by
  refine hp_met (own := RX12) rfl (by decide) (Nat.le_of_ble_eq_true rfl) rfl (fun p e s m args below meth c Z E hZ hnm => ?_)
  refine hp_sub (lv' := [(0, .ref (ad 0)), (1, .int a1)]) [0, 1] rfl ?_
  unfold q_X12_classOf at hq
  refine hp_aload_n E 0 dX12_classOf_0 rfl rfl ?_
  refine hp_callVip (rest := []) E 0 fM_0_0 vcl_12 (c_X12_hasStates l hJ hq) F_X12_hasStates m_RX12_303 ⟨rfl, rfl⟩ ⟨Nat.le_of_ble_eq_true rfl, Nat.le_of_ble_eq_true rfl⟩ ⟨Nat.zero_le _, Nat.zero_le _⟩ rfl rfl (Nat.le_of_ble_eq_true rfl) dX12_classOf_1 (fun r1 hq => ?_)
  refine hp_if_ne E 10 dX12_classOf_4 (by decide) (fun c2 => ?_) (fun c2 => ?_)
  · replace hq := hq.2 c2
    refine hp_aload_n E 0 dX12_classOf_10 rfl rfl ?_
    refine hp_iload_n E 1 dX12_classOf_11 rfl rfl ?_
    refine hp_callVip (rest := []) E 0 fM_0_0 vcl_12 (c_X12_isState l hJ hq) F_X12_isState m_RX12_306 ⟨rfl, rfl⟩ ⟨Nat.le_of_ble_eq_true rfl, Nat.le_of_ble_eq_true rfl⟩ ⟨Nat.zero_le _, Nat.zero_le _⟩ rfl rfl (Nat.le_of_ble_eq_true rfl) dX12_classOf_12 (fun r3 hq => ?_)
    refine hp_if_ne E 21 dX12_classOf_15 (by decide) (fun c4 => ?_) (fun c4 => ?_)
    · replace hq := hq.2 c4
      refine hp_aload_n E 0 dX12_classOf_21 rfl rfl ?_
      refine hp_callVi' (rest := []) E 0 fM_0_0 vcl_12 (c_X12_divide l hJ hq) F_X12_divide m_RX12_354 ⟨rfl, rfl⟩ ⟨Nat.le_of_ble_eq_true rfl, Nat.le_of_ble_eq_true rfl⟩ ⟨Nat.zero_le _, Nat.zero_le _⟩ rfl rfl (Nat.le_of_ble_eq_true rfl) dX12_classOf_22 (fun r5 h6 hq => ?_)
      refine hp_istore_n (lv' := [(0, .ref (ad 0)), (1, .int a1), (2, .int r5)]) E dX12_classOf_25 rfl (by decide) rfl rfl ?_
      refine hp_iload_n E 2 dX12_classOf_26 rfl rfl ?_
      refine hp_if_le E 39 dX12_classOf_27 (by decide) (fun c7 => ?_) (fun c7 => ?_)
      · replace hq := hq.1 c7
        refine hp_bipush E (-2) dX12_classOf_39 (by decide) ?_
        exact hp_iret E hq hZ dX12_classOf_41
      · replace hq := hq.2 c7
        refine hp_aload_n E 0 dX12_classOf_30 rfl rfl ?_
        refine hp_gR E g_RX12_143 fM_0_60 dX12_classOf_31 ?_
        refine hp_iload_n E 1 dX12_classOf_34 rfl rfl ?_
        refine hp_iald E 45 aM_45 hq.1 dX12_classOf_35 ?_
        replace hq := hq.2
        refine hp_goto E 41 dX12_classOf_36 (by decide) ?_
        exact hp_iret E hq hZ dX12_classOf_41
    · replace hq := hq.1 c4
      refine hp_bipush E (-2) dX12_classOf_18 (by decide) ?_
      exact hp_iret E hq hZ dX12_classOf_20
  · replace hq := hq.1 c2
    refine hp_bipush E (-5) dX12_classOf_7 (by decide) ?_
    exact hp_iret E hq hZ dX12_classOf_9
theorem dX12_count_0 : decode cX12_count 0 = .ok (.iload_n 1, 1) := by decide +kernel
theorem dX12_count_1 : decode cX12_count 1 = .ok (.tableswitch 95 0 7 #[47, 52, 57, 62, 67, 72, 77, 82], 47) := by decide +kernel
theorem dX12_count_48 : decode cX12_count 48 = .ok (.aload_n 0, 1) := by decide +kernel
theorem dX12_count_49 : decode cX12_count 49 = .ok (.getfield 177, 3) := by decide +kernel
theorem dX12_count_52 : decode cX12_count 52 = .ok (.ireturn, 1) := by decide +kernel
theorem dX12_count_53 : decode cX12_count 53 = .ok (.aload_n 0, 1) := by decide +kernel
theorem dX12_count_54 : decode cX12_count 54 = .ok (.getfield 183, 3) := by decide +kernel
theorem dX12_count_57 : decode cX12_count 57 = .ok (.ireturn, 1) := by decide +kernel
theorem dX12_count_58 : decode cX12_count 58 = .ok (.aload_n 0, 1) := by decide +kernel
theorem dX12_count_59 : decode cX12_count 59 = .ok (.getfield 190, 3) := by decide +kernel
theorem dX12_count_62 : decode cX12_count 62 = .ok (.ireturn, 1) := by decide +kernel
theorem dX12_count_63 : decode cX12_count 63 = .ok (.aload_n 0, 1) := by decide +kernel
theorem dX12_count_64 : decode cX12_count 64 = .ok (.getfield 193, 3) := by decide +kernel
theorem dX12_count_67 : decode cX12_count 67 = .ok (.ireturn, 1) := by decide +kernel
theorem dX12_count_68 : decode cX12_count 68 = .ok (.aload_n 0, 1) := by decide +kernel
theorem dX12_count_69 : decode cX12_count 69 = .ok (.getfield 206, 3) := by decide +kernel
theorem dX12_count_72 : decode cX12_count 72 = .ok (.ireturn, 1) := by decide +kernel
theorem dX12_count_73 : decode cX12_count 73 = .ok (.aload_n 0, 1) := by decide +kernel
theorem dX12_count_74 : decode cX12_count 74 = .ok (.getfield 342, 3) := by decide +kernel
theorem dX12_count_77 : decode cX12_count 77 = .ok (.ireturn, 1) := by decide +kernel
theorem dX12_count_78 : decode cX12_count 78 = .ok (.aload_n 0, 1) := by decide +kernel
theorem dX12_count_79 : decode cX12_count 79 = .ok (.getfield 167, 3) := by decide +kernel
theorem dX12_count_82 : decode cX12_count 82 = .ok (.ireturn, 1) := by decide +kernel
theorem dX12_count_83 : decode cX12_count 83 = .ok (.aload_n 0, 1) := by decide +kernel
theorem dX12_count_84 : decode cX12_count 84 = .ok (.getfield 164, 3) := by decide +kernel
theorem dX12_count_87 : decode cX12_count 87 = .ok (.ifCond .eq 7, 3) := by decide +kernel
theorem dX12_count_90 : decode cX12_count 90 = .ok (.iconst 1, 1) := by decide +kernel
theorem dX12_count_91 : decode cX12_count 91 = .ok (.goto 4, 3) := by decide +kernel
theorem dX12_count_94 : decode cX12_count 94 = .ok (.iconst 0, 1) := by decide +kernel
theorem dX12_count_95 : decode cX12_count 95 = .ok (.ireturn, 1) := by decide +kernel
theorem dX12_count_96 : decode cX12_count 96 = .ok (.bipush (-3), 2) := by decide +kernel
theorem dX12_count_98 : decode cX12_count 98 = .ok (.ireturn, 1) := by decide +kernel
set_option maxHeartbeats 4000000 in
set_option maxRecDepth 100000 in
theorem c_X12_count (l : Launch) {cs : Nat → ClassId} {ad : Nat → Nat} {A : Nat → Prop} {D : va_G} (hJ : hp_J SM ad A)   {h : hp_H} {a1 : Int32} {Q : Int32 → Prop} (hq : q_X12_count h a1 Q) : hp_Mi l yX12_count cX12_count 2 (some .int) rm_X12_count [.ref (ad 0), .int a1] SM cs ad A D h (fun r h' => Q r ∧ h' = h) := by
  refine hp_met (own := RX12) rfl (by decide) (Nat.le_of_ble_eq_true rfl) rfl (fun p e s m args below meth c Z E hZ hnm => ?_)
  refine hp_sub (lv' := [(0, .ref (ad 0)), (1, .int a1)]) [0, 1] rfl ?_
  unfold q_X12_count at hq
  refine hp_iload_n E 1 dX12_count_0 rfl rfl ?_
  by_cases c2 : a1 = (nI 0)
  · replace hq := hq.1 (c2)
    refine hp_tswV (off := 47) E (nI 0) 48 dX12_count_1 c2 (by decide) (by decide) (by decide) (by decide) ?_
    refine hp_aload_n E 0 dX12_count_48 rfl rfl ?_
    refine hp_gI E g_RX12_177 fM_0_0 dX12_count_49 ?_
    exact hp_iret E ⟨hq, rfl⟩ hZ dX12_count_52
  by_cases c3 : a1 = (nI 1)
  · replace hq := hq.2.1 (c3)
    refine hp_tswV (off := 52) E (nI 1) 53 dX12_count_1 c3 (by decide) (by decide) (by decide) (by decide) ?_
    refine hp_aload_n E 0 dX12_count_53 rfl rfl ?_
    refine hp_gI E g_RX12_183 fM_0_4 dX12_count_54 ?_
    exact hp_iret E ⟨hq, rfl⟩ hZ dX12_count_57
  by_cases c4 : a1 = (nI 2)
  · replace hq := hq.2.2.1 (c4)
    refine hp_tswV (off := 57) E (nI 2) 58 dX12_count_1 c4 (by decide) (by decide) (by decide) (by decide) ?_
    refine hp_aload_n E 0 dX12_count_58 rfl rfl ?_
    refine hp_gI E g_RX12_190 fM_0_11 dX12_count_59 ?_
    exact hp_iret E ⟨hq, rfl⟩ hZ dX12_count_62
  by_cases c5 : a1 = (nI 3)
  · replace hq := hq.2.2.2.1 (c5)
    refine hp_tswV (off := 62) E (nI 3) 63 dX12_count_1 c5 (by decide) (by decide) (by decide) (by decide) ?_
    refine hp_aload_n E 0 dX12_count_63 rfl rfl ?_
    refine hp_gI E g_RX12_193 fM_0_15 dX12_count_64 ?_
    exact hp_iret E ⟨hq, rfl⟩ hZ dX12_count_67
  by_cases c6 : a1 = (nI 4)
  · replace hq := hq.2.2.2.2.1 (c6)
    refine hp_tswV (off := 67) E (nI 4) 68 dX12_count_1 c6 (by decide) (by decide) (by decide) (by decide) ?_
    refine hp_aload_n E 0 dX12_count_68 rfl rfl ?_
    refine hp_gI E g_RX12_206 fM_0_21 dX12_count_69 ?_
    exact hp_iret E ⟨hq, rfl⟩ hZ dX12_count_72
  by_cases c7 : a1 = (nI 5)
  · replace hq := hq.2.2.2.2.2.1 (c7)
    refine hp_tswV (off := 72) E (nI 5) 73 dX12_count_1 c7 (by decide) (by decide) (by decide) (by decide) ?_
    refine hp_aload_n E 0 dX12_count_73 rfl rfl ?_
    refine hp_gI E g_RX12_342 fM_0_31 dX12_count_74 ?_
    exact hp_iret E ⟨hq, rfl⟩ hZ dX12_count_77
  by_cases c8 : a1 = (nI 6)
  · replace hq := hq.2.2.2.2.2.2.1 (c8)
    refine hp_tswV (off := 77) E (nI 6) 78 dX12_count_1 c8 (by decide) (by decide) (by decide) (by decide) ?_
    refine hp_aload_n E 0 dX12_count_78 rfl rfl ?_
    refine hp_gI E g_RX12_167 fM_0_35 dX12_count_79 ?_
    exact hp_iret E ⟨hq, rfl⟩ hZ dX12_count_82
  by_cases c9 : a1 = (nI 7)
  · replace hq := hq.2.2.2.2.2.2.2.1 (c9)
    refine hp_tswV (off := 82) E (nI 7) 83 dX12_count_1 c9 (by decide) (by decide) (by decide) (by decide) ?_
    refine hp_aload_n E 0 dX12_count_83 rfl rfl ?_
    refine hp_gI E g_RX12_164 fM_0_34 dX12_count_84 ?_
    refine hp_if_eq E 94 dX12_count_87 (by decide) (fun c1 => ?_) (fun c1 => ?_)
    · replace hq := hq.1 c1
      refine hp_iconst E (nI 0) dX12_count_94 (by decide) ?_
      exact hp_iret E ⟨hq, rfl⟩ hZ dX12_count_95
    · replace hq := hq.2 c1
      refine hp_iconst E (nI 1) dX12_count_90 (by decide) ?_
      refine hp_goto E 95 dX12_count_91 (by decide) ?_
      exact hp_iret E ⟨hq, rfl⟩ hZ dX12_count_95
  replace hq := hq.2.2.2.2.2.2.2.2 ⟨c2, c3, c4, c5, c6, c7, c8, c9⟩
  refine hp_tswD E 96 dX12_count_1 (hp_out (fun i h1 h2 => ?_)) (by decide) ?_
  · rcases (show i = 0 ∨ i = 1 ∨ i = 2 ∨ i = 3 ∨ i = 4 ∨ i = 5 ∨ i = 6 ∨ i = 7 by omega) with rfl | rfl | rfl | rfl | rfl | rfl | rfl | rfl
    · exact hp_nat c2 (by decide)
    · exact hp_nat c3 (by decide)
    · exact hp_nat c4 (by decide)
    · exact hp_nat c5 (by decide)
    · exact hp_nat c6 (by decide)
    · exact hp_nat c7 (by decide)
    · exact hp_nat c8 (by decide)
    · exact hp_nat c9 (by decide)
  · refine hp_bipush E (-3) dX12_count_96 (by decide) ?_
    exact hp_iret E ⟨hq, rfl⟩ hZ dX12_count_98
