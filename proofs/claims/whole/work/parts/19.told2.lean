theorem VPs_cg {m m' : hp_H} (h1 : m' 1 = m 1) (h2 : m' 2 = m 2) (h3 : m' 3 = m 3) (h0 : m' 0 0 = m 0 0) (v : VPs m) : VPs m' := by
  simp only [VPs, h1, h2, h3, h0]; exact v
theorem VPr_cg {m m' : hp_H} (h4 : m' 4 = m 4) (h5 : m' 5 = m 5) (h6 : m' 6 = m 6) (h7 : m' 7 = m 7) (h8 : m' 8 = m 8) (h0 : m' 0 4 = m 0 4) (v : VPr m) : VPr m' := by
  simp only [VPr, h4, h5, h6, h7, h8, h0]; exact v
theorem VPc_cg {m m' : hp_H} (h1 : m' 10 = m 10) (h2 : m' 11 = m 11) (h3 : m' 12 = m 12) (h0 : m' 0 11 = m 0 11) (v : VPc m) : VPc m' := by
  simp only [VPc, h1, h2, h3, h0]; exact v
theorem VPx1_mono {m m' : hp_H} {e : Nat} (h13 : m' 13 e = m 13 e) (h14 : m' 14 e = m 14 e) (h15 : m' 15 e = m 15 e) (h16 : m' 16 e = m 16 e) (h17 : ∀ i, i ≤ e → m' 17 i = m 17 i) (c0 : nt (m 0 0) ≤ nt (m' 0 0)) (c4 : nt (m 0 4) ≤ nt (m' 0 4)) (c11 : nt (m 0 11) ≤ nt (m' 0 11)) (h4 : ∀ r, r < nt (m 0 4) → nt (m 4 r) ≤ nt (m' 4 r)) (h5 : ∀ r, r < 3 → nt (m 5 r) ≤ nt (m' 5 r)) (v : VPx1 m e) : VPx1 m' e := by
  obtain ⟨a1, a2, a3, a4, a5, a6, a7, a8, a9, a10⟩ := v
  unfold VPx1
  rw [h13, h14, h15, h16, h17 e (Nat.le_refl _)]
  refine ⟨a1, a2, fun q => ⟨(a3 q).1, Nat.lt_of_lt_of_le (a3 q).2 c0⟩, a4, fun q => ⟨(a5 q).1, Nat.lt_of_lt_of_le (a5 q).2.1 c4, (a5 q).2.2⟩, fun q => ⟨(a6 q).1, Nat.lt_of_lt_of_le (a6 q).2 c11⟩, fun q => ?_, a8, a9, fun q => ?_⟩
  · obtain ⟨z1, z2, z3, z4, z5, z6⟩ := a7 q
    exact ⟨z1, Nat.lt_of_lt_of_le z2 c4, z3, Nat.lt_of_lt_of_le z4 (h4 _ z2), z5, Nat.lt_of_lt_of_le z6 (h5 _ (by have := z1.2; omega))⟩
  · obtain ⟨z1, z2, z3, z4⟩ := a10 q
    refine ⟨z1, z2, fun y => ?_, fun y1 y2 => ?_⟩
    · rw [h17 _ (Nat.le_of_lt (a8 y).2)]; exact z3 y
    · rw [h17 _ (Nat.le_of_lt (a9 y1 y2).2)]; exact z4 y1 y2
theorem VPx_mono {m m' : hp_H} (h13 : m' 13 = m 13) (h14 : m' 14 = m 14) (h15 : m' 15 = m 15) (h16 : m' 16 = m 16) (h17 : m' 17 = m 17) (c15 : m' 0 15 = m 0 15) (c0 : nt (m 0 0) ≤ nt (m' 0 0)) (c4 : nt (m 0 4) ≤ nt (m' 0 4)) (c11 : nt (m 0 11) ≤ nt (m' 0 11)) (h4 : ∀ r, r < nt (m 0 4) → nt (m 4 r) ≤ nt (m' 4 r)) (h5 : ∀ r, r < 3 → nt (m 5 r) ≤ nt (m' 5 r)) (v : VPx m) : VPx m' := by
  unfold VPx
  rw [c15]
  exact ⟨v.1, fun e he => VPx1_mono (by rw [h13]) (by rw [h14]) (by rw [h15]) (by rw [h16]) (fun i _ => by rw [h17]) c0 c4 c11 h4 h5 (v.2 e he)⟩
theorem VPa_mono {m m' : hp_H} {s i : Nat} (h23 : m' 23 (4 * s + i) = m 23 (4 * s + i)) (h24 : m' 24 (4 * s + i) = m 24 (4 * s + i)) (h25 : m' 25 (4 * s + i) = m 25 (4 * s + i)) (h18 : m' 18 s = m 18 s) (c0 : nt (m 0 0) ≤ nt (m' 0 0)) (c11 : nt (m 0 11) ≤ nt (m' 0 11)) (c15 : nt (m 0 15) ≤ nt (m' 0 15)) (h5 : nt (m 5 (nt (m 18 s))) ≤ nt (m' 5 (nt (m 18 s)))) (v : VPa m s i) : VPa m' s i := by
  obtain ⟨a1, a2, a3, a4, a5, a6⟩ := v
  unfold VPa
  rw [h23, h24, h25, h18]
  exact ⟨a1, fun q => ⟨(a2 q).1, Nat.lt_of_lt_of_le (a2 q).2 c0⟩, fun q => ⟨(a3 q).1, Nat.lt_of_lt_of_le (a3 q).2 h5⟩, fun q => ⟨(a4 q).1, Nat.lt_of_lt_of_le (a4 q).2 c11⟩, fun q => ⟨(a5 q).1, Nat.lt_of_lt_of_le (a5 q).2 c15⟩, fun q => ⟨(a6 q).1, Nat.lt_of_lt_of_le (a6 q).2 h5⟩⟩
theorem VPt1_mono {m m' : hp_H} {s : Nat} (h18 : m' 18 s = m 18 s) (h19 : m' 19 s = m 19 s) (h20 : m' 20 s = m 20 s) (h21 : m' 21 s = m 21 s) (h22 : m' 22 s = m 22 s) (h23 : ∀ i, i < nt (m 22 s) → m' 23 (4 * s + i) = m 23 (4 * s + i)) (h24 : ∀ i, i < nt (m 22 s) → m' 24 (4 * s + i) = m 24 (4 * s + i)) (h25 : ∀ i, i < nt (m 22 s) → m' 25 (4 * s + i) = m 25 (4 * s + i)) (c0 : nt (m 0 0) ≤ nt (m' 0 0)) (c4 : nt (m 0 4) ≤ nt (m' 0 4)) (c11 : nt (m 0 11) ≤ nt (m' 0 11)) (c15 : nt (m 0 15) ≤ nt (m' 0 15)) (h5 : ∀ r, r < 3 → nt (m 5 r) ≤ nt (m' 5 r)) (v : VPt1 m s) : VPt1 m' s := by
  obtain ⟨a1, a2, a3, a4, a5, a6, a7⟩ := v
  unfold VPt1
  rw [h18, h19, h20, h21, h22]
  refine ⟨a1, Nat.lt_of_lt_of_le a2 c4, a3, a4, ?_, fun i hi => VPa_mono (h23 i hi) (h24 i hi) (h25 i hi) h18 c0 c11 c15 (h5 _ (by have := a1.2; omega)) (a6 i hi), fun i j hi hj => ?_⟩
  · rcases a5 with q | q
    · exact Or.inl q
    · exact Or.inr ⟨q.1, Nat.lt_of_lt_of_le q.2 c15⟩
  · rw [h23 i hi, h23 j hj, h24 i hi, h24 j hj]
    exact a7 i j hi hj
theorem VPt_mono {m m' : hp_H} (h18 : m' 18 = m 18) (h19 : m' 19 = m 19) (h20 : m' 20 = m 20) (h21 : m' 21 = m 21) (h22 : m' 22 = m 22) (h23 : m' 23 = m 23) (h24 : m' 24 = m 24) (h25 : m' 25 = m 25) (c21 : m' 0 21 = m 0 21) (c0 : nt (m 0 0) ≤ nt (m' 0 0)) (c4 : nt (m 0 4) ≤ nt (m' 0 4)) (c11 : nt (m 0 11) ≤ nt (m' 0 11)) (c15 : nt (m 0 15) ≤ nt (m' 0 15)) (h5 : ∀ r, r < 3 → nt (m 5 r) ≤ nt (m' 5 r)) (v : VPt m) : VPt m' := by
  unfold VPt
  rw [c21, h22]
  exact ⟨v.1, v.2.1, v.2.2.1, fun s hs => VPt1_mono (by rw [h18]) (by rw [h19]) (by rw [h20]) (by rw [h21]) (by rw [h22]) (fun i _ => by rw [h23]) (fun i _ => by rw [h24]) (fun i _ => by rw [h25]) c0 c4 c11 c15 h5 (v.2.2.2 s hs)⟩
theorem VPo_mono {m m' : hp_H} (h26 : m' 26 = m 26) (c31 : m' 0 31 = m 0 31) (c15 : nt (m 0 15) ≤ nt (m' 0 15)) (h17 : ∀ e, e < nt (m 0 15) → m' 17 e = m 17 e) (v : VPo m) : VPo m' := by
  unfold VPo
  rw [h26, c31]
  refine ⟨v.1, fun k hk => ?_⟩
  obtain ⟨z1, z2, z3⟩ := v.2 k hk
  exact ⟨z1, Nat.lt_of_lt_of_le z2 c15, by rw [h17 _ z2]; exact z3⟩
def dgs (a b c : Int32) : Prop := ¬ a < 0 ∧ ¬ nI 9 < b ∧ ¬ c < a ∧ ¬ b < c
def dgs_dec (a b c : Int32) : Decidable (dgs a b c) := by unfold dgs; infer_instance
theorem i_X10_fits {a b c : Int32} {Q : Int32 → Prop} : q_X10_fits a b c Q ↔ Q (@bi (dgs a b c) (dgs_dec a b c)) := by
  unfold q_X10_fits
  by_cases h : dgs a b c
  · rw [@bi_t _ (dgs_dec a b c) h]
    obtain ⟨h1, h2, h3, h4⟩ := h
    exact ⟨fun q => ((((q.2 h1).2 h2).2 h3).2 h4), fun q => ⟨fun z => absurd z h1, fun _ => ⟨fun z => absurd z h2, fun _ => ⟨fun z => absurd z h3, fun _ => ⟨fun z => absurd z h4, fun _ => q⟩⟩⟩⟩⟩
  · rw [@bi_f _ (dgs_dec a b c) h]
    refine ⟨fun q => ?_, fun q => ⟨fun _ => q, fun z1 => ⟨fun _ => q, fun z2 => ⟨fun _ => q, fun z3 => ⟨fun _ => q, fun z4 => absurd ⟨z1, z2, z3, z4⟩ h⟩⟩⟩⟩⟩
    by_cases h1 : a < 0
    · exact q.1 h1
    · by_cases h2 : nI 9 < b
      · exact (q.2 h1).1 h2
      · by_cases h3 : c < a
        · exact ((q.2 h1).2 h2).1 h3
        · by_cases h4 : b < c
          · exact (((q.2 h1).2 h2).2 h3).1 h4
          · exact absurd ⟨h1, h2, h3, h4⟩ h
theorem i_X12_isValue {a b c : Int32} {Q : Int32 → Prop} : q_X12_isValue a b c Q ↔ Q (@bi (dgs a b c) (dgs_dec a b c)) := by
  unfold q_X12_isValue
  rw [i_X12_in, bi_0]
  rw [i_X12_in, bi_0]
  rw [i_X12_in, bi_0]
  have n9 : (nI 9).toInt = 9 := by decide
  have n0 : (nI 0).toInt = 0 := by decide
  have z0 : (0 : Int32).toInt = 0 := by decide
  by_cases h : dgs a b c
  · rw [@bi_t _ (dgs_dec a b c) h]
    unfold dgs at h
    simp only [Int32.lt_iff_toInt_lt, n9, n0, z0] at h ⊢
    have c1 : ¬ a.toInt < 0 ∧ ¬ 9 < a.toInt := by omega
    have c2 : ¬ b.toInt < a.toInt ∧ ¬ 9 < b.toInt := by omega
    have c3 : ¬ c.toInt < a.toInt ∧ ¬ b.toInt < c.toInt := by omega
    exact ⟨fun q => ((q.2 (fun z => z c1)).2 (fun z => z c2)).2 (fun z => z c3), fun q => ⟨fun z => absurd c1 z, fun _ => ⟨fun z => absurd c2 z, fun _ => ⟨fun z => absurd c3 z, fun _ => q⟩⟩⟩⟩
  · rw [@bi_f _ (dgs_dec a b c) h]
    unfold dgs at h
    simp only [Int32.lt_iff_toInt_lt, n9, n0, z0] at h ⊢
    refine ⟨fun q => ?_, fun q => ⟨fun _ => q, fun z1 => ⟨fun _ => q, fun z2 => ⟨fun _ => q, fun z3 => ?_⟩⟩⟩⟩
    · by_cases c1 : ¬ a.toInt < 0 ∧ ¬ 9 < a.toInt
      · by_cases c2 : ¬ b.toInt < a.toInt ∧ ¬ 9 < b.toInt
        · by_cases c3 : ¬ c.toInt < a.toInt ∧ ¬ b.toInt < c.toInt
          · omega
          · exact ((q.2 (fun z => z c1)).2 (fun z => z c2)).1 c3
        · exact (q.2 (fun z => z c1)).1 c2
      · exact q.1 c1
    · omega
theorem dgs_v {a b c : Int32} (h : dgs a b c) : VPd a b c := by
  obtain ⟨h1, h2, h3, h4⟩ := h
  obtain ⟨x, x1, rfl⟩ := nI_of h1
  have hc : ¬ c < 0 := by
    simp only [Int32.lt_iff_toInt_lt, nI_toInt x1, show (0 : Int32).toInt = 0 by decide] at h3 ⊢
    omega
  obtain ⟨z, z1, rfl⟩ := nI_of hc
  have hb : ¬ b < 0 := by
    simp only [Int32.lt_iff_toInt_lt, nI_toInt z1, show (0 : Int32).toInt = 0 by decide] at h4 ⊢
    omega
  obtain ⟨y, y1, rfl⟩ := nI_of hb
  rw [nI_ltI (by omega) (by omega)] at h2 h3 h4
  unfold VPd
  rw [nt_nI x1, nt_nI y1, nt_nI z1]
  exact ⟨isn_i (by omega) (by decide), isn_i (by omega) (by decide), isn_i (by omega) (by decide), by omega, by omega⟩
