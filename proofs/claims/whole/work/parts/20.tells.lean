/-! ===== the tellings, one by one: both answer alike, and hold alike ===== -/
theorem br0 {p : Prop} [Decidable p] {A B : Prop} (h1 : ¬ p → A) (h2 : p → B) : (bi p = 0 → A) ∧ (¬ bi p = 0 → B) := ⟨fun q => h1 (bi_0.mp q), fun q => h2 (Decidable.byContradiction (fun z => q (bi_0.mpr z)))⟩
/-- either nothing has changed, or all is told anew -/
def TT (b m b' m' : hp_H) : Prop := (b' = b ∧ m' = m) ∨ T1 b' m'
theorem nt_s {x : Int32} {b : Nat} (h : isn x b) (hb : b < 2 ^ 31 - 1) : x + nI 1 = nI (nt x + 1) ∧ nt (x + nI 1) = nt x + 1 := by
  obtain ⟨n, h1, h2, h3⟩ := isn_e h
  rw [h3, h2, nI_add, nt_nI (by omega)]
  exact ⟨rfl, rfl⟩
theorem nt_sp {x : Int32} {b : Nat} (h : isn x b) (hb : b < 2 ^ 31 - 1) : x + nI 1 - nI 1 = x := by
  obtain ⟨n, h1, h2, h3⟩ := isn_e h
  rw [h2, nI_add, pk_sub (by omega), Nat.add_sub_cancel]
theorem nt_ne {x : Int32} {b c : Nat} (h : isn x b) (q : ¬ x = nI c) : nt x ≠ c := fun e => q (by rw [h.1, e])
theorem isn_in {x : Int32} {b n : Nat} (h : isn x b) (hb : n < 2 ^ 31) (q : nt x < n) : vp_in x n := by rw [h.1]; exact nu_in q hb
theorem nt_def (x : Int32) : x.toNatClampNeg = nt x := rfl
/-- nothing but a cell of numbers has changed, or the field of a count -/
theorem GR0_mk {b m : hp_H} (g0 : b 35 0 = nI 0) (g1 : b 35 1 = nI 0) (g2 : b 35 2 = nI 0) (k0 : m 0 33 = nI 0) (k1 : m 0 34 = nI 0) (k2 : m 0 35 = nI 0) : GR0 b m := ⟨g0, g1, g2, k0, k1, k2⟩
set_option maxHeartbeats 1000000 in
theorem t_shared {b m : hp_H} (t : T0 b m) (a1 a2 a3 : Int32) : q_X11_shared b a1 a2 a3 (fun r b' => q_X12_shared m a1 a2 a3 (fun r' m' => r = r' ∧ TT b m b' m')) := by
  have ef := t.2.1.2.1
  have vs0 := t.1.1
  unfold q_X11_shared q_X12_shared
  rw [i_X10_fits]
  refine @br0 _ (dgs_dec a1 a2 a3) _ _ (fun c1 => ?_) (fun c1 => ?_)
  · dsimp only
    rw [i_X12_isValue]
    exact @br0 _ (dgs_dec a1 a2 a3) _ _ (fun _ => ⟨rfl, Or.inl ⟨rfl, rfl⟩⟩) (fun z => absurd z c1)
  · unfold q_X10_isFull
    refine ⟨nu_in (by decide) (by decide), ?_⟩
    rw [nI_clamp (by decide), ef.1, ef.2.2.2.2.2.2.1]
    refine ⟨fun c2 => ⟨fun z => absurd z (by decide), fun _ => ?_⟩, fun c2 => ⟨fun _ => ?_, fun z => absurd rfl z⟩⟩
    · dsimp only
      rw [i_X12_isValue]
      exact @br0 _ (dgs_dec a1 a2 a3) _ _ (fun z => absurd c1 z) (fun _ => ⟨fun _ => ⟨rfl, Or.inl ⟨rfl, rfl⟩⟩, fun z => absurd c2 z⟩)
    · refine s_es (fun b1 pb bV g0 g1 g2 g3 => ?_)
      have n6 : nt (m 0 0) < 6 := by have := vs0.1.2; have := nt_ne vs0.1 c2; omega
      unfold q_X10_add
      refine ⟨nu_in (by decide) (by decide), ?_⟩
      rintro v1 rfl
      refine ⟨nu_in (by decide) (by decide), ?_⟩
      rintro h2 rfl
      have e30 : b1 3 0 = m 0 0 := by rw [pb.2.1, ef.1]
      have e21 : b1 2 1 = nI 6 := by rw [pb.2.2.2.2.2.2.2.1, ef.2.2.2.2.2.2.1]
      rw [nI_clamp (by decide), e30]
      have ix : nI 0 * nI 6 + m 0 0 = m 0 0 := by rw [pk_mul, vs0.1.1, nI_add]; congr 1; omega
      have i6 : vp_in (m 0 0) 6 := isn_in vs0.1 (by decide) n6
      simp only [hp_at, Nat.reduceEqDiff, if_true, if_false, e21, ix]
      refine ⟨i6, ?_⟩
      rintro h3 rfl
      simp only [hp_at, Nat.reduceEqDiff, if_true, if_false, e21, ix]
      refine ⟨i6, ?_⟩
      rintro h4 rfl
      simp only [hp_at, Nat.reduceEqDiff, if_true, if_false, e21, ix]
      refine ⟨i6, ?_⟩
      intro b2 eb
      rw [i_X12_isValue]
      refine @br0 _ (dgs_dec a1 a2 a3) _ _ (fun z => absurd c1 z) (fun _ => ⟨fun z => absurd z c2, fun _ => ?_⟩)
      refine s_ov (fun m1 pm p9 k0 k1 k2 => ?_)
      have t1 : T0 b1 m1 := t.cg pb pm (by rw [bV]) (by rw [bV])
      obtain ⟨⟨vs, vr, vc, vx, vt, v30⟩, ⟨ep, ef, ee, en⟩, eo, vo, dv⟩ := t1
      rw [← pm.2.1] at i6 n6 eb ⊢
      refine ⟨i6, ?_⟩
      rintro m2 rfl
      simp only [hp_at, Nat.reduceEqDiff, if_true, if_false]
      refine ⟨i6, ?_⟩
      rintro m3 rfl
      simp only [hp_at, Nat.reduceEqDiff, if_true, if_false]
      refine ⟨i6, ?_⟩
      rintro m4 rfl
      simp only [hp_at, Nat.reduceEqDiff, if_true, if_false]
      intro m5 em
      have nn := nt_s vs.1 (by decide)
      have s0 : m5 0 0 = m1 0 0 + nI 1 := by rw [em]; simp [hp_at, upd]
      obtain ⟨e4, e5, e6, e13, e8, e9, e10, e11, e32, e33, e34, e17, e18, e19, e20, e22, e24, e25, e26, e27, e28, e29, e30, e31⟩ := ep
      obtain ⟨f3, f12, f1, f15, f23, f19, f2, f7⟩ := ef
      refine ⟨?_, Or.inr ⟨⟨⟨?_, ?_, ?_, ?_, ?_, ?_⟩, ⟨?_, ?_, ?_, ?_⟩, ?_, ?_, ?_⟩, ?_, ?_⟩⟩
      · rw [s0, nt_sp vs.1 (by decide)]
      · unfold VPs
        rw [s0, nn.2]
        refine ⟨by rw [nn.1]; exact isn_i (by omega) (by decide), fun i hi => ?_⟩
        rw [em]
        simp only [hp_at, Nat.reduceEqDiff, if_true, if_false, upd, nt_def]
        by_cases e : i = nt (m1 0 0)
        · simp only [e, if_true]
          exact dgs_v c1
        · simp only [e, if_false]
          exact vs.2 i (by omega)
      · exact VPr_cg (by simp [em, hp_at]) (by simp [em, hp_at]) (by simp [em, hp_at]) (by simp [em, hp_at]) (by simp [em, hp_at]) (by simp [em, hp_at, upd]) vr
      · exact VPc_cg (by simp [em, hp_at]) (by simp [em, hp_at]) (by simp [em, hp_at]) (by simp [em, hp_at, upd]) vc
      · exact VPx_mono (by simp [em, hp_at]) (by simp [em, hp_at]) (by simp [em, hp_at]) (by simp [em, hp_at]) (by simp [em, hp_at]) (by simp [em, hp_at, upd]) (by rw [s0, nn.2]; omega) (by simp [em, hp_at, upd]) (by simp [em, hp_at, upd]) (by simp [em, hp_at]) (by simp [em, hp_at]) vx
      · exact VPt_mono (by simp [em, hp_at]) (by simp [em, hp_at]) (by simp [em, hp_at]) (by simp [em, hp_at]) (by simp [em, hp_at]) (by simp [em, hp_at]) (by simp [em, hp_at]) (by simp [em, hp_at]) (by simp [em, hp_at, upd]) (by rw [s0, nn.2]; omega) (by simp [em, hp_at, upd]) (by simp [em, hp_at, upd]) (by simp [em, hp_at, upd]) (by simp [em, hp_at]) vt
      · simpa [em, hp_at, upd] using v30
      · simp only [EQp, eb, em, hp_at, Nat.reduceEqDiff, if_true, if_false, e4, e5, e6, e13, e8, e9, e10, e11, e32, e33, e34, e17, e18, e19, e20, e22, e24, e25, e26, e27, e28, e29, e30, e31, and_self]
      · simp [EQf, eb, em, hp_at, upd, f12, f1, f15, f23, f19, f2, f7]
      · simpa [EQe, eb, em, hp_at] using ee
      · simpa [EQn, eb, em, hp_at, upd] using en
      · simpa [EQo, eb, em, hp_at, upd] using eo
      · exact VPo_mono (by simp [em, hp_at]) (by simp [em, hp_at, upd]) (by simp [em, hp_at, upd]) (by simp [em, hp_at]) vo
      · simpa [DV0, eb, hp_at, hp_V] using dv
      · exact GR0_mk (by simp [eb, hp_at, g0]) (by simp [eb, hp_at, g1]) (by simp [eb, hp_at, g2]) (by simp [em, hp_at, upd, k0]) (by simp [em, hp_at, upd, k1]) (by simp [em, hp_at, upd, k2])
      · simp [eb, hp_at, g3]
theorem nu_rg {a : Int32} {lo hi : Nat} (hh : hi < 2 ^ 31) (h1 : ¬ a < nI lo) (h2 : a ≤ nI hi) (hl : lo ≤ hi) : ∃ k, lo ≤ k ∧ k ≤ hi ∧ a = nI k := by
  have h0 : ¬ a < 0 := by
    simp only [Int32.lt_iff_toInt_lt, Int32.le_iff_toInt_le, nI_toInt hh, nI_toInt (show lo < 2 ^ 31 by omega), show (0 : Int32).toInt = 0 by decide] at h1 h2 ⊢
    omega
  obtain ⟨k, k1, rfl⟩ := nI_of h0
  rw [nI_ltI (by omega) (by omega)] at h1
  rw [nI_leI (by omega) (by omega)] at h2
  exact ⟨k, by omega, by omega, rfl⟩
set_option maxHeartbeats 1000000 in
theorem t_role {b m : hp_H} (t : T0 b m) (a1 : Int32) : q_X11_role b a1 (fun r b' => q_X12_role m a1 (fun r' m' => r = r' ∧ TT b m b' m')) := by
  have ef := t.2.1.2.1
  have vr0 := t.1.2.1
  unfold q_X11_role q_X12_role
  dsimp only
  refine ⟨fun c1 => ?_, fun c1 => ⟨fun c2 => ?_, fun c2 => ?_⟩⟩
  · rw [i_X12_in]
    exact br0 (fun _ => ⟨rfl, Or.inl ⟨rfl, rfl⟩⟩) (fun z => absurd c1 z.1)
  · rw [ef.2.1]
    have cc : ¬ a1 < nI 1 ∧ ¬ nI 3 < a1 := ⟨c1, lt_le.mpr c2⟩
    refine ⟨fun c3 => ?_, fun c3 => ?_⟩
    · rw [i_X12_in]
      exact br0 (fun z => absurd cc z) (fun _ => ⟨fun _ => ⟨rfl, Or.inl ⟨rfl, rfl⟩⟩, fun z => absurd c3 z⟩)
    · refine s_es (fun b1 pb bV g0 g1 g2 g3 => ?_)
      have n3 : nt (m 0 4) < 3 := by have := vr0.1.2; have := nt_ne vr0.1 c3; omega
      have i3 : vp_in (m 0 4) 3 := isn_in vr0.1 (by decide) n3
      obtain ⟨k, q1, q2, q3⟩ := nu_rg (by decide) c1 c2 (by decide)
      unfold q_X6_add
      have e12 : b1 12 1 = m 0 4 := by rw [pb.2.2.1, ef.2.1]
      rw [e12]
      refine ⟨i3, ?_⟩
      rintro h1 rfl
      simp only [hp_at, Nat.reduceEqDiff, if_false, e12]
      rintro v2 rfl b2 eb
      rw [i_X12_in]
      refine br0 (fun z => absurd cc z) (fun _ => ⟨fun z => absurd z c3, fun _ => ?_⟩)
      refine s_ov (fun m1 pm p9 k0 k1 k2 => ?_)
      have t1 : T0 b1 m1 := t.cg pb pm (by rw [bV]) (by rw [bV])
      obtain ⟨⟨vs, vr, vc, vx, vt, v30⟩, ⟨ep, ef, ee, en⟩, eo, vo, dv⟩ := t1
      obtain ⟨e4, e5, e6, e13, e8, e9, e10, e11, e32, e33, e34, e17, e18, e19, e20, e22, e24, e25, e26, e27, e28, e29, e30, e31⟩ := ep
      obtain ⟨f3, f12, f1, f15, f23, f19, f2, f7⟩ := ef
      rw [← pm.2.2.1] at i3 n3 eb ⊢
      refine ⟨i3, ?_⟩
      rintro m2 rfl
      simp only [hp_at, Nat.reduceEqDiff, if_true, if_false]
      intro m5 em
      have nn := nt_s vr.1 (by decide)
      have s0 : m5 0 4 = m1 0 4 + nI 1 := by rw [em]; simp [hp_at, upd]
      refine ⟨?_, Or.inr ⟨⟨⟨?_, ?_, ?_, ?_, ?_, ?_⟩, ⟨?_, ?_, ?_, ?_⟩, ?_, ?_, ?_⟩, ?_, ?_⟩⟩
      · rw [s0, nt_sp vr.1 (by decide)]
      · exact VPs_cg (by simp [em, hp_at]) (by simp [em, hp_at]) (by simp [em, hp_at]) (by simp [em, hp_at, upd]) vs
      · unfold VPr
        rw [s0, nn.2]
        refine ⟨by rw [nn.1]; exact isn_i (by omega) (by decide), ?_, fun r hr => ?_, ?_, ?_⟩
        · simpa [em, hp_at] using vr.2.1
        · rw [em]
          simp only [hp_at, Nat.reduceEqDiff, if_true, if_false, upd, nt_def]
          by_cases e : r = nt (m1 0 4)
          · simp only [e, if_true, q3, nt_nI (show k < 2 ^ 31 by omega)]
            exact ⟨isn_i q2 (by decide), q1⟩
          · simp only [e, if_false]
            exact vr.2.2.1 r (by omega)
        · intro r h1 h2
          have := vr.2.2.2.1 r (by omega) h2
          simpa [em, hp_at] using this
        · simpa [em, hp_at] using vr.2.2.2.2
      · exact VPc_cg (by simp [em, hp_at]) (by simp [em, hp_at]) (by simp [em, hp_at]) (by simp [em, hp_at, upd]) vc
      · refine VPx_mono (by simp [em, hp_at]) (by simp [em, hp_at]) (by simp [em, hp_at]) (by simp [em, hp_at]) (by simp [em, hp_at]) (by simp [em, hp_at, upd]) (by simp [em, hp_at, upd]) (by rw [s0, nn.2]; omega) (by simp [em, hp_at, upd]) (fun r hr => ?_) (by simp [em, hp_at]) vx
        rw [em]
        simp only [hp_at, Nat.reduceEqDiff, if_true, if_false, upd, nt_def]
        rw [if_neg (by omega)]
        exact Nat.le_refl _
      · exact VPt_mono (by simp [em, hp_at]) (by simp [em, hp_at]) (by simp [em, hp_at]) (by simp [em, hp_at]) (by simp [em, hp_at]) (by simp [em, hp_at]) (by simp [em, hp_at]) (by simp [em, hp_at]) (by simp [em, hp_at, upd]) (by simp [em, hp_at, upd]) (by rw [s0, nn.2]; omega) (by simp [em, hp_at, upd]) (by simp [em, hp_at, upd]) (by simp [em, hp_at]) vt
      · simpa [em, hp_at, upd] using v30
      · simp only [EQp, eb, em, hp_at, Nat.reduceEqDiff, if_true, if_false, e4, e5, e6, e13, e8, e9, e10, e11, e32, e33, e34, e17, e18, e19, e20, e22, e24, e25, e26, e27, e28, e29, e30, e31, and_self]
      · simp [EQf, eb, em, hp_at, upd, f3, f12, f1, f15, f23, f19, f2, f7]
      · simpa [EQe, eb, em, hp_at] using ee
      · simpa [EQn, eb, em, hp_at, upd] using en
      · simpa [EQo, eb, em, hp_at, upd] using eo
      · exact VPo_mono (by simp [em, hp_at]) (by simp [em, hp_at, upd]) (by simp [em, hp_at, upd]) (by simp [em, hp_at]) vo
      · simpa [DV0, eb, hp_at, hp_V] using dv
      · exact GR0_mk (by simp [eb, hp_at, g0]) (by simp [eb, hp_at, g1]) (by simp [eb, hp_at, g2]) (by simp [em, hp_at, upd, k0]) (by simp [em, hp_at, upd, k1]) (by simp [em, hp_at, upd, k2])
      · simp [eb, hp_at, g3]
  · rw [i_X12_in]
    exact br0 (fun _ => ⟨rfl, Or.inl ⟨rfl, rfl⟩⟩) (fun z => absurd (lt_le.mp z.2) c2)
