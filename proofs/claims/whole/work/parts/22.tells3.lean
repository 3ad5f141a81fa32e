/-! ===== tellings: alike, step ===== -/
set_option maxHeartbeats 1000000 in
theorem t_alike {b m : hp_H} (t : T0 b m) (a1 : Int32) (z1 : hp_bz a1) : q_X11_alike b a1 (fun r b' => q_X12_alike m a1 (fun r' m' => r = r' ∧ TT b m b' m')) := by
  have ef := t.2.1.2.1
  have v300 := t.1.2.2.2.2.2
  unfold q_X11_alike q_X12_alike
  refine s_es (fun b1 pb bV g0 g1 g2 g3 => ?_)
  have e19 : b1 1 9 = m 0 30 := by rw [pb.2.2.2.2.2.2.1, ef.2.2.2.2.2.1]
  rw [e19]
  have fin : ∀ x : Int32, ∀ b2, b2 = hp_up b1 1 9 a1 → q_X12_over m (fun h4 => hp_bz a1 ∧ ∀ h5 : hp_H, h5 = hp_up h4 0 30 a1 → x = x ∧ TT b m b2 h5) := by
    intro x b2 eb
    refine s_ov (fun m1 pm p9 k0 k1 k2 => ⟨z1, ?_⟩)
    intro m5 em
    have t1 : T0 b1 m1 := t.cg pb pm (by rw [bV]) (by rw [bV])
    obtain ⟨⟨vs, vr, vc, vx, vt, v30⟩, ⟨ep, ef, ee, en⟩, eo, vo, dv⟩ := t1
    obtain ⟨e4, e5, e6, e13, e8, e9, e10, e11, e32, e33, e34, e17, e18, e19, e20, e22, e24, e25, e26, e27, e28, e29, e30, e31⟩ := ep
    obtain ⟨f3, f12, f1, f15, f23, f19, f2, f7⟩ := ef
    refine ⟨?_, Or.inr ⟨⟨⟨?_, ?_, ?_, ?_, ?_, ?_⟩, ⟨?_, ?_, ?_, ?_⟩, ?_, ?_, ?_⟩, ?_, ?_⟩⟩
    · rfl
    · exact VPs_cg (by simp [em, hp_at]) (by simp [em, hp_at]) (by simp [em, hp_at]) (by simp [em, hp_at, upd]) vs
    · exact VPr_cg (by simp [em, hp_at]) (by simp [em, hp_at]) (by simp [em, hp_at]) (by simp [em, hp_at]) (by simp [em, hp_at]) (by simp [em, hp_at, upd]) vr
    · exact VPc_cg (by simp [em, hp_at]) (by simp [em, hp_at]) (by simp [em, hp_at]) (by simp [em, hp_at, upd]) vc
    · exact VPx_mono (by simp [em, hp_at]) (by simp [em, hp_at]) (by simp [em, hp_at]) (by simp [em, hp_at]) (by simp [em, hp_at]) (by simp [em, hp_at, upd]) (by simp [em, hp_at, upd]) (by simp [em, hp_at, upd]) (by simp [em, hp_at, upd]) (by simp [em, hp_at]) (by simp [em, hp_at]) vx
    · exact VPt_mono (by simp [em, hp_at]) (by simp [em, hp_at]) (by simp [em, hp_at]) (by simp [em, hp_at]) (by simp [em, hp_at]) (by simp [em, hp_at]) (by simp [em, hp_at]) (by simp [em, hp_at]) (by simp [em, hp_at, upd]) (by simp [em, hp_at, upd]) (by simp [em, hp_at, upd]) (by simp [em, hp_at, upd]) (by simp [em, hp_at, upd]) (by simp [em, hp_at]) vt
    · simpa [em, hp_at, upd] using z1
    · simp only [EQp, eb, em, hp_at, Nat.reduceEqDiff, if_true, if_false, e4, e5, e6, e13, e8, e9, e10, e11, e32, e33, e34, e17, e18, e19, e20, e22, e24, e25, e26, e27, e28, e29, e30, e31, and_self]
    · simp [EQf, eb, em, hp_at, upd, f3, f12, f1, f15, f23, f19, f2, f7]
    · simpa [EQe, eb, em, hp_at] using ee
    · simpa [EQn, eb, em, hp_at, upd] using en
    · simpa [EQo, eb, em, hp_at, upd] using eo
    · exact VPo_mono (by simp [em, hp_at]) (by simp [em, hp_at, upd]) (by simp [em, hp_at, upd]) (by simp [em, hp_at]) vo
    · simpa [DV0, eb, hp_at, hp_V] using dv
    · exact GR0_mk (by simp [eb, hp_at, g0]) (by simp [eb, hp_at, g1]) (by simp [eb, hp_at, g2]) (by simp [em, hp_at, upd, k0]) (by simp [em, hp_at, upd, k1]) (by simp [em, hp_at, upd, k2])
    · simp [eb, hp_at, g3]
  unfold q_X11_asNumber
  refine ⟨fun c => ⟨z1, ?_⟩, fun c => ⟨z1, ?_⟩⟩
  · intro b2 eb
    exact hp_jn1_i ⟨fun _ => fin (nI 0) b2 eb, fun z => absurd c z⟩
  · intro b2 eb
    exact hp_jn1_i ⟨fun z => absurd z c, fun _ => fin (nI 1) b2 eb⟩
set_option maxHeartbeats 1000000 in
theorem t_step {b m : hp_H} (t : T0 b m) (a1 a2 a3 a4 : Int32) : q_X11_step b a1 a2 a3 a4 (fun r b' => q_X12_step m a1 a2 a3 a4 (fun r' m' => r = r' ∧ TT b m b' m')) := by
  have ef := t.2.1.2.1
  have vr0 := t.1.2.1
  have vx0 := t.1.2.2.2.1
  have vt0 := t.1.2.2.2.2.1
  unfold q_X11_step q_X12_step
  dsimp only
  rw [i_X6_has, ef.2.1]
  refine br0 (fun c1 => ?_) (fun c1 => ?_)
  · rw [i_X12_isRole, bi_in vr0.1 (by decide)]
    exact br0 (fun _ => ⟨rfl, Or.inl ⟨rfl, rfl⟩⟩) (fun z => absurd z c1)
  obtain ⟨r, hr, rfl⟩ := nu_get vr0.1 (by decide) c1
  have r3 : r < 3 := by have := vr0.1.2; omega
  refine ⟨a4 = -1 ∨ (¬ a4 < 0 ∧ ¬ m 0 15 ≤ a4), ⟨fun c => Or.inl c, fun c => ?_⟩, fun c2 => ?_⟩
  · rw [i_X1_has, ef.2.2.2.1]
    refine br0 (fun c3 => ?_) (fun c3 => Or.inr c3)
    rw [i_X12_isRole, bi_in vr0.1 (by decide)]
    refine br0 (fun z => absurd c1 z) (fun _ => ⟨False, ⟨fun z => c z, fun _ => ?_⟩, False.elim⟩)
    rw [i_X12_isExpr, bi_in vx0.1 (by decide)]
    exact br0 (fun _ => ⟨rfl, Or.inl ⟨rfl, rfl⟩⟩) (fun z => absurd z c3)
  -- the reference, as far as the two places
  have mr : ∀ {P : Prop} {A B : Prop}, P → ((bi (¬ nI r < nI 0 ∧ ¬ m 0 4 - nI 1 < nI r) = 0 → A) ∧ (¬ bi (¬ nI r < nI 0 ∧ ¬ m 0 4 - nI 1 < nI r) = 0 → hp_jn0 (fun K4 => (a4 = -1 → K4) ∧ (¬ a4 = -1 → q_X12_isExpr m a4 (fun r5 => (r5 = 0 → B) ∧ (¬ r5 = 0 → K4)))) P)) := by
    intro P A B hP
    rw [bi_in vr0.1 (by decide)]
    refine br0 (fun z => absurd c1 z) (fun _ => ⟨True, ⟨fun _ => trivial, fun c => ?_⟩, fun _ => hP⟩)
    rw [i_X12_isExpr, bi_in vx0.1 (by decide)]
    exact br0 (fun z => absurd (c2.resolve_left c) z) (fun _ => trivial)
  rw [i_X11_isDigit]
  refine br0 (fun c3 => ?_) (fun c3 => ?_)
  · rw [i_X12_isRole]
    refine mr ?_
    rw [i_X12_in, nI_0]
    exact br0 (fun _ => ⟨rfl, Or.inl ⟨rfl, rfl⟩⟩) (fun z => absurd z c3)
  rw [i_X11_isDigit]
  refine br0 (fun c4 => ?_) (fun c4 => ?_)
  · rw [i_X12_isRole]
    refine mr ?_
    rw [i_X12_in, nI_0]
    refine br0 (fun z => absurd c3 z) (fun _ => ?_)
    rw [i_X12_in]
    exact br0 (fun _ => ⟨rfl, Or.inl ⟨rfl, rfl⟩⟩) (fun z => absurd z c4)
  rw [ef.2.2.2.2.1]
  refine ⟨fun c5 => ?_, fun c5 => ?_⟩
  · rw [i_X12_isRole]
    refine mr ?_
    rw [i_X12_in, nI_0]
    refine br0 (fun z => absurd c3 z) (fun _ => ?_)
    rw [i_X12_in]
    exact br0 (fun z => absurd c4 z) (fun _ => ⟨fun _ => ⟨rfl, Or.inl ⟨rfl, rfl⟩⟩, fun z => absurd c5 z⟩)
  · refine s_es (fun b1 pb bV g0 g1 g2 g3 => ?_)
    have n24 : nt (m 0 21) < 24 := by have := vt0.1.2; have := nt_ne vt0.1 c5; omega
    have i24 : vp_in (m 0 21) 24 := isn_in vt0.1 (by decide) n24
    obtain ⟨x, x1, rfl⟩ := nu_dg c3
    obtain ⟨y, y1, rfl⟩ := nu_dg c4
    unfold q_X9_add
    have e23 : b1 23 8 = m 0 21 := by rw [pb.2.2.2.2.2.1, ef.2.2.2.2.1]
    rw [e23]
    refine ⟨i24, ?_⟩
    rintro h1 rfl
    simp only [hp_at, Nat.reduceEqDiff, if_true, if_false, e23]
    refine ⟨i24, ?_⟩
    rintro h2 rfl
    simp only [hp_at, Nat.reduceEqDiff, if_true, if_false, e23]
    refine ⟨i24, ?_⟩
    rintro h3 rfl
    simp only [hp_at, Nat.reduceEqDiff, if_true, if_false, e23]
    refine ⟨i24, ?_⟩
    rintro h4 rfl
    simp only [hp_at, Nat.reduceEqDiff, if_true, if_false, e23]
    rintro v5 rfl b2 eb
    rw [i_X12_isRole]
    refine mr ?_
    rw [i_X12_in, nI_0]
    refine br0 (fun z => absurd c3 z) (fun _ => ?_)
    rw [i_X12_in]
    refine br0 (fun z => absurd c4 z) (fun _ => ⟨fun z => absurd z c5, fun _ => ?_⟩)
    refine s_ov (fun m1 pm p9 k0 k1 k2 => ?_)
    have t1 : T0 b1 m1 := t.cg pb pm (by rw [bV]) (by rw [bV])
    obtain ⟨⟨vs, vr, vc, vx, vt, v30⟩, ⟨ep, ef, ee, en⟩, eo, vo, dv⟩ := t1
    obtain ⟨e4, e5, e6, e13, e8, e9, e10, e11, e32, e33, e34, e17, e18, e19, e20, e22, e24, e25, e26, e27, e28, e29, e30, e31⟩ := ep
    obtain ⟨f3, f12, f1, f15, f23, f19, f2, f7⟩ := ef
    rw [← pm.2.2.2.2.2.1] at i24 n24 eb ⊢
    refine ⟨i24, ?_⟩
    rintro m2 rfl
    simp only [hp_at, Nat.reduceEqDiff, if_true, if_false]
    refine ⟨i24, ?_⟩
    rintro m3 rfl
    simp only [hp_at, Nat.reduceEqDiff, if_true, if_false]
    refine ⟨i24, ?_⟩
    rintro m4 rfl
    simp only [hp_at, Nat.reduceEqDiff, if_true, if_false]
    refine ⟨i24, ?_⟩
    rintro m4 rfl
    simp only [hp_at, Nat.reduceEqDiff, if_true, if_false]
    intro m5 em
    have nn := nt_s vt.1 (by decide)
    have s0 : m5 0 21 = m1 0 21 + nI 1 := by rw [em]; simp [hp_at, upd]
    refine ⟨?_, Or.inr ⟨⟨⟨?_, ?_, ?_, ?_, ?_, ?_⟩, ⟨?_, ?_, ?_, ?_⟩, ?_, ?_, ?_⟩, ?_, ?_⟩⟩
    · rw [s0, nt_sp vt.1 (by decide)]
    · exact VPs_cg (by simp [em, hp_at]) (by simp [em, hp_at]) (by simp [em, hp_at]) (by simp [em, hp_at, upd]) vs
    · exact VPr_cg (by simp [em, hp_at]) (by simp [em, hp_at]) (by simp [em, hp_at]) (by simp [em, hp_at]) (by simp [em, hp_at]) (by simp [em, hp_at, upd]) vr
    · exact VPc_cg (by simp [em, hp_at]) (by simp [em, hp_at]) (by simp [em, hp_at]) (by simp [em, hp_at, upd]) vc
    · exact VPx_mono (by simp [em, hp_at]) (by simp [em, hp_at]) (by simp [em, hp_at]) (by simp [em, hp_at]) (by simp [em, hp_at]) (by simp [em, hp_at, upd]) (by simp [em, hp_at, upd]) (by simp [em, hp_at, upd]) (by simp [em, hp_at, upd]) (by simp [em, hp_at]) (by simp [em, hp_at]) vx
    · unfold VPt
      have s22 : m5 22 = m1 22 := by rw [em]; simp [hp_at]
      rw [s0, nn.2, s22]
      refine ⟨by rw [nn.1]; exact isn_i (by omega) (by decide), vt.2.1, fun s h1 h2 => vt.2.2.1 s (by omega) h2, fun s hs => ?_⟩
      by_cases e : s = nt (m1 0 21)
      · subst e
        have z22 : nt (m1 22 (nt (m1 0 21))) = 0 := by rw [vt.2.2.1 _ (Nat.le_refl _) n24]; exact nt_nI (by decide)
        unfold VPt1
        rw [s22, z22]
        have u18 : m5 18 (nt (m1 0 21)) = nI r := by rw [em]; simp [hp_at, upd, nt_def]
        have u19 : m5 19 (nt (m1 0 21)) = nI x := by rw [em]; simp [hp_at, upd, nt_def]
        have u20 : m5 20 (nt (m1 0 21)) = nI y := by rw [em]; simp [hp_at, upd, nt_def]
        have u21 : m5 21 (nt (m1 0 21)) = a4 := by rw [em]; simp [hp_at, upd, nt_def]
        have u4 : m5 0 4 = m 0 4 := by rw [← pm.2.2.1, em]; simp [hp_at, upd]
        have u15 : m5 0 15 = m 0 15 := by rw [← pm.2.2.2.2.1, em]; simp [hp_at, upd]
        rw [u18, u19, u20, u21, u4, u15, nt_nI (show r < 2 ^ 31 by omega)]
        refine ⟨isn_i (by omega) (by decide), hr, isn_i (by omega) (by decide), isn_i (by omega) (by decide), ?_, fun i hi => by omega, fun i j hi => by omega⟩
        rcases c2 with q | q
        · exact Or.inl q
        · obtain ⟨k, q1, q2⟩ := nu_get vx0.1 (by decide) q
          have q3 := vx0.1.2
          refine Or.inr ?_
          rw [q2, nt_nI (show k < 2 ^ 31 by omega)]
          exact ⟨isn_i (by omega) (by decide), q1⟩
      · have hs2 : s < nt (m1 0 21) := by omega
        exact VPt1_mono (by rw [em]; simp [hp_at, upd, nt_def, e]) (by rw [em]; simp [hp_at, upd, nt_def, e]) (by rw [em]; simp [hp_at, upd, nt_def, e]) (by rw [em]; simp [hp_at, upd, nt_def, e]) (by rw [s22]) (by simp [em, hp_at]) (by simp [em, hp_at]) (by simp [em, hp_at]) (by simp [em, hp_at, upd]) (by simp [em, hp_at, upd]) (by simp [em, hp_at, upd]) (by simp [em, hp_at, upd]) (by simp [em, hp_at]) (vt.2.2.2 s hs2)
    · simpa [em, hp_at, upd] using v30
    · simp only [EQp, eb, em, hp_at, Nat.reduceEqDiff, if_true, if_false, e4, e5, e6, e13, e8, e9, e10, e11, e32, e33, e34, e17, e18, e19, e20, e22, e24, e25, e26, e27, e28, e29, e30, e31, and_self]
    · simp [EQf, eb, em, hp_at, upd, f3, f12, f1, f15, f23, f19, f2, f7]
    · simpa [EQe, eb, em, hp_at] using ee
    · simpa [EQn, eb, em, hp_at, upd] using en
    · simpa [EQo, eb, em, hp_at, upd] using eo
    · exact VPo_mono (by simp [em, hp_at]) (by simp [em, hp_at, upd]) (by simp [em, hp_at, upd]) (by simp [em, hp_at]) vo
    · simpa [DV0, eb, hp_at, hp_V] using dv
    · exact GR0_mk (by simp [eb, hp_at, g0]) (by simp [eb, hp_at, g1]) (by simp [eb, hp_at, g2]) (by simp [em, hp_at, upd, k0]) (by simp [em, hp_at, upd, k1]) (by simp [em, hp_at, upd, k2])
    · simp [eb, hp_at, g3]
