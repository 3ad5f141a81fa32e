/-! ===== further tellings ===== -/
set_option maxHeartbeats 1000000 in
theorem t_own {b m : hp_H} (t : T0 b m) (a1 a2 a3 a4 : Int32) : q_X11_own b a1 a2 a3 a4 (fun r b' => q_X12_own m a1 a2 a3 a4 (fun r' m' => r = r' ∧ TT b m b' m')) := by
  have ef := t.2.1.2.1
  have ep := t.2.1.1
  have vr0 := t.1.2.1
  have e8 : b 8 = m 5 := ep.2.2.2.2.1
  unfold q_X11_own q_X12_own
  dsimp only
  rw [i_X6_has, ef.2.1]
  refine br0 (fun c1 => ?_) (fun c1 => ?_)
  · rw [i_X12_isRole, bi_in vr0.1 (by decide)]
    exact br0 (fun _ => ⟨rfl, Or.inl ⟨rfl, rfl⟩⟩) (fun z => absurd z c1)
  obtain ⟨r, hr, rfl⟩ := nu_get vr0.1 (by decide) c1
  have r3 : r < 3 := by have := vr0.1.2; omega
  rw [i_X10_fits]
  refine @br0 _ (dgs_dec a2 a3 a4) _ _ (fun c2 => ?_) (fun c2 => ?_)
  · rw [i_X12_isRole, bi_in vr0.1 (by decide)]
    refine br0 (fun z => absurd c1 z) (fun _ => ?_)
    rw [i_X12_isValue]
    exact @br0 _ (dgs_dec a2 a3 a4) _ _ (fun _ => ⟨rfl, Or.inl ⟨rfl, rfl⟩⟩) (fun z => absurd z c2)
  unfold q_X10_isFull
  have i3 : vp_in (nI r) 3 := nu_in r3 (by decide)
  refine ⟨i3, ?_⟩
  rw [nI_clamp (show r < 2 ^ 31 by omega), e8, ef.2.2.2.2.2.2.2]
  refine ⟨fun c3 => ⟨fun z => absurd z (by decide), fun _ => ?_⟩, fun c3 => ⟨fun _ => ?_, fun z => absurd rfl z⟩⟩
  · rw [i_X12_isRole, bi_in vr0.1 (by decide)]
    refine br0 (fun z => absurd c1 z) (fun _ => ?_)
    rw [i_X12_isValue]
    exact @br0 _ (dgs_dec a2 a3 a4) _ _ (fun z => absurd c2 z) (fun _ => ⟨i3, fun _ => ⟨rfl, Or.inl ⟨rfl, rfl⟩⟩, fun z => absurd c3 z⟩)
  · refine s_es (fun b1 pb bV g0 g1 g2 g3 => ?_)
    have v5 := vr0.2.1 r r3
    have n3 : nt (m 5 r) < 3 := by have := v5.2; have := nt_ne v5 c3; omega
    have e8' : b1 8 = m 5 := by rw [pb.1 8 (by unfold PBc; omega), e8]
    have e71 : b1 7 1 = nI 3 := by rw [pb.2.2.2.2.2.2.2.2.1, ef.2.2.2.2.2.2.2]
    have ix : nI r * nI 3 + m 5 r = nI (3 * r + nt (m 5 r)) := by
      conv => lhs; rw [v5.1]
      rw [pk_mul, nI_add]
      congr 1
      omega
    have i9 : vp_in (nI (3 * r + nt (m 5 r))) 9 := nu_in (by omega) (by decide)
    unfold q_X10_add
    refine ⟨i3, ?_⟩
    rw [nI_clamp (show r < 2 ^ 31 by omega), e8']
    rintro v1 rfl
    refine ⟨i3, ?_⟩
    rintro h2 rfl
    simp only [hp_at, Nat.reduceEqDiff, if_true, if_false, e71, ix]
    refine ⟨i9, ?_⟩
    rintro h3 rfl
    simp only [hp_at, Nat.reduceEqDiff, if_true, if_false, e71, ix]
    refine ⟨i9, ?_⟩
    rintro h4 rfl
    simp only [hp_at, Nat.reduceEqDiff, if_true, if_false, e71, ix]
    refine ⟨i9, ?_⟩
    intro b2 eb
    rw [i_X12_isRole, bi_in vr0.1 (by decide)]
    refine br0 (fun z => absurd c1 z) (fun _ => ?_)
    rw [i_X12_isValue]
    refine @br0 _ (dgs_dec a2 a3 a4) _ _ (fun z => absurd c2 z) (fun _ => ⟨i3, fun z => absurd z c3, fun _ => ?_⟩)
    refine s_ov (fun m1 pm p9 k0 k1 k2 => ?_)
    have t1 : T0 b1 m1 := t.cg pb pm (by rw [bV]) (by rw [bV])
    obtain ⟨⟨vs, vr, vc, vx, vt, v30⟩, ⟨ep, ef, ee, en⟩, eo, vo, dv⟩ := t1
    obtain ⟨e4, e5, e6, e13, e8, e9, e10, e11, e32, e33, e34, e17, e18, e19, e20, e22, e24, e25, e26, e27, e28, e29, e30, e31⟩ := ep
    obtain ⟨f3, f12, f1, f15, f23, f19, f2, f7⟩ := ef
    have m5e : m1 5 = m 5 := pm.1 5 (by decide) (by decide)
    rw [← m5e] at v5 n3 ix i9 eb ⊢
    refine ⟨i3, ?_⟩
    rintro v7 rfl
    have ix2 : nI 3 * nI r + m1 5 r = nI (3 * r + nt (m1 5 r)) := by
      conv => lhs; rw [v5.1]
      rw [pk_mul, nI_add]
    rw [ix2]
    refine ⟨i9, ?_⟩
    rintro m2 rfl
    refine ⟨i9, ?_⟩
    rintro m3 rfl
    refine ⟨i9, ?_⟩
    rintro m4 rfl
    refine ⟨i3, i3, ?_⟩
    simp only [hp_at, Nat.reduceEqDiff, if_true, if_false]
    intro m5 em
    refine ⟨i3, ?_⟩
    have nn := nt_s v5 (by decide)
    rw [nI_clamp (show 3 * r + nt (m1 5 r) < 2 ^ 31 by omega)] at em eb
    have s0 : m5 5 r = m1 5 r + nI 1 := by rw [em]; simp [hp_at, upd]
    have s1 : ∀ x, x ≠ r → m5 5 x = m1 5 x := by intro x hx; rw [em]; simp [hp_at, upd, hx]
    have hrr : r < nt (m1 0 4) := by rw [pm.2.2.1]; exact hr
    have hmono : ∀ x, x < 3 → nt (m1 5 x) ≤ nt (m5 5 x) := by
      intro x hx
      by_cases e : x = r
      · subst e; rw [s0, nn.2]; omega
      · rw [s1 x e]; exact Nat.le_refl _
    refine ⟨?_, Or.inr ⟨⟨⟨?_, ?_, ?_, ?_, ?_, ?_⟩, ⟨?_, ?_, ?_, ?_⟩, ?_, ?_, ?_⟩, ?_, ?_⟩⟩
    · rw [s0, nt_sp v5 (by decide)]
    · exact VPs_cg (by simp [em, hp_at]) (by simp [em, hp_at]) (by simp [em, hp_at]) (by simp [em, hp_at, upd]) vs
    · unfold VPr
      have s4 : m5 0 4 = m1 0 4 := by rw [em]; simp [hp_at]
      rw [s4]
      refine ⟨vr.1, fun x hx => ?_, ?_, fun x h1 h2 => ?_, fun x v hx hv => ?_⟩
      · by_cases e : x = r
        · subst e; rw [s0, nn.1]; exact isn_i (by omega) (by decide)
        · rw [s1 x e]; exact vr.2.1 x hx
      · simpa [em, hp_at] using vr.2.2.1
      · rw [s1 x (by omega)]; exact vr.2.2.2.1 x h1 h2
      · rw [em]
        simp only [hp_at, Nat.reduceEqDiff, if_true, if_false, upd]
        by_cases e : x = r
        · subst e
          rw [s0, nn.2] at hv
          by_cases e2 : v = nt (m1 5 x)
          · simp only [e2, if_true]
            exact dgs_v c2
          · have e3 : ¬ 3 * x + v = 3 * x + nt (m1 5 x) := by omega
            simp only [e3, if_false]
            exact vr.2.2.2.2 x v hx (by omega)
        · rw [s1 x e] at hv
          have hv3 := (vr.2.1 x hx).2
          have e3 : ¬ 3 * x + v = 3 * r + nt (m1 5 r) := by omega
          simp only [e3, if_false]
          exact vr.2.2.2.2 x v hx hv
    · exact VPc_cg (by simp [em, hp_at]) (by simp [em, hp_at]) (by simp [em, hp_at]) (by simp [em, hp_at, upd]) vc
    · exact VPx_mono (by simp [em, hp_at]) (by simp [em, hp_at]) (by simp [em, hp_at]) (by simp [em, hp_at]) (by simp [em, hp_at]) (by simp [em, hp_at]) (by simp [em, hp_at]) (by simp [em, hp_at]) (by simp [em, hp_at]) (by simp [em, hp_at]) hmono vx
    · exact VPt_mono (by simp [em, hp_at]) (by simp [em, hp_at]) (by simp [em, hp_at]) (by simp [em, hp_at]) (by simp [em, hp_at]) (by simp [em, hp_at]) (by simp [em, hp_at]) (by simp [em, hp_at]) (by simp [em, hp_at]) (by simp [em, hp_at]) (by simp [em, hp_at]) (by simp [em, hp_at]) (by simp [em, hp_at]) hmono vt
    · simpa [em, hp_at, upd] using v30
    · simp only [EQp, eb, em, hp_at, Nat.reduceEqDiff, if_true, if_false, e4, e5, e6, e13, e8, e9, e10, e11, e32, e33, e34, e17, e18, e19, e20, e22, e24, e25, e26, e27, e28, e29, e30, e31, and_self]
    · simp [EQf, eb, em, hp_at, upd, f3, f12, f1, f15, f23, f19, f2, f7]
    · simpa [EQe, eb, em, hp_at] using ee
    · simpa [EQn, eb, em, hp_at, upd] using en
    · simpa [EQo, eb, em, hp_at, upd] using eo
    · exact VPo_mono (by simp [em, hp_at]) (by simp [em, hp_at, upd]) (by simp [em, hp_at, upd]) (by simp [em, hp_at]) vo
    · simpa [DV0, eb, hp_at, hp_V] using dv
    · exact GR0_mk (by simp [eb, hp_at, g0]) (by simp [eb, hp_at, g1]) (by simp [eb, hp_at, g2]) (by simp [em, hp_at, upd, k0]) (by simp [em, hp_at, upd, k1]) (by simp [em, hp_at, upd, k2])
    · simp [eb, hp_at, g3]

theorem te_bit {n p : Nat} (hn : n < 1024) (hp : p < 10) : (((hp_ushr (nI n) (nI p)) &&& (nI 1)) = (nI 1)) ↔ n.testBit p = true := by
  rw [nu_ushr (by omega) (by omega)]
  have := nu_low (n := n / 2 ^ p) (k := 1) (Nat.lt_of_le_of_lt (Nat.div_le_self _ _) (by omega)) (by decide)
  rw [show (2 : Nat) ^ 1 - 1 = 1 by rfl, show (2 : Nat) ^ 1 = 2 by rfl] at this
  rw [this, nI_eq (by omega) (by decide), Nat.testBit_eq_decide_div_mod_eq, decide_eq_true_eq]
theorem te_set {n p : Nat} (hn : n < 1024) (hp : p < 10) : (nI n ||| hp_shl (nI 1) (nI p)) = nI (n ||| 2 ^ p) ∧ n ||| 2 ^ p < 1024 := by
  have h2 : 2 ^ p < 1024 := Nat.pow_lt_pow_right (n := 10) (by decide) hp
  rw [nu_shl (by omega) (by omega), Nat.one_mul, nu_or (by omega) (by omega)]
  exact ⟨rfl, Nat.or_lt_two_pow (n := 10) hn h2⟩
set_option maxHeartbeats 1000000 in
theorem t_end {b m : hp_H} (t : T0 b m) (a1 a2 : Int32) : q_X11_end b a1 a2 (fun r b' => q_X12_end m a1 a2 (fun r' m' => r = r' ∧ TT b m b' m')) := by
  have ef := t.2.1.2.1
  have vr0 := t.1.2.1
  unfold q_X11_end q_X12_end
  dsimp only
  rw [i_X6_has, ef.2.1]
  refine br0 (fun c1 => ?_) (fun c1 => ?_)
  · rw [i_X12_isRole, bi_in vr0.1 (by decide)]
    exact br0 (fun _ => ⟨rfl, Or.inl ⟨rfl, rfl⟩⟩) (fun z => absurd z c1)
  obtain ⟨r, hr, rfl⟩ := nu_get vr0.1 (by decide) c1
  have r3 : r < 3 := by have := vr0.1.2; omega
  rw [i_X11_isDigit]
  refine br0 (fun c2 => ?_) (fun c2 => ?_)
  · rw [i_X12_isRole, bi_in vr0.1 (by decide)]
    refine br0 (fun z => absurd c1 z) (fun _ => ?_)
    rw [i_X12_in, nI_0]
    exact br0 (fun _ => ⟨rfl, Or.inl ⟨rfl, rfl⟩⟩) (fun z => absurd z c2)
  obtain ⟨p, hp, rfl⟩ := nu_dg c2
  have i3 : vp_in (nI r) 3 := nu_in r3 (by decide)
  refine s_es (fun b1 pb bV g0 g1 g2 g3 => ?_)
  obtain ⟨n, n1, n2, n3⟩ := t.2.1.2.2.1 r r3
  have e14 : b1 14 r = nI n := by rw [pb.1 14 (by unfold PBc; omega), n2]
  have ix : nI 10 * nI r + nI p = nI (10 * r + p) := by rw [pk_mul, nI_add]
  have i30 : vp_in (nI (10 * r + p)) 30 := nu_in (by omega) (by decide)
  have key : ∀ (x : Int32), (n.testBit p = true → x = nI 1) → (¬ n.testBit p = true → x = nI 0) → q_X11_asNumber x (fun r7 => q_X6_setEnd b1 (nI r) (nI p) (fun h8 => q_X12_isRole m (nI r) (fun r1 => (r1 = 0 → r7 = -2 ∧ TT b m h8 m) ∧ (¬ r1 = 0 → q_X12_in (nI p) (nI 0) (nI 9) (fun r3 => (r3 = 0 → r7 = -3 ∧ TT b m h8 m) ∧ (¬ r3 = 0 → q_X12_over m (fun h5 => vp_in (nI 10 * nI r + nI p) 30 ∧ hp_jn1 (fun K7 => (h5 9 (nI 10 * nI r + nI p).toNatClampNeg = 0 → K7 (nI 0)) ∧ (¬ h5 9 (nI 10 * nI r + nI p).toNatClampNeg = 0 → K7 (nI 1))) (fun v8 => vp_in (nI 10 * nI r + nI p) 30 ∧ ∀ h9 : hp_H, h9 = hp_up h5 9 (nI 10 * nI r + nI p).toNatClampNeg (nI 1) → r7 = v8 ∧ TT b m h8 h9)))))))) := by
    intro x x1 x2
    have hx : q_X11_asNumber x = fun Q => Q x := by
      funext Q
      unfold q_X11_asNumber
      by_cases z : n.testBit p = true
      · rw [x1 z]
        exact propext ⟨fun q => q.2 (by decide), fun q => ⟨fun z => absurd z (by decide), fun _ => q⟩⟩
      · rw [x2 z]
        exact propext ⟨fun q => q.1 rfl, fun q => ⟨fun _ => q, fun z => absurd rfl z⟩⟩
    rw [hx]
    show q_X6_setEnd b1 (nI r) (nI p) _
    unfold q_X6_setEnd
    refine ⟨i3, i3, ?_⟩
    rw [nI_clamp (show r < 2 ^ 31 by omega), e14, (te_set n1 (by omega)).1]
    intro b2 eb
    rw [i_X12_isRole, bi_in vr0.1 (by decide)]
    refine br0 (fun z => absurd c1 z) (fun _ => ?_)
    rw [i_X12_in, nI_0]
    refine br0 (fun z => absurd c2 z) (fun _ => ?_)
    refine s_ov (fun m1 pm p9 k0 k1 k2 => ?_)
    rw [ix, nI_clamp (show 10 * r + p < 2 ^ 31 by omega)]
    refine ⟨i30, hp_jn1_i ?_⟩
    have fin : ∀ v8, v8 = x → vp_in (nI (10 * r + p)) 30 ∧ ∀ h9 : hp_H, h9 = hp_up m1 9 (10 * r + p) (nI 1) → x = v8 ∧ TT b m b2 h9 := by
      rintro v8 rfl
      refine ⟨i30, ?_⟩
      intro m5 em
      have t1 : T0 b1 m1 := t.cg pb pm (by rw [bV]) (by rw [bV])
      obtain ⟨⟨vs, vr, vc, vx, vt, v30⟩, ⟨ep, ef, ee, en⟩, eo, vo, dv⟩ := t1
      obtain ⟨e4, e5, e6, e13, e8, e9, e10, e11, e32, e33, e34, e17, e18, e19, e20, e22, e24, e25, e26, e27, e28, e29, e30, e31⟩ := ep
      obtain ⟨f3, f12, f1, f15, f23, f19, f2, f7⟩ := ef
      refine ⟨?_, Or.inr ⟨⟨⟨?_, ?_, ?_, ?_, ?_, ?_⟩, ⟨?_, ?_, ?_, ?_⟩, ?_, ?_, ?_⟩, ?_, ?_⟩⟩
      · rfl
      · exact VPs_cg (by simp [em, hp_at]) (by simp [em, hp_at]) (by simp [em, hp_at]) (by simp [em, hp_at, upd]) vs
      · exact VPr_cg (by simp [em, hp_at]) (by simp [em, hp_at]) (by simp [em, hp_at]) (by simp [em, hp_at]) (by simp [em, hp_at]) (by simp [em, hp_at, upd]) vr
      · exact VPc_cg (by simp [em, hp_at]) (by simp [em, hp_at]) (by simp [em, hp_at]) (by simp [em, hp_at, upd]) vc
      · exact VPx_mono (by simp [em, hp_at]) (by simp [em, hp_at]) (by simp [em, hp_at]) (by simp [em, hp_at]) (by simp [em, hp_at]) (by simp [em, hp_at, upd]) (by simp [em, hp_at, upd]) (by simp [em, hp_at, upd]) (by simp [em, hp_at, upd]) (by simp [em, hp_at]) (by simp [em, hp_at]) vx
      · exact VPt_mono (by simp [em, hp_at]) (by simp [em, hp_at]) (by simp [em, hp_at]) (by simp [em, hp_at]) (by simp [em, hp_at]) (by simp [em, hp_at]) (by simp [em, hp_at]) (by simp [em, hp_at]) (by simp [em, hp_at, upd]) (by simp [em, hp_at, upd]) (by simp [em, hp_at, upd]) (by simp [em, hp_at, upd]) (by simp [em, hp_at, upd]) (by simp [em, hp_at]) vt
      · simpa [em, hp_at, upd] using v30
      · simp only [EQp, eb, em, hp_at, Nat.reduceEqDiff, if_true, if_false, e4, e5, e6, e13, e8, e9, e10, e11, e32, e33, e34, e17, e18, e19, e20, e22, e24, e25, e26, e27, e28, e29, e30, e31, and_self]
      · simp [EQf, eb, em, hp_at, f3, f12, f1, f15, f23, f19, f2, f7]
      · intro x hx
        rw [eb, em]
        simp only [hp_at, Nat.reduceEqDiff, if_true, if_false, upd]
        by_cases e : x = r
        · subst e
          refine ⟨n ||| 2 ^ p, (te_set n1 (by omega)).2, by simp, fun q hq => ?_⟩
          obtain ⟨n', z1, z2, z3⟩ := ee x hx
          have en' : n' = n := by
            rw [e14] at z2
            exact ((nI_eq (by omega) (by omega)).mp z2).symm
          subst en'
          rw [Nat.testBit_or, Nat.testBit_two_pow]
          by_cases e2 : q = p
          · subst e2
            simp [hp_bz]
            decide
          · have e3 : ¬ 10 * x + q = 10 * x + p := by omega
            have e4 : decide (p = q) = false := by simp; omega
            simp only [e3, if_false, e4, Bool.or_false]
            exact z3 q hq
        · obtain ⟨n', z1, z2, z3⟩ := ee x hx
          refine ⟨n', z1, by rw [if_neg e]; exact z2, fun q hq => ?_⟩
          have e3 : ¬ 10 * x + q = 10 * r + p := by omega
          simp only [e3, if_false]
          exact z3 q hq
      · simpa [EQn, eb, em, hp_at, upd] using en
      · simpa [EQo, eb, em, hp_at, upd] using eo
      · exact VPo_mono (by simp [em, hp_at]) (by simp [em, hp_at, upd]) (by simp [em, hp_at, upd]) (by simp [em, hp_at]) vo
      · simpa [DV0, eb, hp_at, hp_V] using dv
      · exact GR0_mk (by simp [eb, hp_at, g0]) (by simp [eb, hp_at, g1]) (by simp [eb, hp_at, g2]) (by simp [em, hp_at, upd, k0]) (by simp [em, hp_at, upd, k1]) (by simp [em, hp_at, upd, k2])
      · simp [eb, hp_at, g3]
    have old := n3 p (by omega)
    rw [← pm.1 9 (by decide) (by decide)] at old
    refine ⟨fun z => fin _ ?_, fun z => fin _ ?_⟩
    · refine (x2 ?_).symm
      intro y
      rw [old.2.mp y] at z
      exact absurd z (by decide)
    · refine (x1 ?_).symm
      apply old.2.mpr
      rcases old.1 with y | y
      · exact absurd y z
      · exact y
  unfold q_X6_isEnd
  refine ⟨i3, ?_⟩
  rw [nI_clamp (show r < 2 ^ 31 by omega), e14, te_bit n1 (by omega)]
  exact ⟨fun z => key _ (fun _ => rfl) (fun y => absurd z y), fun z => key _ (fun y => absurd y z) (fun _ => rfl)⟩
set_option maxHeartbeats 1000000 in
theorem t_channel {b m : hp_H} (t : T0 b m) (a1 a2 a3 : Int32) (z2 : hp_bz a2) (z3 : hp_bz a3) : q_X11_channel b a1 a2 a3 (fun r b' => q_X12_channel m a1 a2 a3 (fun r' m' => r = r' ∧ TT b m b' m')) := by
  have ef := t.2.1.2.1
  have vc0 := t.1.2.2.1
  unfold q_X11_channel q_X12_channel
  dsimp only
  refine ⟨fun c1 => ?_, fun c1 => ⟨fun c2 => ?_, fun c2 => ?_⟩⟩
  · rw [i_X12_in]
    exact br0 (fun _ => ⟨rfl, Or.inl ⟨rfl, rfl⟩⟩) (fun z => absurd c1 z.1)
  · rw [ef.2.2.1]
    have cc : ¬ a1 < nI 1 ∧ ¬ nI 3 < a1 := ⟨c1, lt_le.mpr c2⟩
    refine ⟨fun c3 => ?_, fun c3 => ?_⟩
    · rw [i_X12_in]
      exact br0 (fun z => absurd cc z) (fun _ => ⟨fun _ => ⟨rfl, Or.inl ⟨rfl, rfl⟩⟩, fun z => absurd c3 z⟩)
    · refine s_es (fun b1 pb bV g0 g1 g2 g3 => ?_)
      have n3 : nt (m 0 11) < 3 := by have := vc0.1.2; have := nt_ne vc0.1 c3; omega
      have i3 : vp_in (m 0 11) 3 := isn_in vc0.1 (by decide) n3
      obtain ⟨k, q1, q2, q3⟩ := nu_rg (by decide) c1 c2 (by decide)
      unfold q_X4_addChannel
      have e18 : b1 1 8 = m 0 11 := by rw [pb.2.2.2.1, ef.2.2.1]
      rw [e18]
      refine ⟨i3, ?_⟩
      rintro h1 rfl
      simp only [hp_at, Nat.reduceEqDiff, if_true, if_false, e18]
      refine ⟨i3, z2, ?_⟩
      rintro h2 rfl
      simp only [hp_at, Nat.reduceEqDiff, if_true, if_false, e18]
      refine ⟨i3, z3, ?_⟩
      rintro h3 rfl
      simp only [hp_at, Nat.reduceEqDiff, if_true, if_false, e18]
      rintro v4 rfl b2 eb
      rw [i_X12_in]
      refine br0 (fun z => absurd cc z) (fun _ => ⟨fun z => absurd z c3, fun _ => ?_⟩)
      refine s_ov (fun m1 pm p9 k0 k1 k2 => ?_)
      have t1 : T0 b1 m1 := t.cg pb pm (by rw [bV]) (by rw [bV])
      obtain ⟨⟨vs, vr, vc, vx, vt, v30⟩, ⟨ep, ef, ee, en⟩, eo, vo, dv⟩ := t1
      obtain ⟨e4, e5, e6, e13, e8, e9, e10, e11, e32, e33, e34, e17, e18, e19, e20, e22, e24, e25, e26, e27, e28, e29, e30, e31⟩ := ep
      obtain ⟨f3, f12, f1, f15, f23, f19, f2, f7⟩ := ef
      rw [← pm.2.2.2.1] at i3 n3 eb ⊢
      refine ⟨i3, ?_⟩
      rintro m2 rfl
      simp only [hp_at, Nat.reduceEqDiff, if_true, if_false]
      refine ⟨i3, z2, ?_⟩
      rintro m3 rfl
      simp only [hp_at, Nat.reduceEqDiff, if_true, if_false]
      refine ⟨i3, z3, ?_⟩
      rintro m4 rfl
      simp only [hp_at, Nat.reduceEqDiff, if_true, if_false]
      intro m5 em
      have nn := nt_s vc.1 (by decide)
      have s0 : m5 0 11 = m1 0 11 + nI 1 := by rw [em]; simp [hp_at, upd]
      refine ⟨?_, Or.inr ⟨⟨⟨?_, ?_, ?_, ?_, ?_, ?_⟩, ⟨?_, ?_, ?_, ?_⟩, ?_, ?_, ?_⟩, ?_, ?_⟩⟩
      · rw [s0, nt_sp vc.1 (by decide)]
      · exact VPs_cg (by simp [em, hp_at]) (by simp [em, hp_at]) (by simp [em, hp_at]) (by simp [em, hp_at, upd]) vs
      · exact VPr_cg (by simp [em, hp_at]) (by simp [em, hp_at]) (by simp [em, hp_at]) (by simp [em, hp_at]) (by simp [em, hp_at]) (by simp [em, hp_at, upd]) vr
      · unfold VPc
        rw [s0, nn.2]
        refine ⟨by rw [nn.1]; exact isn_i (by omega) (by decide), fun c hc => ?_⟩
        rw [em]
        simp only [hp_at, Nat.reduceEqDiff, if_true, if_false, upd, nt_def]
        by_cases e : c = nt (m1 0 11)
        · simp only [e, if_true, q3, nt_nI (show k < 2 ^ 31 by omega)]
          exact ⟨isn_i q2 (by decide), q1, z2, z3⟩
        · simp only [e, if_false]
          exact vc.2 c (by omega)
      · exact VPx_mono (by simp [em, hp_at]) (by simp [em, hp_at]) (by simp [em, hp_at]) (by simp [em, hp_at]) (by simp [em, hp_at]) (by simp [em, hp_at, upd]) (by simp [em, hp_at, upd]) (by simp [em, hp_at, upd]) (by rw [s0, nn.2]; omega) (by simp [em, hp_at]) (by simp [em, hp_at]) vx
      · exact VPt_mono (by simp [em, hp_at]) (by simp [em, hp_at]) (by simp [em, hp_at]) (by simp [em, hp_at]) (by simp [em, hp_at]) (by simp [em, hp_at]) (by simp [em, hp_at]) (by simp [em, hp_at]) (by simp [em, hp_at, upd]) (by simp [em, hp_at, upd]) (by simp [em, hp_at, upd]) (by rw [s0, nn.2]; omega) (by simp [em, hp_at, upd]) (by simp [em, hp_at]) vt
      · simpa [em, hp_at, upd] using v30
      · simp only [EQp, eb, em, hp_at, Nat.reduceEqDiff, if_true, if_false, e4, e5, e6, e13, e8, e9, e10, e11, e32, e33, e34, e17, e18, e19, e20, e22, e24, e25, e26, e27, e28, e29, e30, e31, and_self]
      · simp [EQf, eb, em, hp_at, upd, f3, f12, f1, f15, f23, f19, f2, f7]
      · simpa [EQe, eb, em, hp_at] using ee
      · simpa [EQn, eb, em, hp_at, upd] using en
      · simpa [EQo, eb, em, hp_at, upd] using eo
      · exact VPo_mono (by simp [em, hp_at]) (by simp [em, hp_at, upd]) (by simp [em, hp_at, upd]) (by simp [em, hp_at]) vo
      · simpa [DV0, eb, hp_at, hp_V] using dv
      · exact GR0_mk (by simp [eb, hp_at, g0]) (by simp [eb, hp_at, g1]) (by simp [eb, hp_at, g2]) (by simp [em, hp_at, upd, k0]) (by simp [em, hp_at, upd, k1]) (by simp [em, hp_at, upd, k2])
      · simp [eb, hp_at, g3]
  · rw [i_X12_in]
    exact br0 (fun _ => ⟨rfl, Or.inl ⟨rfl, rfl⟩⟩) (fun z => absurd (lt_le.mp z.2) c2)
