set_option maxHeartbeats 1000000 in
theorem m_can {p m : hp_H} {st s r i0 : Nat} {d : Nat → Nat} {t : Nat → Int32} {Q : Int32 → Prop} (v : VP p) (pv : PV p m) (hd : DG p d) (hst : st < 400) (hrw : RW m st d) (hs : s < nt (p 0 21)) (hr : nt (p 18 s) = r) (hm : i0 < nt (p 4 r)) (hv : ∀ e, e < nt (p 0 15) → m 37 e = t e)
    (h1 : cn p d t r i0 s → Q (nI 1)) (h0 : ¬ cn p d t r i0 s → Q (nI 0)) : q_X12_can m (nI st) (nI i0) (nI s) Q := by
  obtain ⟨vs', vr, vc, vx, vt, v30⟩ := v
  have s24 : s < 24 := by have := vt.1.2; omega
  have i24 : vp_in (nI s) 24 := nu_in s24 (by decide)
  obtain ⟨v1, v2, v3, v4, v5, v6, v7⟩ := vt.2.2.2 s hs
  have v22 := vt.2.1 s s24
  have n4 := v22.2
  have r3 : r < 3 := by have := v1.2; omega
  have rr : r < nt (p 0 4) := by omega
  have m3 : i0 < 3 := by have := (vr.2.2.1 r rr).1.2; omega
  unfold q_X12_can q_X12_memberAt
  refine ⟨i24, ?_⟩
  rintro w rfl
  rw [nI_clamp (show s < 2 ^ 31 by omega), pv.1 18 (by decide) (by decide), pv.1 19 (by decide) (by decide), pv.1 21 (by decide) (by decide), pv.1 22 (by decide) (by decide), pv.1 23 (by decide) (by decide), pv.1 24 (by decide) (by decide), pv.1 10 (by decide) (by decide), v1.1, hr, mAt]
  refine m_cell hst hrw (by omega) ⟨i24, ?_⟩
  have d9 := hd.1 (6 + 4 * (3 * r + i0))
  have ef : nI (d (6 + 4 * (3 * r + i0))) = p 19 s ↔ nt (p 19 s) = d (6 + 4 * (3 * r + i0)) := ⟨fun z => by rw [← z]; exact nt_nI (by omega), fun z => by rw [v3.1, z]⟩
  rw [ef]
  refine jn1_two (p := nt (p 19 s) = d (6 + 4 * (3 * r + i0)) ∧ cnG p t s) (fun K k1 k0 => ?_) (fun A => ?_) (fun A => ?_)
  · refine ⟨¬ (nt (p 19 s) = d (6 + 4 * (3 * r + i0)) ∧ cnG p t s), ⟨fun z => ⟨i24, cnG p t s, ⟨fun y => Or.inl y, fun y => ⟨i24, ?_⟩⟩, fun y => k1 ⟨z, y⟩⟩, fun z q => z q.1⟩, k0⟩
    rcases v5 with q | ⟨q1, q2⟩
    · exact absurd q y
    · refine ⟨isn_in q1 (by decide) (by have := q1.2; omega), ?_⟩
      rw [nt_def, hv _ q2]
      exact ⟨fun w x => x.2.elim y (fun x => x w), fun w => Or.inr w⟩
  -- the acts
  all_goals
    refine hp_lp2_ind (fun x y => ∃ j, y = nI j ∧ j ≤ nt (p 22 s) ∧ ((x = nI 1 ∧ (nt (p 19 s) = d (6 + 4 * (3 * r + i0)) ∧ cnG p t s) ∧ ∀ i, i < j → cnA p d s i) ∨ (x = nI 0 ∧ ¬ cn p d t r i0 s))) (fun x y => 4 - nt y) ?_ ?_
  case refine_2.refine_2 => exact ⟨0, rfl, by omega, Or.inl ⟨rfl, A, fun i hi => by omega⟩⟩
  case refine_3.refine_2 => exact ⟨0, rfl, by omega, Or.inr ⟨rfl, fun z => A ⟨z.1, z.2.1⟩⟩⟩
  all_goals
    rintro x y ⟨j, rfl, hj, hx⟩
    have l1 : p 22 s ≤ nI j ↔ nt (p 22 s) ≤ j := by
      conv => lhs; rw [v22.1]
      exact nI_leI (by omega) (by omega)
    rw [l1]
    refine ⟨i24, fun z => ?_, fun z => ⟨fun z2 => ?_, fun z2 => ?_⟩⟩
    · rcases hx with ⟨q1, q2, q3⟩ | ⟨q1, q2⟩
      · rw [q1]; exact ⟨Or.inr rfl, h1 ⟨q2.1, q2.2, fun i hi => q3 i (by omega)⟩⟩
      · rw [q1]; exact ⟨Or.inl rfl, h0 q2⟩
    · rcases hx with ⟨q1, q2, q3⟩ | ⟨q1, q2⟩
      · rw [q1] at z2; exact absurd z2 (by decide)
      · rw [q1]; exact ⟨Or.inl rfl, h0 q2⟩
    · rcases hx with ⟨q1, B, q3⟩ | ⟨q1, q2⟩
      case inr => exact absurd q1 z2
      rintro w rfl
      rw [pk_mul, nI_add, nI_clamp (show 4 * s + j < 2 ^ 31 by omega)]
      have i96 : vp_in (nI (4 * s + j)) 96 := nu_in (by omega) (by decide)
      refine ⟨i96, ?_⟩
      obtain ⟨w1, w2, w3, w4, w5, w6⟩ := v6 j (by omega)
      have w12 := w1.2
      have k2 : p 23 (4 * s + j) = nI 2 ↔ nt (p 23 (4 * s + j)) = 2 := ⟨fun z => by rw [z]; exact nt_nI (by omega), fun z => by rw [w1.1, z]⟩
      have l2 : p 23 (4 * s + j) ≤ nI 1 ↔ nt (p 23 (4 * s + j)) ≤ 1 := by
        conv => lhs; rw [w1.1]
        exact nI_leI (by omega) (by omega)
      have l3 : p 23 (4 * s + j) < nI 2 ↔ nt (p 23 (4 * s + j)) < 2 := by
        conv => lhs; rw [w1.1]
        exact nI_ltI (by omega) (by omega)
      rw [k2, l2, l3]
      refine ⟨fun x => 2 ≤ nt (p 23 (4 * s + j)) → x = nI (d (42 + 4 * nt (p 24 (4 * s + j)))), ⟨fun y q => by omega, fun y => ⟨i96, ?_⟩⟩, fun x hx => ⟨i96, ?_⟩⟩
      · obtain ⟨a1, a2⟩ := w4 (by omega)
        have a12 := a1.2
        unfold q_X12_channelAt
        rw [a1.1, cAt]
        refine m_cell hst hrw (by omega) (fun _ => ?_)
        rw [nt_nI (by omega)]
      · refine jn1_two (p := cnA p d s j) (fun K k1 k0 => ?_) (fun C => ?_) (fun C => ?_)
        · refine ⟨cnA p d s j, ⟨fun y => ⟨fun q => by omega, fun q => by omega⟩, fun y => ⟨i96, ¬ cnA p d s j, ⟨fun q => ⟨i96, ?_⟩, fun q => ?_⟩, k0⟩⟩, k1⟩
          · obtain ⟨a1, a2⟩ := w4 (by omega)
            have a12 := a1.2
            have c10 := (vc.2 _ a2).1
            have c102 := c10.2
            have d9' := hd.1 (42 + 4 * nt (p 24 (4 * s + j)))
            have l4 : p 10 (nt (p 24 (4 * s + j))) ≤ nI (d (42 + 4 * nt (p 24 (4 * s + j)))) ↔ nt (p 10 (nt (p 24 (4 * s + j)))) ≤ d (42 + 4 * nt (p 24 (4 * s + j))) := by
              conv => lhs; rw [c10.1]
              exact nI_leI (by omega) (by omega)
            refine ⟨isn_in a1 (by decide) (by omega), ?_⟩
            rw [nt_def, hx (by omega), l4]
            exact ⟨fun y C => by have := C.1 q; omega, fun y => ⟨fun _ => by omega, fun y3 => by omega⟩⟩
          · have k3 : nt (p 23 (4 * s + j)) = 3 := by omega
            have d9' := hd.1 (42 + 4 * nt (p 24 (4 * s + j)))
            rw [hx (by omega), ← nI_0, nI_leI (by omega) (by omega)]
            exact ⟨fun y C => by have := C.2 k3; omega, fun y => ⟨fun y3 => by omega, fun _ => by omega⟩⟩
        · rintro w rfl
          rw [nI_add]
          refine ⟨⟨j + 1, rfl, by omega, Or.inl ⟨rfl, B, fun i hi => ?_⟩⟩, by rw [nt_nI (by omega), nt_nI (by omega)]; omega⟩
          rcases (show i < j ∨ i = j by omega) with q | q
          · exact q3 i q
          · subst q; exact C
        · rintro w rfl
          rw [nI_add]
          exact ⟨⟨j + 1, rfl, by omega, Or.inr ⟨rfl, fun q => C (q.2.2 j (by omega))⟩⟩, by rw [nt_nI (by omega), nt_nI (by omega)]; omega⟩
theorem NE_up {m m' : hp_H} {e : Nat → Nat} {k v : Nat} (h : NE m e) (hk : k < 54) (hm : m' = hp_up m 36 k (nI v)) : NE m' (va_up e k v) := by
  intro x hx
  rw [hm]
  simp only [hp_at, if_true, upd]
  by_cases z : x = k
  · rw [if_pos z, z, va_e]
  · rw [if_neg z, va_n _ _ z]; exact h x hx
set_option maxHeartbeats 2000000 in
theorem m_isDone {p m : hp_H} {st s r i0 : Nat} {d c : Nat → Nat} {t : Nat → Int32} {Q : Int32 → hp_H → Prop} (v : VP p) (pv : PV p m) (hd : DG p d) (hst : st < 400) (hrw : RW m st d) (hne : NE m d) (hs : s < nt (p 0 21)) (hr : nt (p 18 s) = r) (hm : i0 < nt (p 4 r)) (hv : ∀ e, e < nt (p 0 15) → m 37 e = t e) (hc : ∀ i, i < nt (p 22 s) → cnA p d s i) (cv : CV p d s c) (h38 : ∀ i, i < 4 → m 38 i = nI (c i))
    (h1 : ∀ e m', dn p d t r i0 s c (nt (p 22 s)) = some e → (∀ k, k ≠ 36 → m' k = m k) → NE m' (va_up e (6 + 4 * (3 * r + i0)) (nt (p 20 s))) → Q (nI 1) m') (h0 : ∀ m', dn p d t r i0 s c (nt (p 22 s)) = none → (∀ k, k ≠ 36 → m' k = m k) → Q (nI 0) m') : q_X12_isDone m (nI st) (nI i0) (nI s) Q := by
  have v' := v
  obtain ⟨vs', vr, vc, vx, vt, v30⟩ := v'
  have s24 : s < 24 := by have := vt.1.2; omega
  have i24 : vp_in (nI s) 24 := nu_in s24 (by decide)
  obtain ⟨v1, v2, v3, v4, v5, v6, v7⟩ := vt.2.2.2 s hs
  have v22 := vt.2.1 s s24
  have n4 := v22.2
  have r3 : r < 3 := by have := v1.2; omega
  have rr : r < nt (p 0 4) := by omega
  have m3 : i0 < 3 := by have := (vr.2.2.1 r rr).1.2; omega
  unfold q_X12_isDone q_X12_memberAt
  refine ⟨i24, ?_⟩
  rintro w rfl
  rw [nI_clamp (show s < 2 ^ 31 by omega), pv.1 18 (by decide) (by decide), v1.1, hr, mAt]
  refine hp_lp1h_ind (fun x h => ∃ i e, x = nI i ∧ i ≤ nt (p 22 s) ∧ (∀ k, k ≠ 36 → h k = m k) ∧ dn p d t r i0 s c i = some e ∧ NE h e) (fun x h => 4 - nt x) ?_ ⟨0, d, rfl, by omega, fun k _ => rfl, rfl, hne⟩
  rintro x h ⟨i, e, rfl, hi, fr, hdn, hN⟩
  have pvh : PV p h := pv.fs (fun k hk => fr k (by omega))
  have rh : RW h st d := hrw.fs (fr 27 (by decide))
  refine ⟨i24, ?_⟩
  have l1 : p 22 s ≤ nI i ↔ nt (p 22 s) ≤ i := by
    conv => lhs; rw [v22.1]
    exact nI_leI (by omega) (by omega)
  rw [pvh.1 22 (by decide) (by decide), l1, pvh.1 20 (by decide) (by decide), v4.1]
  refine ⟨fun c1 => ⟨i24, nu_in (by omega) (by decide), ?_⟩, fun c1 => ?_⟩
  · intro h7 e7
    rw [nI_clamp (by omega)] at e7
    rw [show i = nt (p 22 s) by omega] at hdn
    exact h1 e h7 hdn (fun k hk => by rw [e7, hp_at, if_neg hk]; exact fr k hk) (NE_up hN (by omega) e7)
  rintro w rfl
  rw [pk_mul, nI_add, nI_clamp (show 4 * s + i < 2 ^ 31 by omega), pvh.1 24 (by decide) (by decide), pvh.1 23 (by decide) (by decide), pvh.1 25 (by decide) (by decide), fr 37 (by decide), fr 38 (by decide), pvh.1 1 (by decide) (by decide), pvh.1 2 (by decide) (by decide), pvh.1 6 (by decide) (by decide), pvh.1 7 (by decide) (by decide), nI_clamp (show i < 2 ^ 31 by omega), h38 i (by omega)]
  have i96 : vp_in (nI (4 * s + i)) 96 := nu_in (by omega) (by decide)
  refine ⟨i96, ?_⟩
  intro a ea
  refine ⟨i96, ?_⟩
  have DAe := DA_i v hd hs hr hm hc cv i e hi hdn
  have hw := DA_w v hs (by omega) (hc i (by omega)) DAe
  have nxs := dn_s hdn
  obtain ⟨w1, w2, w3, w4, w5, w6⟩ := v6 i (by omega)
  have w12 := w1.2
  have ci := (cv i).1
  have kk : ∀ j, j < 4 → (p 23 (4 * s + i) = nI j ↔ nt (p 23 (4 * s + i)) = j) := by
    intro j hj
    exact ⟨fun z => by rw [z]; exact nt_nI (by omega), fun z => by rw [w1.1, z]⟩
  have k0' : p 23 (4 * s + i) = 0 ↔ nt (p 23 (4 * s + i)) = 0 := kk 0 (by decide)
  rw [kk 3 (by decide), k0', kk 2 (by decide), kk 1 (by decide)]
  refine ⟨fun x => (nt (p 23 (4 * s + i)) = 3 ∧ x = nI (d (43 + 4 * nt (p 24 (4 * s + i)) + c i))) ∨ (¬ nt (p 23 (4 * s + i)) = 3 ∧ x = t (nt (p 25 (4 * s + i)))), ⟨fun k => ?_, fun k => ⟨i96, ?_⟩⟩, ?_⟩
  · obtain ⟨a1, a2⟩ := w4 (by omega)
    have a12 := a1.2
    unfold q_X12_channelAt
    rw [ea, a1.1, cAt]
    refine ⟨nu_in (by omega) (by decide), ?_⟩
    rw [nI_add, nI_add]
    refine m_cell hst rh (by omega) (Or.inl ⟨k, ?_⟩)
    rw [nt_nI (by omega)]
    congr 2; omega
  · obtain ⟨o1, o2⟩ := w5 (by omega)
    refine ⟨isn_in o1 (by decide) (by have := o1.2; omega), Or.inr ⟨k, ?_⟩⟩
    rw [nt_def]; exact hv _ o2
  intro x hx
  refine ⟨i96, ?_⟩
  refine ⟨fun h' => (∀ k, k ≠ 36 → h' k = m k) ∧ ∃ e', dn p d t r i0 s c (i + 1) = some e' ∧ NE h' e', ⟨fun k => ?_, fun k => ⟨i96, fun k2 => ?_, fun k2 => ⟨i96, ?_⟩⟩⟩, ?_⟩
  · obtain ⟨a1, a2⟩ := w2 k
    have a12 := a1.2
    have hx' : x = t (nt (p 25 (4 * s + i))) := hx.elim (fun z => by omega) (fun z => z.2)
    have i6 : vp_in a 6 := by rw [ea]; exact isn_in a1 (by decide) (by omega)
    refine ⟨i6, i6, ?_⟩
    rw [ea, nt_def, i_X12_in]
    unfold ac1 at nxs
    rw [k] at nxs
    refine br0 (fun g => h0 h (dn_n (i := i + 1) ?_ _ (by omega)) fr) (fun g => ⟨isn_in a1 (by decide) (by omega), ?_⟩)
    · rw [nxs]; rw [hx'] at g; exact cif_f g
    · obtain ⟨b1, b2, -⟩ := vs'.2 _ a2
      have bx := dgt b1 b2 g.1 g.2
      intro h34 e34
      refine ⟨fun k hk => by rw [e34, hp_at, if_neg hk]; exact fr k hk, _, ?_, NE_up hN (show nt (p 24 (4 * s + i)) < 54 by omega) (v := nt x) (by rw [e34, ← bx.1])⟩
      rw [nxs]; rw [hx'] at g ⊢; exact cif_t g
  · obtain ⟨a1, a2⟩ := w4 (by omega)
    have a12 := a1.2
    have hx' : x = t (nt (p 25 (4 * s + i))) := hx.elim (fun z => by omega) (fun z => z.2)
    rw [i_X12_in]
    unfold ac1 at nxs
    rw [k2] at nxs
    refine br0 (fun g => h0 h (dn_n (i := i + 1) ?_ _ (by omega)) fr) (fun g => ?_)
    · rw [nxs]; rw [hx', nI_0] at g; exact cif_f g
    · rw [nI_0] at g
      obtain ⟨u, u1, u2⟩ := nu_dg g
      have hl := hw.1 k2
      unfold q_X12_channelAt
      rw [ea, a1.1, cAt]
      dsimp only
      rw [nI_clamp (show 42 + 4 * nt (p 24 (4 * s + i)) < 2 ^ 31 by omega), hN _ (by omega), nI_add]
      refine ⟨nu_in (by omega) (by decide), nu_in (by omega) (by decide), ?_⟩
      intro h30 e30
      have h30' : h30 36 (42 + 4 * nt (p 24 (4 * s + i))) = nI (e (42 + 4 * nt (p 24 (4 * s + i))) + 1) := by rw [e30]; simp [hp_at, upd]
      rw [h30', nI_add, nI_clamp (by omega)]
      refine ⟨nu_in (by omega) (by decide), nu_in (by omega) (by decide), ?_⟩
      intro h31 e31
      have N30 := NE_up hN (show 42 + 4 * nt (p 24 (4 * s + i)) < 54 by omega) e30
      rw [u2] at e31
      have N31 := NE_up N30 (by omega) e31
      refine ⟨fun k hk => by rw [e31, hp_at, if_neg hk, e30, hp_at, if_neg hk]; exact fr k hk, rw_pt e (nt (p 24 (4 * s + i))) u, ?_, fun y hy => ?_⟩
      · rw [nxs]
        have : nt (t (nt (p 25 (4 * s + i)))) = u := by rw [← hx', u2]; exact nt_nI (by omega)
        rw [← this]
        rw [hx'] at g; exact cif_t g
      · rw [N31 y hy]
        congr 1
        unfold rw_pt
        by_cases y1 : y = 42 + 4 * nt (p 24 (4 * s + i))
        · rw [y1, va_n _ _ (by omega), va_e, va_e]
        · rw [va_n (va_up e _ u) _ y1]
          by_cases y2 : y = 43 + 4 * nt (p 24 (4 * s + i)) + e (42 + 4 * nt (p 24 (4 * s + i)))
          · rw [y2, va_e, show 42 + 4 * nt (p 24 (4 * s + i)) + (e (42 + 4 * nt (p 24 (4 * s + i))) + 1) = 43 + 4 * nt (p 24 (4 * s + i)) + e (42 + 4 * nt (p 24 (4 * s + i))) by omega, va_e]
          · rw [va_n _ _ y2, va_n _ _ (by omega), va_n _ _ y1]
  · -- an own variable: set, or by a letter
    have own : ∀ (o : Nat), o < nt (p 5 r) → (nt (p 23 (4 * s + i)) = 1 → o = nt (p 24 (4 * s + i))) → (nt (p 23 (4 * s + i)) = 3 → o = nt (p 25 (4 * s + i))) →
        vp_in (((nI 3) * nI r) + nI o) 9 ∧ vp_in (((nI 3) * nI r) + nI o) 9 ∧
        q_X12_in x (p 6 (((nI 3) * nI r) + nI o).toNatClampNeg) (p 7 (((nI 3) * nI r) + nI o).toNatClampNeg) (fun r22 =>
          (r22 = 0 → Q (nI 0) h) ∧ (¬ r22 = 0 →
            vp_in ((nI (6 + 4 * (3 * r + i0)) + nI 1) + nI o) 54 ∧
            ∀ h24 : hp_H, h24 = hp_up h 36 ((nI (6 + 4 * (3 * r + i0)) + nI 1) + nI o).toNatClampNeg x →
            vp_in (nI (4 * s + i)) 96 ∧
            ((h24 23 (4 * s + i)) = (nI 3) →
              vp_in (nI i) 4 ∧
              q_X12_letterGoes h24 a (h24 38 i) (fun h26 => (∀ k, k ≠ 36 → h26 k = m k) ∧ ∃ e', dn p d t r i0 s c (i + 1) = some e' ∧ NE h26 e')) ∧ (¬ (h24 23 (4 * s + i)) = (nI 3) →
              (∀ k, k ≠ 36 → h24 k = m k) ∧ ∃ e', dn p d t r i0 s c (i + 1) = some e' ∧ NE h24 e'))) := by
      intro o ho o1 o3
      have o52 := (vr.2.1 r r3).2
      rw [pk_mul, nI_add, nI_clamp (show 3 * r + o < 2 ^ 31 by omega), i_X12_in, nI_add, nI_add, nI_clamp (show 6 + 4 * (3 * r + i0) + 1 + o < 2 ^ 31 by omega)]
      refine ⟨nu_in (by omega) (by decide), nu_in (by omega) (by decide), ?_⟩
      obtain ⟨b1, b2, -⟩ := vr.2.2.2.2 r o r3 ho
      refine br0 (fun g => h0 h (dn_n (i := i + 1) ?_ _ (by omega)) fr) (fun g => ⟨nu_in (by omega) (by decide), ?_⟩)
      · rcases hx with ⟨z, z2⟩ | ⟨z, z2⟩
        · rw [nxs]; unfold ac1; rw [z, ← o3 z, ← z2]; exact cif_f g
        · have z1 : nt (p 23 (4 * s + i)) = 1 := by omega
          rw [nxs]; unfold ac1; rw [z1, ← o1 z1, ← z2]; exact cif_f g
      · have bx := dgt b1 b2 g.1 g.2
        intro h24 e24
        have N24 := NE_up hN (show 6 + 4 * (3 * r + i0) + 1 + o < 54 by omega) (m' := h24) (v := nt x) (by rw [e24, ← bx.1])
        have f24 : ∀ k, k ≠ 36 → h24 k = m k := fun k hk => by rw [e24, hp_at, if_neg hk]; exact fr k hk
        rw [show 6 + 4 * (3 * r + i0) + 1 + o = 7 + 4 * (3 * r + i0) + o by omega] at N24
        have e23 : h24 23 (4 * s + i) = p 23 (4 * s + i) := by rw [f24 23 (by decide), pv.1 23 (by decide) (by decide)]
        rw [e23, kk 3 (by decide), f24 38 (by decide), h38 i (by omega)]
        refine ⟨i96, fun z => ⟨nu_in (by omega) (by decide), ?_⟩, fun z => ⟨f24, _, ?_, N24⟩⟩
        · obtain ⟨a1, a2⟩ := w4 (by omega)
          have a12 := a1.2
          have hx' : x = nI (d (43 + 4 * nt (p 24 (4 * s + i)) + c i)) := hx.elim (fun z => z.2) (fun y => absurd z y.1)
          have d9 := hd.1 (43 + 4 * nt (p 24 (4 * s + i)) + c i)
          have nx' : nt x = d (43 + 4 * nt (p 24 (4 * s + i)) + c i) := by rw [hx']; exact nt_nI (by omega)
          have cvi := (cv i).2.2 (by omega) z
          rw [ea, a1.1]
          refine m_letterGoes (va_9 DAe.1 bx.2) (rw_T_lo DAe.2.1 (by omega)) N24 (by omega) (by rw [va_n _ _ (by omega)]; have := (hw.2 z).1; omega) (fun h26 f26 n26 => ⟨fun k hk => by rw [f26 k hk, f24 k hk], _, ?_, n26⟩)
          rw [nxs]; unfold ac1; rw [z, ← o3 z, nx', ← hx']
          exact cif_t g
        · have z1 : nt (p 23 (4 * s + i)) = 1 := by omega
          have hx' : x = t (nt (p 25 (4 * s + i))) := hx.elim (fun z => by omega) (fun z => z.2)
          rw [nxs]; unfold ac1; rw [z1, ← o1 z1, ← hx']
          exact cif_t g
    refine ⟨fun y => ∃ o, y = nI o ∧ o < nt (p 5 r) ∧ (nt (p 23 (4 * s + i)) = 1 → o = nt (p 24 (4 * s + i))) ∧ (nt (p 23 (4 * s + i)) = 3 → o = nt (p 25 (4 * s + i))), ⟨fun k3 => ?_, fun k3 => ⟨i96, ?_⟩⟩, ?_⟩
    · obtain ⟨a1, a2⟩ := w3 k3
      rw [hr] at a2
      exact ⟨nt (p 24 (4 * s + i)), by rw [ea]; exact a1.1, a2, fun _ => rfl, fun z => by omega⟩
    · obtain ⟨o1, o2⟩ := w6 (by omega)
      rw [hr] at o2
      exact ⟨nt (p 25 (4 * s + i)), o1.1, o2, fun z => by omega, fun _ => rfl⟩
    · rintro y ⟨o, rfl, o1, o2, o3⟩
      exact own o o1 o2 o3
  · rintro h' ⟨f', e', q1, q2⟩ w rfl
    rw [nI_add]
    exact ⟨⟨i + 1, e', rfl, by omega, f', q1, q2⟩, by rw [nt_nI (by omega), nt_nI (by omega)]; omega⟩
