/-! ===== the reference: rows and values ===== -/
def PV (p m : hp_H) : Prop := (∀ k, 1 ≤ k → k ≤ 25 → m k = p k) ∧ m 0 0 = p 0 0 ∧ m 0 4 = p 0 4 ∧ m 0 11 = p 0 11 ∧ m 0 15 = p 0 15 ∧ m 0 21 = p 0 21 ∧ m 0 30 = p 0 30
def RW (m : hp_H) (s : Nat) (d : Nat → Nat) : Prop := ∀ k, k < 54 → m 27 (54 * s + k) = nI (d k)
theorem PV.fs {p m m' : hp_H} (h : PV p m) (f : ∀ k, k ≤ 27 → m' k = m k) : PV p m' := by
  obtain ⟨a, b⟩ := h
  unfold PV
  rw [f 0 (by decide)]
  exact ⟨fun k h1 h2 => by rw [f k (by omega)]; exact a k h1 h2, b⟩
theorem RW.fs {m m' : hp_H} {s : Nat} {d : Nat → Nat} (h : RW m s d) (f : m' 27 = m 27) : RW m' s d := by unfold RW; rw [f]; exact h
theorem mAt (a b : Nat) : (nI 6) + ((nI 4) * (((nI 3) * nI a) + nI b)) = nI (6 + 4 * (3 * a + b)) := by rw [pk_mul, nI_add, pk_mul, nI_add]
theorem cAt (a : Nat) : (nI 42) + ((nI 4) * nI a) = nI (42 + 4 * a) := by rw [pk_mul, nI_add]
theorem m_cell {m : hp_H} {s k : Nat} {d : Nat → Nat} {Q : Int32 → Prop} (hs : s < 400) (hr : RW m s d) (hk : k < 54) (hq : Q (nI (d k))) : q_X12_cell m (nI s) (nI k) Q := by
  unfold q_X12_cell
  rw [pk_mul, nI_add, nI_clamp (show 54 * s + k < 2 ^ 31 by omega), hr k hk]
  exact ⟨nu_in (by omega) (by decide), hq⟩
theorem m_many {p m : hp_H} {s r pl : Nat} {d : Nat → Nat} {Q : Int32 → Prop} (v : VP p) (pv : PV p m) (hd : ∀ k, d k ≤ 9) (hs : s < 400) (hr : RW m s d) (rr : r < nt (p 0 4)) (hpl : pl ≤ 9) (hq : Q (nI (hm d r pl (nt (p 4 r))))) : q_X12_many m (nI s) (nI r) (nI pl) Q := by
  have r3 : r < 3 := by have := v.2.1.1.2; omega
  have m4 := (v.2.1.2.2.1 r rr).1
  have m42 := m4.2
  unfold q_X12_many
  rw [nI_clamp (show r < 2 ^ 31 by omega), pv.1 4 (by decide) (by decide)]
  refine hp_lp2_ind (fun x y => ∃ j, y = nI j ∧ j ≤ nt (p 4 r) ∧ x = nI (hm d r pl j)) (fun x y => 3 - nt y) ?_ ⟨0, rfl, by omega, rfl⟩
  rintro x y ⟨j, rfl, hj, rfl⟩
  have l : p 4 r ≤ nI j ↔ nt (p 4 r) ≤ j := by
    conv => lhs; rw [m4.1]
    exact nI_leI (by omega) (by omega)
  rw [l]
  refine ⟨nu_in r3 (by decide), fun c => ?_, fun c => ?_⟩
  · rw [show j = nt (p 4 r) by omega]; exact hq
  · unfold q_X12_memberAt
    rw [mAt]
    refine m_cell hs hr (by omega) ?_
    have := hd (6 + 4 * (3 * r + j))
    rw [nI_eq (by omega) (by omega)]
    refine ⟨fun w => w = nI (if d (6 + 4 * (3 * r + j)) = pl then 1 else 0), ⟨fun z => by rw [if_pos z], fun z => by rw [if_neg z]⟩, ?_⟩
    rintro w rfl w2 rfl w3 rfl
    rw [nI_add, nI_add]
    exact ⟨⟨j + 1, rfl, by omega, rfl⟩, by rw [nt_nI (by omega), nt_nI (by omega)]; omega⟩
set_option maxHeartbeats 2000000 in
theorem m_reckon {p m : hp_H} {s : Nat} {d : Nat → Nat} {ro me : Int32} {Q : hp_H → Prop} (v : VP p) (pv : PV p m) (hd : ∀ k, d k ≤ 9) (hs : s < 400) (hr : RW m s d) (hro : ro = -1 ∨ ∃ r i, r < 3 ∧ i < 3 ∧ ro = nI r ∧ me = nI i)
    (hQ : ∀ m', (∀ k, k ≠ 37 → m' k = m k) → (∀ e, e < nt (p 0 15) → m' 37 e = tv p d ro me e) → Q m') : q_X12_reckon m (nI s) ro me Q := by
  have v' := v
  obtain ⟨vs, vr, vc, vx, vt, v30⟩ := v'
  have E8 := vx.1.2
  unfold q_X12_reckon
  refine hp_lp1h_ind (fun x h => ∃ n, x = nI n ∧ n ≤ nt (p 0 15) ∧ (∀ k, k ≠ 37 → h k = m k) ∧ ∀ e, e < n → h 37 e = tv p d ro me e) (fun x h => 80 - nt x) ?_ ⟨0, rfl, by omega, fun k _ => rfl, fun e he => by omega⟩
  rintro x h ⟨n, rfl, hn, fr, hv⟩
  have pvh : PV p h := pv.fs (fun k hk => fr k (by omega))
  have rh : RW h s d := hr.fs (fr 27 (by decide))
  have e15 : h 0 15 = nI (nt (p 0 15)) := by rw [pvh.2.2.2.2.1]; exact vx.1.1
  rw [e15, nI_leI (by omega) (by omega), nI_clamp (show n < 2 ^ 31 by omega), pvh.1 13 (by decide) (by decide), pvh.1 14 (by decide) (by decide), pvh.1 15 (by decide) (by decide), pvh.1 16 (by decide) (by decide), pvh.1 5 (by decide) (by decide)]
  have i80 : n < nt (p 0 15) → vp_in (nI n) 80 := fun _ => nu_in (by omega) (by decide)
  refine ⟨fun c => hQ h fr (fun e he => hv e (by omega)), fun c => ⟨i80 (by omega), ?_⟩⟩
  have nE : n < nt (p 0 15) := by omega
  have i80 := i80 nE
  obtain ⟨x1, x2, x3, x4, x5, x6, x7, x8, x9, x10⟩ := vx.2 n nE
  rintro a ea
  refine ⟨i80, ?_⟩
  rintro b' eb
  refine ⟨i80, ?_⟩
  rintro kd rfl
  have kk : ∀ j, j < 15 → (p 13 n = nI j ↔ nt (p 13 n) = j) := by
    intro j hj
    exact ⟨fun z => by rw [z]; exact nt_nI (by omega), fun z => by rw [x1.1, z]⟩
  rw [kk 0 (by decide), kk 1 (by decide), kk 2 (by decide), kk 3 (by decide), kk 4 (by decide), kk 5 (by decide), kk 6 (by decide), kk 7 (by decide), kk 8 (by decide), kk 9 (by decide), kk 10 (by decide), kk 11 (by decide), kk 12 (by decide), kk 13 (by decide)]
  have tn : ev1 p d ro me (tb p d ro me n) n = tv p d ro me n := tb_n.symm
  -- the parts
  have pa : 7 ≤ nt (p 13 n) → vp_in a 80 ∧ h 37 a.toNatClampNeg = tb p d ro me n (nt (p 14 n)) := by
    intro z
    obtain ⟨y1, y2⟩ := x8 z
    have y12 := y1.2
    rw [ea]
    exact ⟨isn_in y1 (by decide) (by omega), by rw [nt_def, tb_v y2]; exact hv _ y2⟩
  have pb : 7 ≤ nt (p 13 n) → nt (p 13 n) < 14 → vp_in b' 80 ∧ h 37 b'.toNatClampNeg = tb p d ro me n (nt (p 15 n)) := by
    intro z z2
    obtain ⟨y1, y2⟩ := x9 z z2
    have y12 := y1.2
    rw [eb]
    exact ⟨isn_in y1 (by decide) (by omega), by rw [nt_def, tb_v y2]; exact hv _ y2⟩
  have x12 := x1.2
  refine ⟨fun w => w = tv p d ro me n, ⟨fun k => ?_, fun k => ?_, fun k => ?_, fun k => ?_, fun k => ?_, fun k => ?_, fun k => ?_, fun k => ?_, fun k => ?_, fun k => ?_, fun k => ?_, fun k => ?_, fun k => ?_, fun k => ?_, fun k => ?_⟩, ?_⟩
  · rw [← tn, ev1_0 k, ea]
  · obtain ⟨y1, y2⟩ := x3 k
    have y12 := y1.2
    rw [ea, y1.1]
    refine m_cell hs rh (by omega) ?_
    show nI (d (nt (p 14 n))) = _
    rw [← tn, ev1_1 k]
  · have y1 := x4 k
    have y12 := y1.2
    refine hp_jn1_i ?_
    rw [← tn, ev1_2 k]
    rcases hro with z | ⟨r, i, r3, i3, z1, z2⟩
    · rw [z]
      refine hp_jn0_i ⟨fun _ => ?_, fun y => absurd rfl y⟩
      rw [cif_t (Or.inl rfl)]
    · have o5 := vr.2.1 r r3
      have o52 := o5.2
      have ne : ¬ nI r = -1 := fun y => (nu_m1 (by omega)).mp y
      rw [z1, z2, nt_nI (by omega), nt_nI (by omega), nI_clamp (show r < 2 ^ 31 by omega)]
      refine hp_jn0_i ⟨fun y => absurd y ne, fun _ => ⟨nu_in r3 (by decide), fun y => ?_, fun y => ?_⟩⟩
      · unfold q_X12_memberAt
        have y' : ¬ (nI r = -1 ∨ ¬ p 14 n < p 5 r) := fun q => q.elim ne (fun w => w (by rw [← ea]; exact y))
        rw [mAt, cif_f y', ea]
        dsimp only
        rw [nI_add]
        conv => arg 3; rw [y1.1]
        rw [nI_add]
        have yl : nt (p 14 n) < nt (p 5 r) := by
          rw [ea, y1.1, o5.1, nI_ltI (by omega) (by omega)] at y; exact y
        refine m_cell hs rh (by omega) ?_
        show nI (d _) = nI (d _)
        congr 2; omega
      · rw [cif_t (Or.inr (by rw [← ea]; exact y))]
  · refine hp_jn1_i ?_
    rw [← tn, ev1_3 k]
    exact ⟨fun z => by rw [cif_t z], fun z => by rw [cif_f z]⟩
  · obtain ⟨y1, y2, y3⟩ := x5 k
    have y12 := y1.2
    rw [ea, eb, y1.1, y3.1]
    refine m_many v pvh hd hs rh y2 y3.2 ?_
    show nI _ = _
    rw [← tn, ev1_4 k]
  · obtain ⟨y1, y2⟩ := x6 k
    have y12 := y1.2
    unfold q_X12_channelAt
    rw [ea, y1.1, cAt]
    refine m_cell hs rh (by omega) ?_
    show nI _ = _
    rw [← tn, ev1_5 k]
  · obtain ⟨y1, y2, y3, y4, y5, y6⟩ := x7 k
    have y12 := y1.2; have y32 := y3.2; have y52 := y5.2
    unfold q_X12_memberAt
    rw [ea, eb, y1.1, y3.1, y5.1, mAt]
    dsimp only
    rw [nI_add, nI_add]
    refine ⟨i80, m_cell hs rh (by omega) ?_⟩
    show nI (d _) = _
    rw [← tn, ev1_6 k]
    congr 2; omega
  · obtain ⟨q1, q2⟩ := pa (by omega)
    obtain ⟨q3, q4⟩ := pb (by omega) (by omega)
    refine ⟨q1, q3, ?_⟩
    rintro w rfl
    rw [q2, q4, ← tn, ev1_7 k]
  · obtain ⟨q1, q2⟩ := pa (by omega)
    obtain ⟨q3, q4⟩ := pb (by omega) (by omega)
    refine ⟨q1, q3, ?_⟩
    rintro w rfl
    rw [q2, q4, ← tn, ev1_8 k]
  · obtain ⟨q1, q2⟩ := pa (by omega)
    obtain ⟨q3, q4⟩ := pb (by omega) (by omega)
    refine ⟨q1, q3, ?_⟩
    rintro w rfl
    rw [q2, q4, ← tn, ev1_9 k]
  · obtain ⟨q1, q2⟩ := pa (by omega)
    obtain ⟨q3, q4⟩ := pb (by omega) (by omega)
    refine ⟨q1, q3, hp_jn1_i ?_⟩
    rw [q2, q4, ← tn, ev1_10 k]
    exact ⟨fun z => (bi_t z).symm, fun z => (bi_f z).symm⟩
  · obtain ⟨q1, q2⟩ := pa (by omega)
    obtain ⟨q3, q4⟩ := pb (by omega) (by omega)
    refine ⟨q1, q3, hp_jn1_i ?_⟩
    rw [q2, q4, ← tn, ev1_11 k]
    exact ⟨fun z => (bi_f (fun q => q z)).symm, fun z => (bi_t z).symm⟩
  · obtain ⟨q1, q2⟩ := pa (by omega)
    obtain ⟨q3, q4⟩ := pb (by omega) (by omega)
    refine ⟨q1, hp_jn1_i (hp_jn0_i ?_)⟩
    rw [q2, q4, ← tn, ev1_12 k]
    exact ⟨fun z => (bi_f (fun q => q.1 z)).symm, fun z => ⟨q3, fun z2 => (bi_f (fun q => q.2 z2)).symm, fun z2 => (bi_t ⟨z, z2⟩).symm⟩⟩
  · obtain ⟨q1, q2⟩ := pa (by omega)
    obtain ⟨q3, q4⟩ := pb (by omega) (by omega)
    refine ⟨q1, hp_jn1_i (hp_jn0_i ?_)⟩
    rw [q2, q4, ← tn, ev1_13 k]
    refine ⟨fun z => ⟨q3, fun z2 => (bi_f (fun q => q ⟨z, z2⟩)).symm, fun z2 => ?_⟩, fun z => ?_⟩
    · exact (bi_t (show ¬ (tb p d ro me n (nt (p 14 n)) = 0 ∧ tb p d ro me n (nt (p 15 n)) = 0) from fun q => z2 q.2)).symm
    · exact (bi_t (show ¬ (tb p d ro me n (nt (p 14 n)) = 0 ∧ tb p d ro me n (nt (p 15 n)) = 0) from fun q => z q.1)).symm
  · have k14 : nt (p 13 n) = 14 := by omega
    obtain ⟨q1, q2⟩ := pa (by omega)
    refine ⟨q1, hp_jn1_i ?_⟩
    rw [q2, ← tn, ev1_14 k14]
    exact ⟨fun z => (bi_t z).symm, fun z => (bi_f z).symm⟩
  · rintro w rfl
    refine ⟨i80, ?_⟩
    rintro h62 rfl w2 rfl
    rw [nI_add]
    refine ⟨⟨n + 1, rfl, by omega, fun k hk => by rw [hp_at, if_neg hk]; exact fr k hk, fun e he => ?_⟩, by rw [nt_nI (by omega), nt_nI (by omega)]; omega⟩
    simp only [hp_at, if_true, upd]
    by_cases z : e = n
    · rw [if_pos z, z]
    · rw [if_neg z]; exact hv e (by omega)
