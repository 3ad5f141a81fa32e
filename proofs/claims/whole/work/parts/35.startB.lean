/-! ===== the first state ===== -/
theorem d0_sh {p : hp_H} {k : Nat} (h : k < nt (p 0 0)) : d0 p k = nt (p 3 k) := if_pos h
theorem d0_own {p : hp_H} {r m x : Nat} (v : VP p) (hr : r < nt (p 0 4)) (hm : m < nt (p 4 r)) (hx : x < nt (p 5 r)) : d0 p (7 + 4 * (3 * r + m) + x) = nt (p 8 (3 * r + x)) := by
  have a := v.1.1.2
  have r3 : r < 3 := by have := v.2.1.1.2; omega
  have b := (v.2.1.2.1 r r3).2
  have c := (v.2.1.2.2.1 r hr).1.2
  have q1 : (7 + 4 * (3 * r + m) + x - 6) / 12 = r := by omega
  have q2 : (7 + 4 * (3 * r + m) + x - 6) % 12 / 4 = m := by omega
  have q3 : (7 + 4 * (3 * r + m) + x - 6) % 4 = x + 1 := by omega
  unfold d0
  rw [if_neg (by omega), q1, q2, q3, if_pos ⟨by omega, by omega, hr, hm, by omega, by omega⟩]
  rw [show 3 * r + (x + 1) - 1 = 3 * r + x by omega]
theorem d0_0 {p : hp_H} {k : Nat} (h1 : nt (p 0 0) ≤ k) (h : ¬ (6 ≤ k ∧ k < 42 ∧ (k - 6) / 12 < nt (p 0 4) ∧ (k - 6) % 12 / 4 < nt (p 4 ((k - 6) / 12)) ∧ 1 ≤ (k - 6) % 4 ∧ (k - 6) % 4 ≤ nt (p 5 ((k - 6) / 12)))) : d0 p k = 0 := by
  unfold d0
  rw [if_neg (by omega), if_neg h]
theorem d0_9 {p : hp_H} (v : VP p) : ∀ k, d0 p k ≤ 9 := by
  intro k
  unfold d0
  split
  · next h => exact (v.1.2 k h).2.2.1.2
  · split
    · next h1 h =>
      obtain ⟨a1, a2, a3, a4, a5, a6⟩ := h
      have r3 : (k - 6) / 12 < 3 := by omega
      have := (v.2.1.2.2.2.2 ((k - 6) / 12) ((k - 6) % 4 - 1) r3 (by omega)).2.2.1.2
      rw [show 3 * ((k - 6) / 12) + ((k - 6) % 4 - 1) = 3 * ((k - 6) / 12) + (k - 6) % 4 - 1 by omega] at this
      exact this
    · omega
theorem d0_mm {p : hp_H} (v : VP p) {r m x : Nat} (hr : r < nt (p 0 4)) (hm : m < nt (p 4 r)) (hx : x < 4) : d0 p (6 + 4 * (3 * r + m) + x) = d0 p (6 + 4 * (3 * r) + x) := by
  have a := v.1.1.2
  have r3 : r < 3 := by have := v.2.1.1.2; omega
  have b := (v.2.1.2.1 r r3).2
  have c := (v.2.1.2.2.1 r hr).1.2
  by_cases z : 1 ≤ x ∧ x ≤ nt (p 5 r)
  · have e1 := d0_own v hr hm (show x - 1 < nt (p 5 r) by omega)
    have e2 := d0_own v hr (show 0 < nt (p 4 r) by omega) (show x - 1 < nt (p 5 r) by omega)
    rw [show 7 + 4 * (3 * r + m) + (x - 1) = 6 + 4 * (3 * r + m) + x by omega] at e1
    rw [show 7 + 4 * (3 * r + 0) + (x - 1) = 6 + 4 * (3 * r) + x by omega] at e2
    rw [e1, e2]
  · rw [d0_0 (by omega) (fun q => z ?_), d0_0 (by omega) (fun q => z ?_)]
    · obtain ⟨q1, q2, q3, q4, q5, q6⟩ := q
      rw [show (6 + 4 * (3 * r) + x - 6) / 12 = r by omega] at q6
      omega
    · obtain ⟨q1, q2, q3, q4, q5, q6⟩ := q
      rw [show (6 + 4 * (3 * r + m) + x - 6) / 12 = r by omega] at q6
      omega
theorem d0_G {p : hp_H} (v : VP p) : DG p (d0 p) := by
  have a := v.1.1.2
  refine ⟨d0_9 v, fun c hc => ?_, fun _ r hr m hm => ?_⟩
  · rw [d0_0 (by omega) (by omega)]
    exact ⟨by omega, fun i hi _ => d0_0 (by omega) (by omega)⟩
  · have r3 : r < 3 := by have := v.2.1.1.2; omega
    have c := (v.2.1.2.2.1 r hr).1.2
    have w : ∀ y, y < nt (p 4 r) → rw_w (d0 p) (1 + (3 * r + y)) = rw_w (d0 p) (1 + 3 * r) := by
      intro y hy
      rw [rw_m _ (by omega), rw_m _ (by omega)]
      have f0 := d0_mm v hr hy (x := 0) (by decide); have f1 := d0_mm v hr hy (x := 1) (by decide); have f2 := d0_mm v hr hy (x := 2) (by decide); have f3 := d0_mm v hr hy (x := 3) (by decide)
      rw [show 6 + 4 * (3 * r + y) + 0 = 6 + 4 * (3 * r + y) by omega, show 6 + 4 * (3 * r) + 0 = 6 + 4 * (3 * r) by omega] at f0
      rw [show 6 + 4 * (3 * r + y) + 1 = 7 + 4 * (3 * r + y) by omega, show 6 + 4 * (3 * r) + 1 = 7 + 4 * (3 * r) by omega] at f1
      rw [show 6 + 4 * (3 * r + y) + 2 = 8 + 4 * (3 * r + y) by omega, show 6 + 4 * (3 * r) + 2 = 8 + 4 * (3 * r) by omega] at f2
      rw [show 6 + 4 * (3 * r + y) + 3 = 9 + 4 * (3 * r + y) by omega, show 6 + 4 * (3 * r) + 3 = 9 + 4 * (3 * r) by omega] at f3
      rw [f0, f1, f2, f3]
    rw [show 2 + (3 * r + m) = 1 + (3 * r + (m + 1)) by omega, w m (by omega), w (m + 1) (by omega)]
    exact Nat.le_refl _
theorem g0_27 {p : hp_H} {k : Nat} (h : k < 54) : g0 p 27 k = nI (d0 p k) := by unfold g0; rw [if_pos ⟨rfl, h⟩]
theorem g0_N {p : hp_H} : gN (g0 p) = 1 ∧ g0 p 0 35 = nI 1 ∧ gK (g0 p) = 0 ∧ g0 p 0 40 = nI 0 ∧ g0 p 0 34 = nI 0 ∧ g0 p 0 46 = nI 0 := by
  unfold gN gK g0; simp
  exact ⟨nt_nI (by decide), nt_nI (by decide)⟩
theorem g0_d {p : hp_H} (v : VP p) {k : Nat} (h : k < 54) : dg (g0 p) 0 k = d0 p k := by
  have := d0_9 v k
  rw [dg_lt h, show 54 * 0 + k = k by omega, g0_27 h]; exact nt_nI (by omega)
theorem GW_0 {p : hp_H} (v : VP p) : GW p (g0 p) := by
  obtain ⟨n1, n2, n3, n4, n5, n6⟩ := g0_N (p := p)
  unfold GW
  rw [n1, n2, n4, n5, n6]
  refine ⟨isn_i (by decide) (by decide), Nat.le_refl _, isn_i (by decide) (by decide), Or.inl rfl, Or.inl rfl, fun s hs => ?_, fun s t hs ht hst => by omega⟩
  have z : s = 0 := by omega
  subst z
  refine ⟨fun k hk => by rw [g0_d v hk, show 54 * 0 + k = k by omega]; exact g0_27 hk, (d0_G v).cg (fun k hk => g0_d v hk) (fun k => ?_) v⟩
  by_cases z : k < 54
  · rw [g0_d v z]; exact d0_9 v k
  · unfold dg; rw [if_neg z]; omega
/-- how far the first row is written: shared variables, roles, members, own variables -/
def pS (p : hp_H) (i : Nat) (k : Nat) : Prop := k < i
def pR (p : hp_H) (r m x : Nat) (k : Nat) : Prop := k < nt (p 0 0) ∨ (6 ≤ k ∧ k < 42 ∧ ((k - 6) / 12 < r ∨ ((k - 6) / 12 = r ∧ ((k - 6) % 12 / 4 < m ∨ ((k - 6) % 12 / 4 = m ∧ (k - 6) % 4 ≤ x)))))
def pW (p : hp_H) (f : Nat → Prop) (d : Nat → Nat) : Prop := (∀ k, k < 54 → f k → d k = d0 p k) ∧ ∀ k, k < 54 → ¬ f k → d k = 0
theorem pW_S {p : hp_H} {i : Nat} {d : Nat → Nat} (h : pW p (pS p i) d) (hi : i < nt (p 0 0)) (h6 : nt (p 0 0) ≤ 6) : pW p (pS p (i + 1)) (va_up d i (nt (p 3 i))) := by
  unfold pW pS at *
  refine ⟨fun k hk z => ?_, fun k hk z => ?_⟩
  · by_cases y : k = i
    · rw [y, va_e, d0_sh hi]
    · rw [va_n _ _ y]; exact h.1 k hk (by omega)
  · rw [va_n _ _ (by omega)]; exact h.2 k hk (by omega)
theorem pW_SR {p : hp_H} {d : Nat → Nat} (h : pW p (pS p (nt (p 0 0))) d) : pW p (pR p 0 0 0) d := by
  unfold pW pS pR at *
  refine ⟨fun k hk z => ?_, fun k hk z => h.2 k hk (by omega)⟩
  by_cases y : k < nt (p 0 0)
  · exact h.1 k hk y
  · rw [h.2 k hk y, d0_0 (by omega) (by omega)]
theorem pW_R {p : hp_H} {r m x : Nat} {d : Nat → Nat} (v : VP p) (h : pW p (pR p r m x) d) (hr : r < nt (p 0 4)) (hm : m < nt (p 4 r)) (hx : x < nt (p 5 r)) : pW p (pR p r m (x + 1)) (va_up d (7 + 4 * (3 * r + m) + x) (nt (p 8 (3 * r + x)))) := by
  have a := v.1.1.2
  have r3 : r < 3 := by have := v.2.1.1.2; omega
  have b := (v.2.1.2.1 r r3).2
  have c := (v.2.1.2.2.1 r hr).1.2
  unfold pW pR at *
  refine ⟨fun k hk z => ?_, fun k hk z => ?_⟩
  · by_cases y : k = 7 + 4 * (3 * r + m) + x
    · rw [y, va_e, d0_own v hr hm hx]
    · rw [va_n _ _ y]; exact h.1 k hk (by omega)
  · rw [va_n _ _ (by omega)]; exact h.2 k hk (by omega)
theorem pW_M {p : hp_H} {r m : Nat} {d : Nat → Nat} (v : VP p) (h : pW p (pR p r m (nt (p 5 r))) d) (hr : r < nt (p 0 4)) (hm : m < nt (p 4 r)) : pW p (pR p r (m + 1) 0) d := by
  have a := v.1.1.2
  have r3 : r < 3 := by have := v.2.1.1.2; omega
  have c := (v.2.1.2.2.1 r hr).1.2
  unfold pW pR at *
  refine ⟨fun k hk z => ?_, fun k hk z => h.2 k hk (by omega)⟩
  by_cases y : k < nt (p 0 0) ∨ (6 ≤ k ∧ k < 42 ∧ ((k - 6) / 12 < r ∨ ((k - 6) / 12 = r ∧ ((k - 6) % 12 / 4 < m ∨ ((k - 6) % 12 / 4 = m ∧ (k - 6) % 4 ≤ nt (p 5 r))))))
  · exact h.1 k hk y
  · rw [h.2 k hk y, d0_0 (by omega) (fun q => ?_)]
    obtain ⟨q1, q2, q3, q4, q5, q6⟩ := q
    by_cases e : (k - 6) / 12 = r
    · rw [e] at q6; omega
    · omega
theorem pW_N {p : hp_H} {r : Nat} {d : Nat → Nat} (v : VP p) (h : pW p (pR p r (nt (p 4 r)) 0) d) (hr : r < nt (p 0 4)) : pW p (pR p (r + 1) 0 0) d := by
  have a := v.1.1.2
  have r3 : r < 3 := by have := v.2.1.1.2; omega
  unfold pW pR at *
  refine ⟨fun k hk z => ?_, fun k hk z => h.2 k hk (by omega)⟩
  by_cases y : k < nt (p 0 0) ∨ (6 ≤ k ∧ k < 42 ∧ ((k - 6) / 12 < r ∨ ((k - 6) / 12 = r ∧ ((k - 6) % 12 / 4 < nt (p 4 r) ∨ ((k - 6) % 12 / 4 = nt (p 4 r) ∧ (k - 6) % 4 ≤ 0)))))
  · exact h.1 k hk y
  · rw [h.2 k hk y, d0_0 (by omega) (fun q => ?_)]
    obtain ⟨q1, q2, q3, q4, q5, q6⟩ := q
    by_cases e : (k - 6) / 12 = r
    · rw [e] at q4; omega
    · omega
theorem pW_E {p : hp_H} {d : Nat → Nat} (v : VP p) (h : pW p (pR p (nt (p 0 4)) 0 0) d) : ∀ k, k < 54 → d k = d0 p k := by
  intro k hk
  have a := v.1.1.2
  by_cases y : pR p (nt (p 0 4)) 0 0 k
  · exact h.1 k hk y
  · rw [h.2 k hk y]
    unfold pR at y
    rw [d0_0 (by omega) (by omega)]
set_option maxHeartbeats 1000000 in
theorem s_setFirst {p b : hp_H} {Q : hp_H → Prop} (v : VP p) (eq : EQ b p) (hQ : ∀ b', (∀ k, k ≠ 48 → b' k = b k) → rw_B b' 48 (d0 p) → Q b') : q_X4_setFirst b Q := by
  have v' := v
  obtain ⟨vs, vr, vc, vx, vt, v30⟩ := v'
  obtain ⟨e4, e5, e6, e13, e8, e9, e10, e11, -⟩ := eq.1
  have s6 := vs.1.2
  have R3 := vr.1.2
  unfold q_X4_setFirst q_X7_clear
  refine s_fill (by decide) (fun h1 f1 z1 => ?_)
  have w0 : rw_B h1 48 (fun _ => 0) := by
    intro j hj
    rw [z1 j hj]
    have : ∀ j, j < 13 → rw_w (fun _ => 0) j = 0 := by decide
    rw [this j hj]
  refine hp_lp1h_ind (fun x h => ∃ i d, x = nI i ∧ i ≤ nt (p 0 0) ∧ (∀ k, k ≠ 48 → h k = b k) ∧ rw_B h 48 d ∧ rw_D d ∧ pW p (pS p i) d) (fun x h => 6 - nt x) ?_ ⟨0, fun _ => 0, rfl, by omega, f1, w0, fun k => Nat.zero_lt_succ 15, ⟨fun k _ z => absurd z (by unfold pS; omega), fun k _ _ => rfl⟩⟩
  rintro x h ⟨i, d, rfl, hi, fr, rB, rD, pw⟩
  have e3 : h 3 0 = nI (nt (p 0 0)) := by rw [fr 3 (by decide), eq.2.1.1]; exact vs.1.1
  rw [nI_clamp (show 0 < 2 ^ 31 by decide), e3, nI_leI (by omega) (by omega)]
  refine ⟨nu_in (by decide) (by decide), fun c => ?_, fun c => ?_⟩
  case refine_2 =>
    unfold q_X10_firstOf
    have e21 : h 2 1 = nI 6 := by rw [fr 2 (by decide)]; exact eq.2.1.2.2.2.2.2.2.1
    rw [e21, pk_mul, nI_add, show 0 * 6 + i = i by omega, nI_clamp (show i < 2 ^ 31 by omega), fr 6 (by decide), e6]
    have q3 := (vs.2 i (by omega)).2.2.1
    have q32 := q3.2
    refine ⟨nu_in (by omega) (by decide), ?_⟩
    rw [q3.1]
    refine s_setShared rD rB (by omega) (by omega) (fun h24 f24 r24 => ?_)
    rintro w rfl
    rw [nI_add]
    exact ⟨⟨i + 1, _, rfl, by omega, fun k hk => by rw [f24 k hk, fr k hk], r24, rw_D_up rD (by omega), pW_S pw (by omega) s6⟩, by rw [nt_nI (by omega), nt_nI (by omega)]; omega⟩
  rw [show i = nt (p 0 0) by omega] at pw
  refine hp_lp1h_ind (fun x h => ∃ r d, x = nI r ∧ r ≤ nt (p 0 4) ∧ (∀ k, k ≠ 48 → h k = b k) ∧ rw_B h 48 d ∧ rw_D d ∧ pW p (pR p r 0 0) d) (fun x h => 3 - nt x) ?_ ⟨0, d, rfl, by omega, fr, rB, rD, pW_SR pw⟩
  rintro x h ⟨r, d, rfl, hr, fr, rB, rD, pw⟩
  have e12 : h 12 1 = nI (nt (p 0 4)) := by rw [fr 12 (by decide), eq.2.1.2.1]; exact vr.1.1
  rw [e12, nI_leI (by omega) (by omega)]
  refine ⟨fun c => hQ h fr (fun j hj => ?_), fun c => ?_⟩
  · rw [show r = nt (p 0 4) by omega] at pw
    rw [rB j hj, rw_cong (pW_E v pw) j hj]
  have rr : r < nt (p 0 4) := by omega
  have m4 := (vr.2.2.1 r rr).1
  have m42 := m4.2
  have o5 := vr.2.1 r (by omega)
  have o52 := o5.2
  refine hp_lp1h_ind (fun x h => ∃ m d, x = nI m ∧ m ≤ nt (p 4 r) ∧ (∀ k, k ≠ 48 → h k = b k) ∧ rw_B h 48 d ∧ rw_D d ∧ pW p (pR p r m 0) d) (fun x h => 3 - nt x) ?_ ⟨0, d, rfl, by omega, fr, rB, rD, pw⟩
  rintro x h ⟨m, d, rfl, hm, fr, rB, rD, pw⟩
  have e13' : h 13 r = nI (nt (p 4 r)) := by rw [fr 13 (by decide), e13]; exact m4.1
  rw [nI_clamp (show r < 2 ^ 31 by omega), e13', nI_leI (by omega) (by omega)]
  refine ⟨nu_in (by omega) (by decide), fun c2 => ?_, fun c2 => ?_⟩
  · rintro w rfl
    rw [nI_add]
    rw [show m = nt (p 4 r) by omega] at pw
    exact ⟨⟨r + 1, d, rfl, by omega, fr, rB, rD, pW_N v pw rr⟩, by rw [nt_nI (by omega), nt_nI (by omega)]; omega⟩
  have mm : m < nt (p 4 r) := by omega
  refine hp_lp1h_ind (fun x h => ∃ i d, x = nI i ∧ i ≤ nt (p 5 r) ∧ (∀ k, k ≠ 48 → h k = b k) ∧ rw_B h 48 d ∧ rw_D d ∧ pW p (pR p r m i) d) (fun x h => 3 - nt x) ?_ ⟨0, d, rfl, by omega, fr, rB, rD, pw⟩
  rintro x h ⟨i, d, rfl, hi, fr, rB, rD, pw⟩
  have e8' : h 8 r = nI (nt (p 5 r)) := by rw [fr 8 (by decide), e8]; exact o5.1
  rw [e8', nI_leI (by omega) (by omega)]
  refine ⟨nu_in (by omega) (by decide), fun c3 => ?_, fun c3 => ?_⟩
  · rintro w rfl
    rw [nI_add]
    rw [show i = nt (p 5 r) by omega] at pw
    exact ⟨⟨m + 1, d, rfl, by omega, fr, rB, rD, pW_M v pw rr mm⟩, by rw [nt_nI (by omega), nt_nI (by omega)]; omega⟩
  have ii : i < nt (p 5 r) := by omega
  unfold q_X10_firstOf
  have e71 : h 7 1 = nI 3 := by rw [fr 7 (by decide)]; exact eq.2.1.2.2.2.2.2.2.2
  rw [e71, pk_mul, nI_add, show r * 3 + i = 3 * r + i by omega, nI_clamp (show 3 * r + i < 2 ^ 31 by omega), fr 11 (by decide), e11]
  have q3 := (vr.2.2.2.2 r i (by omega) ii).2.2.1
  have q32 := q3.2
  refine ⟨nu_in (by omega) (by decide), ?_⟩
  rw [q3.1]
  refine s_setOwn rD rB (by omega) (by omega) (by omega) (by omega) (fun h24 f24 r24 => ?_)
  rintro w rfl
  rw [nI_add]
  exact ⟨⟨i + 1, _, rfl, by omega, fun k hk => by rw [f24 k hk, fr k hk], r24, rw_D_up rD (by omega), pW_R v pw rr mm ii⟩, by rw [nt_nI (by omega), nt_nI (by omega)]; omega⟩
theorem s_slot0 {b : hp_H} {e : Nat → Nat} {Q : Int32 → Prop} (hb : rw_B b 48 e) (z : ∀ x, x < 1024 → b 43 x = nI 0) (h : Q (nI (hs (wd e)))) : q_X2_slotOf b Q := by
  unfold q_X2_slotOf
  refine hp_lp2_ind (fun x v => ∃ j, v = nI j ∧ j ≤ 13 ∧ x = mx (wd e) j) (fun x v => 13 - nt v) ?_ ⟨0, rfl, by omega, rfl⟩
  rintro x v ⟨j, rfl, hj, rfl⟩
  rw [nI_leI (by decide) (by omega), nI_clamp (show j < 2 ^ 31 by omega)]
  refine ⟨fun c => ?_, fun c => ⟨nu_in (by omega) (by decide), ?_⟩⟩
  · have e13 : j = 13 := by omega
    subst e13
    rintro v5 rfl v6 rfl
    obtain ⟨l1, l2⟩ := hs_lt (wd e)
    rw [l2]
    refine hp_lp2_f ?_
    rw [nI_leI (by decide) (by omega), nI_clamp (show hs (wd e) < 2 ^ 31 by omega), z _ l1]
    exact ⟨fun c2 => by omega, fun c2 => ⟨nu_in l1 (by decide), fun _ => h, fun q => absurd rfl q⟩⟩
  · rintro v16 rfl v17 rfl
    rw [hb j (by omega), nI_add]
    exact ⟨⟨j + 1, rfl, by omega, rfl⟩, by rw [nt_nI (by omega), nt_nI (by omega)]; omega⟩
theorem s_start {p b : hp_H} {Q : hp_H → Prop} (v : VP p) (eq : EQ b p) (hQ : ∀ b', (∀ k, k ≠ 48 → (k < 35 ∨ 43 < k) → b' k = b k) → AB p (g0 p) 0 b' → Q b') : q_X8_start b Q := by
  unfold q_X8_start
  refine s_setFirst v eq (fun h1 f1 r1 => ?_)
  unfold q_X2_begin q_X2_clear
  rintro b1 rfl b2 rfl b3 rfl b4 rfl b5 rfl b6 rfl b7 rfl b8 e8
  have o8 : ∀ k, k ≠ 35 → b8 k = h1 k := by intro k hk; rw [e8]; simp [hp_at, hk]
  refine s_fill (by decide) (fun h2 f2 z2 => ?_)
  intro h3 e3
  have o3 : ∀ k, k ≠ 35 → k ≠ 43 → h3 k = h1 k := by intro k h1 h2; rw [e3, hp_at, if_neg h1, f2 k h2, o8 k h1]
  have z3 : ∀ x, x < 1024 → h3 43 x = nI 0 := by intro x hx; rw [e3, hp_at, if_neg (by decide)]; exact z2 x hx
  have r3 : rw_B h3 48 (d0 p) := fun j hj => by rw [o3 48 (by decide) (by decide)]; exact r1 j hj
  have fld : h3 35 0 = nI 1 ∧ h3 35 1 = nI 0 ∧ h3 35 2 = nI 0 ∧ h3 35 3 = nI 0 ∧ h3 35 4 = -1 ∧ h3 35 5 = -1 ∧ h3 35 6 = -1 ∧ h3 35 7 = -1 := by
    rw [e3, hp_at, if_pos rfl, f2 35 (by decide), e8]
    simp [hp_at, upd]
  obtain ⟨q0, q1, q2, q3, q4, q5, q6, q7⟩ := fld
  have hl := (hs_lt (wd (d0 p))).1
  refine s_slot0 r3 z3 ?_
  refine s_addState (n := 0) q2 (by decide) r3 hl (Or.inl rfl) (fun b' f1' f2' f3' f4' f5' f6' f7' f8' f9' f10' f11' f12' => hQ b' (fun k k1 k2 => ?_) ?_)
  · rw [f1' k (by omega) (by omega) (by omega) (by omega) (by omega) (by omega), o3 k (by omega) (by omega), f1 k k1]
  · obtain ⟨n1, n2, n3, n4, n5, n6⟩ := g0_N (p := p)
    have g1 : g0 p 28 0 = -1 ∧ g0 p 29 0 = -1 ∧ g0 p 30 0 = nI 0 := by unfold g0; simp
    unfold AB
    rw [n1, n2, n3, n4, n5, n6, f2' 0 (by decide), f2' 1 (by decide), f2' 3 (by decide), f2' 4 (by decide), f2' 5 (by decide), f2' 6 (by decide), f2' 7 (by decide), q0, q1, q3, q4, q5, q6, q7]
    refine ⟨GW_0 v, rfl, rfl, f3', rfl, fun _ => ⟨rfl, rfl, rfl, rfl⟩, fun z => absurd rfl z, fun s hs j hj => ?_, fun s hs => ?_, fun i hi => by omega, fun i hi => by omega, fun x hx => ?_, fun x y hx hy e1 e2 => ?_, fun s hsn => ?_⟩
    · have z : s = 0 := by omega
      subst z
      rw [f5' j hj, rw_cong (fun k hk => g0_d v hk) j hj]
    · have z : s = 0 := by omega
      subst z
      exact ⟨by rw [f7', g1.1], by rw [f8', g1.2.1], by rw [f9' rfl, g1.2.2]⟩
    · by_cases z : x = hs (wd (d0 p))
      · right; exact ⟨0, by rw [n1]; decide, by rw [z]; exact f12'⟩
      · left; rw [f11' x z]; exact z3 x hx
    · by_cases z : x = hs (wd (d0 p))
      · by_cases z2 : y = hs (wd (d0 p))
        · omega
        · rw [e1, f11' y z2] at e2; exact absurd (z3 y hy) e2
      · rw [f11' x z] at e2; exact absurd (z3 x hx) e2
    · have z : s = 0 := by rw [n1] at hsn; omega
      subst z
      have hh : hs (wd (dg (g0 p) 0)) = hs (wd (d0 p)) := hs_cg (fun j hj => by unfold wd; rw [rw_cong (fun k hk => g0_d v hk) j hj])
      exact ⟨_, hl, f12', 0, by decide, by rw [hh]; omega, fun u hu => by omega⟩
theorem sr_0 {p g : hp_H} {f s : Nat} (h : ¬ (s < gN g ∧ g 0 34 = 0)) : sr p f s g = g := by
  rcases f with _ | f
  · rfl
  · show cif _ _ _ = _
    rw [cif_f h]
theorem sr_s {p g : hp_H} {f s : Nat} (h : s < gN g ∧ g 0 34 = 0) : sr p (f + 1) s g = sr p f (s + 1) (gB (List.foldl (pr s) (gB g s) (evs p (dg g s))) (s + 1)) := by
  show cif _ _ _ = _
  rw [cif_t h]
/-- the class's search, when none is there -/
theorem s_searchNew {p b : hp_H} {K : hp_H → Prop} (v : VP p) (eq : EQ b p) (us : US p b) (hQ : ∀ b' q, FY b b' → AB p (srch p) q b' → (srch p 0 34 = 0 → gN (srch p) < q) → K b') : q_X8_start b (fun h7 =>
        hp_lp1h (fun v9 h10 B8 =>
          ((nI 400) ≤ v9 →
            K h10) ∧ (¬ (nI 400) ≤ v9 →
            ((h10 35 2) ≤ v9 →
              K h10) ∧ (¬ (h10 35 2) ≤ v9 →
              ((h10 35 1) = 0 →
                q_X8_goThrough h10 v9 (fun h14 =>
                ∀ v15 : Int32, v15 = v9 + (nI 1) →
                B8 v15 h14)) ∧ (¬ (h10 35 1) = 0 →
                K h10)))) (nI 0) h7) := by
  refine s_start v eq (fun h7 f7 a7 => ?_)
  generalize hF : srch p = FIN at hQ
  unfold srch at hF
  refine hp_lp1h_ind (fun x h => ∃ s q g', x = nI s ∧ s ≤ 400 ∧ FY b h ∧ AB p g' q h ∧ s ≤ q ∧ (0 < s → s < q) ∧ sr p (400 - s) s g' = FIN) (fun x h => 400 - nt x) ?_ ⟨0, 0, g0 p, rfl, by omega, fun k _ _ k3 _ k5 => f7 k k3 k5, a7, Nat.le_refl _, fun z => by omega, hF⟩
  rintro x h ⟨s, q, g', rfl, hs, fy, ab, sq, sq', hf⟩
  have n4 := gN_le ab.1
  have n1 := ab.1.2.1
  have e2 : h 35 2 = nI (gN g') := by rw [ab.2.2.2.1]; exact ab.1.1.1
  rw [nI_leI (by decide) (by omega), e2, nI_leI (by omega) (by omega)]
  refine ⟨fun c1 => ?_, fun c1 => ⟨fun c2 => ?_, fun c2 => ⟨fun c3 => ?_, fun c3 => ?_⟩⟩⟩
  · rw [show 400 - s = 0 by omega] at hf
    have hf : g' = FIN := hf
    subst hf
    exact hQ h q fy ab (fun _ => by have := sq' (by omega); omega)
  · rw [sr_0 (by omega)] at hf
    subst hf
    exact hQ h q fy ab (fun _ => by have := sq' (by omega); omega)
  · have sp : g' 0 34 = 0 := by rw [← ab.2.2.1]; exact c3
    rw [show 400 - s = (400 - (s + 1)) + 1 by omega, sr_s ⟨by omega, sp⟩] at hf
    refine s_goThrough v (EQ.fs (fun k hk => fy k (by omega) (by omega) (by omega) (by omega) (by omega)) eq) (us.fs (fy 21 (by decide) (by decide) (by decide) (by decide) (by decide))) ab (by omega) sq (fun h14 f14 a14 => ?_)
    rintro w rfl
    rw [nI_add]
    exact ⟨⟨s + 1, s + 2, _, rfl, by omega, fy.tr f14, a14, by omega, fun _ => by omega, hf⟩, by rw [nt_nI (by omega), nt_nI (by omega)]; omega⟩
  · have sp : ¬ g' 0 34 = 0 := by rw [← ab.2.2.1]; exact c3
    rw [sr_0 (fun z => sp z.2)] at hf
    subst hf
    exact hQ h q fy ab (fun z => absurd z sp)
