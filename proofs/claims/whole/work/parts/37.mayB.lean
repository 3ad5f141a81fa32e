/-- the uses of the first n steps, and of some acts of the next one -/
def mu (p : hp_H) (n : Nat) (r e : Nat) : Prop := ∃ s, s < n ∧ nt (p 18 s) = r ∧ rootS p s e
def mu2 (p : hp_H) (n j : Nat) (e : Nat) : Prop := (¬ p 21 n = -1 ∧ e = nt (p 21 n)) ∨ ∃ i, i < j ∧ ¬ nt (p 23 (4 * n + i)) = 3 ∧ e = nt (p 25 (4 * n + i))
set_option maxHeartbeats 1000000 in
theorem s_markUses {p b : hp_H} {Q : hp_H → Prop} (v : VP p) (eq : EQ b p) (hQ : ∀ b', (∀ k, k ≠ 21 → b' k = b k) → (∀ r, r < 3 → ∀ e, e < nt (p 0 15) → (¬ (b' 21 e &&& rb r) = 0 ↔ Rc p (roots p r) e)) → Q b') : q_X4_markUses b Q := by
  have v' := v
  obtain ⟨vs, vr, vc, vx, vt, v30⟩ := v'
  have E8 := vx.1.2
  have S24 := vt.1.2
  have R3 := vr.1.2
  obtain ⟨e4, e5, e6, e13, e8, e9, e10, e11, e32, e33, e34, e17, e18, e19, e20, e22, e24, e25, e26, e27, e28, e29, e30, e31⟩ := eq.1
  unfold q_X4_markUses
  refine s_dropUse v eq (fun h1 f1 d1 => ?_)
  refine hp_lp1h_ind (fun x h => ∃ n, x = nI n ∧ n ≤ nt (p 0 21) ∧ (∀ k, k ≠ 21 → h k = b k) ∧ ∀ r, r < 3 → ∀ e, e < nt (p 0 15) → (¬ (h 21 e &&& rb r) = 0 ↔ mu p n r e)) (fun x h => 24 - nt x) ?_ ⟨0, rfl, by omega, f1, fun r hr e he => ?_⟩
  case refine_2 =>
    rw [d1 e he, and_rot, drop7 r hr, and_z]
    exact ⟨fun z => absurd rfl z, fun ⟨s, s1, _⟩ => by omega⟩
  rintro x h ⟨n, rfl, hn, fr, hu⟩
  have e23 : h 23 8 = nI (nt (p 0 21)) := by rw [fr 23 (by decide), eq.2.1.2.2.2.2.1]; exact vt.1.1
  rw [e23, nI_leI (by omega) (by omega), nI_clamp (show n < 2 ^ 31 by omega), fr 24 (by decide), fr 27 (by decide), e24, e27]
  refine ⟨fun c => ?_, fun c => ⟨nu_in (by omega) (by decide), ?_⟩⟩
  · refine s_spreadUses v (EQ.fs (fun k hk => fr k (by omega)) eq) (fun h6 f6 u6 => hQ h6 (fun k hk => by rw [f6 k hk, fr k hk]) (fun r hr e he => ?_))
    rw [u6 (rb r) e he]
    rw [show n = nt (p 0 21) by omega] at hu
    constructor
    · exact fun z => z.mono (fun x hx => (hu r hr x hx.1).mp hx.2)
    · intro z
      refine z.mono (fun x hx => ?_)
      have hx' := hx
      obtain ⟨s, s1, s2, s3⟩ := hx'
      have xl := rootS_lt v s1 s3
      exact ⟨xl, (hu r hr x xl).mpr hx⟩
  have ns : n < nt (p 0 21) := by omega
  obtain ⟨v1, v2, v3, v4, v5, v6, v7⟩ := vt.2.2.2 n ns
  have v12 := v1.2
  have v22 := vt.2.1 n (by omega)
  have n4 := v22.2
  rintro us rfl
  have eus : hp_shl (nI 1) (p 18 n) = rb (nt (p 18 n)) := by unfold rb; rw [← v1.1]
  rw [eus]
  have i24 : vp_in (nI n) 24 := nu_in (by omega) (by decide)
  refine ⟨i24, ?_⟩
  refine ⟨fun h' => (∀ k, k ≠ 21 → h' k = b k) ∧ ∀ r, r < 3 → ∀ e, e < nt (p 0 15) → (¬ (h' 21 e &&& rb r) = 0 ↔ mu p n r e ∨ (nt (p 18 n) = r ∧ mu2 p n 0 e)), ⟨fun z => ?_, fun z => ⟨i24, ?_⟩⟩, ?_⟩
  · refine ⟨fr, fun r hr e he => (hu r hr e he).trans ⟨Or.inl, fun q => q.elim id ?_⟩⟩
    rintro ⟨_, (⟨y, _⟩ | ⟨i, i1, _⟩)⟩
    · exact absurd z y
    · omega
  · have g1 : p 21 n = nI (nt (p 21 n)) ∧ nt (p 21 n) < nt (p 0 15) := v5.elim (fun y => absurd y z) (fun y => ⟨y.1.1, y.2⟩)
    rw [g1.1]
    refine s_addUse (by omega) (fun h11 f11 u11 => ⟨fun k hk => by rw [f11 k hk, fr k hk], fun r hr e he => ?_⟩)
    rw [u11 (rb r) e, hu r hr e he]
    have rr := rb_rb r hr (nt (p 18 n)) (by omega)
    constructor
    · rintro (y | ⟨y1, y2⟩)
      · exact Or.inl y
      · refine Or.inr ⟨?_, Or.inl ⟨z, y1⟩⟩
        by_cases w : nt (p 18 n) = r
        · exact w
        · exact absurd (rr.mpr w) y2
    · rintro (y | ⟨y1, y2 | ⟨i, i1, _⟩⟩)
      · exact Or.inl y
      · exact Or.inr ⟨y2.2, fun q => (rr.mp q) y1⟩
      · omega
  · rintro h10 ⟨f10, u10⟩
    rintro w rfl
    rw [pk_mul]
    refine hp_lp1h_ind (fun x h => ∃ j, x = nI (n * 4 + j) ∧ j ≤ nt (p 22 n) ∧ (∀ k, k ≠ 21 → h k = b k) ∧ ∀ r, r < 3 → ∀ e, e < nt (p 0 15) → (¬ (h 21 e &&& rb r) = 0 ↔ mu p n r e ∨ (nt (p 18 n) = r ∧ mu2 p n j e))) (fun x h => n * 4 + 4 - nt x) ?_ ⟨0, rfl, by omega, f10, u10⟩
    rintro x h ⟨j, rfl, hj, fr, hu⟩
    refine ⟨i24, ?_⟩
    have ad : nI (n * 4) + h 28 n = nI (n * 4 + nt (p 22 n)) := by
      rw [fr 28 (by decide), e28]
      conv => lhs; rw [v22.1]
      rw [nI_add]
    rw [ad, nI_leI (by omega) (by omega), nI_clamp (show n * 4 + j < 2 ^ 31 by omega), show n * 4 + j = 4 * n + j by omega, fr 29 (by decide), fr 31 (by decide), e29, e31]
    refine ⟨fun c2 => ?_, fun c2 => ⟨nu_in (by omega) (by decide), ?_⟩⟩
    · rintro w rfl
      rw [nI_add]
      refine ⟨⟨n + 1, rfl, by omega, fr, fun r hr e he => (hu r hr e he).trans ?_⟩, by rw [nt_nI (by omega), nt_nI (by omega)]; omega⟩
      rw [show j = nt (p 22 n) by omega]
      constructor
      · rintro (⟨s, s1, s2⟩ | ⟨y1, y2⟩)
        · exact ⟨s, by omega, s2⟩
        · exact ⟨n, by omega, y1, y2⟩
      · rintro ⟨s, s1, s2, s3⟩
        rcases (show s < n ∨ s = n by omega) with q | q
        · exact Or.inl ⟨s, q, s2, s3⟩
        · subst q; exact Or.inr ⟨s2, s3⟩
    have jj : j < nt (p 22 n) := by omega
    obtain ⟨w1, w2, w3, w4, w5, w6⟩ := v6 j jj
    have w12 := w1.2
    have kk : p 23 (4 * n + j) = nI 3 ↔ nt (p 23 (4 * n + j)) = 3 := ⟨fun z => by rw [z]; exact nt_nI (by omega), fun z => by rw [w1.1, z]⟩
    rw [kk]
    refine ⟨fun h' => (∀ k, k ≠ 21 → h' k = b k) ∧ ∀ r, r < 3 → ∀ e, e < nt (p 0 15) → (¬ (h' 21 e &&& rb r) = 0 ↔ mu p n r e ∨ (nt (p 18 n) = r ∧ mu2 p n (j + 1) e)), ⟨fun z => ?_, fun z => ⟨nu_in (by omega) (by decide), ?_⟩⟩, ?_⟩
    · refine ⟨fr, fun r hr e he => (hu r hr e he).trans ?_⟩
      refine or_congr Iff.rfl (and_congr Iff.rfl (or_congr Iff.rfl ⟨fun ⟨i, i1, i2⟩ => ⟨i, by omega, i2⟩, fun ⟨i, i1, i2⟩ => ?_⟩))
      rcases (show i < j ∨ i = j by omega) with q | q
      · exact ⟨i, q, i2⟩
      · subst q; exact absurd z i2.1
    · obtain ⟨o1, o2⟩ := w5 (by omega)
      rw [o1.1]
      refine s_addUse (by omega) (fun h11 f11 u11 => ⟨fun k hk => by rw [f11 k hk, fr k hk], fun r hr e he => ?_⟩)
      rw [u11 (rb r) e, hu r hr e he]
      have rr := rb_rb r hr (nt (p 18 n)) (by omega)
      constructor
      · rintro ((y | ⟨y1, y2 | ⟨i, i1, i2⟩⟩) | ⟨y1, y2⟩)
        · exact Or.inl y
        · exact Or.inr ⟨y1, Or.inl y2⟩
        · exact Or.inr ⟨y1, Or.inr ⟨i, by omega, i2⟩⟩
        · refine Or.inr ⟨?_, Or.inr ⟨j, by omega, z, y1⟩⟩
          by_cases w : nt (p 18 n) = r
          · exact w
          · exact absurd (rr.mpr w) y2
      · rintro (y | ⟨y1, y2 | ⟨i, i1, i2⟩⟩)
        · exact Or.inl (Or.inl y)
        · exact Or.inl (Or.inr ⟨y1, Or.inl y2⟩)
        · rcases (show i < j ∨ i = j by omega) with q | q
          · exact Or.inl (Or.inr ⟨y1, Or.inr ⟨i, q, i2⟩⟩)
          · subst q; exact Or.inr ⟨i2.2, fun q => (rr.mp q) y1⟩
    · rintro h' ⟨q1, q2⟩ w rfl
      rw [nI_add]
      exact ⟨⟨j + 1, by congr 1; omega, by omega, q1, q2⟩, by rw [nt_nI (by omega), nt_nI (by omega)]; omega⟩
theorem s_namesBeyond {p b : hp_H} {us : Int32} {n : Nat} {Q : Int32 → Prop} (v : VP p) (eq : EQ b p) (hn : n ≤ 3) (h0 : (∀ e, e < nt (p 0 15) → ¬ (b 21 e &&& us) = 0 → nt (p 13 e) = 2 → nt (p 14 e) < n) → Q (nI 0)) (h1 : (∃ e, e < nt (p 0 15) ∧ ¬ (b 21 e &&& us) = 0 ∧ nt (p 13 e) = 2 ∧ ¬ nt (p 14 e) < n) → Q (nI 1)) : q_X1_namesBeyond b us (nI n) Q := by
  have vx := v.2.2.2.1
  have E8 := vx.1.2
  have e15 : b 15 1 = nI (nt (p 0 15)) := by rw [eq.2.1.2.2.2.1]; exact vx.1.1
  obtain ⟨e4, e5, e6, e13, e8, e9, e10, e11, e32, e33, e34, e17, e18, -⟩ := eq.1
  unfold q_X1_namesBeyond
  refine hp_lp1_ind (fun x => ∃ m, x = nI m ∧ m ≤ nt (p 0 15) ∧ ∀ e, e < m → ¬ (b 21 e &&& us) = 0 → nt (p 13 e) = 2 → nt (p 14 e) < n) (fun x => 80 - nt x) ?_ ⟨0, rfl, by omega, fun e he => by omega⟩
  rintro x ⟨m, rfl, hm, hq⟩
  rw [e15, nI_leI (by omega) (by omega), nI_clamp (show m < 2 ^ 31 by omega), e17, e18]
  refine ⟨fun c => h0 (fun e he => hq e (by omega)), fun c => ⟨nu_in (by omega) (by decide), ?_⟩⟩
  have mE : m < nt (p 0 15) := by omega
  obtain ⟨x1, x2, x3, x4, -⟩ := vx.2 m mE
  have kk : p 13 m = nI 2 ↔ nt (p 13 m) = 2 := ⟨fun z => by rw [z]; exact nt_nI (by omega), fun z => by rw [x1.1, z]⟩
  rw [kk]
  refine ⟨¬ (b 21 m &&& us) = 0 → nt (p 13 m) = 2 → nt (p 14 m) < n, ⟨fun z y => absurd z y, fun z => ⟨nu_in (by omega) (by decide), fun k2 => ⟨nu_in (by omega) (by decide), ?_⟩, fun k2 _ y => absurd y k2⟩⟩, fun A => ?_⟩
  · have y1 := x4 k2
    have l : p 14 m < nI n ↔ nt (p 14 m) < n := by
      conv => lhs; rw [y1.1]
      exact nI_ltI (by have := y1.2; omega) (by omega)
    rw [l]
    exact ⟨fun q _ _ => q, fun q => h1 ⟨m, mE, z, k2, q⟩⟩
  · rintro w rfl
    rw [nI_add]
    refine ⟨⟨m + 1, rfl, by omega, fun e he => ?_⟩, by rw [nt_nI (by omega), nt_nI (by omega)]; omega⟩
    rcases (show e < m ∨ e = m by omega) with q | q
    · exact hq e q
    · subst q; exact A
theorem s_isSearchable {p b : hp_H} {Q : Int32 → hp_H → Prop} (v : VP p) (eq : EQ b p) (h1 : FIT p → ∀ b', (∀ k, k ≠ 21 → b' k = b k) → US p b' → Q (nI 1) b') (h0 : ¬ FIT p → ∀ b', (∀ k, k ≠ 21 → b' k = b k) → Q (nI 0) b') : q_X4_isSearchable b Q := by
  have v' := v
  obtain ⟨vs, vr, vc, vx, vt, v30⟩ := v'
  have R3 := vr.1.2
  have e19 := eq.2.1.2.2.2.2.2.1
  have en := eq.2.2.2
  unfold q_X4_isSearchable q_X1_tellsMembersApart
  rw [e19]
  have kk : ∀ e j, e < nt (p 0 15) → j < 15 → (p 13 e = nI j ↔ nt (p 13 e) = j) := by
    intro e j he hj
    have x1 := (vx.2 e he).1
    exact ⟨fun z => by rw [z]; exact nt_nI (by omega), fun z => by rw [x1.1, z]⟩
  refine ⟨¬ p 0 30 = 0 → ∀ e, e < nt (p 0 15) → nt (p 13 e) ≠ 3 ∧ nt (p 13 e) ≠ 6, ⟨fun z y => absurd z y, fun z => ⟨en.1, fun y _ e he => ?_, fun y => h0 (fun q => y ?_) b (fun k _ => rfl)⟩⟩, fun A => ?_⟩
  · have := en.2.mp y e he
    exact ⟨fun q => this.1 ((kk e 3 he (by decide)).mpr q), fun q => this.2 ((kk e 6 he (by decide)).mpr q)⟩
  · refine en.2.mpr (fun e he => ?_)
    have := q.1 z e he
    exact ⟨fun w => this.1 ((kk e 3 he (by decide)).mp w), fun w => this.2 ((kk e 6 he (by decide)).mp w)⟩
  refine s_markUses v eq (fun h5 f5 u5 => ?_)
  have eq5 : EQ h5 p := EQ.fs (fun k hk => f5 k (by omega)) eq
  refine hp_lp1_ind (fun x => ∃ r, x = nI r ∧ r ≤ nt (p 0 4) ∧ ∀ r', r' < r → ∀ e, e < nt (p 0 15) → Rc p (roots p r') e → nt (p 13 e) = 2 → nt (p 14 e) < nt (p 5 r')) (fun x => 3 - nt x) ?_ ⟨0, rfl, by omega, fun r' hr => by omega⟩
  rintro x ⟨r, rfl, hr, hq⟩
  have e12 : h5 12 1 = nI (nt (p 0 4)) := by rw [eq5.2.1.2.1]; exact vr.1.1
  rw [e12, nI_leI (by omega) (by omega), nI_clamp (show r < 2 ^ 31 by omega), eq5.1.2.2.2.2.1]
  refine ⟨fun c => ?_, fun c => ⟨nu_in (by omega) (by decide), ?_⟩⟩
  · have ft : FIT p := ⟨A, fun r' hr' => hq r' (by omega)⟩
    refine h1 ft h5 f5 (fun r' hr' => ⟨fun e he z => ?_, fun e he z => hq r' (by omega) e he ((u5 r' (by omega) e he).mp z), fun s hs hrs => ⟨fun z => ?_, fun i hi z => ?_⟩⟩)
    · have rc := (u5 r' (by omega) e he).mp z
      refine ⟨fun y => ?_, fun y y2 => ?_⟩
      · have d : dep p e (nt (p 14 e)) := ⟨y, Or.inl rfl⟩
        exact (u5 r' (by omega) _ (by have := dep_lt v he d; omega)).mpr (rc.s d)
      · have d : dep p e (nt (p 15 e)) := ⟨y, Or.inr ⟨y2, rfl⟩⟩
        exact (u5 r' (by omega) _ (by have := dep_lt v he d; omega)).mpr (rc.s d)
    · have rt : rootS p s (nt (p 21 s)) := Or.inl ⟨z, rfl⟩
      exact (u5 r' (by omega) _ (rootS_lt v hs rt)).mpr (Rc.b ⟨s, hs, hrs, rt⟩)
    · have rt : rootS p s (nt (p 25 (4 * s + i))) := Or.inr ⟨i, hi, z, rfl⟩
      exact (u5 r' (by omega) _ (rootS_lt v hs rt)).mpr (Rc.b ⟨s, hs, hrs, rt⟩)
  have o5 := vr.2.1 r (by omega)
  rw [o5.1]
  refine s_namesBeyond v eq5 o5.2 (fun y => ⟨fun _ => ?_, fun z => absurd rfl z⟩) (fun y => ⟨fun z => absurd z (by decide), fun _ => h0 (fun q => ?_) h5 f5⟩)
  · rintro w rfl
    rw [nI_add]
    refine ⟨⟨r + 1, rfl, by omega, fun r' hr' e he rc => ?_⟩, by rw [nt_nI (by omega), nt_nI (by omega)]; omega⟩
    rcases (show r' < r ∨ r' = r by omega) with w | w
    · exact hq r' w e he rc
    · subst w; exact y e he ((u5 r' (by omega) e he).mpr rc)
  · obtain ⟨e, y1, y2, y3, y4⟩ := y
    exact y4 (q.2 r (by omega) e y1 ((u5 r (by omega) e y1).mp y2) y3)
