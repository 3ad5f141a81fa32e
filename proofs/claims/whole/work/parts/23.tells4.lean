/-! ===== tellings: act ===== -/
def ins (x a : Int32) : Prop := ¬ a < 0 ∧ ¬ x ≤ a
theorem ins_get {a x : Int32} {b : Nat} (hx : isn x b) (hb : b < 2 ^ 31) (h : ins x a) : ∃ k, k < nt x ∧ a = nI k ∧ nt a = k := by
  obtain ⟨k, h1, h2⟩ := nu_get hx hb h
  exact ⟨k, h1, h2, by rw [h2]; exact nt_nI (by have := hx.2; omega)⟩
def KN (m : hp_H) (s k : Nat) (a3 a4 : Int32) : Prop := match k with
  | 0 => ins (m 0 0) a3 ∧ ins (m 0 15) a4
  | 1 => ins (m 5 (nt (m 18 s))) a3 ∧ ins (m 0 15) a4
  | 2 => ins (m 0 11) a3 ∧ ins (m 0 15) a4
  | _ => ins (m 0 11) a3 ∧ ins (m 5 (nt (m 18 s))) a4
theorem two_c {p q : Prop} [Decidable p] [Decidable q] {A B : Prop} {f : (Int32 → Prop) → Prop} (hf : ∀ R, f R ↔ R (bi q)) (h0 : ¬ (p ∧ q) → A) (h1 : p ∧ q → B) : (bi p = 0 → A) ∧ (¬ bi p = 0 → f (fun r => (r = 0 → A) ∧ (¬ r = 0 → B))) :=
  br0 (fun z => h0 (fun y => z y.1)) (fun z => (hf _).mpr (br0 (fun y => h0 (fun w => y w.2)) (fun y => h1 ⟨z, y⟩)))
theorem two_m {p q : Prop} [Decidable p] [Decidable q] {K : Int32 → Prop} {f : (Int32 → Prop) → Prop} (hf : ∀ R, f R ↔ R (bi q)) (h0 : ¬ (p ∧ q) → K (nI 0)) (h1 : p ∧ q → K (nI 1)) : hp_jn0 (fun K1 => (bi p = 0 → K1) ∧ (¬ bi p = 0 → f (fun r => (r = 0 → K1) ∧ (¬ r = 0 → K (nI 1))))) (K (nI 0)) :=
  hp_jn0_i (two_c hf h0 h1)
theorem jn1_two {f : (Int32 → Prop) → Prop} {g : Int32 → Prop} {p : Prop} (hf : ∀ K : Int32 → Prop, (p → K (nI 1)) → (¬ p → K (nI 0)) → f K) (h1 : p → g (nI 1)) (h0 : ¬ p → g (nI 0)) : hp_jn1 f g :=
  ⟨fun x => (x = nI 1 ∧ p) ∨ (x = nI 0 ∧ ¬ p), hf _ (fun z => Or.inl ⟨rfl, z⟩) (fun z => Or.inr ⟨rfl, z⟩), fun x q => q.elim (fun z => z.1 ▸ h1 z.2) (fun z => z.1 ▸ h0 z.2)⟩
theorem kn_c {b m : hp_H} (t : T0 b m) {s k : Nat} {a3 a4 : Int32} {Q : Int32 → Prop} (hs : s < nt (m 0 21)) (hk : k ≤ 3) (h1 : KN m s k a3 a4 → Q (nI 1)) (h0 : ¬ KN m s k a3 a4 → Q (nI 0)) : q_X4_knowsAct b (nI s) (nI k) a3 a4 Q := by
  obtain ⟨v, ⟨ep, ef, ee, en⟩, eo, vo, dv⟩ := t
  obtain ⟨vs, vr, vc, vx, vt, v30⟩ := v
  obtain ⟨e4, e5, e6, e13, e8, e9, e10, e11, e32, e33, e34, e17, e18, e19, e20, e22, e24, e25, e26, e27, e28, e29, e30, e31⟩ := ep
  obtain ⟨f3, f12, f1, f15, f23, f19, f2, f7⟩ := ef
  have s24 : s < 24 := by have := vt.1.2; omega
  have v1 := vt.2.2.2 s hs
  have hro := v1.1.2
  unfold q_X4_knowsAct
  refine ⟨nu_in s24 (by decide), ?_⟩
  rw [nI_clamp (show s < 2 ^ 31 by omega), e24]
  rintro ro rfl
  have hone : ∀ {Q2 : Int32 → Prop} {x : Int32}, q_X10_has 2 3 4 5 6 1 6 b (nI 0) x Q2 ↔ Q2 (bi (¬ x < 0 ∧ ¬ m 0 0 ≤ x)) := by
    intro Q2 x
    unfold q_X10_has
    rw [nI_clamp (by decide), f3]
    refine Iff.trans ?_ q2
    exact ⟨fun z => ⟨z.1, fun y => (z.2 y).2⟩, fun z => ⟨z.1, fun y => ⟨nu_in (by decide) (by decide), z.2 y⟩⟩⟩
  have hown : ∀ {Q2 : Int32 → Prop} {x : Int32}, q_X10_has 7 8 9 10 11 3 9 b (m 18 s) x Q2 ↔ Q2 (bi (¬ x < 0 ∧ ¬ m 5 (nt (m 18 s)) ≤ x)) := by
    intro Q2 x
    unfold q_X10_has
    rw [e8, nt_def]
    refine Iff.trans ?_ q2
    exact ⟨fun z => ⟨z.1, fun y => (z.2 y).2⟩, fun z => ⟨z.1, fun y => ⟨isn_in v1.1 (by decide) (by omega), z.2 y⟩⟩⟩
  have hex : ∀ {Q2 : Int32 → Prop} {x : Int32}, q_X1_has b x Q2 ↔ Q2 (bi (¬ x < 0 ∧ ¬ m 0 15 ≤ x)) := by
    intro Q2 x
    rw [i_X1_has, f15]
  have hch : ∀ {Q2 : Int32 → Prop} {x : Int32}, q_X4_hasChannel b x Q2 ↔ Q2 (bi (¬ x < 0 ∧ ¬ m 0 11 ≤ x)) := by
    intro Q2 x
    rw [i_X4_hasChannel, f1]
  have kk : ∀ j, j < 2 ^ 31 → (nI k = nI j ↔ k = j) := fun j hj => nI_eq (by omega) hj
  rw [kk 0 (by decide), kk 1 (by decide), kk 2 (by decide), hone, hown, hch, hch]
  refine ⟨fun c => ?_, fun c => ?_, fun c => ?_, fun c => ?_⟩
  · subst c
    exact two_c (f := q_X1_has b a4) (fun R => hex) h0 h1
  · subst c
    exact two_c (f := q_X1_has b a4) (fun R => hex) h0 h1
  · subst c
    exact two_c (f := q_X1_has b a4) (fun R => hex) h0 h1
  · have c3 : k = 3 := by omega
    subst c3
    exact two_c (f := q_X10_has 7 8 9 10 11 3 9 b (m 18 s) a4) (fun R => hown) h0 h1
def DUP (m : hp_H) (s k : Nat) (a3 : Int32) : Prop := 2 ≤ k ∧ ∃ i, i < nt (m 22 s) ∧ m 23 (4 * s + i) = nI k ∧ m 24 (4 * s + i) = a3
theorem la_c {b m : hp_H} (t : T0 b m) {s k : Nat} {a3 : Int32} {Q : Int32 → Prop} (hs : s < nt (m 0 21)) (hk : k ≤ 3) (h1 : DUP m s k a3 → Q (nI 1)) (h0 : ¬ DUP m s k a3 → Q (nI 0)) : q_X9_hasLetterAct b (nI s) (nI k) a3 Q := by
  obtain ⟨v, ⟨ep, ef, ee, en⟩, eo, vo, dv⟩ := t
  obtain ⟨vs, vr, vc, vx, vt, v30⟩ := v
  obtain ⟨e4, e5, e6, e13, e8, e9, e10, e11, e32, e33, e34, e17, e18, e19, e20, e22, e24, e25, e26, e27, e28, e29, e30, e31⟩ := ep
  have s24 : s < 24 := by have := vt.1.2; omega
  have v22 := vt.2.1 s s24
  unfold q_X9_hasLetterAct
  rw [nI_eq (by omega) (by decide), nI_eq (by omega) (by decide)]
  refine ⟨2 ≤ k, ⟨fun c => by omega, fun c => ⟨fun c2 => by omega, fun c2 => h0 (fun z => by have := z.1; omega)⟩⟩, fun k2 => ?_⟩
  rintro v4 rfl
  rw [pk_mul]
  refine hp_lp1_ind (fun v => ∃ j, v = nI (4 * s + j) ∧ j ≤ nt (m 22 s) ∧ ∀ i, i < j → ¬ (m 23 (4 * s + i) = nI k ∧ m 24 (4 * s + i) = a3)) (fun v => 4 * s + 4 - nt v) ?_ ⟨0, by congr 1; omega, by omega, fun i hi => by omega⟩
  rintro v ⟨j, rfl, hj, hno⟩
  refine ⟨nu_in s24 (by decide), ?_⟩
  rw [nI_clamp (show s < 2 ^ 31 by omega), e28]
  have ad : nI (s * 4) + m 22 s = nI (4 * s + nt (m 22 s)) := by
    conv => lhs; rw [v22.1]
    rw [nI_add]; congr 1; omega
  have hj4 := v22.2
  rw [ad, nI_leI (by omega) (by omega)]
  refine ⟨fun c => h0 (fun z => ?_), fun c => ?_⟩
  · obtain ⟨-, i, i1, i2⟩ := z
    exact hno i (by omega) i2
  · refine ⟨nu_in (by omega) (by decide), ?_⟩
    rw [nI_clamp (by omega), e29, e30]
    refine ⟨¬ (m 23 (4 * s + j) = nI k ∧ m 24 (4 * s + j) = a3), ⟨fun c2 => ⟨nu_in (by omega) (by decide), fun c3 => h1 ⟨k2, j, by omega, c2, c3⟩, fun c3 z => c3 z.2⟩, fun c2 z => c2 z.1⟩, fun nz => ?_⟩
    rintro v11 rfl
    rw [nI_add]
    refine ⟨⟨j + 1, rfl, by omega, fun i hi => ?_⟩, by rw [nt_nI (by omega), nt_nI (by omega)]; omega⟩
    rcases (show i < j ∨ i = j by omega) with z | z
    · exact hno i z
    · subst z; exact nz
set_option maxHeartbeats 2000000 in
theorem m_act {m : hp_H} (v : VP m) {s k : Nat} {a3 a4 : Int32} {Q : Int32 → hp_H → Prop} (hs : s < nt (m 0 21)) (k3 : k ≤ 3)
    (r0 : ¬ KN m s k a3 a4 → Q (-2) m) (r1 : KN m s k a3 a4 → DUP m s k a3 → Q (-3) m) (r2 : KN m s k a3 a4 → ¬ DUP m s k a3 → m 22 s = nI 4 → Q (-6) m)
    (r3 : KN m s k a3 a4 → ¬ DUP m s k a3 → ¬ m 22 s = nI 4 → ∀ m1, PM m m1 → m1 9 = m 9 → m1 0 33 = nI 0 → m1 0 34 = nI 0 → m1 0 35 = nI 0 → ∀ m5, m5 = hp_up (hp_up (hp_up (hp_up m1 23 (4 * s + nt (m 22 s)) (nI k)) 24 (4 * s + nt (m 22 s)) a3) 25 (4 * s + nt (m 22 s)) a4) 22 s (m 22 s + nI 1) → Q (m5 22 s) m5) :
    q_X12_act m (nI s) (nI k) a3 a4 Q := by
  obtain ⟨vs0, vr0, vc0, vx0, vt0, v30⟩ := v
  have s24 : s < 24 := by have := vt0.1.2; omega
  have i24 : vp_in (nI s) 24 := nu_in s24 (by decide)
  have w1 := vt0.2.2.2 s hs
  have hro := w1.1.2
  have v22 := vt0.2.1 s s24
  have n4 := v22.2
  unfold q_X12_act
  rw [i_X12_in]
  refine br0 (fun z => absurd ?_ z) (fun _ => ?_)
  · exact ⟨by rw [nI_0]; exact nI_pos (by omega), by rw [nI_ltI (by omega) (by omega)]; omega⟩
  rw [i_X12_in, bi_in vt0.1 (by decide)]
  refine br0 (fun z => absurd (nu_put vt0.1 (by decide) hs) z) (fun _ => ⟨i24, ?_, ?_⟩)
  · rw [nI_clamp (show s < 2 ^ 31 by omega)]
    exact isn_in w1.1 (by decide) (by omega)
  rintro v5 rfl
  rw [nI_clamp (show s < 2 ^ 31 by omega), nt_def]
  have v5s := vr0.2.1 (nt (m 18 s)) (by omega)
  have hex : ∀ (R : Int32 → Prop), q_X12_isExpr m a4 R ↔ R (bi (¬ a4 < 0 ∧ ¬ m 0 15 ≤ a4)) := by
    intro R
    rw [i_X12_isExpr, bi_in vx0.1 (by decide)]
  have hin : ∀ (R : Int32 → Prop), q_X12_in a4 (nI 0) (m 5 (nt (m 18 s)) - nI 1) R ↔ R (bi (¬ a4 < 0 ∧ ¬ m 5 (nt (m 18 s)) ≤ a4)) := by
    intro R
    rw [i_X12_in, bi_in v5s (by decide)]
  refine jn1_two (p := KN m s k a3 a4) (fun K h1 h0 => ?_) (fun kn => ?_) (fun kn => ⟨fun _ => r0 kn, fun z => absurd rfl z⟩)
  · rw [nu_0 (by omega), nI_eq (a := k) (by omega) (by decide), nI_eq (a := k) (by omega) (by decide), i_X12_in, bi_in vs0.1 (by decide), i_X12_in, bi_in v5s (by decide), i_X12_isChannel, i_X12_isChannel, bi_in vc0.1 (by decide)]
    refine ⟨fun c => ?_, fun c => ⟨fun c2 => ?_, fun c2 => ⟨fun c3 => ?_, fun c3 => ?_⟩⟩⟩
    · subst c; exact two_m hex h0 h1
    · subst c2; exact two_m hex h0 h1
    · subst c3; exact two_m hex h0 h1
    · have c4 : k = 3 := by omega
      subst c4; exact two_m hin h0 h1
  refine ⟨fun z => absurd z (by decide), fun _ => ?_⟩
  refine hp_lp1_ind (fun v => ∃ j, v = nI j ∧ j ≤ nt (m 22 s) ∧ (2 ≤ k → ∀ i, i < j → ¬ (m 23 (4 * s + i) = nI k ∧ m 24 (4 * s + i) = a3))) (fun v => 4 - nt v) ?_ ⟨0, rfl, by omega, fun _ i hi => by omega⟩
  rintro v ⟨j, rfl, hj, hno⟩
  refine ⟨i24, ?_⟩
  have l1 : m 22 s ≤ nI j ↔ nt (m 22 s) ≤ j := by
    conv => lhs; rw [v22.1]
    exact nI_leI (by omega) (by omega)
  rw [l1, nI_leI (by omega) (by decide), pk_mul, nI_add]
  refine ⟨¬ DUP m s k a3, ⟨fun c z => ?_, fun c => ⟨fun c2 z => by have := z.1; omega, fun c2 => ⟨nu_in (by omega) (by decide), ?_⟩⟩⟩, fun du => ⟨i24, fun c => r2 kn du c, fun c => ?_⟩⟩
  · obtain ⟨z1, i, z2, z3⟩ := z
    exact hno z1 i (by omega) z3
  · rw [nI_clamp (by omega)]
    refine ⟨¬ (m 23 (4 * s + j) = nI k ∧ m 24 (4 * s + j) = a3), ⟨fun c3 => ⟨nu_in (by omega) (by decide), fun c4 => r1 kn ⟨by omega, j, by omega, c3, c4⟩, fun c4 z => c4 z.2⟩, fun c3 z => c3 z.1⟩, fun nz => ?_⟩
    rintro v40 rfl
    rw [nI_add]
    refine ⟨⟨j + 1, rfl, by omega, fun h2 i hi => ?_⟩, by rw [nt_nI (by omega), nt_nI (by omega)]; omega⟩
    rcases (show i < j ∨ i = j by omega) with z | z
    · exact hno h2 i z
    · subst z; exact nz
  refine s_ov (fun m1 pm p9 k0 k1 k2 => ?_)
  have m22 : m1 22 = m 22 := pm.1 22 (by decide) (by decide)
  have n4' : nt (m 22 s) < 4 := by have := nt_ne v22 c; omega
  have i96 : vp_in (nI (4 * s + nt (m 22 s))) 96 := nu_in (by omega) (by decide)
  have ix2 : nI (4 * s) + m 22 s = nI (4 * s + nt (m 22 s)) := by
    conv => lhs; rw [v22.1]
    rw [nI_add]
  rw [m22]
  refine ⟨i24, ?_⟩
  rintro v43 rfl
  rw [ix2, nI_clamp (show 4 * s + nt (m 22 s) < 2 ^ 31 by omega)]
  refine ⟨i96, ?_⟩
  rintro m2 rfl
  refine ⟨i96, ?_⟩
  rintro m3 rfl
  refine ⟨i96, ?_⟩
  rintro m4 rfl
  refine ⟨i24, i24, ?_⟩
  simp only [hp_at, Nat.reduceEqDiff, if_true, if_false, m22]
  intro m5 em
  exact ⟨i24, r3 kn du c m1 pm p9 k0 k1 k2 m5 em⟩
set_option maxHeartbeats 2000000 in
theorem t_act {b m : hp_H} (t : T0 b m) (a1 a2 a3 a4 : Int32) : q_X11_act b a1 a2 a3 a4 (fun r b' => q_X12_act m a1 a2 a3 a4 (fun r' m' => r = r' ∧ TT b m b' m')) := by
  have ef := t.2.1.2.1
  have ep := t.2.1.1
  have vs0 := t.1.1
  have vc0 := t.1.2.2.1
  have vx0 := t.1.2.2.2.1
  have vt0 := t.1.2.2.2.2.1
  have vr0 := t.1.2.1
  unfold q_X11_act
  refine ⟨fun c1 => ?_, fun c1 => ⟨fun c2 => ?_, fun c2 => ?_⟩⟩
  · unfold q_X12_act
    dsimp only
    rw [i_X12_in, nI_0]
    exact br0 (fun _ => ⟨rfl, Or.inl ⟨rfl, rfl⟩⟩) (fun z => absurd c1 z.1)
  case refine_3 =>
    unfold q_X12_act
    dsimp only
    rw [i_X12_in, nI_0]
    exact br0 (fun _ => ⟨rfl, Or.inl ⟨rfl, rfl⟩⟩) (fun z => absurd (lt_le.mp z.2) c2)
  have cc : ¬ a2 < nI 0 ∧ ¬ nI 3 < a2 := ⟨by rw [nI_0]; exact c1, lt_le.mpr c2⟩
  obtain ⟨k, -, k3, rfl⟩ := nu_rg (lo := 0) (by decide) (by rw [nI_0]; exact c1) c2 (by decide)
  rw [i_X9_has, ef.2.2.2.2.1]
  refine br0 (fun c3 => ?_) (fun c3 => ?_)
  · unfold q_X12_act
    dsimp only
    rw [i_X12_in]
    refine br0 (fun z => absurd cc z) (fun _ => ?_)
    rw [i_X12_in, bi_in vt0.1 (by decide)]
    exact br0 (fun _ => ⟨rfl, Or.inl ⟨rfl, rfl⟩⟩) (fun z => absurd z c3)
  obtain ⟨s, hs, rfl⟩ := nu_get vt0.1 (by decide) c3
  have s24 : s < 24 := by have := vt0.1.2; omega
  have i24 : vp_in (nI s) 24 := nu_in s24 (by decide)
  have w1 := vt0.2.2.2 s hs
  have hro := w1.1.2
  have v22 := vt0.2.1 s s24
  have n4 := v22.2
  refine kn_c t hs k3 (fun kn => ⟨fun z => absurd z (by decide), fun _ => ?_⟩) (fun kn => ⟨fun _ => ?_, fun z => absurd rfl z⟩)
  case refine_2 => exact m_act t.1 hs k3 (fun _ => ⟨rfl, Or.inl ⟨rfl, rfl⟩⟩) (fun z => absurd z kn) (fun z => absurd z kn) (fun z => absurd z kn)
  refine la_c t hs k3 (fun du => ⟨fun z => absurd z (by decide), fun _ => ?_⟩) (fun du => ⟨fun _ => ?_, fun z => absurd rfl z⟩)
  · exact m_act t.1 hs k3 (fun z => absurd kn z) (fun _ _ => ⟨rfl, Or.inl ⟨rfl, rfl⟩⟩) (fun _ z => absurd du z) (fun _ z => absurd du z)
  have e28 : b 28 = m 22 := ep.2.2.2.2.2.2.2.2.2.2.2.2.2.2.2.2.2.2.2.2.1
  refine ⟨i24, ?_⟩
  rw [nI_clamp (show s < 2 ^ 31 by omega), e28]
  refine ⟨fun c5 => ?_, fun c5 => ?_⟩
  · exact m_act t.1 hs k3 (fun z => absurd kn z) (fun _ z => absurd z du) (fun _ _ _ => ⟨rfl, Or.inl ⟨rfl, rfl⟩⟩) (fun _ _ z => absurd c5 z)
  refine s_es (fun b1 pb bV g0 g1 g2 g3 => ?_)
  have n4' : nt (m 22 s) < 4 := by have := nt_ne v22 c5; omega
  have e28' : b1 28 = m 22 := by rw [pb.1 28 (by unfold PBc; omega), e28]
  have ix : nI s * nI 4 + m 22 s = nI (4 * s + nt (m 22 s)) := by
    conv => lhs; rw [v22.1]
    rw [pk_mul, nI_add]; congr 1; omega
  have i96 : vp_in (nI (4 * s + nt (m 22 s))) 96 := nu_in (by omega) (by decide)
  unfold q_X9_addAct
  refine ⟨i24, ?_⟩
  rw [nI_clamp (show s < 2 ^ 31 by omega), e28', ix]
  rintro v1 rfl
  refine ⟨i96, ?_⟩
  rintro h2 rfl
  refine ⟨i96, ?_⟩
  rintro h3 rfl
  refine ⟨i96, ?_⟩
  rintro h4 rfl
  refine ⟨i24, i24, ?_⟩
  simp only [hp_at, Nat.reduceEqDiff, if_true, if_false, e28']
  intro b2 eb
  refine ⟨i24, ?_⟩
  rw [nI_clamp (show 4 * s + nt (m 22 s) < 2 ^ 31 by omega)] at eb
  refine m_act t.1 hs k3 (fun z => absurd kn z) (fun _ z => absurd z du) (fun _ _ z => absurd z c5) (fun _ _ _ m1 pm p9 k0 k1 k2 m5 em => ?_)
  have m22 : m1 22 = m 22 := pm.1 22 (by decide) (by decide)
  have b222 : b2 28 s = m 22 s + nI 1 := by rw [eb]; simp [hp_at, upd]
  have t1 : T0 b1 m1 := t.cg pb pm (by rw [bV]) (by rw [bV])
  obtain ⟨⟨vs, vr, vc, vx, vt, v30⟩, ⟨ep, ef, ee, en⟩, eo, vo, dv⟩ := t1
  obtain ⟨e4, e5, e6, e13, e8, e9, e10, e11, e32, e33, e34, e17, e18, e19, e20, e22, e24, e25, e26, e27, e28, e29, e30, e31⟩ := ep
  obtain ⟨f3, f12, f1, f15, f23, f19, f2, f7⟩ := ef
  have nn := nt_s v22 (by decide)
  have s0 : m5 22 s = m 22 s + nI 1 := by rw [em]; simp [hp_at, upd]
  have s1 : ∀ x, x ≠ s → m5 22 x = m 22 x := by intro x hx; rw [em]; simp [hp_at, upd, hx, m22]
  have u23 : ∀ x, x ≠ 4 * s + nt (m 22 s) → m5 23 x = m1 23 x := by intro x hx; rw [em]; simp [hp_at, upd, hx]
  have u24 : ∀ x, x ≠ 4 * s + nt (m 22 s) → m5 24 x = m1 24 x := by intro x hx; rw [em]; simp [hp_at, upd, hx]
  have u25 : ∀ x, x ≠ 4 * s + nt (m 22 s) → m5 25 x = m1 25 x := by intro x hx; rw [em]; simp [hp_at, upd, hx]
  have w23 : m5 23 (4 * s + nt (m 22 s)) = nI k := by rw [em]; simp [hp_at, upd]
  have w24 : m5 24 (4 * s + nt (m 22 s)) = a3 := by rw [em]; simp [hp_at, upd]
  have w25 : m5 25 (4 * s + nt (m 22 s)) = a4 := by rw [em]; simp [hp_at, upd]
  have z0 : m5 0 = m1 0 := by rw [em]; simp [hp_at]
  have z5 : m5 5 = m1 5 := by rw [em]; simp [hp_at]
  have z18 : m5 18 = m1 18 := by rw [em]; simp [hp_at]
  have z19 : m5 19 = m1 19 := by rw [em]; simp [hp_at]
  have z20 : m5 20 = m1 20 := by rw [em]; simp [hp_at]
  have z21 : m5 21 = m1 21 := by rw [em]; simp [hp_at]
  rw [b222, s0]
  refine ⟨?_, Or.inr ⟨⟨⟨?_, ?_, ?_, ?_, ?_, ?_⟩, ⟨?_, ?_, ?_, ?_⟩, ?_, ?_, ?_⟩, ?_, ?_⟩⟩
  · rfl
  · exact VPs_cg (by simp [em, hp_at]) (by simp [em, hp_at]) (by simp [em, hp_at]) (by simp [em, hp_at, upd]) vs
  · exact VPr_cg (by simp [em, hp_at]) (by simp [em, hp_at]) (by simp [em, hp_at]) (by simp [em, hp_at]) (by simp [em, hp_at]) (by simp [em, hp_at, upd]) vr
  · exact VPc_cg (by simp [em, hp_at]) (by simp [em, hp_at]) (by simp [em, hp_at]) (by simp [em, hp_at, upd]) vc
  · exact VPx_mono (by simp [em, hp_at]) (by simp [em, hp_at]) (by simp [em, hp_at]) (by simp [em, hp_at]) (by simp [em, hp_at]) (by simp [em, hp_at]) (by simp [em, hp_at]) (by simp [em, hp_at]) (by simp [em, hp_at]) (by simp [em, hp_at]) (by simp [em, hp_at]) vx
  · unfold VPt
    rw [z0, pm.2.2.2.2.2.1]
    refine ⟨vt0.1, fun x hx => ?_, fun x h1 h2 => ?_, fun x hx => ?_⟩
    · by_cases e : x = s
      · subst e; rw [s0, nn.1]; exact isn_i (by omega) (by decide)
      · rw [s1 x e]; exact vt0.2.1 x hx
    · rw [s1 x (by omega)]; exact vt0.2.2.1 x h1 h2
    · have x24 : x < 24 := by have := vt0.1.2; omega
      have vx1 := vt.2.2.2 x (by rw [pm.2.2.2.2.2.1]; exact hx)
      have x4 := (vt0.2.1 x x24).2
      by_cases e : x = s
      · subst e
        obtain ⟨y1, y2, y3, y4, y5, y6, y7⟩ := vx1
        unfold VPt1
        rw [z18, z19, z20, z21, z0, s0, nn.2]
        refine ⟨y1, y2, y3, y4, y5, fun i hi => ?_, fun i j hi hj hij => ?_⟩
        · by_cases e2 : i = nt (m 22 x)
          · subst e2
            unfold VPa
            rw [w23, w24, w25, z0, z5, z18, nt_nI (show k < 2 ^ 31 by omega), pm.2.1, pm.2.2.2.1, pm.2.2.2.2.1, pm.1 5 (by decide) (by decide), pm.1 18 (by decide) (by decide)]
            have v5s := vr0.2.1 (nt (m 18 x)) (by omega)
            have b1' := vs0.1.2; have b2' := vc0.1.2; have b3' := vx0.1.2; have b4' := v5s.2
            refine ⟨isn_i k3 (by decide), fun q => ?_, fun q => ?_, fun q => ?_, fun q => ?_, fun q => ?_⟩
            · subst q
              obtain ⟨i1, i2, i3, i4⟩ := ins_get vs0.1 (by decide) kn.1
              rw [i4, i3]; exact ⟨isn_i (by omega) (by decide), i2⟩
            · subst q
              obtain ⟨i1, i2, i3, i4⟩ := ins_get v5s (by decide) kn.1
              rw [i4, i3]; exact ⟨isn_i (by omega) (by decide), i2⟩
            · rcases (show k = 2 ∨ k = 3 by omega) with q2 | q2 <;> subst q2 <;> (obtain ⟨i1, i2, i3, i4⟩ := ins_get vc0.1 (by decide) kn.1; rw [i4, i3]; exact ⟨isn_i (by omega) (by decide), i2⟩)
            · rcases (show k = 0 ∨ k = 1 ∨ k = 2 by omega) with q2 | q2 | q2 <;> subst q2 <;> (obtain ⟨i1, i2, i3, i4⟩ := ins_get vx0.1 (by decide) kn.2; rw [i4, i3]; exact ⟨isn_i (by omega) (by decide), i2⟩)
            · subst q
              obtain ⟨i1, i2, i3, i4⟩ := ins_get v5s (by decide) kn.2
              rw [i4, i3]; exact ⟨isn_i (by omega) (by decide), i2⟩
          · exact VPa_mono (u23 _ (by omega)) (u24 _ (by omega)) (u25 _ (by omega)) (by rw [z18]) (by rw [z0]; exact Nat.le_refl _) (by rw [z0]; exact Nat.le_refl _) (by rw [z0]; exact Nat.le_refl _) (by rw [z5]; exact Nat.le_refl _) (y6 i (by rw [m22]; omega))
        · have old : ∀ i, i < nt (m 22 x) → 2 ≤ k → m1 23 (4 * x + i) = nI k → m1 24 (4 * x + i) ≠ a3 := by
            intro i hi h2 h3 h4
            refine du ⟨h2, i, hi, ?_, ?_⟩
            · rw [← pm.1 23 (by decide) (by decide)]; exact h3
            · rw [← pm.1 24 (by decide) (by decide)]; exact h4
          by_cases e2 : i = nt (m 22 x)
          · subst e2
            rw [w23, w24, u23 _ (by omega), u24 _ (by omega), nt_nI (show k < 2 ^ 31 by omega)]
            intro h1 h2 h3
            exact old j (by omega) h2 h1.symm h3.symm
          · by_cases e3 : j = nt (m 22 x)
            · subst e3
              rw [w23, w24, u23 _ (by omega), u24 _ (by omega)]
              intro h1 h2 h3
              rw [h1, nt_nI (show k < 2 ^ 31 by omega)] at h2
              exact old i (by omega) h2 h1 h3
            · rw [u23 _ (by omega), u24 _ (by omega), u23 _ (by omega), u24 _ (by omega)]
              exact y7 i j (by rw [m22]; omega) (by rw [m22]; omega) hij
      · exact VPt1_mono (by rw [z18]) (by rw [z19]) (by rw [z20]) (by rw [z21]) (by rw [s1 x e, m22]) (fun i hi => u23 _ (by rw [m22] at hi; omega)) (fun i hi => u24 _ (by rw [m22] at hi; omega)) (fun i hi => u25 _ (by rw [m22] at hi; omega)) (by rw [z0]; exact Nat.le_refl _) (by rw [z0]; exact Nat.le_refl _) (by rw [z0]; exact Nat.le_refl _) (by rw [z0]; exact Nat.le_refl _) (fun r hr => by rw [z5]; exact Nat.le_refl _) vx1
  · simpa [em, hp_at, upd] using v30
  · simp only [EQp, eb, em, hp_at, Nat.reduceEqDiff, if_true, if_false, e28', m22, e4, e5, e6, e13, e8, e9, e10, e11, e32, e33, e34, e17, e18, e19, e20, e22, e24, e25, e26, e27, e29, e30, e31, and_self]
  · simp [EQf, eb, em, hp_at, f3, f12, f1, f15, f23, f19, f2, f7]
  · simpa [EQe, eb, em, hp_at] using ee
  · simpa [EQn, eb, em, hp_at, upd] using en
  · simpa [EQo, eb, em, hp_at, upd] using eo
  · exact VPo_mono (by simp [em, hp_at]) (by simp [em, hp_at, upd]) (by simp [em, hp_at, upd]) (by simp [em, hp_at]) vo
  · simpa [DV0, eb, hp_at, hp_V] using dv
  · exact GR0_mk (by simp [eb, hp_at, g0]) (by simp [eb, hp_at, g1]) (by simp [eb, hp_at, g2]) (by simp [em, hp_at, upd, k0]) (by simp [em, hp_at, upd, k1]) (by simp [em, hp_at, upd, k2])
  · simp [eb, hp_at, g3]
