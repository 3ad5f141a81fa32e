/-! ===== tellings: expr ===== -/
def EX (m : hp_H) (k : Nat) (a2 a3 a4 : Int32) : Prop := (k = 1 → ins (m 0 0) a2) ∧ (k = 4 → ins (m 0 4) a2) ∧ (k = 5 → ins (m 0 11) a2) ∧ (k = 6 → ins (m 0 4) a2 ∧ ins (m 4 (nt a2)) a3 ∧ ins (m 5 (nt a2)) a4) ∧ (7 ≤ k → ins (m 0 15) a2) ∧ (7 ≤ k → k < 14 → ins (m 0 15) a3)
def OW (m : hp_H) (k : Nat) (a2 a3 : Int32) : Prop := k = 2 ∨ k = 3 ∨ (7 ≤ k ∧ ¬ m 17 (nt a2) = 0) ∨ (7 ≤ k ∧ k < 14 ∧ ¬ m 17 (nt a3) = 0)
theorem bi_e {p : Prop} [Decidable p] {Q : Int32 → Prop} (h1 : p → Q (nI 1)) (h0 : ¬ p → Q (nI 0)) : Q (bi p) := by
  by_cases h : p
  · rw [bi_t h]; exact h1 h
  · rw [bi_f h]; exact h0 h
theorem bi_e2 {p : Prop} [Decidable p] {Q : Int32 → Prop} (h1 : p → Q (nI 1)) (h0 : ¬ p → Q (nI 0)) : hp_bz (bi p) ∧ Q (bi p) := ⟨bi_bz, bi_e h1 h0⟩
theorem it_m {m : hp_H} (v : VP m) {k : Nat} {a2 a3 a4 : Int32} {Q : Int32 → Prop} (hk : k ≤ 14) (h1 : EX m k a2 a3 a4 → Q (nI 1)) (h0 : ¬ EX m k a2 a3 a4 → Q (nI 0)) : q_X12_isThere m (nI k) a2 a3 a4 Q := by
  obtain ⟨vs, vr, vc, vx, vt, v30⟩ := v
  have kk : ∀ j, j < 2 ^ 31 → (nI k = nI j ↔ k = j) := fun j hj => nI_eq (by omega) hj
  unfold q_X12_isThere
  simp only [kk 0 (by decide), kk 1 (by decide), kk 2 (by decide), kk 3 (by decide), kk 4 (by decide), kk 5 (by decide), kk 6 (by decide), kk 14 (by decide), i_X12_isExpr, i_X12_isRole, i_X12_isChannel, i_X12_in, bi_in vx.1 (show 80 < 2 ^ 31 by decide), bi_in vr.1 (show 3 < 2 ^ 31 by decide), bi_in vc.1 (show 3 < 2 ^ 31 by decide), bi_in vs.1 (show 6 < 2 ^ 31 by decide)]
  refine ⟨fun c => h1 ?_, fun c => ?_, fun c => ?_, fun c => ?_, fun c => ?_, fun c => ?_, fun c => ?_⟩
  · refine ⟨fun z => ?_, fun z => ?_, fun z => ?_, fun z => ?_, fun z => ?_, fun z z2 => ?_⟩ <;> omega
  · subst c
    exact bi_e2 (fun p => h1 ⟨fun _ => p, fun z => by omega, fun z => by omega, fun z => by omega, fun z => by omega, fun z => by omega⟩) (fun p => h0 (fun q => p (q.1 rfl)))
  · subst c
    exact bi_e2 (fun p => h1 ⟨fun z => by omega, fun z => p, fun z => by omega, fun z => by omega, fun z => by omega, fun z => by omega⟩) (fun p => h0 (fun q => p (q.2.1 rfl)))
  · subst c
    exact bi_e2 (fun p => h1 ⟨fun z => by omega, fun z => by omega, fun z => p, fun z => by omega, fun z => by omega, fun z => by omega⟩) (fun p => h0 (fun q => p (q.2.2.1 rfl)))
  · subst c
    refine br0 (fun p => h0 (fun q => p (q.2.2.2.1 rfl).1)) (fun p => ?_)
    obtain ⟨i, i1, rfl, i3⟩ := ins_get vr.1 (by decide) p
    have i33 := vr.1.2
    have e : (nI i).toNatClampNeg = i := nI_clamp (by omega)
    have e' : nt (nI i) = i := e
    refine ⟨nu_in (by omega) (by decide), ?_⟩
    rw [e, bi_in (vr.2.2.1 i i1).1 (by decide)]
    refine br0 (fun p2 => h0 (fun q => p2 (by have := (q.2.2.2.1 rfl).2.1; rw [e'] at this; exact this))) (fun p2 => ⟨nu_in (by omega) (by decide), ?_⟩)
    rw [bi_in (vr.2.1 i (by omega)) (by decide)]
    refine br0 (fun p3 => h0 (fun q => p3 (by have := (q.2.2.2.1 rfl).2.2; rw [e'] at this; exact this))) (fun p3 => h1 ?_)
    exact ⟨fun z => by omega, fun z => by omega, fun z => by omega, fun z => ⟨p, by rw [e']; exact p2, by rw [e']; exact p3⟩, fun z => by omega, fun z => by omega⟩
  · subst c
    exact bi_e2 (fun p => h1 ⟨fun z => by omega, fun z => by omega, fun z => by omega, fun z => by omega, fun z => p, fun z z2 => by omega⟩) (fun p => h0 (fun q => p (q.2.2.2.2.1 (by decide))))
  · have c7 : 7 ≤ k := by omega
    refine br0 (fun p => h0 (fun q => p (q.2.2.2.2.1 c7))) (fun p => ?_)
    refine br0 (fun p2 => h0 (fun q => p2 (q.2.2.2.2.2 c7 (by omega)))) (fun p2 => h1 ?_)
    exact ⟨fun z => by omega, fun z => by omega, fun z => by omega, fun z => by omega, fun z => p, fun z z2 => p2⟩
theorem br1 {A B : Prop} (h : B) : ((nI 1 : Int32) = 0 → A) ∧ (¬ (nI 1 : Int32) = 0 → B) := ⟨fun z => absurd z (by decide), fun _ => h⟩
theorem br00 {A B : Prop} (h : A) : ((nI 0 : Int32) = 0 → A) ∧ (¬ (nI 0 : Int32) = 0 → B) := ⟨fun _ => h, fun z => absurd rfl z⟩
theorem kp_c {b m : hp_H} (t : T0 b m) {k : Nat} {a2 a3 a4 : Int32} {Q : Int32 → Prop} (hk : k ≤ 14) (h1 : EX m k a2 a3 a4 → Q (nI 1)) (h0 : ¬ EX m k a2 a3 a4 → Q (nI 0)) : q_X4_knowsParts b (nI k) a2 a3 a4 Q := by
  obtain ⟨v, ⟨ep, ef, ee, en⟩, eo, vo, dv⟩ := t
  obtain ⟨vs, vr, vc, vx, vt, v30⟩ := v
  obtain ⟨e4, e5, e6, e13, e8, e9, e10, e11, e32, e33, e34, e17, e18, e19, e20, e22, e24, e25, e26, e27, e28, e29, e30, e31⟩ := ep
  obtain ⟨f3, f12, f1, f15, f23, f19, f2, f7⟩ := ef
  have kk : ∀ j, j < 2 ^ 31 → (nI k = nI j ↔ k = j) := fun j hj => nI_eq (by omega) hj
  unfold q_X4_knowsParts
  have hone : ∀ {Q2 : Int32 → Prop} {x : Int32}, q_X10_has 2 3 4 5 6 1 6 b (nI 0) x Q2 ↔ Q2 (bi (¬ x < 0 ∧ ¬ m 0 0 ≤ x)) := by
    intro Q2 x
    unfold q_X10_has
    rw [nI_clamp (by decide), f3]
    refine Iff.trans ?_ q2
    exact ⟨fun z => ⟨z.1, fun y => (z.2 y).2⟩, fun z => ⟨z.1, fun y => ⟨nu_in (by decide) (by decide), z.2 y⟩⟩⟩
  have l7 : nI k < nI 7 ↔ k < 7 := nI_ltI (by omega) (by decide)
  have l14 : nI 14 ≤ nI k ↔ 14 ≤ k := nI_leI (by decide) (by omega)
  rw [kk 1 (by decide), kk 4 (by decide), kk 5 (by decide), kk 6 (by decide), hone, i_X6_has, f12, i_X4_hasChannel, f1]
  refine ⟨fun c => ?_, fun c => ?_, fun c => ?_, fun c => ?_, fun c => ?_⟩
  · subst c
    exact bi_e2 (fun p => h1 ⟨fun _ => p, fun z => by omega, fun z => by omega, fun z => by omega, fun z => by omega, fun z => by omega⟩) (fun p => h0 (fun q => p (q.1 rfl)))
  · subst c
    exact bi_e2 (fun p => h1 ⟨fun z => by omega, fun z => p, fun z => by omega, fun z => by omega, fun z => by omega, fun z => by omega⟩) (fun p => h0 (fun q => p (q.2.1 rfl)))
  · subst c
    exact bi_e2 (fun p => h1 ⟨fun z => by omega, fun z => by omega, fun z => p, fun z => by omega, fun z => by omega, fun z => by omega⟩) (fun p => h0 (fun q => p (q.2.2.1 rfl)))
  · subst c
    unfold q_X6_hasMember
    rw [i_X6_has, f12]
    refine br0 (fun p => br00 (h0 (fun q => p (q.2.2.2.1 rfl).1))) (fun p => ?_)
    obtain ⟨i, i1, rfl, i3⟩ := ins_get vr.1 (by decide) p
    have i33 := vr.1.2
    have e : (nI i).toNatClampNeg = i := nI_clamp (by omega)
    have e' : nt (nI i) = i := e
    rw [e, e13]
    refine ⟨fun p2 => br00 (h0 (fun q => (q.2.2.2.1 rfl).2.1.1 p2)), fun p2 => ⟨nu_in (by omega) (by decide), fun p3 => br00 (h0 (fun q => by have := (q.2.2.2.1 rfl).2.1.2; rw [e'] at this; exact this p3)), fun p3 => br1 ?_⟩⟩
    unfold q_X10_has
    rw [e, e8]
    refine ⟨fun p4 => br00 (h0 (fun q => (q.2.2.2.1 rfl).2.2.1 p4)), fun p4 => ⟨nu_in (by omega) (by decide), fun p5 => br00 (h0 (fun q => by have := (q.2.2.2.1 rfl).2.2.2; rw [e'] at this; exact this p5)), fun p5 => br1 (h1 ?_)⟩⟩
    exact ⟨fun z => by omega, fun z => by omega, fun z => by omega, fun z => ⟨p, by rw [e']; exact ⟨p2, p3⟩, by rw [e']; exact ⟨p4, p5⟩⟩, fun z => by omega, fun z => by omega⟩
  · unfold q_X1_isMade
    rw [l7]
    have part2 : (7 ≤ k → ins (m 0 15) a2) → q_X1_isMadeOfTwo (nI k) (fun r13 => (r13 = 0 → Q (nI 1)) ∧ (¬ r13 = 0 → q_X1_has b a3 (fun r15 => (r15 = 0 → Q (nI 0)) ∧ (¬ r15 = 0 → Q (nI 1))))) := by
      intro p
      unfold q_X1_isMadeOfTwo
      rw [l7, l14]
      refine ⟨fun d => br00 (h1 ?_), fun d => ⟨fun d2 => br00 (h1 ?_), fun d2 => br1 ?_⟩⟩
      · refine ⟨fun z => ?_, fun z => ?_, fun z => ?_, fun z => ?_, fun z => ?_, fun z z2 => ?_⟩ <;> omega
      · exact ⟨fun z => by omega, fun z => by omega, fun z => by omega, fun z => by omega, p, fun z z2 => by omega⟩
      · rw [i_X1_has, f15]
        exact br0 (fun p2 => h0 (fun q => p2 (q.2.2.2.2.2 (by omega) (by omega)))) (fun p2 => h1 ⟨fun z => by omega, fun z => by omega, fun z => by omega, fun z => by omega, p, fun z z2 => p2⟩)
    refine ⟨fun d => hp_jn0_i (br00 (part2 (fun z => by omega))), fun d => hp_jn0_i (br1 ?_)⟩
    rw [i_X1_has, f15]
    exact br0 (fun p2 => h0 (fun q => p2 (q.2.2.2.2.1 (by omega)))) (fun p2 => part2 (fun _ => p2))
def EY (k : Nat) (a2 a3 : Int32) : Prop := (k = 2 → ¬ a2 < 0 ∧ a2 < nI 3) ∧ (k = 4 → ¬ a3 < 0 ∧ ¬ nI 9 < a3)
theorem ow_j {G : Int32 → Prop} {f : Prop → (Int32 → Prop) → Prop} {p : Prop} (hf : ∀ (K8 : Prop) (K6 : Int32 → Prop), (p → K8) → (¬ p → K6 (nI 0)) → f K8 K6) (h1 : p → G (nI 1)) (h0 : ¬ p → G (nI 0)) : hp_jn1 (fun K6 => hp_jn0 (fun K8 => f K8 K6) (K6 (nI 1))) G :=
  jn1_two (p := p) (fun K k1 k0 => ⟨p, hf _ _ (fun z => z) k0, k1⟩) h1 h0
set_option maxHeartbeats 2000000 in
theorem m_expr {m : hp_H} (v : VP m) {k : Nat} {a2 a3 a4 : Int32} {Q : Int32 → hp_H → Prop} (hk : k ≤ 14)
    (r0 : ¬ EX m k a2 a3 a4 → Q (-2) m) (r1 : EX m k a2 a3 a4 → ¬ EY k a2 a3 → Q (-3) m) (r2 : EX m k a2 a3 a4 → EY k a2 a3 → m 0 15 = nI 80 → Q (-6) m)
    (r3 : EX m k a2 a3 a4 → EY k a2 a3 → ¬ m 0 15 = nI 80 → ∀ m1, PM m m1 → m1 9 = m 9 → m1 0 33 = nI 0 → m1 0 34 = nI 0 → m1 0 35 = nI 0 → ∀ x, ((OW m k a2 a3 ∧ x = nI 1) ∨ (¬ OW m k a2 a3 ∧ x = nI 0)) → ∀ m5, m5 = hp_up (hp_up (hp_up (hp_up (hp_up (hp_up m1 13 (nt (m 0 15)) (nI k)) 14 (nt (m 0 15)) a2) 15 (nt (m 0 15)) a3) 16 (nt (m 0 15)) a4) 17 (nt (m 0 15)) x) 0 15 (m 0 15 + nI 1) → Q (m5 0 15 - nI 1) m5) :
    q_X12_expr m (nI k) a2 a3 a4 Q := by
  have v' := v
  obtain ⟨vs, vr, vc, vx, vt, v30⟩ := v'
  have kk : ∀ j, j < 2 ^ 31 → (nI k = nI j ↔ k = j) := fun j hj => nI_eq (by omega) hj
  unfold q_X12_expr
  rw [i_X12_in]
  refine br0 (fun z => absurd ?_ z) (fun _ => ?_)
  · exact ⟨by rw [nI_0]; exact nI_pos (by omega), by rw [nI_ltI (by omega) (by omega)]; omega⟩
  refine it_m v hk (fun ex => br1 ?_) (fun ex => br00 (r0 ex))
  refine ⟨EY k a2 a3 ∨ ¬ (k = 4 → ¬ a3 < 0 ∧ ¬ nI 9 < a3), ?_, ?_⟩
  · dsimp only
    rw [kk 2 (by decide), i_X12_in]
    have e2 : bi (¬ a2 < nI 0 ∧ ¬ nI 2 < a2) = bi (¬ a2 < 0 ∧ a2 < nI 3) := by
      apply bi_c
      rw [nI_0]
      refine and_congr_right (fun z => ?_)
      obtain ⟨j, j1, j2⟩ := nI_of z
      rw [j2, nI_ltI (by decide) j1, nI_ltI j1 (by decide)]
      omega
    rw [e2]
    refine ⟨fun c => br0 (fun p => r1 ex (fun q => p (q.1 c))) (fun p => ?_), fun c => ?_⟩
    · exact Or.inl ⟨fun _ => p, fun z => by omega⟩
    · by_cases d : (k = 4 → ¬ a3 < 0 ∧ ¬ nI 9 < a3)
      · exact Or.inl ⟨fun z => absurd z c, d⟩
      · exact Or.inr d
  intro ey0
  refine ⟨EY k a2 a3, ?_, ?_⟩
  · dsimp only
    rw [kk 4 (by decide), i_X12_in, nI_0]
    refine ⟨fun c => br0 (fun p => r1 ex (fun q => p (q.2 c))) (fun p => ?_), fun c => ?_⟩
    · exact ⟨fun z => by omega, fun _ => p⟩
    · exact ey0.elim id (fun z => absurd (fun q => absurd q c) z)
  intro ey
  refine ⟨fun c => r2 ex ey c, fun c => ?_⟩
  refine s_ov (fun m1 pm p9 k0 k1 k2 => ?_)
  have n80 : nt (m 0 15) < 80 := by have := vx.1.2; have := nt_ne vx.1 c; omega
  have i80 : vp_in (m 0 15) 80 := isn_in vx.1 (by decide) n80
  have e15 := pm.2.2.2.2.1
  have m17 : m1 17 = m 17 := pm.1 17 (by decide) (by decide)
  rw [e15]
  refine ⟨i80, ?_⟩
  rintro m2 rfl
  simp only [hp_at, Nat.reduceEqDiff, if_true, if_false, e15]
  refine ⟨i80, ?_⟩
  rintro m3 rfl
  simp only [hp_at, Nat.reduceEqDiff, if_true, if_false, e15]
  refine ⟨i80, ?_⟩
  rintro m4 rfl
  simp only [hp_at, Nat.reduceEqDiff, if_true, if_false, e15]
  refine ⟨i80, ?_⟩
  rintro m5 rfl
  simp only [hp_at, Nat.reduceEqDiff, if_true, if_false, e15, m17]
  refine ow_j (p := OW m k a2 a3) (fun K8 K6 h1 h0 => ?_) (fun ow => ⟨i80, Or.inr rfl, ?_⟩) (fun ow => ⟨i80, Or.inl rfl, ?_⟩)
  · have l6 : nI k ≤ nI 6 ↔ k ≤ 6 := nI_leI (by omega) (by decide)
    have l14 : nI 14 ≤ nI k ↔ 14 ≤ k := nI_leI (by decide) (by omega)
    rw [kk 2 (by decide), kk 3 (by decide), l6, l14]
    refine ⟨fun c => h1 (Or.inl c), fun c1 => ⟨fun c => h1 (Or.inr (Or.inl c)), fun c2 => ?_⟩⟩
    refine ⟨¬ (7 ≤ k ∧ ¬ m 17 (nt a2) = 0), ⟨fun c z => by omega, fun c => ?_⟩, fun nA => ?_⟩
    · obtain ⟨i, i1, i2, i3⟩ := ins_get vx.1 (by decide) (ex.2.2.2.2.1 (by omega))
      refine ⟨by rw [i2]; exact nu_in (by omega) (by decide), fun z y => y.2 z, fun z => h1 (Or.inr (Or.inr (Or.inl ⟨by omega, z⟩)))⟩
    refine ⟨¬ (7 ≤ k ∧ k < 14 ∧ ¬ m 17 (nt a3) = 0), ⟨fun c z => by omega, fun c => ⟨fun d z => by omega, fun d => ?_⟩⟩, fun nB => h0 ?_⟩
    · obtain ⟨i, i1, i2, i3⟩ := ins_get vx.1 (by decide) (ex.2.2.2.2.2 (by omega) (by omega))
      refine ⟨by rw [i2]; exact nu_in (by omega) (by decide), fun z y => y.2.2 z, fun z => h1 (Or.inr (Or.inr (Or.inr ⟨by omega, by omega, z⟩)))⟩
    · exact fun z => z.elim c1 (fun z => z.elim c2 (fun z => z.elim nA nB))
  · rintro h31 rfl
    simp only [hp_at, Nat.reduceEqDiff, if_true, if_false, e15]
    intro m6 em
    exact r3 ex ey c m1 pm p9 k0 k1 k2 (nI 1) (Or.inl ⟨ow, rfl⟩) m6 em
  · rintro h31 rfl
    simp only [hp_at, Nat.reduceEqDiff, if_true, if_false, e15]
    intro m6 em
    exact r3 ex ey c m1 pm p9 k0 k1 k2 (nI 0) (Or.inr ⟨ow, rfl⟩) m6 em
theorem hp_up_id (h : hp_H) (k j : Nat) : hp_up h k j (h k j) = h := by
  funext a c
  unfold hp_up
  by_cases e : a = k ∧ c = j
  · rw [if_pos e, e.1, e.2]
  · rw [if_neg e]
theorem c_xadd {b1 m : hp_H} {k : Nat} {a2 a3 a4 : Int32} {Q : Int32 → hp_H → Prop} (vx : VPx m) (hk : k ≤ 14) (e15 : b1 15 1 = m 0 15) (e22 : b1 22 = m 17) (ex : EX m k a2 a3 a4) (c : ¬ m 0 15 = nI 80)
    (r3 : ∀ x y, ((OW m k a2 a3 ∧ x = nI 1) ∨ (¬ OW m k a2 a3 ∧ x = nI 0)) → (((k = 3 ∨ k = 6) ∧ y = nI 1) ∨ (¬ (k = 3 ∨ k = 6) ∧ y = b1 15 9)) → ∀ b2, b2 = hp_up (hp_up (hp_up (hp_up (hp_up (hp_up (hp_up b1 17 (nt (m 0 15)) (nI k)) 18 (nt (m 0 15)) a2) 19 (nt (m 0 15)) a3) 20 (nt (m 0 15)) a4) 22 (nt (m 0 15)) x) 15 9 y) 15 1 (m 0 15 + nI 1) → Q (m 0 15) b2) :
    q_X1_add b1 (nI k) a2 a3 a4 Q := by
  have kk : ∀ j, j < 2 ^ 31 → (nI k = nI j ↔ k = j) := fun j hj => nI_eq (by omega) hj
  have n80 : nt (m 0 15) < 80 := by have := vx.1.2; have := nt_ne vx.1 c; omega
  have i80 : vp_in (m 0 15) 80 := isn_in vx.1 (by decide) n80
  unfold q_X1_add
  rw [e15]
  refine ⟨i80, ?_⟩
  rintro m2 rfl
  simp only [hp_at, Nat.reduceEqDiff, if_true, if_false, e15]
  refine ⟨i80, ?_⟩
  rintro m3 rfl
  simp only [hp_at, Nat.reduceEqDiff, if_true, if_false, e15]
  refine ⟨i80, ?_⟩
  rintro m4 rfl
  simp only [hp_at, Nat.reduceEqDiff, if_true, if_false, e15]
  refine ⟨i80, ?_⟩
  rintro m5 rfl
  simp only [hp_at, Nat.reduceEqDiff, if_true, if_false, e15, e22]
  have fin : ∀ x, ((OW m k a2 a3 ∧ x = nI 1) ∨ (¬ OW m k a2 a3 ∧ x = nI 0)) → ∀ h18, h18 = hp_up (hp_up (hp_up (hp_up (hp_up b1 17 (nt (m 0 15)) (nI k)) 18 (nt (m 0 15)) a2) 19 (nt (m 0 15)) a3) 20 (nt (m 0 15)) a4) 22 (nt (m 0 15)) x →
      hp_jn0h (fun K20 => hp_jn0 (fun K22 => (nI k = nI 3 → K22) ∧ (¬ nI k = nI 3 → (nI k = nI 6 → K22) ∧ (¬ nI k = nI 6 → K20 h18))) (∀ h24 : hp_H, h24 = hp_up h18 15 9 (nI 1) → K20 h24)) (fun h21 => ∀ v25 : Int32, v25 = (h21 15 1) → ∀ h26 : hp_H, h26 = hp_up h21 15 1 (v25 + (nI 1)) → Q v25 h26) := by
    rintro x hx h18 rfl
    rw [kk 3 (by decide), kk 6 (by decide)]
    refine ⟨fun h => ∃ y, ((((k = 3 ∨ k = 6) ∧ y = nI 1) ∨ (¬ (k = 3 ∨ k = 6) ∧ y = b1 15 9))) ∧ h = hp_up (hp_up (hp_up (hp_up (hp_up (hp_up b1 17 (nt (m 0 15)) (nI k)) 18 (nt (m 0 15)) a2) 19 (nt (m 0 15)) a3) 20 (nt (m 0 15)) a4) 22 (nt (m 0 15)) x) 15 9 y, ?_, ?_⟩
    · refine ⟨k = 3 ∨ k = 6, ⟨fun z => Or.inl z, fun z1 => ⟨fun z => Or.inr z, fun z2 => ⟨b1 15 9, Or.inr ⟨fun z => z.elim z1 z2, rfl⟩, ?_⟩⟩⟩, ?_⟩
      · have := hp_up_id (hp_up (hp_up (hp_up (hp_up (hp_up b1 17 (nt (m 0 15)) (nI k)) 18 (nt (m 0 15)) a2) 19 (nt (m 0 15)) a3) 20 (nt (m 0 15)) a4) 22 (nt (m 0 15)) x) 15 9
        simp only [hp_at, Nat.reduceEqDiff, if_true, if_false] at this
        exact this.symm
      · rintro z h24 rfl
        exact ⟨nI 1, Or.inl ⟨z, rfl⟩, rfl⟩
    · rintro h21 ⟨y, hy, rfl⟩ v25 rfl
      simp only [hp_at, Nat.reduceEqDiff, if_true, if_false, upd, e15]
      intro h26 e26
      exact r3 x y hx hy h26 e26
  refine ow_j (p := OW m k a2 a3) (fun K8 K6 h1 h0 => ?_) (fun ow => ⟨i80, Or.inr rfl, fun h18 e18 => fin (nI 1) (Or.inl ⟨ow, rfl⟩) h18 e18⟩) (fun ow => ⟨i80, Or.inl rfl, fun h18 e18 => fin (nI 0) (Or.inr ⟨ow, rfl⟩) h18 e18⟩)
  have l7 : nI k < nI 7 ↔ k < 7 := nI_ltI (by omega) (by decide)
  have l14 : nI 14 ≤ nI k ↔ 14 ≤ k := nI_leI (by decide) (by omega)
  rw [kk 2 (by decide), kk 3 (by decide)]
  unfold q_X1_isMade q_X1_isMadeOfTwo
  rw [l7, l14]
  refine ⟨fun c => h1 (Or.inl c), fun c1 => ⟨fun c => h1 (Or.inr (Or.inl c)), fun c2 => ?_⟩⟩
  have part2 : ¬ (7 ≤ k ∧ ¬ m 17 (nt a2) = 0) → (k < 7 →
        hp_jn0 (fun K16 => ((nI 0 : Int32) = 0 → K16) ∧ (¬ (nI 0 : Int32) = 0 → vp_in a3 80 ∧ (m 17 a3.toNatClampNeg = 0 → K16) ∧ (¬ m 17 a3.toNatClampNeg = 0 → K8))) (K6 (nI 0))) ∧ (¬ k < 7 → (14 ≤ k →
        hp_jn0 (fun K16 => ((nI 0 : Int32) = 0 → K16) ∧ (¬ (nI 0 : Int32) = 0 → vp_in a3 80 ∧ (m 17 a3.toNatClampNeg = 0 → K16) ∧ (¬ m 17 a3.toNatClampNeg = 0 → K8))) (K6 (nI 0))) ∧ (¬ 14 ≤ k →
        hp_jn0 (fun K16 => ((nI 1 : Int32) = 0 → K16) ∧ (¬ (nI 1 : Int32) = 0 → vp_in a3 80 ∧ (m 17 a3.toNatClampNeg = 0 → K16) ∧ (¬ m 17 a3.toNatClampNeg = 0 → K8))) (K6 (nI 0)))) := by
    intro nA
    refine ⟨fun d => hp_jn0_i (br00 (h0 ?_)), fun d => ⟨fun d2 => hp_jn0_i (br00 (h0 ?_)), fun d2 => hp_jn0_i (br1 ?_)⟩⟩
    · exact fun z => z.elim c1 (fun z => z.elim c2 (fun z => z.elim nA (fun z => by omega)))
    · exact fun z => z.elim c1 (fun z => z.elim c2 (fun z => z.elim nA (fun z => by omega)))
    · obtain ⟨i, i1, i2, i3⟩ := ins_get vx.1 (by decide) (ex.2.2.2.2.2 (by omega) (by omega))
      refine ⟨by rw [i2]; exact nu_in (by omega) (by decide), fun z => h0 ?_, fun z => h1 (Or.inr (Or.inr (Or.inr ⟨by omega, by omega, z⟩)))⟩
      exact fun q => q.elim c1 (fun q => q.elim c2 (fun q => q.elim nA (fun q => q.2.2 z)))
  refine ⟨fun d => hp_jn0_i (br00 (part2 (fun z => by omega))), fun d => hp_jn0_i (br1 ?_)⟩
  obtain ⟨i, i1, i2, i3⟩ := ins_get vx.1 (by decide) (ex.2.2.2.2.1 (by omega))
  exact ⟨by rw [i2]; exact nu_in (by omega) (by decide), fun z => part2 (fun q => q.2 z), fun z => h1 (Or.inr (Or.inr (Or.inl ⟨by omega, z⟩)))⟩
set_option maxHeartbeats 4000000 in
theorem t_expr {b m : hp_H} (t : T0 b m) (a1 a2 a3 a4 : Int32) : q_X11_expr b a1 a2 a3 a4 (fun r b' => q_X12_expr m a1 a2 a3 a4 (fun r' m' => r = r' ∧ TT b m b' m')) := by
  have ef := t.2.1.2.1
  have ep := t.2.1.1
  have vx0 := t.1.2.2.2.1
  unfold q_X11_expr
  refine ⟨fun c1 => ?_, fun c1 => ⟨fun c2 => ?_, fun c2 => ?_⟩⟩
  · unfold q_X12_expr
    dsimp only
    rw [i_X12_in, nI_0]
    exact br0 (fun _ => ⟨rfl, Or.inl ⟨rfl, rfl⟩⟩) (fun z => absurd c1 z.1)
  case refine_3 =>
    unfold q_X12_expr
    dsimp only
    rw [i_X12_in, nI_0]
    exact br0 (fun _ => ⟨rfl, Or.inl ⟨rfl, rfl⟩⟩) (fun z => absurd (lt_le.mp z.2) c2)
  obtain ⟨k, -, k14, rfl⟩ := nu_rg (lo := 0) (by decide) (by rw [nI_0]; exact c1) c2 (by decide)
  have kk : ∀ j, j < 2 ^ 31 → (nI k = nI j ↔ k = j) := fun j hj => nI_eq (by omega) hj
  refine kp_c t k14 (fun ex => br1 ?_) (fun ex => br00 ?_)
  case refine_2 => exact m_expr t.1 k14 (fun _ => ⟨rfl, Or.inl ⟨rfl, rfl⟩⟩) (fun z => absurd z ex) (fun z => absurd z ex) (fun z => absurd z ex)
  have bad : ¬ EY k a2 a3 → q_X12_expr m (nI k) a2 a3 a4 (fun r' m' => (-3 : Int32) = r' ∧ TT b m b m') := fun ny =>
    m_expr t.1 k14 (fun z => absurd ex z) (fun _ _ => ⟨rfl, Or.inl ⟨rfl, rfl⟩⟩) (fun _ z => absurd z ny) (fun _ z => absurd z ny)
  refine ⟨(k = 2 → ¬ a2 < 0 ∧ a2 < nI 3), ?_, fun y2 => ⟨EY k a2 a3, ?_, fun ey => ?_⟩⟩
  · dsimp only
    rw [kk 2 (by decide)]
    refine ⟨fun c => ⟨fun d => bad (fun q => (q.1 c).1 d), fun d => ⟨fun d2 _ => ⟨d, d2⟩, fun d2 => bad (fun q => d2 (q.1 c).2)⟩⟩, fun c z => absurd z c⟩
  · dsimp only
    rw [kk 4 (by decide), i_X11_isDigit]
    exact ⟨fun c => br0 (fun p => bad (fun q => p (q.2 c))) (fun p => ⟨y2, fun _ => p⟩), fun c => ⟨y2, fun z => absurd z c⟩⟩
  rw [ef.2.2.2.1]
  refine ⟨fun c5 => ?_, fun c5 => ?_⟩
  · exact m_expr t.1 k14 (fun z => absurd ex z) (fun _ z => absurd ey z) (fun _ _ _ => ⟨rfl, Or.inl ⟨rfl, rfl⟩⟩) (fun _ _ z => absurd c5 z)
  refine s_es (fun b1 pb bV g0 g1 g2 g3 => ?_)
  have n80 : nt (m 0 15) < 80 := by have := vx0.1.2; have := nt_ne vx0.1 c5; omega
  have e15' : b1 15 1 = m 0 15 := by rw [pb.2.2.2.2.1, ef.2.2.2.1]
  have e22' : b1 22 = m 17 := by rw [pb.1 22 (by unfold PBc; omega)]; exact ep.2.2.2.2.2.2.2.2.2.2.2.2.2.2.2.1
  refine c_xadd vx0 k14 e15' e22' ex c5 (fun x y hx hy b2 eb => ?_)
  refine m_expr t.1 k14 (fun z => absurd ex z) (fun _ z => absurd ey z) (fun _ _ z => absurd z c5) (fun _ _ _ m1 pm p9 k0 k1 k2 x' hx' m5 em => ?_)
  have xx : x' = x := by
    rcases hx with ⟨p, q⟩ | ⟨p, q⟩ <;> rcases hx' with ⟨p', q'⟩ | ⟨p', q'⟩
    · rw [q, q']
    · exact absurd p p'
    · exact absurd p' p
    · rw [q, q']
  subst xx
  have t1 : T0 b1 m1 := t.cg pb pm (by rw [bV]) (by rw [bV])
  obtain ⟨⟨vs, vr, vc, vx, vt, v30⟩, ⟨ep, ef, ee, en⟩, eo, vo, dv⟩ := t1
  obtain ⟨e4, e5, e6, e13, e8, e9, e10, e11, e32, e33, e34, e17, e18, e19, e20, e22, e24, e25, e26, e27, e28, e29, e30, e31⟩ := ep
  obtain ⟨f3, f12, f1, f15, f23, f19, f2, f7⟩ := ef
  have nn := nt_s vx0.1 (by decide)
  have m15 := pm.2.2.2.2.1
  have s0 : m5 0 15 = m 0 15 + nI 1 := by rw [em]; simp [hp_at, upd]
  have z0 : ∀ j, j ≠ 15 → m5 0 j = m1 0 j := by intro j hj; rw [em]; simp [hp_at, upd, hj]
  have w13 : m5 13 (nt (m 0 15)) = nI k := by rw [em]; simp [hp_at, upd]
  have w14 : m5 14 (nt (m 0 15)) = a2 := by rw [em]; simp [hp_at, upd]
  have w15 : m5 15 (nt (m 0 15)) = a3 := by rw [em]; simp [hp_at, upd]
  have w16 : m5 16 (nt (m 0 15)) = a4 := by rw [em]; simp [hp_at, upd]
  have w17 : m5 17 (nt (m 0 15)) = x' := by rw [em]; simp [hp_at, upd]
  have u13 : ∀ i, i ≠ nt (m 0 15) → m5 13 i = m1 13 i := by intro i hi; rw [em]; simp [hp_at, upd, hi]
  have u14 : ∀ i, i ≠ nt (m 0 15) → m5 14 i = m1 14 i := by intro i hi; rw [em]; simp [hp_at, upd, hi]
  have u15 : ∀ i, i ≠ nt (m 0 15) → m5 15 i = m1 15 i := by intro i hi; rw [em]; simp [hp_at, upd, hi]
  have u16 : ∀ i, i ≠ nt (m 0 15) → m5 16 i = m1 16 i := by intro i hi; rw [em]; simp [hp_at, upd, hi]
  have u17 : ∀ i, i ≠ nt (m 0 15) → m5 17 i = m1 17 i := by intro i hi; rw [em]; simp [hp_at, upd, hi]
  have z4 : m5 4 = m 4 := by rw [em]; simp [hp_at]; exact pm.1 4 (by decide) (by decide)
  have z5 : m5 5 = m 5 := by rw [em]; simp [hp_at]; exact pm.1 5 (by decide) (by decide)
  have m17 : m1 17 = m 17 := pm.1 17 (by decide) (by decide)
  refine ⟨?_, Or.inr ⟨⟨⟨?_, ?_, ?_, ?_, ?_, ?_⟩, ⟨?_, ?_, ?_, ?_⟩, ?_, ?_, ?_⟩, ?_, ?_⟩⟩
  · rw [s0, nt_sp vx0.1 (by decide)]
  · exact VPs_cg (by simp [em, hp_at]) (by simp [em, hp_at]) (by simp [em, hp_at]) (by simp [em, hp_at, upd]) vs
  · exact VPr_cg (by simp [em, hp_at]) (by simp [em, hp_at]) (by simp [em, hp_at]) (by simp [em, hp_at]) (by simp [em, hp_at]) (by simp [em, hp_at, upd]) vr
  · exact VPc_cg (by simp [em, hp_at]) (by simp [em, hp_at]) (by simp [em, hp_at]) (by simp [em, hp_at, upd]) vc
  · unfold VPx
    rw [s0, nn.2]
    refine ⟨by rw [nn.1]; exact isn_i (by omega) (by decide), fun e he => ?_⟩
    rcases (show e < nt (m 0 15) ∨ e = nt (m 0 15) by omega) with h | h
    · have h' : e < nt (m1 0 15) := by rw [m15]; exact h
      exact VPx1_mono (u13 e (by omega)) (u14 e (by omega)) (u15 e (by omega)) (u16 e (by omega)) (fun i hi => u17 i (by omega)) (by rw [z0 0 (by decide)]; exact Nat.le_refl _) (by rw [z0 4 (by decide)]; exact Nat.le_refl _) (by rw [z0 11 (by decide)]; exact Nat.le_refl _) (fun r _ => by rw [z4, pm.1 4 (by decide) (by decide)]; exact Nat.le_refl _) (fun r _ => by rw [z5, pm.1 5 (by decide) (by decide)]; exact Nat.le_refl _) (vx.2 e h')
    subst h
    have b0 := t.1.1.1.2; have b4 := t.1.2.1.1.2; have b11 := t.1.2.2.1.1.2; have b15 := vx0.1.2
    unfold VPx1
    rw [w13, w14, w15, w16, w17, z0 0 (by decide), z0 4 (by decide), z0 11 (by decide), z4, z5, pm.2.1, pm.2.2.1, pm.2.2.2.1, nt_nI (show k < 2 ^ 31 by omega)]
    refine ⟨isn_i k14 (by decide), by rcases hx with q | q <;> rw [q.2] <;> first | exact Or.inr rfl | exact Or.inl rfl, fun q => ?_, fun q => ?_, fun q => ?_, fun q => ?_, fun q => ?_, fun q => ?_, fun q q2 => ?_, fun q => ?_⟩
    · obtain ⟨i, i1, i2, i3⟩ := ins_get t.1.1.1 (by decide) (ex.1 q)
      rw [i3, i2]; exact ⟨isn_i (by omega) (by decide), i1⟩
    · obtain ⟨h1, h2⟩ := ey.1 q
      obtain ⟨j, j1, j2⟩ := nI_of h1
      rw [j2, nI_ltI j1 (by decide)] at h2
      rw [j2]; exact isn_i (by omega) (by decide)
    · obtain ⟨i, i1, i2, i3⟩ := ins_get t.1.2.1.1 (by decide) (ex.2.1 q)
      obtain ⟨d, d1, d2⟩ := nu_dg (ey.2 q)
      rw [i3, i2, d2]; exact ⟨isn_i (by omega) (by decide), i1, isn_i d1 (by decide)⟩
    · obtain ⟨i, i1, i2, i3⟩ := ins_get t.1.2.2.1.1 (by decide) (ex.2.2.1 q)
      rw [i3, i2]; exact ⟨isn_i (by omega) (by decide), i1⟩
    · obtain ⟨h1, h2, h3⟩ := ex.2.2.2.1 q
      obtain ⟨i, i1, i2, i3⟩ := ins_get t.1.2.1.1 (by decide) h1
      rw [i3] at h2 h3
      have q4 := (t.1.2.1.2.2.1 i i1).1
      have q5 := t.1.2.1.2.1 i (by omega)
      have q42 := q4.2; have q52 := q5.2
      obtain ⟨u, u1, u2, u3⟩ := ins_get q4 (by decide) h2
      obtain ⟨w, w1, w2, w3⟩ := ins_get q5 (by decide) h3
      rw [i3, u3, w3, i2, u2, w2]
      exact ⟨isn_i (by omega) (by decide), i1, isn_i (by omega) (by decide), u1, isn_i (by omega) (by decide), w1⟩
    · obtain ⟨i, i1, i2, i3⟩ := ins_get vx0.1 (by decide) (ex.2.2.2.2.1 q)
      rw [i3, i2]; exact ⟨isn_i (by omega) (by decide), i1⟩
    · obtain ⟨i, i1, i2, i3⟩ := ins_get vx0.1 (by decide) (ex.2.2.2.2.2 q q2)
      rw [i3, i2]; exact ⟨isn_i (by omega) (by decide), i1⟩
    · rcases hx with ⟨_, q2⟩ | ⟨ow, _⟩
      · rw [q2] at q; exact absurd q (by decide)
      refine ⟨fun z => ow (Or.inl z), fun z => ow (Or.inr (Or.inl z)), fun z => ?_, fun z z2 => ?_⟩
      · obtain ⟨i, i1, i2, i3⟩ := ins_get vx0.1 (by decide) (ex.2.2.2.2.1 z)
        rw [u17 _ (by omega), m17]
        exact Decidable.byContradiction (fun y => ow (Or.inr (Or.inr (Or.inl ⟨z, y⟩))))
      · obtain ⟨i, i1, i2, i3⟩ := ins_get vx0.1 (by decide) (ex.2.2.2.2.2 z z2)
        rw [u17 _ (by omega), m17]
        exact Decidable.byContradiction (fun y => ow (Or.inr (Or.inr (Or.inr ⟨z, z2, y⟩))))
  · exact VPt_mono (by simp [em, hp_at]) (by simp [em, hp_at]) (by simp [em, hp_at]) (by simp [em, hp_at]) (by simp [em, hp_at]) (by simp [em, hp_at]) (by simp [em, hp_at]) (by simp [em, hp_at]) (by simp [em, hp_at, upd]) (by simp [em, hp_at, upd]) (by simp [em, hp_at, upd]) (by simp [em, hp_at, upd]) (by rw [s0, nn.2, m15]; omega) (by simp [em, hp_at]) vt
  · rw [z0 30 (by decide)]; exact v30
  · simp only [EQp, eb, em, hp_at, Nat.reduceEqDiff, if_true, if_false, e4, e5, e6, e13, e8, e9, e10, e11, e32, e33, e34, e17, e18, e19, e20, e22, e24, e25, e26, e27, e28, e29, e30, e31, and_self]
  · simp [EQf, eb, em, hp_at, upd, f3, f12, f1, f15, f23, f19, f2, f7]
  · simpa [EQe, eb, em, hp_at] using ee
  · unfold EQn
    have hb9 : b2 15 9 = y := by rw [eb]; simp [hp_at, upd]
    rw [hb9, s0, nn.2]
    rcases hy with ⟨y1, y2⟩ | ⟨y1, y2⟩
    · rw [y2]
      refine ⟨Or.inr rfl, fun z => absurd z (by decide), fun z => ?_⟩
      have := z (nt (m 0 15)) (by omega)
      rw [w13] at this
      exact y1.elim (fun q => absurd ((kk 3 (by decide)).mpr q) this.1) (fun q => absurd ((kk 6 (by decide)).mpr q) this.2)
    · rw [y2]
      refine ⟨en.1, en.2.trans ⟨fun z e he => ?_, fun z e he => ?_⟩⟩
      · rcases (show e < nt (m 0 15) ∨ e = nt (m 0 15) by omega) with h | h
        · rw [u13 e (by omega)]; exact z e (by rw [m15]; exact h)
        · subst h
          rw [w13]
          exact ⟨fun q => y1 (Or.inl ((kk 3 (by decide)).mp q)), fun q => y1 (Or.inr ((kk 6 (by decide)).mp q))⟩
      · rw [m15] at he
        have := z e (by omega)
        rw [u13 e (by omega)] at this
        exact this
  · simpa [EQo, eb, em, hp_at, upd] using eo
  · exact VPo_mono (by simp [em, hp_at]) (by simp [em, hp_at, upd]) (by rw [s0, nn.2, m15]; omega) (fun e he => u17 e (by rw [m15] at he; omega)) vo
  · simpa [DV0, eb, hp_at, hp_V] using dv
  · exact GR0_mk (by simp [eb, hp_at, g0]) (by simp [eb, hp_at, g1]) (by simp [eb, hp_at, g2]) (by rw [z0 33 (by decide), k0]) (by rw [z0 34 (by decide), k1]) (by rw [z0 35 (by decide), k2])
  · simp [eb, hp_at, g3]

