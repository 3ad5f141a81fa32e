/-! ===== the class closes a set; its walk; its knots ===== -/
set_option maxHeartbeats 2000000 in
theorem s_close {p b h : hp_H} {W : Nat → Prop} {fr ev : Int32} {en lw nm : Nat → Nat} {cl : Nat → Prop} {pa : Nat → Nat} {K : Nat} {op : Nat → Nat} {M cnt : Nat} {Q : hp_H → Prop} (bm : BM p b) (hev : EVB p ev) (tj : TJ (srch p) W (gN (srch p)) en lw nm cl pa (K + 1) op M cnt) (hn : nm (pa K) = nt (srch p 31 (pa K + 1))) (hl : lw (pa K) = en (pa K))
    (fr0 : ∀ k, k ≠ 53 → (k < 56 ∨ 63 < k) → h k = b k) (gg : h 53 13 = nI K ∧ h 53 14 = nI M ∧ h 53 15 = nI cnt ∧ h 53 16 = ev ∧ h 53 19 = fr)
    (c58 : ∀ s, s < gN (srch p) → h 58 s = nI (en s) ∧ (¬ en s = 0 → h 59 s = nI (lw s) ∧ h 60 s = nI (nm s)))
    (c61 : ∀ s, s < gN (srch p) → (¬ cl s → h 61 s = -1) ∧ (cl s → ∃ r, h 61 s = nI r ∧ cl r ∧ r < gN (srch p)))
    (c62 : ∀ j, j < K → h 62 j = nI (pa j)) (c63 : ∀ j, j < M → h 63 j = nI (op j))
    (res : ∀ s, s < gN (srch p) → (cl s → (¬ h 56 s = 0 ↔ GD p (srch p) W fr s) ∧ (¬ h 57 s = 0 ↔ LD p (srch p) W fr s)) ∧ (¬ cl s → h 57 s = 0))
    (hQ : ∀ h' cl' bo, KH p W fr ev b h' en lw nm cl' pa K op bo cnt → Q h') : q_X3_close h (nI (pa K)) Q := by
  obtain ⟨g13, g14, g15, g16, g19⟩ := gg
  have bm' := bm
  obtain ⟨⟨v, eq, n4, e35, -⟩, fs, f36, f37⟩ := bm
  obtain ⟨bL, bM, bC⟩ := TJ_b2 tj
  obtain ⟨st1, st2⟩ := TJ_set tj hn hl
  have tj' := tj
  obtain ⟨a1, a2, a3, a4, o1, o2, o3, p1, p2, p3, f, ge, ch, il, jk, kl⟩ := tj'
  obtain ⟨x1, x2⟩ := p1 K (by omega)
  obtain ⟨xN, xW, xC⟩ := a1 _ x1
  obtain ⟨bo, bo1, bo2⟩ := o3 _ x1 x2
  have tjc := TJ_cl tj hn hl bo1 bo2
  generalize ex : pa K = x at *
  -- the set, by its places among the open ones
  have inS : ∀ i, bo ≤ i → i < M → SC (srch p) W x (op i) := by
    intro i i1 i2
    refine (st2 _).mp ⟨(o1 i i2).1, (o1 i i2).2, ?_⟩
    rcases (show bo = i ∨ bo < i by omega) with z | z
    · rw [← z, bo2]; exact Nat.le_refl _
    · have := o2 bo i z i2; rw [bo2] at this; omega
  have ofS : ∀ u, SC (srch p) W x u → ∃ i, bo ≤ i ∧ i < M ∧ op i = u := by
    intro u hu
    obtain ⟨u1, u2, u3⟩ := (st2 u).mpr hu
    obtain ⟨j, j1, j2⟩ := o3 u u1 u2
    refine ⟨j, ?_, j1, j2⟩
    rcases Nat.lt_or_ge j bo with z | z
    · have := o2 j bo z bo1; rw [bo2, j2] at this; omega
    · exact z
  have opN : ∀ i, i < M → op i < gN (srch p) := fun i hi => (a1 _ (o1 i hi).1).1
  have ix : vp_in (nI x) 400 := nu_in (by omega) (by decide)
  unfold q_X3_close
  rintro v1 rfl
  rw [g14]
  refine hp_lp2h_ind (fun v3 v4 h5 => ∃ j, v3 = nI j ∧ bo ≤ j ∧ j ≤ M ∧ ((v4 = nI 1 ∧ bo < j) ∨ (v4 = nI 0 ∧ j = bo)) ∧ (∀ k, k ≠ 61 → h5 k = h k) ∧ (∀ i, j ≤ i → i < M → h5 61 (op i) = nI x) ∧ ∀ s, (¬ ∃ i, j ≤ i ∧ i < M ∧ op i = s) → h5 61 s = h 61 s) (fun v3 v4 h5 => nt v3) ?_ ⟨M, rfl, by omega, Nat.le_refl _, Or.inl ⟨rfl, bo1⟩, fun k _ => rfl, fun i i1 i2 => by omega, fun s _ => rfl⟩
  rintro v3 v4 h5 ⟨j, rfl, j1, j2, j3, f5, m5, r5⟩
  refine ⟨j = bo, ⟨fun z => ?_, fun z => ⟨fun z2 => ?_, fun z2 => ?_⟩⟩, ?_⟩
  · rcases j3 with ⟨q, _⟩ | ⟨_, q⟩
    · rw [q] at z; exact absurd z (by decide)
    · exact q
  · rcases j3 with ⟨_, q⟩ | ⟨_, q⟩
    · rw [← nI_0, nI_leI (by omega) (by decide)] at z2; omega
    · exact q
  · rcases j3 with ⟨_, q⟩ | ⟨q, _⟩
    case inr => exact absurd q z
    rintro v9 rfl
    rw [nI_m1, pk_sub (by omega), nI_clamp (show j - 1 < 2 ^ 31 by omega)]
    have i9 : vp_in (nI (j - 1)) 400 := nu_in (by omega) (by decide)
    have oj := opN (j - 1) (by omega)
    rw [f5 63 (by decide), c63 (j - 1) (by omega), nI_clamp (show op (j - 1) < 2 ^ 31 by omega)]
    refine ⟨i9, nu_in (by omega) (by decide), ?_⟩
    intro h10 e10
    have x61 : ∀ s, h10 61 s = if s = op (j - 1) then nI x else h5 61 s := by intro s; rw [e10]; simp [hp_at, upd]
    have o10 : ∀ k, k ≠ 61 → h10 k = h k := fun k hk => by rw [e10, hp_at, if_neg hk]; exact f5 k hk
    rw [o10 63 (by decide), c63 (j - 1) (by omega), nI_eq (by omega) (by omega)]
    have inv : ∀ i, j - 1 ≤ i → i < M → h10 61 (op i) = nI x := by
      intro i i1 i2
      rw [x61]
      by_cases w : op i = op (j - 1)
      · rw [if_pos w]
      · rw [if_neg w]
        refine m5 i ?_ i2
        rcases (show j - 1 = i ∨ j ≤ i by omega) with y | y
        · rw [← y] at w; exact absurd rfl w
        · exact y
    have inv2 : ∀ s, (¬ ∃ i, j - 1 ≤ i ∧ i < M ∧ op i = s) → h10 61 s = h 61 s := by
      intro s hs
      rw [x61, if_neg (fun w => hs ⟨j - 1, Nat.le_refl _, by omega, w.symm⟩)]
      exact r5 s (fun ⟨i, i1, i2, i3⟩ => hs ⟨i, by omega, i2, i3⟩)
    have ms : nt (nI (j - 1)) < nt (nI j) := by rw [nt_nI (by omega), nt_nI (by omega)]; omega
    refine ⟨i9, jn1_two (p := ¬ op (j - 1) = x) (fun K k1 k0 => ⟨fun w => k0 (fun y => y w), fun w => k1 w⟩) (fun w => ?_) (fun w => ?_)⟩
    · refine ⟨⟨j - 1, rfl, by omega, by omega, Or.inl ⟨rfl, ?_⟩, o10, inv, inv2⟩, ms⟩
      rcases (show bo = j - 1 ∨ bo < j - 1 by omega) with y | y
      · rw [← y] at w; exact absurd bo2 w
      · exact y
    · refine ⟨⟨j - 1, rfl, by omega, by omega, Or.inr ⟨rfl, ?_⟩, o10, inv, inv2⟩, ms⟩
      have w' : op (j - 1) = x := Classical.not_not.mp w
      rcases (show bo = j - 1 ∨ bo < j - 1 by omega) with y | y
      · exact y.symm
      · have := o2 bo (j - 1) y (by omega); rw [bo2, w'] at this; omega
  rintro rfl h14 rfl h15 e15
  have cb : ∀ t, t < gN (srch p) → (h5 61 t = nI x ↔ SC (srch p) W x t) := by
    intro t ht
    by_cases c : SC (srch p) W x t
    · obtain ⟨i, i1, i2, i3⟩ := ofS t c
      refine ⟨fun _ => c, fun _ => ?_⟩
      rw [← i3]; exact m5 i i1 i2
    · refine ⟨fun e => ?_, fun z => absurd z c⟩
      rw [r5 t (fun ⟨i, i1, i2, i3⟩ => c (by rw [← i3]; exact inS i i1 i2))] at e
      by_cases k : cl t
      · obtain ⟨r, r1, r2, r3⟩ := (c61 t ht).2 k
        rw [r1] at e
        rw [(nI_eq (by omega) (by omega)).mp e] at r2
        exact absurd r2 x2
      · rw [(c61 t ht).1 k] at e
        exact absurd e.symm (fun y => (nu_m1 (show x < 2 ^ 31 by omega)).mp y)
  have o15 : ∀ k, k ≠ 53 → h15 k = h5 k := by intro k hk; rw [e15]; simp [hp_at, hk]
  have o53 : ∀ j, j ≠ 17 → j ≠ 18 → h15 53 j = h 53 j := by intro j j1 j2; rw [e15]; simp [hp_at, upd, j1, j2]; rw [f5 53 (by decide)]
  have z17 : h15 53 17 = nI 0 := by rw [e15]; simp [hp_at, upd]
  have z18 : h15 53 18 = nI 0 := by rw [e15]; simp [hp_at, upd]
  -- each is weighed
  refine hp_lp2h_ind (fun y z h' => ∃ i, z = nI i ∧ j ≤ i ∧ i ≤ M ∧ (∀ k, k ≠ 53 → h' k = h5 k) ∧ (∀ j, j ≠ 17 → j ≠ 18 → h' 53 j = h 53 j) ∧ ((y = nI 1 ∧ ∃ i', j ≤ i' ∧ i' < i ∧ ∃ k, nt (srch p 31 (op i')) ≤ k ∧ k < nt (srch p 31 (op i' + 1)) ∧ ¬ SC (srch p) W x (nt (srch p 32 k)) ∧ ¬ h 57 (nt (srch p 32 k)) = 0) ∨ (y = nI 0 ∧ ¬ ∃ i', j ≤ i' ∧ i' < i ∧ ∃ k, nt (srch p 31 (op i')) ≤ k ∧ k < nt (srch p 31 (op i' + 1)) ∧ ¬ SC (srch p) W x (nt (srch p 32 k)) ∧ ¬ h 57 (nt (srch p 32 k)) = 0)) ∧
      (∀ d, d < 32 → (bt (h' 53 17) d ↔ ∃ i', j ≤ i' ∧ i' < i ∧ ∃ k, nt (srch p 31 (op i')) ≤ k ∧ k < nt (srch p 31 (op i' + 1)) ∧ mvB (srch p) k d ∧ SC (srch p) W x (nt (srch p 32 k)))) ∧ (∀ d, d < 32 → (bt (h' 53 18) d ↔ ∃ i', j ≤ i' ∧ i' < i ∧ (bt ev d ∧ ¬ ∃ k, nt (srch p 31 (op i')) ≤ k ∧ k < nt (srch p 31 (op i' + 1)) ∧ mvB (srch p) k d)))) (fun y z h' => 400 - nt z) ?_ ⟨j, rfl, Nat.le_refl _, j2, o15, o53, Or.inr ⟨rfl, fun ⟨i', q1, q2, _⟩ => by omega⟩, fun d hd => ⟨fun q => absurd (z17 ▸ q) bt_0, fun ⟨i', q1, q2, _⟩ => by omega⟩, fun d hd => ⟨fun q => absurd (z18 ▸ q) bt_0, fun ⟨i', q1, q2, _⟩ => by omega⟩⟩
  clear z17 z18 o53 o15 e15
  clear h15
  rintro y z h' ⟨i, rfl, i1, i2, f', f53, hy, b17, b18⟩
  have e14' : h' 53 14 = nI M := by rw [f53 14 (by decide) (by decide)]; exact g14
  rw [e14', nI_leI (by omega) (by omega)]
  refine ⟨fun c => ?_, fun c => ⟨nu_in (by omega) (by decide), ?_⟩⟩
  case refine_2 =>
    have oi := opN i (by omega)
    have e63 : h' 63 (nI i).toNatClampNeg = nI (op i) := by rw [nI_clamp (show i < 2 ^ 31 by omega), f' 63 (by decide), f5 63 (by decide)]; exact c63 i (by omega)
    rw [e63]
    refine s_weigh (ev := ev) bm' (fun k k1 k2 => by rw [f' k k1, f5 k (by omega)]; exact fr0 k k1 k2) oi (by omega) (fun t ht => by rw [f' 61 (by decide)]; exact cb t ht) (by rw [f53 16 (by decide) (by decide)]; exact g16) (fun y2 h42 f42 g42 hy2 w17 w18 => ?_)
    have e57 : h' 57 = h 57 := by rw [f' 57 (by decide), f5 57 (by decide)]
    rw [e57] at hy2
    refine ⟨fun v => (v = nI 1 ∧ ∃ i', j ≤ i' ∧ i' < i + 1 ∧ ∃ k, nt (srch p 31 (op i')) ≤ k ∧ k < nt (srch p 31 (op i' + 1)) ∧ ¬ SC (srch p) W x (nt (srch p 32 k)) ∧ ¬ h 57 (nt (srch p 32 k)) = 0) ∨ (v = nI 0 ∧ ¬ ∃ i', j ≤ i' ∧ i' < i + 1 ∧ ∃ k, nt (srch p 31 (op i')) ≤ k ∧ k < nt (srch p 31 (op i' + 1)) ∧ ¬ SC (srch p) W x (nt (srch p 32 k)) ∧ ¬ h 57 (nt (srch p 32 k)) = 0), ⟨fun w => ?_, fun w => ?_⟩, ?_⟩
    · rcases hy2 with ⟨q, _⟩ | ⟨_, q⟩
      · rw [q] at w; exact absurd w (by decide)
      · rcases hy with ⟨w1, i', w2, w3, w4⟩ | ⟨w1, w2⟩
        · exact Or.inl ⟨w1, i', w2, by omega, w4⟩
        · refine Or.inr ⟨w1, fun ⟨i', q1, q2, q3⟩ => ?_⟩
          rcases (show i' < i ∨ i' = i by omega) with ww | ww
          · exact w2 ⟨i', q1, ww, q3⟩
          · rw [ww] at q3; exact q q3
    · rcases hy2 with ⟨_, q⟩ | ⟨q, _⟩
      · exact Or.inl ⟨rfl, i, i1, by omega, q⟩
      · exact absurd q w
    · rintro v hv w rfl
      rw [nI_add]
      refine ⟨⟨i + 1, rfl, by omega, by omega, fun k hk => (f42 k hk).trans (f' k hk), fun j j1 j2 => (g42 j j1 j2).trans (f53 j j1 j2), hv, fun d hd => ?_, fun d hd => ?_⟩, by rw [nt_nI (by omega), nt_nI (by omega)]; omega⟩
      · rw [w17 d hd, b17 d hd]
        constructor
        · rintro (⟨i', q1, q2, q3⟩ | q)
          · exact ⟨i', q1, by omega, q3⟩
          · exact ⟨i, i1, by omega, q⟩
        · rintro ⟨i', q1, q2, q3⟩
          rcases (show i' < i ∨ i' = i by omega) with ww | ww
          · exact Or.inl ⟨i', q1, ww, q3⟩
          · rw [ww] at q3; exact Or.inr q3
      · rw [w18 d hd, b18 d hd]
        constructor
        · rintro (⟨i', q1, q2, q3⟩ | q)
          · exact ⟨i', q1, by omega, q3⟩
          · exact ⟨i, i1, by omega, q⟩
        · rintro ⟨i', q1, q2, q3⟩
          rcases (show i' < i ∨ i' = i by omega) with ww | ww
          · exact Or.inl ⟨i', q1, ww, q3⟩
          · rw [ww] at q3; exact Or.inr q3
  have iM : i = M := by omega
  subst iM
  -- what the bits say
  have vR : ∀ k, k < gK (srch p) → ¬ srch p 33 k = -1 → ∃ r q, r < nt (p 0 4) ∧ q < nt (p 4 r) ∧ r < 3 ∧ q < 3 ∧ srch p 33 k = nI r ∧ srch p 34 k = nI q := by
    intro k hk hn'
    rcases mvc_v v (fs.1.2.2.2.2 k hk).2.2 with ⟨e1, _⟩ | ⟨r, q, t, hr, hq, r3, q3, _, e1, e2, _⟩
    · exact absurd e1 hn'
    · exact ⟨r, q, hr, hq, r3, q3, e1, e2⟩
  have rng : ∀ u, u < gN (srch p) → ∀ k, k < nt (srch p 31 (u + 1)) → k < gK (srch p) := fun u hu k hk => by have := (fs.r hu).2.2.2.1; omega
  have hm : (¬ h' 53 17 = 0) ↔ HM (srch p) W x := by
    constructor
    · intro q
      apply Classical.byContradiction
      intro nq
      refine q (bt_x (fun d hd => ⟨fun w => ?_, fun w => absurd w bt_0⟩))
      obtain ⟨i', q1, q2, k, q3, q4, q5, q6⟩ := (b17 d hd).mp w
      refine absurd ⟨op i', k, inS i' q1 q2, q3, q4, fun y => mvB_n y d q5, q6⟩ nq
    · rintro ⟨u, k, q1, q2, q3, q4, q5⟩ q
      obtain ⟨i', w1, w2, w3⟩ := ofS u q1
      subst w3
      obtain ⟨r, m, hr, hm', r3, m3, e1, e2⟩ := vR k (rng _ (opN i' w2) k q3) q4
      have := (b17 (3 * r + m) (by omega)).mpr ⟨i', w1, w2, k, q2, q3, (mvB_e e1 e2 r3 m3 _).mpr rfl, q5⟩
      rw [q] at this
      exact bt_0 this
  have sub17 : ∀ d, d < 32 → bt (h' 53 17) d → bt ev d := by
    intro d hd w
    obtain ⟨i', q1, q2, k, q3, q4, ⟨r, m, r3, m3, e1, e2, e3⟩, q6⟩ := (b17 d hd).mp w
    obtain ⟨r', m', hr, hm', r3', m3', e1', e2'⟩ := vR k (rng _ (opN i' q2) k q4) (fun y => by rw [y] at e1; exact (nu_m1 (show r < 2 ^ 31 by omega)).mp e1.symm)
    have w1 : r = r' := (nI_eq (by omega) (by omega)).mp (e1.symm.trans e1')
    have w2 : m = m' := (nI_eq (by omega) (by omega)).mp (e2.symm.trans e2')
    subst w1; subst w2
    exact (hev d hd).mpr ⟨r, m, hr, hm', e3⟩
  have R3 := v.2.1.1.2
  have tn : ((h' 53 17 ||| h' 53 18) = h' 53 16) ↔ ∀ r m, r < nt (p 0 4) → m < nt (p 4 r) → TN (srch p) W x r m := by
    rw [f53 16 (by decide) (by decide), g16]
    constructor
    · intro e r m hr hm'
      have m3 := (v.2.1.2.2.1 r hr).1.2
      have hd : 3 * r + m < 32 := by omega
      have be := (hev (3 * r + m) hd).mpr ⟨r, m, hr, hm', rfl⟩
      rw [← e, bt_o, b17 _ hd, b18 _ hd] at be
      rcases be with ⟨i', q1, q2, k, q3, q4, ⟨r', m', r3', m3', e1, e2, e3⟩, q6⟩ | ⟨i', q1, q2, _, q3⟩
      · have : r' = r ∧ m' = m := by omega
        rw [this.1] at e1; rw [this.2] at e2
        exact ⟨op i', inS i' q1 q2, Or.inl ⟨k, q3, q4, ⟨e1, e2⟩, q6⟩⟩
      · exact ⟨op i', inS i' q1 q2, Or.inr (fun k k1 k2 w => q3 ⟨k, k1, k2, r, m, by omega, by omega, w.1, w.2, rfl⟩)⟩
    · intro t
      refine bt_x (fun d hd => ?_)
      rw [bt_o]
      constructor
      · rintro (w | w)
        · exact sub17 d hd w
        · obtain ⟨_, _, _, w, _⟩ := (b18 d hd).mp w
          exact w
      · intro w
        obtain ⟨r, m, hr, hm', e3⟩ := (hev d hd).mp w
        have m3 := (v.2.1.2.2.1 r hr).1.2
        obtain ⟨u, u1, u2⟩ := t r m hr hm'
        obtain ⟨i', w1, w2, w3⟩ := ofS u u1
        subst w3
        by_cases ex2 : ∃ k, nt (srch p 31 (op i')) ≤ k ∧ k < nt (srch p 31 (op i' + 1)) ∧ mvB (srch p) k d
        · rcases u2 with ⟨k, k1, k2, k3, k4⟩ | u2
          · exact Or.inl ((b17 d hd).mpr ⟨i', w1, w2, k, k1, k2, ⟨r, m, by omega, by omega, k3.1, k3.2, e3⟩, k4⟩)
          · obtain ⟨k, k1, k2, r', m', r3', m3', e1, e2, e4⟩ := ex2
            have : r' = r ∧ m' = m := by omega
            rw [this.1] at e1; rw [this.2] at e2
            exact absurd ⟨e1, e2⟩ (u2 k k1 k2)
        · exact Or.inr ((b18 d hd).mpr ⟨i', w1, w2, w, ex2⟩)
  have gd : ∀ s, SC (srch p) W x s → (GD p (srch p) W fr s ↔ GD p (srch p) W fr x) := fun s c => ⟨fun q => GD_sc c.sy q, fun q => GD_sc c q⟩
  -- does a move lead on to a knot
  have lead : ∀ s, SC (srch p) W x s → (LD p (srch p) W fr s ↔ GD p (srch p) W fr x ∨ ∃ i', j ≤ i' ∧ i' < i ∧ ∃ k, nt (srch p 31 (op i')) ≤ k ∧ k < nt (srch p 31 (op i' + 1)) ∧ ¬ SC (srch p) W x (nt (srch p 32 k)) ∧ ¬ h 57 (nt (srch p 32 k)) = 0) := by
    intro s cs
    constructor
    · rintro ⟨t, t1, t2⟩
      apply Classical.byContradiction
      intro no
      have := t1 (fun y => SC (srch p) W x y ∨ (cl y ∧ ¬ LD p (srch p) W fr y)) (Or.inl cs) (fun a c ha wc ⟨k, k1, k2, k3⟩ => by
        subst k3
        rcases ha with ha | ⟨ha, hb⟩
        · obtain ⟨i', w1, w2, w3⟩ := ofS a ha
          obtain ⟨q1, q2, q3⟩ := (st2 a).mpr ha
          rcases st1 a k q1 q2 q3 k1 k2 wc with z | z
          · refine Or.inr ⟨z, fun ld => no (Or.inr ⟨i', w1, w2, k, by rw [w3]; exact k1, by rw [w3]; exact k2, fun sc => ?_, ((res _ (a1 _ (a4 _ z)).1).1 z).2.mpr ld⟩)⟩
            exact ((st2 _).mpr sc).2.1 z
          · exact Or.inl ((st2 _).mp z)
        · refine Or.inr ⟨ch a k ha k1 k2 wc, fun ld => hb ?_⟩
          obtain ⟨t', r1, r2⟩ := ld
          exact ⟨t', (RE.one wc ⟨k, k1, k2, rfl⟩).tr r1, r2⟩)
      rcases this with z | ⟨_, z⟩
      · exact no (Or.inl ((gd t z).mp t2))
      · exact z ⟨t, RE.rf, t2⟩
    · rintro (q | ⟨i', w1, w2, k, k1, k2, k3, k4⟩)
      · exact ⟨s, RE.rf, (gd s cs).mpr q⟩
      · have mvN := (fs.1.2.2.2.2 k (rng _ (opN i' w2) k k2)).2.1
        have ct : cl (nt (srch p 32 k)) := Classical.byContradiction (fun z => k4 ((res _ mvN).2 z))
        obtain ⟨t, t1, t2⟩ := ((res _ mvN).1 ct).2.mp k4
        have wt := (a1 _ (a4 _ ct)).2.1
        exact ⟨t, (cs.2.tr (inS i' w1 w2).1).tr ((RE.one wt ⟨k, k1, k2, rfl⟩).tr t1), t2⟩
  -- is it a knot
  refine ⟨fun w => (w = nI 1 ∧ GD p (srch p) W fr x) ∨ (w = nI 0 ∧ ¬ GD p (srch p) W fr x), ?_, ?_⟩
  · refine ⟨¬ GD p (srch p) W fr x, ⟨fun q => fun w => hm.mpr w.2.1 q, fun q => ?_⟩, fun q => Or.inr ⟨rfl, q⟩⟩
    rw [f53 19 (by decide) (by decide), g19]
    refine ⟨fr = 0 ∨ ∀ r m, r < nt (p 0 4) → m < nt (p 4 r) → TN (srch p) W x r m, ⟨fun q2 => Or.inl q2, fun q2 => ⟨fun q3 => Or.inr (tn.mp q3), fun q3 => fun w => ?_⟩⟩, fun q2 => Or.inl ⟨rfl, xW, hm.mp q, q2⟩⟩
    rcases w.2.2 with w | w
    · exact q2 w
    · exact q3 (tn.mpr w)
  intro v23 h23
  refine hp_lp1h_ind (fun w h30 => ∃ a, w = nI a ∧ j ≤ a ∧ a ≤ i ∧ (∀ k, k ≠ 56 → k ≠ 57 → h30 k = h' k) ∧ (∀ i', j ≤ i' → i' < a → h30 56 (op i') = v23 ∧ (¬ h30 57 (op i') = 0 ↔ LD p (srch p) W fr (op i'))) ∧ ∀ s, (¬ ∃ i', j ≤ i' ∧ i' < a ∧ op i' = s) → h30 56 s = h' 56 s ∧ h30 57 s = h' 57 s) (fun w h30 => 400 - nt w) ?_ ⟨j, rfl, Nat.le_refl _, i1, fun _ _ _ => rfl, fun i' q1 q2 => by omega, fun s _ => ⟨rfl, rfl⟩⟩
  rintro w h30 ⟨a, rfl, a1', a2', f30, s30, r30⟩
  have e14'' : h30 53 14 = nI i := by rw [f30 53 (by decide) (by decide)]; exact e14'
  rw [e14'', nI_leI (by omega) (by omega)]
  refine ⟨fun c2 => ?_, fun c2 => ⟨nu_in (by omega) (by decide), ?_⟩⟩
  · have ai : a = i := by omega
    subst ai
    intro h32 e32
    have o32 : ∀ k, k ≠ 53 → h32 k = h30 k := by intro k hk; rw [e32, hp_at, if_neg hk]
    have o53 : ∀ d, d ≠ 14 → h32 53 d = h30 53 d := by intro d hd; rw [e32]; simp [hp_at, upd, hd]
    have oh : ∀ k, k ≠ 53 → k ≠ 56 → k ≠ 57 → k ≠ 61 → h32 k = h k := fun k k1 k2 k3 k4 => by rw [o32 k k1, f30 k k2 k3, f' k k1, f5 k k4]
    refine hQ h32 _ j ⟨tjc, fun k k1 k2 => ?_, ⟨?_, ?_, ?_, ?_, ?_⟩, fun s hs => ?_, fun s hs => ⟨fun q => ?_, fun q => ?_⟩, fun d hd => ?_, fun d hd => ?_, fun s hs => ⟨fun q => ?_, fun q => ?_⟩⟩
    · rw [oh k k1 (by omega) (by omega) (by omega)]; exact fr0 k k1 k2
    · rw [o53 13 (by decide), f30 53 (by decide) (by decide), f53 13 (by decide) (by decide)]; exact g13
    · rw [e32]; simp [hp_at, upd]
    · rw [o53 15 (by decide), f30 53 (by decide) (by decide), f53 15 (by decide) (by decide)]; exact g15
    · rw [o53 16 (by decide), f30 53 (by decide) (by decide), f53 16 (by decide) (by decide)]; exact g16
    · rw [o53 19 (by decide), f30 53 (by decide) (by decide), f53 19 (by decide) (by decide)]; exact g19
    · rw [oh 58 (by decide) (by decide) (by decide) (by decide), oh 59 (by decide) (by decide) (by decide) (by decide), oh 60 (by decide) (by decide) (by decide) (by decide)]; exact c58 s hs
    · rw [o32 61 (by decide), f30 61 (by decide) (by decide), f' 61 (by decide), r5 s (fun ⟨i', q1, q2, q3⟩ => q (Or.inr (by rw [← q3]; exact (st2 _).mpr (inS i' q1 q2))))]
      exact (c61 s hs).1 (fun z => q (Or.inl z))
    · rw [o32 61 (by decide), f30 61 (by decide) (by decide), f' 61 (by decide)]
      rcases q with q | q
      · rw [r5 s (fun ⟨i', q1, q2, q3⟩ => by rw [← q3] at q; exact (o1 i' q2).2 q)]
        obtain ⟨r, r1, r2, r3⟩ := (c61 s hs).2 q
        exact ⟨r, r1, Or.inl r2, r3⟩
      · obtain ⟨i', w1, w2, w3⟩ := ofS s ((st2 s).mp q)
        exact ⟨x, by rw [← w3]; exact m5 i' w1 w2, Or.inr ⟨x1, x2, Nat.le_refl _⟩, xN⟩
    · rw [oh 62 (by decide) (by decide) (by decide) (by decide)]; exact c62 d hd
    · rw [oh 63 (by decide) (by decide) (by decide) (by decide)]; exact c63 d (by omega)
    · rw [o32 56 (by decide), o32 57 (by decide)]
      rcases q with q | q
      · obtain ⟨y1, y2⟩ := r30 s (fun ⟨i', q1, q2, q3⟩ => by rw [← q3] at q; exact (o1 i' q2).2 q)
        rw [y1, y2, f' 56 (by decide), f' 57 (by decide), f5 56 (by decide), f5 57 (by decide)]
        exact (res s hs).1 q
      · have sc := (st2 s).mp q
        obtain ⟨i', w1, w2, w3⟩ := ofS s sc
        obtain ⟨y1, y2⟩ := s30 i' w1 w2
        rw [w3] at y1 y2
        refine ⟨?_, y2⟩
        rw [y1, gd s sc]
        rcases h23 with ⟨z1, z2⟩ | ⟨z1, z2⟩
        · rw [z1]; exact ⟨fun _ => z2, fun _ => by decide⟩
        · rw [z1]; exact ⟨fun z => absurd rfl z, fun z => absurd z z2⟩
    · rw [o32 57 (by decide), (r30 s (fun ⟨i', q1, q2, q3⟩ => q (Or.inr (by rw [← q3]; exact (st2 _).mpr (inS i' q1 q2))))).2, f' 57 (by decide), f5 57 (by decide)]
      exact (res s hs).2 (fun z => q (Or.inl z))
  · have oa := opN a (by omega)
    have e63 : h30 63 (nI a).toNatClampNeg = nI (op a) := by rw [nI_clamp (show a < 2 ^ 31 by omega), f30 63 (by decide) (by decide), f' 63 (by decide), f5 63 (by decide)]; exact c63 a (by omega)
    have ia : vp_in (nI (op a)) 400 := nu_in (by omega) (by decide)
    have i4a : vp_in (nI a) 400 := nu_in (by omega) (by decide)
    rw [e63, nI_clamp (show op a < 2 ^ 31 by omega)]
    refine ⟨ia, by rcases h23 with ⟨z, _⟩ | ⟨z, _⟩ <;> rw [z]; exact bz1; exact bz0, ?_⟩
    intro h33 e33
    have x56 : ∀ s, h33 56 s = if s = op a then v23 else h30 56 s := by intro s; rw [e33]; simp [hp_at, upd]
    have o33 : ∀ k, k ≠ 56 → h33 k = h30 k := by intro k hk; rw [e33, hp_at, if_neg hk]
    refine ⟨i4a, fun w => (w = nI 1 ∧ LD p (srch p) W fr (op a)) ∨ (w = nI 0 ∧ ¬ LD p (srch p) W fr (op a)), ?_, ?_⟩
    · have la := lead (op a) (inS a (by omega) (by omega))
      refine ⟨LD p (srch p) W fr (op a), ⟨fun q => ⟨fun q2 => Or.inr ⟨rfl, fun z => ?_⟩, fun q2 => la.mpr (Or.inr ?_)⟩, fun q => la.mpr (Or.inl ?_)⟩, fun q => Or.inl ⟨rfl, q⟩⟩
      · rcases la.mp z with w | w
        · rcases h23 with ⟨z1, _⟩ | ⟨_, z2⟩
          · rw [z1] at q; exact absurd q (by decide)
          · exact z2 w
        · rcases hy with ⟨z1, _⟩ | ⟨_, z2⟩
          · rw [z1] at q2; exact absurd q2 (by decide)
          · exact z2 w
      · rcases hy with ⟨_, z2⟩ | ⟨z1, _⟩
        · exact z2
        · exact absurd z1 q2
      · rcases h23 with ⟨_, z2⟩ | ⟨z1, _⟩
        · exact z2
        · exact absurd z1 q
    · intro v36 h36
      have e63' : h33 63 (nI a).toNatClampNeg = nI (op a) := by rw [o33 63 (by decide)]; exact e63
      rw [e63', nI_clamp (show op a < 2 ^ 31 by omega)]
      refine ⟨ia, by rcases h36 with ⟨z, _⟩ | ⟨z, _⟩ <;> rw [z]; exact bz1; exact bz0, ?_⟩
      rintro h39 e39 w rfl
      rw [nI_add]
      have y57 : ∀ s, h39 57 s = if s = op a then v36 else h30 57 s := by intro s; rw [e39]; simp [hp_at, upd]; rw [o33 57 (by decide)]
      have y56 : ∀ s, h39 56 s = if s = op a then v23 else h30 56 s := by intro s; rw [← x56, e39]; simp [hp_at]
      refine ⟨⟨a + 1, rfl, by omega, by omega, fun k k1 k2 => by rw [e39, hp_at, if_neg k2, o33 k k1]; exact f30 k k1 k2, fun i' q1 q2 => ?_, fun s hs => ?_⟩, by rw [nt_nI (by omega), nt_nI (by omega)]; omega⟩
      · rw [y56, y57]
        by_cases z : op i' = op a
        · rw [if_pos z, if_pos z, z]
          refine ⟨rfl, ?_⟩
          rcases h36 with ⟨w1, w2⟩ | ⟨w1, w2⟩
          · rw [w1]; exact ⟨fun _ => w2, fun _ => by decide⟩
          · rw [w1]; exact ⟨fun y => absurd rfl y, fun y => absurd y w2⟩
        · rw [if_neg z, if_neg z]
          refine s30 i' q1 ?_
          rcases (show i' < a ∨ i' = a by omega) with y | y
          · exact y
          · rw [y] at z; exact absurd rfl z
      · rw [y56, y57, if_neg (fun z => hs ⟨a, by omega, by omega, z.symm⟩), if_neg (fun z => hs ⟨a, by omega, by omega, z.symm⟩)]
        exact r30 s (fun ⟨i', q1, q2, q3⟩ => hs ⟨i', q1, by omega, q3⟩)
