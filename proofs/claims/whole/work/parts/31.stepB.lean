/-! ===== the class does a step ===== -/
/-- what was told stays under such a change -/
theorem EQ.fs {p b b' : hp_H} (f : ∀ k, k < 16 ∨ (16 < k ∧ k < 21) ∨ (21 < k ∧ k < 35) → b' k = b k) (h : EQ b p) : EQ b' p := by
  obtain ⟨ep, ef, ee, en⟩ := h
  refine ⟨?_, ?_, ?_, ?_⟩
  · unfold EQp
    simp only [f 4 (by decide), f 5 (by decide), f 6 (by decide), f 13 (by decide), f 8 (by decide), f 9 (by decide), f 10 (by decide), f 11 (by decide), f 32 (by decide), f 33 (by decide), f 34 (by decide), f 17 (by decide), f 18 (by decide), f 19 (by decide), f 20 (by decide), f 22 (by decide), f 24 (by decide), f 25 (by decide), f 26 (by decide), f 27 (by decide), f 28 (by decide), f 29 (by decide), f 30 (by decide), f 31 (by decide)]
    exact ep
  · unfold EQf
    simp only [f 3 (by decide), f 12 (by decide), f 1 (by decide), f 15 (by decide), f 23 (by decide), f 2 (by decide), f 7 (by decide)]
    exact ef
  · unfold EQe
    simp only [f 14 (by decide)]
    exact ee
  · unfold EQn
    simp only [f 15 (by decide)]
    exact en
/-- the values that a step asks for -/
def VS (p b : hp_H) (t : Nat → Int32) (s : Nat) : Prop := (¬ p 21 s = -1 → b 16 (nt (p 21 s)) = t (nt (p 21 s))) ∧ ∀ i, i < nt (p 22 s) → ¬ nt (p 23 (4 * s + i)) = 3 → b 16 (nt (p 25 (4 * s + i))) = t (nt (p 25 (4 * s + i)))
theorem s_canDo {p b : hp_H} {s : Nat} {d : Nat → Nat} {t : Nat → Int32} {Q : Int32 → Prop} (v : VP p) (eq : EQ b p) (hd : DG p d) (hr : rw_B b 46 d) (hs : s < nt (p 0 21)) (vs : VS p b t s)
    (h1 : cnG p t s → (∀ i, i < nt (p 22 s) → cnA p d s i) → Q (nI 1)) (h0 : ¬ (cnG p t s ∧ ∀ i, i < nt (p 22 s) → cnA p d s i) → Q (nI 0)) : q_X8_canDo b (nI s) Q := by
  obtain ⟨vs', vr, vc, vx, vt, v30⟩ := v
  have s24 : s < 24 := by have := vt.1.2; omega
  have i24 : vp_in (nI s) 24 := nu_in s24 (by decide)
  obtain ⟨v1, v2, v3, v4, v5, v6, v7⟩ := vt.2.2.2 s hs
  have v22 := vt.2.1 s s24
  have n4 := v22.2
  obtain ⟨e4, e5, e6, e13, e8, e9, e10, e11, e32, e33, e34, e17, e18, e19, e20, e22, e24, e25, e26, e27, e28, e29, e30, e31⟩ := eq.1
  unfold q_X8_canDo
  refine ⟨i24, ?_⟩
  rw [nI_clamp (show s < 2 ^ 31 by omega), e27, e28, e29, e30, e32]
  rintro x rfl
  refine ⟨cnG p t s, ⟨fun c => Or.inl c, fun c => ?_⟩, fun g => ?_⟩
  · rcases v5 with z | ⟨z1, z2⟩
    · exact absurd z c
    · refine ⟨isn_in z1 (by decide) (by have := z1.2; omega), ?_⟩
      rw [nt_def, vs.1 c]
      exact ⟨fun q => h0 (fun y => y.1.elim (fun w => c w) (fun w => w q)), fun q => Or.inr q⟩
  · rintro x rfl
    rw [pk_mul]
    have ad : nI (s * 4) + p 22 s = nI (s * 4 + nt (p 22 s)) := by
      conv => lhs; rw [v22.1]
      rw [nI_add]
    rw [ad]
    refine hp_lp1_ind (fun x => ∃ j, x = nI (s * 4 + j) ∧ j ≤ nt (p 22 s) ∧ ∀ i, i < j → cnA p d s i) (fun x => s * 4 + 4 - nt x) ?_ ⟨0, rfl, by omega, fun i hi => by omega⟩
    rintro x ⟨j, rfl, hj, hc⟩
    refine ⟨i24, ?_⟩
    rw [nI_leI (by omega) (by omega), nI_clamp (show s * 4 + j < 2 ^ 31 by omega), show s * 4 + j = 4 * s + j by omega]
    refine ⟨fun c => h1 g (fun i hi => hc i (by omega)), fun c => ⟨nu_in (by omega) (by decide), ?_⟩⟩
    rintro ch rfl
    refine ⟨nu_in (by omega) (by decide), ?_⟩
    obtain ⟨w1, w2, w3, w4, w5, w6⟩ := v6 j (by omega)
    have kk : ∀ i, i < 4 → (p 23 (4 * s + j) = nI i ↔ nt (p 23 (4 * s + j)) = i) := by
      intro i hi
      exact ⟨fun z => by rw [z]; exact nt_nI (by omega), fun z => by rw [w1.1, z]⟩
    rw [kk 2 (by decide), kk 3 (by decide)]
    refine ⟨nt (p 23 (4 * s + j)) = 2 → d (42 + 4 * nt (p 24 (4 * s + j))) < nt (p 10 (nt (p 24 (4 * s + j)))), ⟨fun c2 => ?_, fun c2 z => absurd z c2⟩, fun A => ⟨nu_in (by omega) (by decide), nt (p 23 (4 * s + j)) = 3 → 0 < d (42 + 4 * nt (p 24 (4 * s + j))), ⟨fun c2 => ?_, fun c2 z => absurd z c2⟩, fun B => ?_⟩⟩
    · obtain ⟨z1, z2⟩ := w4 (by omega)
      have z12 := z1.2
      have q10 := (vc.2 _ z2).1
      have q102 := q10.2
      have d9 := hd.1 (42 + 4 * nt (p 24 (4 * s + j)))
      rw [z1.1, nI_clamp (by omega)]
      refine s_held hd.D hr (by omega) ⟨nu_in (by omega) (by decide), ?_⟩
      have l : nI (d (42 + 4 * nt (p 24 (4 * s + j)))) < p 10 (nt (p 24 (4 * s + j))) ↔ d (42 + 4 * nt (p 24 (4 * s + j))) < nt (p 10 (nt (p 24 (4 * s + j)))) := by
        conv => lhs; rw [q10.1]
        exact nI_ltI (by omega) (by omega)
      rw [l, nt_nI (show nt (p 24 (4 * s + j)) < 2 ^ 31 by omega)]
      exact ⟨fun z _ => z, fun z => h0 (fun y => z ((y.2 j (by omega)).1 c2))⟩
    · obtain ⟨z1, z2⟩ := w4 (by omega)
      have z12 := z1.2
      have d9 := hd.1 (42 + 4 * nt (p 24 (4 * s + j)))
      rw [z1.1]
      refine s_held hd.D hr (by omega) ?_
      rw [nu_0 (by omega), nt_nI (show nt (p 24 (4 * s + j)) < 2 ^ 31 by omega)]
      exact ⟨fun z => h0 (fun y => by have := (y.2 j (by omega)).2 c2; omega), fun z _ => by omega⟩
    · rintro x rfl
      rw [nI_add]
      refine ⟨⟨j + 1, by congr 1; omega, by omega, fun i hi => ?_⟩, by rw [nt_nI (by omega), nt_nI (by omega)]; omega⟩
      rcases (show i < j ∨ i = j by omega) with z | z
      · exact hc i z
      · subst z; exact ⟨A, B⟩
theorem va_tk {e : Nat → Nat} {c i k v : Nat} (h : k < 42) : va_up (rw_tk e c i) k v = rw_tk (va_up e k v) c i := by
  funext x
  by_cases z : x = k
  · subst z; rw [va_e, tk_o (by omega), va_e]
  · rw [va_n _ _ z]
    unfold rw_tk
    rw [va_n _ _ z]
    by_cases z2 : x + 1 = k
    · split
      · rfl
      · split
        · omega
        · rfl
    · rw [va_n _ _ z2]
theorem s_giveShared {p b : hp_H} {a : Nat} {x : Int32} {e : Nat → Nat} {Q : Int32 → hp_H → Prop} (v : VP p) (eq : EQ b p) (he : ∀ k, e k ≤ 9) (hr : rw_B b 48 e) (ha : a < nt (p 0 0))
    (h1 : ¬ x < p 1 a ∧ ¬ p 2 a < x → ∀ b', (∀ k, k ≠ 48 → b' k = b k) → rw_B b' 48 (va_up e a (nt x)) → Q (nI 1) b') (h0 : ¬ (¬ x < p 1 a ∧ ¬ p 2 a < x) → Q (nI 0) b) : q_X8_giveShared b (nI a) x Q := by
  have vs := v.1
  have a6 : a < 6 := by have := vs.1.2; omega
  obtain ⟨e4, e5, -⟩ := eq.1
  have e2 := eq.2.1.2.2.2.2.2.2.1
  unfold q_X8_giveShared q_X10_allows
  rw [e2, pk_mul, nI_add, show 0 * 6 + a = a by omega, nI_clamp (show a < 2 ^ 31 by omega), e4, e5]
  refine ⟨nu_in a6 (by decide), fun c => br00 (h0 (fun z => z.1 c)), fun c => ⟨nu_in a6 (by decide), fun c2 => br00 (h0 (fun z => z.2 c2)), fun c2 => br1 ?_⟩⟩
  obtain ⟨b1, b2, -⟩ := vs.2 a ha
  have bx := dgt b1 b2 c c2
  rw [bx.1]
  exact s_setShared (fun k => by have := he k; omega) hr a6 (by have := bx.2; omega) (fun b' f r => h1 ⟨c, c2⟩ b' f r)
theorem s_giveOwn {p b : hp_H} {r m o : Nat} {x : Int32} {e : Nat → Nat} {Q : Int32 → hp_H → Prop} (v : VP p) (eq : EQ b p) (he : ∀ k, e k ≤ 9) (hr : rw_B b 48 e) (hr3 : r < 3) (hm3 : m < 3) (ho : o < nt (p 5 r))
    (h1 : ¬ x < p 6 (3 * r + o) ∧ ¬ p 7 (3 * r + o) < x → ∀ b', (∀ k, k ≠ 48 → b' k = b k) → rw_B b' 48 (va_up e (7 + 4 * (3 * r + m) + o) (nt x)) → Q (nI 1) b') (h0 : ¬ (¬ x < p 6 (3 * r + o) ∧ ¬ p 7 (3 * r + o) < x) → Q (nI 0) b) : q_X8_giveOwn b (nI r) (nI m) (nI o) x Q := by
  have vr := v.2.1
  have o3 : o < 3 := by have := (vr.2.1 r hr3).2; omega
  obtain ⟨e4, e5, e6, e13, e8, e9, e10, e11, -⟩ := eq.1
  have e7 := eq.2.1.2.2.2.2.2.2.2
  unfold q_X8_giveOwn q_X10_allows
  rw [e7, pk_mul, nI_add, show r * 3 + o = 3 * r + o by omega, nI_clamp (show 3 * r + o < 2 ^ 31 by omega), e9, e10]
  refine ⟨nu_in (by omega) (by decide), fun c => br00 (h0 (fun z => z.1 c)), fun c => ⟨nu_in (by omega) (by decide), fun c2 => br00 (h0 (fun z => z.2 c2)), fun c2 => br1 ?_⟩⟩
  obtain ⟨b1, b2, -⟩ := vr.2.2.2.2 r o hr3 ho
  have bx := dgt b1 b2 c c2
  rw [bx.1]
  exact s_setOwn (fun k => by have := he k; omega) hr hr3 hm3 o3 (by have := bx.2; omega) (fun b' f r => h1 ⟨c, c2⟩ b' f r)
set_option maxHeartbeats 1000000 in
theorem s_doActs {p b : hp_H} {r m s : Nat} {d c : Nat → Nat} {t : Nat → Int32} {Q : Int32 → hp_H → Prop} (v : VP p) (eq : EQ b p) (hd : DG p d) (h46 : rw_B b 46 d) (h48 : rw_B b 48 d) (hs : s < nt (p 0 21)) (hr : nt (p 18 s) = r) (hm : m < nt (p 4 r)) (vs : VS p b t s) (hc : ∀ i, i < nt (p 22 s) → cnA p d s i) (cv : CV p d s c) (h49 : ∀ i, i < 4 → b 49 i = nI (c i))
    (h1 : ∀ e b', dn p d t r m s c (nt (p 22 s)) = some e → (∀ k, k ≠ 48 → b' k = b k) → rw_B b' 48 e → Q (nI 1) b') (h0 : ∀ b', dn p d t r m s c (nt (p 22 s)) = none → (∀ k, k ≠ 48 → b' k = b k) → Q (nI 0) b') : q_X8_doActs b (nI r) (nI m) (nI s) Q := by
  have v' := v
  obtain ⟨vs', vr, vc, vx, vt, v30⟩ := v'
  have s24 : s < 24 := by have := vt.1.2; omega
  have i24 : vp_in (nI s) 24 := nu_in s24 (by decide)
  obtain ⟨v1, v2, v3, v4, v5, v6, v7⟩ := vt.2.2.2 s hs
  have v22 := vt.2.1 s s24
  have n4 := v22.2
  have r3 : r < 3 := by have := v1.2; omega
  have rr : r < nt (p 0 4) := by omega
  have m3 : m < 3 := by have := (vr.2.2.1 r rr).1.2; omega
  obtain ⟨e4, e5, e6, e13, e8, e9, e10, e11, e32, e33, e34, e17, e18, e19, e20, e22, e24, e25, e26, e27, e28, e29, e30, e31⟩ := eq.1
  unfold q_X8_doActs
  refine hp_lp1h_ind (fun x h => ∃ i e, x = nI i ∧ i ≤ nt (p 22 s) ∧ (∀ k, k ≠ 48 → h k = b k) ∧ dn p d t r m s c i = some e ∧ rw_B h 48 e) (fun x h => 4 - nt x) ?_ ⟨0, d, rfl, by omega, fun k _ => rfl, rfl, h48⟩
  rintro x h ⟨i, e, rfl, hi, fr, hdn, hB⟩
  refine ⟨i24, ?_⟩
  have l1 : p 22 s ≤ nI i ↔ nt (p 22 s) ≤ i := by
    conv => lhs; rw [v22.1]
    exact nI_leI (by omega) (by omega)
  rw [nI_clamp (show s < 2 ^ 31 by omega), fr 28 (by decide), e28, l1]
  refine ⟨fun c1 => ?_, fun c1 => ?_⟩
  · rw [show i = nt (p 22 s) by omega] at hdn; exact h1 e h hdn fr hB
  rintro w rfl
  rw [pk_mul, nI_add, nI_clamp (show s * 4 + i < 2 ^ 31 by omega), show s * 4 + i = 4 * s + i by omega, fr 30 (by decide), fr 29 (by decide), fr 31 (by decide), e30, e29, e31, fr 16 (by decide), fr 49 (by decide)]
  have i96 : vp_in (nI (4 * s + i)) 96 := nu_in (by omega) (by decide)
  refine ⟨i96, ?_⟩
  rintro w rfl
  refine ⟨i96, ?_⟩
  rintro w rfl
  have DAe := DA_i v hd hs hr hm hc cv i e hi hdn
  have hw := DA_w v hs (by omega) (hc i (by omega)) DAe
  have nxs := dn_s hdn
  obtain ⟨w1, w2, w3, w4, w5, w6⟩ := v6 i (by omega)
  have kk : ∀ j, j < 4 → (p 23 (4 * s + i) = nI j ↔ nt (p 23 (4 * s + i)) = j) := by
    intro j hj
    exact ⟨fun z => by rw [z]; exact nt_nI (by omega), fun z => by rw [w1.1, z]⟩
  rw [kk 0 (by decide), kk 1 (by decide), kk 2 (by decide)]
  have eqh : EQ h p := EQ.fs (fun k hk => fr k (by omega)) eq
  have w12 := w1.2
  refine ⟨fun y h' => (∀ k, k ≠ 48 → h' k = b k) ∧ ((y = nI 1 ∧ ∃ e', dn p d t r m s c (i + 1) = some e' ∧ rw_B h' 48 e') ∨ (y = nI 0 ∧ dn p d t r m s c (i + 1) = none)), ⟨fun k => ⟨i96, ?_⟩, fun k => ⟨i96, ?_⟩, fun k => ⟨i96, ?_⟩, fun k => ⟨nu_in (by omega) (by decide), ?_⟩⟩, ?_⟩
  · obtain ⟨a1, a2⟩ := w2 k
    obtain ⟨o1, o2⟩ := w5 (by omega)
    refine ⟨isn_in o1 (by decide) (by have := o1.2; omega), ?_⟩
    rw [nt_def, vs.2 i (by omega) (by omega), a1.1]
    unfold ac1 at nxs
    rw [k] at nxs
    refine s_giveShared v eqh DAe.1 hB a2 (fun g b' f rb => ⟨fun k hk => by rw [f k hk, fr k hk], Or.inl ⟨rfl, _, ?_, rb⟩⟩) (fun g => ⟨fr, Or.inr ⟨rfl, ?_⟩⟩)
    · rw [nxs]; exact cif_t g
    · rw [nxs]; exact cif_f g
  · obtain ⟨a1, a2⟩ := w3 k
    obtain ⟨o1, o2⟩ := w5 (by omega)
    refine ⟨isn_in o1 (by decide) (by have := o1.2; omega), ?_⟩
    rw [nt_def, vs.2 i (by omega) (by omega), a1.1]
    unfold ac1 at nxs
    rw [k] at nxs
    refine s_giveOwn v eqh DAe.1 hB r3 m3 (by rw [hr] at a2; exact a2) (fun g b' f rb => ⟨fun k hk => by rw [f k hk, fr k hk], Or.inl ⟨rfl, _, ?_, rb⟩⟩) (fun g => ⟨fr, Or.inr ⟨rfl, ?_⟩⟩)
    · rw [nxs]; exact cif_t g
    · rw [nxs]; exact cif_f g
  · obtain ⟨a1, a2⟩ := w4 (by omega)
    obtain ⟨o1, o2⟩ := w5 (by omega)
    have a12 := a1.2
    refine ⟨isn_in o1 (by decide) (by have := o1.2; omega), ?_⟩
    rw [nt_def, vs.2 i (by omega) (by omega), a1.1]
    unfold ac1 at nxs
    rw [k] at nxs
    unfold q_X8_send
    rw [i_X11_isDigit]
    refine br0 (fun g => ⟨fr, Or.inr ⟨rfl, ?_⟩⟩) (fun g => ?_)
    · rw [nxs]; exact cif_f g
    · obtain ⟨u, u1, u2⟩ := nu_dg g
      rw [u2]
      refine s_put (fun k => by have := DAe.1 k; omega) DAe.2.1 hB (by omega) (hw.1 k) (by omega) (fun b' f rb => ⟨fun k hk => by rw [f k hk, fr k hk], Or.inl ⟨rfl, _, ?_, rb⟩⟩)
      rw [nxs]
      have : nt (t (nt (p 25 (4 * s + i)))) = u := by rw [u2]; exact nt_nI (by omega)
      rw [← this]
      exact cif_t g
  · have k3 : nt (p 23 (4 * s + i)) = 3 := by omega
    obtain ⟨a1, a2⟩ := w4 (by omega)
    obtain ⟨o1, o2⟩ := w6 k3
    have a12 := a1.2
    have o12 := o1.2
    have ci := (cv i).1
    have d9 := hd.1 (43 + 4 * nt (p 24 (4 * s + i)) + c i)
    unfold ac1 at nxs
    rw [k3] at nxs
    rw [nI_clamp (show i < 2 ^ 31 by omega), h49 i (by omega), a1.1]
    refine s_take (fun k => by have := DAe.1 k; omega) hB (by omega) (hw.2 k3).2 ci (fun b' f rb => ⟨i96, nu_in (by omega) (by decide), ?_⟩)
    rw [f 49 (by decide), fr 49 (by decide), h49 i (by omega), f 31 (by decide), fr 31 (by decide), e31]
    refine s_letterAt hd.D (fun j hj => by rw [f 46 (by decide), fr 46 (by decide)]; exact h46 j hj) (by omega) ci ?_
    rw [o1.1]
    refine s_giveOwn v (EQ.fs (fun k hk => f k (by omega)) eqh) (tk_9 DAe.1) rb r3 m3 (by rw [hr] at o2; exact o2) (fun g b2 f2 rb2 => ⟨fun k hk => by rw [f2 k hk, f k hk, fr k hk], Or.inl ⟨rfl, _, ?_, rb2⟩⟩) (fun g => ⟨fun k hk => by rw [f k hk, fr k hk], Or.inr ⟨rfl, ?_⟩⟩)
    · rw [nxs, nt_nI (by omega), va_tk (by omega)]; exact cif_t g
    · rw [nxs]; exact cif_f g
  · rintro y h' ⟨f', (⟨rfl, e', q1, q2⟩ | ⟨rfl, q1⟩)⟩
    · refine ⟨fun z => absurd z (by decide), fun _ => ?_⟩
      rintro w rfl
      rw [nI_add]
      exact ⟨⟨i + 1, e', rfl, by omega, f', q1, q2⟩, by rw [nt_nI (by omega), nt_nI (by omega)]; omega⟩
    · exact ⟨fun _ => h0 h' (dn_n q1 _ (by omega)) f', fun z => absurd rfl z⟩
