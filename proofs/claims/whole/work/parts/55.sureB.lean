/-! ===== the class's classes ===== -/
theorem mvT_l {g : hp_H} {c : Nat → Nat} {s x : Nat} : (∃ u, mvT g s u ∧ c u = x) ↔ lds g c s (nt (g 31 (s + 1))) x := by
  constructor
  · rintro ⟨u, ⟨i, i1, i2, i3⟩, e⟩
    exact ⟨i, i1, i2, by rw [i3]; exact e⟩
  · rintro ⟨i, i1, i2, i3⟩
    exact ⟨_, ⟨i, i1, i2, rfl⟩, i3⟩
theorem lds_lt {p g : hp_H} {c : Nat → Nat} {n s x : Nat} (f : FS p g (gN g)) (hs : s < gN g) (hc : ∀ s, s < gN g → c s < n) (h : lds g c s (nt (g 31 (s + 1))) x) : x < n := by
  obtain ⟨l1, l2, l3, l4, l5⟩ := f.r hs
  obtain ⟨i, i1, i2, i3⟩ := h
  rw [← i3]
  exact hc _ (f.1.2.2.2.2 i (by omega)).2.1
def FRd (b h : hp_H) : Prop := (∀ k, k ≠ 16 → k ≠ 21 → k ≠ 52 → k ≠ 64 → k ≠ 65 → (k < 67 ∨ 71 < k) → k ≠ hp_V → h k = b k) ∧ h 64 0 = b 64 0
/-- so many parts, so numbered -/
def DSt (p : hp_H) (c : Nat → Nat) (n : Nat) (h : hp_H) : Prop := DV0 h ∧ h 64 1 = nI n ∧ n ≤ 400 ∧ (∀ s, s < gN (srch p) → c s < n) ∧ ∀ s, s < gN (srch p) → h (65 + nt (h hp_V 0)) s = nI (c s)
theorem dv_p {b : hp_H} {P P' : Nat} (pw : PW P P') (h0 : b hp_V 0 = nI (P - 65)) (h1 : b hp_V 1 = nI (P' - 65)) : DV0 b ∧ 65 + nt (b hp_V 0) = P := by
  rcases pw with ⟨a, c⟩ | ⟨a, c⟩
  · subst a; subst c
    exact ⟨Or.inl ⟨h0, h1⟩, by rw [h0]; decide⟩
  · subst a; subst c
    exact ⟨Or.inr ⟨h0, h1⟩, by rw [h0]; decide⟩
set_option maxHeartbeats 1000000 in
theorem s_makeSure {p b m : hp_H} {q : Nat} {Q : hp_H → Prop} (t : T0 b m) (sr : SRu p q b m) (hQ : ∀ b', FRd b b' → DV0 b' → b' 64 11 = nI 1 → DVm p b' m → Q b') : q_X0_makeSure b Q := by
  have bm := sr.bm t
  have pv := sr.1.2.1
  have dv := sr.1.2.2.2.2.2.2.2.2
  obtain ⟨n4, -⟩ := sr.n
  have o8 := t.2.2.2.1.1.2
  have fs := bm.2.1
  have N1 : 1 ≤ gN (srch p) := sr.1.2.2.2.1.1.2.1
  have eo : b 64 0 = nI (nt (m 0 31)) := by rw [t.2.2.1.2]; exact t.2.2.2.1.1.1
  unfold q_X0_makeSure
  refine ⟨fun c11 => ?_, fun c11 => ?_⟩
  case refine_2 =>
    rcases dv with z | ⟨z1, z2, z3⟩
    · exact absurd z c11
    · exact hQ b ⟨fun k _ _ _ _ _ _ _ => rfl, rfl⟩ t.2.2.2.2 z1 z3
  clear dv
  obtain ⟨P, P', pw, eP, eP', eV0, eV1⟩ := dv_w t.2.2.2.2
  obtain ⟨o1, o2, o3⟩ := pw.o
  have PV1 : P ≠ hp_V ∧ P' ≠ hp_V := ⟨by rcases o1 with z | z <;> rw [z] <;> decide, by rcases o2 with z | z <;> rw [z] <;> decide⟩
  rintro w2 rfl
  rw [eP]
  refine ⟨o1, s_fill (by decide) (fun h3 f3 z3 => ?_)⟩
  intro h4 e4
  have x4 : ∀ k, k ≠ 64 → k ≠ P → h4 k = b k := fun k k1 k2 => by rw [e4, hp_at, if_neg k1]; exact f3 k k2
  have x64 : ∀ j, j ≠ 1 → h4 64 j = b 64 j := fun j hj => by rw [e4, hp_at, if_pos rfl, f3 64 (by omega)]; simp [upd, hj]
  have xV : h4 hp_V = b hp_V := x4 hp_V (by decide) (Ne.symm PV1.1)
  have xP : ∀ s, s < 400 → h4 P s = nI 0 := fun s hs => by rw [e4, hp_at, if_neg (by omega)]; exact z3 s hs
  have bm4 : BM p h4 := bm.fr (fun k h1 _ _ => x4 k (by omega) (by omega))
  have t4 : T0 h4 m := by
    refine t.cg ⟨fun k hk => ?_, ?_, ?_, ?_, ?_, ?_, ?_, ?_, ?_, x64 0 (by decide), ?_⟩ PM.rf (by rw [xV]) (by rw [xV])
    · unfold PBc at hk; exact x4 k (by omega) (by omega)
    all_goals rw [x4 _ (by decide) (by omega)]
  refine s_keyByObserved bm4 t4 pv (fun h5 f5 k5 => ?_)
  have y64 : h5 64 0 = nI (nt (m 0 31)) := by rw [f5 64 (by decide) (by decide) (by decide) (by decide), x64 0 (by decide)]; exact eo
  have yV : h5 hp_V = b hp_V := by rw [f5 hp_V (by decide) (by decide) (by decide) (by decide)]; exact xV
  rw [y64]
  have sph : SPH p (E0 p (srch p) m) (fun _ => 0) (nt (m 0 31)) P P' h5 := by
    refine ⟨E0_q, by omega, n4, ?_, pw, by rw [yV]; exact eP, by rw [yV]; exact eP', fun s hs => ⟨?_, Nat.zero_lt_succ 399⟩, fun s u hs hu => ?_⟩
    · rw [f5 35 (by decide) (by decide) (by decide) (by decide)]; exact bm4.1.2.2.2.1
    · rw [f5 P (by omega) (by omega) (by omega) (by omega)]; exact xP s (by omega)
    · refine ⟨fun e => ⟨rfl, fun i hi => ?_⟩, fun e i hi => ?_⟩
      · rw [k5 s hs i hi, k5 u hu i hi]; exact (e i hi).symm
      · have := e.2 i hi
        rw [k5 s hs i hi, k5 u hu i hi] at this
        exact this.symm
  refine s_split sph (fun h6 f6 g6 v0 v1 c6 d6 => ?_)
  generalize hF : DIVf p (srch p) m = FIN
  unfold DIVf at hF
  obtain ⟨dv6, dp6⟩ := dv_p (by rcases pw with ⟨a, c⟩ | ⟨a, c⟩; exact Or.inr ⟨c, a⟩; exact Or.inl ⟨c, a⟩) v0 v1
  have nE := cN_le (E := E0 p (srch p) m) (gN (srch p))
  have n1 : 1 ≤ cN (E0 p (srch p) m) (gN (srch p)) := cN_p (by omega)
  have st6 : DSt p (cC (E0 p (srch p) m)) (cN (E0 p (srch p) m) (gN (srch p))) h6 := ⟨dv6, c6, by omega, fun s hs => cC_lt E0_q hs, fun s hs => by rw [dp6]; exact d6 s hs⟩
  have fr6 : FRd b h6 := by
    refine ⟨fun k k1 k2 k3 k4 k5 k6 k7 => ?_, ?_⟩
    · rw [f6 k k4 k5 (by omega) k7, f5 k k1 k2 k3 (by omega), x4 k k4 (by omega)]
    · rw [g6 0 (by decide), f5 64 (by decide) (by decide) (by decide) (by decide), x64 0 (by decide)]
  clear d6 c6 v1 v0 g6 f6 sph yV y64 k5 f5 t4 bm4 xP xV x64 x4 e4 z3 f3 dv6 dp6
  clear h3 h4 h5
  refine hp_lp2h_ind (fun x y h => ∃ r c n, y = nI r ∧ r ≤ 400 ∧ FRd b h ∧ DSt p c n h ∧ ((x = nI 1 ∧ r + 1 ≤ n ∧ ∃ f, 402 ≤ n + f ∧ dvl (srch p) f c n = FIN) ∨ (x = nI 0 ∧ (c, n) = FIN))) (fun x y h => 401 - nt y) ?_ ⟨0, _, _, rfl, by omega, fr6, st6, Or.inl ⟨rfl, by omega, 401, by omega, hF⟩⟩
  rintro x y h ⟨r, c, n, rfl, hr, fr, st, hx⟩
  have fin : (c, n) = FIN → ∀ h12 : hp_H, h12 = hp_up h 64 11 (nI 1) → Q h12 := by
    intro e h12 e12
    have o : ∀ k, k ≠ 64 → h12 k = h k := by intro k hk; rw [e12, hp_at, if_neg hk]
    have o64 : ∀ j, j ≠ 11 → h12 64 j = h 64 j := by intro j hj; rw [e12]; simp [hp_at, upd, hj]
    obtain ⟨s1, s2, s3, s4, s5⟩ := st
    refine hQ h12 ⟨fun k k1 k2 k3 k4 k5 k6 k7 => by rw [o k k4]; exact fr.1 k k1 k2 k3 k4 k5 k6 k7, by rw [o64 0 (by decide)]; exact fr.2⟩ (by unfold DV0; rw [o hp_V (by decide)]; exact s1) (by rw [e12]; simp [hp_at, upd]) ?_
    have e' : DIVf p (srch p) m = (c, n) := by rw [e, ← hF]; rfl
    unfold DVm
    rw [e', o64 1 (by decide), o hp_V (by decide)]
    refine ⟨s2, fun s hs => ?_⟩
    have w64 : 65 + nt (h hp_V 0) ≠ 64 := by omega
    rw [o _ w64]; exact s5 s hs
  rw [nI_ltI (by decide) (by omega)]
  refine ⟨fun c4 => by omega, fun _ => ⟨fun z => ?_, fun z => ?_⟩⟩
  · rcases hx with ⟨q1, _⟩ | ⟨_, q2⟩
    · rw [q1] at z; exact absurd z (by decide)
    · exact fin q2
  rcases hx with ⟨q1, q2, f, q3, q4⟩ | ⟨q1, _⟩
  case inr => exact absurd q1 z
  obtain ⟨s1, s2, s3, s4, s5⟩ := st
  obtain ⟨P, P', pw, eP, eP', eV0, eV1⟩ := dv_w s1
  obtain ⟨o1, o2, o3⟩ := pw.o
  have eN : 65 + nt (h hp_V 0) = P := eP
  obtain ⟨f, rfl⟩ : ∃ f', f = f' + 1 := ⟨f - 1, by omega⟩
  rw [dvl_s] at q4
  rw [s2]
  rintro v15 rfl v16 rfl
  have ek : (nI n + nI 32 - nI 1) / nI 32 = nI ((n + 31) / 32) := by rw [nI_add, pk_sub (by omega), nu_div (by omega) (by decide) (by decide)]; rfl
  rw [ek]
  have bmh : BM p h := bm.fr (fun k h1 h2 h3 => fr.1 k h2 h3 (by omega) (by omega) (by omega) (by omega) (by rw [hV]; omega))
  have hk13 : (n + 31) / 32 ≤ 13 := by omega
  refine s_keyByMoves (c := c) (n := n) bmh pw eP (fun s hs => ⟨by have := s5 s hs; rw [eN] at this; exact this, s4 s hs⟩) (by omega) hk13 (fun h17 f17 k17 => ?_)
  have sph : SPH p (E1 (srch p) c) c ((n + 31) / 32) P P' h17 := by
    refine ⟨E1_q, hk13, n4, ?_, pw, by rw [f17 hp_V (by decide)]; exact eP, by rw [f17 hp_V (by decide)]; exact eP', fun s hs => ⟨?_, by have := s4 s hs; omega⟩, fun s u hs hu => ?_⟩
    · rw [f17 35 (by decide)]; exact bmh.1.2.2.2.1
    · rw [f17 P (by omega)]; have := s5 s hs; rw [eN] at this; exact this
    · unfold E1
      simp only [mvT_l]
      refine ⟨fun e => ⟨e.1, fun i hi => bt_x (fun j hj => ?_)⟩, fun e => ⟨e.1, fun x => ?_⟩⟩
      · rw [k17 s hs i j hi hj, k17 u hu i j hi hj]; exact (e.2 _).symm
      · by_cases xn : x < n
        · have w1 := k17 s hs (x / 32) (x % 32) (by omega) (by omega)
          have w2 := k17 u hu (x / 32) (x % 32) (by omega) (by omega)
          rw [show 32 * (x / 32) + x % 32 = x by omega] at w1 w2
          rw [← w1, ← w2, e.2 (x / 32) (by omega)]
        · exact ⟨fun z => absurd (lds_lt fs hu s4 z) xn, fun z => absurd (lds_lt fs hs s4 z) xn⟩
  refine s_split sph (fun h18 f18 g18 v0 v1 c18 d18 => ?_)
  obtain ⟨dv18, dp18⟩ := dv_p (by rcases pw with ⟨a, c⟩ | ⟨a, c⟩; exact Or.inr ⟨c, a⟩; exact Or.inl ⟨c, a⟩) v0 v1
  have nE := cN_le (E := E1 (srch p) c) (gN (srch p))
  have st18 : DSt p (cC (E1 (srch p) c)) (cN (E1 (srch p) c) (gN (srch p))) h18 := ⟨dv18, c18, by omega, fun s hs => cC_lt E1_q hs, fun s hs => by rw [dp18]; exact d18 s hs⟩
  have fr18 : FRd b h18 := by
    refine ⟨fun k k1 k2 k3 k4 k5 k6 k7 => ?_, ?_⟩
    · rw [f18 k k4 k5 (by omega) k7, f17 k (by omega)]; exact fr.1 k k1 k2 k3 k4 k5 k6 k7
    · rw [g18 0 (by decide), f17 64 (by decide)]; exact fr.2
  rw [c18, nI_leI (by omega) (by omega)]
  refine ⟨fun v => (v = nI 0 ∧ cN (E1 (srch p) c) (gN (srch p)) ≤ n) ∨ (v = nI 1 ∧ ¬ cN (E1 (srch p) c) (gN (srch p)) ≤ n), ⟨fun w => Or.inl ⟨rfl, w⟩, fun w => Or.inr ⟨rfl, w⟩⟩, ?_⟩
  rintro v hv w rfl
  rw [nI_add]
  refine ⟨⟨r + 1, _, _, rfl, by omega, fr18, st18, ?_⟩, by rw [nt_nI (by omega), nt_nI (by omega)]; omega⟩
  rcases hv with ⟨rfl, w⟩ | ⟨rfl, w⟩
  · right
    rw [cif_f (by omega)] at q4
    exact ⟨rfl, q4⟩
  · left
    rw [cif_t (by omega)] at q4
    exact ⟨rfl, by omega, f, by omega, q4⟩
