/-! ===== the class divides ===== -/
def PW (P P' : Nat) : Prop := (P = 65 ∧ P' = 68) ∨ (P = 68 ∧ P' = 65)
theorem dv_w {b : hp_H} (d : DV0 b) : ∃ P P', PW P P' ∧ 65 + (b hp_V 0).toNatClampNeg = P ∧ 65 + (b hp_V 1).toNatClampNeg = P' ∧ b hp_V 0 = nI (P - 65) ∧ b hp_V 1 = nI (P' - 65) := by
  rcases d with ⟨h0, h1⟩ | ⟨h0, h1⟩
  · exact ⟨65, 68, Or.inl ⟨rfl, rfl⟩, by rw [h0]; decide, by rw [h1]; decide, h0, h1⟩
  · exact ⟨68, 65, Or.inr ⟨rfl, rfl⟩, by rw [h0]; decide, by rw [h1]; decide, h0, h1⟩
theorem PW.o {P P' : Nat} (h : PW P P') : (P = 65 ∨ P = 68) ∧ (P' = 65 ∨ P' = 68) ∧ P ≠ P' := by
  rcases h with ⟨a, b⟩ | ⟨a, b⟩
  · exact ⟨Or.inl a, Or.inr b, by omega⟩
  · exact ⟨Or.inr a, Or.inl b, by omega⟩
theorem s_haveSameKeys {b : hp_H} {s t kw : Nat} {Q : Int32 → Prop} (hs : s < 400) (ht : t < 400) (hk : kw ≤ 13) (h1 : (∀ i, i < kw → b 67 (13 * s + i) = b 67 (13 * t + i)) → Q (nI 1)) (h0 : (¬ ∀ i, i < kw → b 67 (13 * s + i) = b 67 (13 * t + i)) → Q (nI 0)) : q_X0_haveSameKeys b (nI s) (nI t) (nI kw) Q := by
  unfold q_X0_haveSameKeys
  refine hp_lp1_ind (fun x => ∃ j, x = nI j ∧ j ≤ kw ∧ ∀ i, i < j → b 67 (13 * s + i) = b 67 (13 * t + i)) (fun x => 13 - nt x) ?_ ⟨0, rfl, by omega, fun i hi => by omega⟩
  rintro x ⟨j, rfl, hj, hq⟩
  rw [nI_leI (by omega) (by omega), pk_mul, pk_mul, nI_add, nI_add, show s * 13 + j = 13 * s + j by omega, show t * 13 + j = 13 * t + j by omega, nI_clamp (show 13 * s + j < 2 ^ 31 by omega), nI_clamp (show 13 * t + j < 2 ^ 31 by omega)]
  refine ⟨fun c => h1 (fun i hi => hq i (by omega)), fun c => ⟨nu_in (by omega) (by decide), nu_in (by omega) (by decide), fun z => ?_, fun z => h0 (fun y => z (y j (by omega)))⟩⟩
  rintro w rfl
  rw [nI_add]
  refine ⟨⟨j + 1, rfl, by omega, fun i hi => ?_⟩, by rw [nt_nI (by omega), nt_nI (by omega)]; omega⟩
  rcases (show i < j ∨ i = j by omega) with y | y
  · exact hq i y
  · subst y; exact z
/-- new parts so far -/
def SPI (E : Nat → Nat → Prop) (c : Nat → Nat) (P' s : Nat) (b h : hp_H) : Prop := (∀ k, k ≠ 64 → k ≠ P' → k ≠ 69 → k ≠ 70 → k ≠ 71 → h k = b k) ∧ (∀ j, j ≠ 1 → h 64 j = b 64 j) ∧ h 64 1 = nI (cN E s) ∧ (∀ t, t < s → h P' t = nI (cC E t)) ∧ (∀ t, t < s → isL E t → h 71 (cN E t) = nI t) ∧
  (∀ x, x < 400 → (h 69 x = -1 ∧ ∀ t, t < s → isL E t → c t ≠ x) ∨ ∃ t, t < s ∧ isL E t ∧ c t = x ∧ h 69 x = nI (cN E t) ∧ ∀ u, t < u → u < s → isL E u → c u ≠ x) ∧
  ∀ t, t < s → isL E t → (h 70 (cN E t) = -1 ∧ ∀ u, u < t → isL E u → c u ≠ c t) ∨ ∃ u, u < t ∧ isL E u ∧ c u = c t ∧ h 70 (cN E t) = nI (cN E u) ∧ ∀ w, u < w → w < t → isL E w → c w ≠ c t
/-- what a split starts from -/
def SPH (p : hp_H) (E : Nat → Nat → Prop) (c : Nat → Nat) (kw P P' : Nat) (b : hp_H) : Prop := EQV E ∧ kw ≤ 13 ∧ gN (srch p) ≤ 400 ∧ b 35 2 = nI (gN (srch p)) ∧ PW P P' ∧ 65 + (b hp_V 0).toNatClampNeg = P ∧ 65 + (b hp_V 1).toNatClampNeg = P' ∧ (∀ s, s < gN (srch p) → b P s = nI (c s) ∧ c s < 400) ∧ ∀ s t, s < gN (srch p) → t < gN (srch p) → (E t s ↔ c t = c s ∧ ∀ i, i < kw → b 67 (13 * s + i) = b 67 (13 * t + i))
theorem s_newPartLike {p b h : hp_H} {E : Nat → Nat → Prop} {c : Nat → Nat} {kw P P' s : Nat} {Q : Int32 → Prop} (a : SPH p E c kw P P' b) (i : SPI E c P' s b h) (hs : s < gN (srch p)) (h1 : isL E s → Q (-1)) (h0 : ¬ isL E s → Q (nI (cC E s))) : q_X0_newPartLike h (nI s) (nI kw) Q := by
  obtain ⟨eqv, k13, n4, e35, pw, eP, eP', hc, hE⟩ := a
  obtain ⟨fr, f64, f1, fP, f71, f69, f70⟩ := i
  obtain ⟨o1, o2, o3⟩ := pw.o
  have eV : h hp_V = b hp_V := fr hp_V (by decide) (by rcases o2 with z | z <;> rw [z] <;> decide) (by decide) (by decide) (by decide)
  have hP : h P = b P := fr P (by omega) o3 (by omega) (by omega) (by omega)
  have h67 : h 67 = b 67 := fr 67 (by decide) (by omega) (by decide) (by decide) (by decide)
  have hcs := hc s hs
  -- whoever is alike has a leader that is
  have lead : ∀ t, t < s → E t s → ∃ u, u < s ∧ isL E u ∧ c u = c s ∧ E u s := by
    intro t ht et
    have q := cL_s eqv t
    have e : E (cL E t) s := eqv.2.2 _ _ _ q.2.1 et
    exact ⟨cL E t, by have := q.1; omega, cL_l eqv t, ((hE s (cL E t) hs (by have := q.1; omega)).mp e).1, e⟩
  unfold q_X0_newPartLike
  rintro w rfl
  rw [eV, eP]
  refine ⟨o1, nu_in (by omega) (by decide), ?_⟩
  rw [nI_clamp (show s < 2 ^ 31 by omega), hP, hcs.1, nI_clamp (show c s < 2 ^ 31 by omega)]
  refine ⟨nu_in hcs.2 (by decide), ?_⟩
  rintro v2 rfl
  refine hp_lp2_ind (fun x y => ∃ j, y = nI j ∧ j ≤ 400 ∧ ((x = -1 ∧ ∀ t, t < s → isL E t → c t = c s → ¬ E t s) ∨ ∃ t, t < s ∧ isL E t ∧ c t = c s ∧ x = nI (cN E t) ∧ (∀ u, t < u → u < s → isL E u → c u = c s → ¬ E u s) ∧ j + cN E t < 400)) (fun x y => 400 - nt y) ?_ ⟨0, rfl, by omega, ?_⟩
  case refine_2 =>
    rcases f69 (c s) hcs.2 with ⟨z1, z2⟩ | ⟨t, t1, t2, t3, t4, t5⟩
    · exact Or.inl ⟨z1, fun t ht hl e => absurd e (z2 t ht hl)⟩
    · exact Or.inr ⟨t, t1, t2, t3, t4, fun u q1 q2 q3 q4 => absurd q4 (t5 u q1 q2 q3), by have := cN_le (E := E) t; omega⟩
  rintro x y ⟨j, rfl, hj, hx⟩
  rw [nI_leI (by decide) (by omega)]
  have none : (∀ t, t < s → isL E t → c t = c s → ¬ E t s) → Q (-1) := fun q => h1 (fun ⟨t, t1, t2⟩ => by
    obtain ⟨u, u1, u2, u3, u4⟩ := lead t t1 t2
    exact q u u1 u2 u3 u4)
  refine ⟨fun c4 => ?_, fun c4 => ⟨fun z => ?_, fun z => ?_⟩⟩
  · rcases hx with ⟨z1, z2⟩ | ⟨t, t1, t2, t3, t4, t5, t6⟩
    · exact none z2
    · omega
  · rcases hx with ⟨z1, z2⟩ | ⟨t, t1, t2, t3, t4, t5, t6⟩
    · exact none z2
    · rw [t4] at z; exact absurd z (fun y => (nu_m1 (by omega)).mp y)
  · rcases hx with ⟨z1, z2⟩ | ⟨t, t1, t2, t3, t4, t5, t6⟩
    · exact absurd z1 z
    subst t4
    rw [nI_clamp (show cN E t < 2 ^ 31 by omega), f71 t t1 t2]
    have i4 : vp_in (nI (cN E t)) 400 := nu_in (by omega) (by decide)
    refine ⟨i4, s_haveSameKeys (by omega) (by omega) k13 (fun q => br1 ?_) (fun q => br00 ⟨i4, ?_⟩)⟩
    · rw [h67] at q
      have e : E t s := (hE s t hs (by omega)).mpr ⟨t3, q⟩
      have := h0 (fun l => l ⟨t, t1, e⟩)
      rw [cC_e eqv e, cC_l eqv t2] at this
      exact this
    · rw [h67] at q
      have ne : ¬ E t s := fun e => q ((hE s t hs (by omega)).mp e).2
      have up : ∀ u, t ≤ u → u < s → isL E u → c u = c s → ¬ E u s := by
        intro u q1 q2 q3 q4
        rcases (show t = u ∨ t < u by omega) with y | y
        · rw [← y]; exact ne
        · exact t5 u y q2 q3 q4
      rintro v10 rfl v11 rfl
      rw [nI_add]
      refine ⟨⟨j + 1, rfl, by omega, ?_⟩, by rw [nt_nI (by omega), nt_nI (by omega)]; omega⟩
      rcases f70 t t1 t2 with ⟨z1, z2⟩ | ⟨u, u1, u2, u3, u4, u5⟩
      · refine Or.inl ⟨z1, fun u q1 q2 q3 => ?_⟩
        rcases (show u < t ∨ t ≤ u by omega) with y | y
        · exact absurd (q3.trans t3.symm) (z2 u y q2)
        · exact up u y q1 q2 q3
      · have := lt_l u2 u1
        refine Or.inr ⟨u, by omega, u2, u3.trans t3, u4, fun w q1 q2 q3 q4 => ?_, by omega⟩
        rcases (show w < t ∨ t ≤ w by omega) with y | y
        · exact absurd (q4.trans t3.symm) (u5 w q1 y q3)
        · exact up w y q2 q3 q4
theorem s_openPart {p b h : hp_H} {E : Nat → Nat → Prop} {c : Nat → Nat} {kw P P' s : Nat} {Q : Int32 → hp_H → Prop} (a : SPH p E c kw P P' b) (i : SPI E c P' s b h) (hs : s < gN (srch p)) (l : isL E s) (hQ : ∀ h', (∀ h'', h'' = hp_up h' P' s (nI (cC E s)) → SPI E c P' (s + 1) b h'') → Q (nI (cC E s)) h') : q_X0_openPart h (nI s) Q := by
  obtain ⟨eqv, k13, n4, e35, pw, eP, eP', hc, hE⟩ := a
  obtain ⟨fr, f64, f1, fP, f71, f69, f70⟩ := i
  obtain ⟨o1, o2, o3⟩ := pw.o
  have V64 : hp_V ≠ 64 ∧ hp_V ≠ 69 ∧ hp_V ≠ 70 ∧ hp_V ≠ 71 := by decide
  have eV : h hp_V = b hp_V := fr hp_V (by decide) (by rcases o2 with z | z <;> rw [z] <;> decide) (by decide) (by decide) (by decide)
  have hP : h P = b P := fr P (by omega) o3 (by omega) (by omega) (by omega)
  have hcs := hc s hs
  have ns := cN_le (E := E) s
  have i4 : vp_in (nI s) 400 := nu_in (by omega) (by decide)
  have in4 : vp_in (nI (cN E s)) 400 := nu_in (by omega) (by decide)
  have P64 : P ≠ 64 ∧ P ≠ 69 ∧ P ≠ 70 ∧ P ≠ 71 := by omega
  have q64 : P' ≠ 64 ∧ P' ≠ 69 ∧ P' ≠ 70 ∧ P' ≠ 71 := by omega
  rw [cC_l eqv l] at hQ
  unfold q_X0_openPart
  rintro v1 rfl h2 rfl
  rw [f1, nI_add, nI_clamp (show cN E s < 2 ^ 31 by omega), nI_clamp (show s < 2 ^ 31 by omega)]
  refine ⟨in4, ?_⟩
  rintro h3 rfl w4 rfl
  have eV3 : hp_up (hp_up h 64 1 (nI (cN E s + 1))) 71 (cN E s) (nI s) hp_V = b hp_V := by simp [hp_at, V64, eV]
  have eP3 : hp_up (hp_up h 64 1 (nI (cN E s + 1))) 71 (cN E s) (nI s) P s = nI (c s) := by simp [hp_at, P64, hP, hcs.1]
  have e69 : hp_up (hp_up h 64 1 (nI (cN E s + 1))) 71 (cN E s) (nI s) 69 = h 69 := by simp [hp_at]
  rw [eV3, eP, eP3, nI_clamp (show c s < 2 ^ 31 by omega), e69]
  refine ⟨o1, i4, nu_in hcs.2 (by decide), in4, ?_⟩
  rintro h5 rfl w6 rfl
  have eV5 : hp_up (hp_up (hp_up h 64 1 (nI (cN E s + 1))) 71 (cN E s) (nI s)) 70 (cN E s) (h 69 (c s)) hp_V = b hp_V := by simp [hp_at, V64, eV]
  have eP5 : hp_up (hp_up (hp_up h 64 1 (nI (cN E s + 1))) 71 (cN E s) (nI s)) 70 (cN E s) (h 69 (c s)) P s = nI (c s) := by simp [hp_at, P64, hP, hcs.1]
  rw [eV5, eP, eP5, nI_clamp (show c s < 2 ^ 31 by omega)]
  refine ⟨o1, i4, nu_in hcs.2 (by decide), ?_⟩
  intro h7 e7
  refine hQ h7 (fun h8 e8 => ?_)
  have x64 : ∀ j, h8 64 j = if j = 1 then nI (cN E s + 1) else h 64 j := by intro j; rw [e8, e7]; simp [hp_at, upd, Ne.symm q64.1]
  have x71 : ∀ j, h8 71 j = if j = cN E s then nI s else h 71 j := by intro j; rw [e8, e7]; simp [hp_at, upd, Ne.symm q64.2.2.2]
  have x70 : ∀ j, h8 70 j = if j = cN E s then h 69 (c s) else h 70 j := by intro j; rw [e8, e7]; simp [hp_at, upd, Ne.symm q64.2.2.1]
  have x69 : ∀ j, h8 69 j = if j = c s then nI (cN E s) else h 69 j := by intro j; rw [e8, e7]; simp [hp_at, upd, Ne.symm q64.2.1]
  have xP : ∀ j, h8 P' j = if j = s then nI (cN E s) else h P' j := by intro j; rw [e8, e7]; simp [hp_at, upd, q64]
  refine ⟨fun k k1 k2 k3 k4 k5 => ?_, fun j hj => ?_, ?_, fun t ht => ?_, fun t ht hl => ?_, fun x hx => ?_, fun t ht hl => ?_⟩
  · rw [e8, e7]; simp [hp_at, k1, k2, k3, k4, k5]; exact fr k k1 k2 k3 k4 k5
  · rw [x64, if_neg hj]; exact f64 j hj
  · rw [x64, if_pos rfl, cN_l l]
  · rw [xP]
    rcases (show t < s ∨ t = s by omega) with y | y
    · rw [if_neg (by omega)]; exact fP t y
    · rw [if_pos y, y, cC_l eqv l]
  · rw [x71]
    rcases (show t < s ∨ t = s by omega) with y | y
    · have := lt_l hl y
      rw [if_neg (by omega)]; exact f71 t y hl
    · rw [if_pos (by rw [y]), y]
  · rw [x69]
    by_cases z : x = c s
    · rw [if_pos z]
      exact Or.inr ⟨s, by omega, l, z.symm, rfl, fun u q1 q2 => by omega⟩
    · rw [if_neg z]
      rcases f69 x hx with ⟨z1, z2⟩ | ⟨t, t1, t2, t3, t4, t5⟩
      · refine Or.inl ⟨z1, fun t ht hl => ?_⟩
        rcases (show t < s ∨ t = s by omega) with y | y
        · exact z2 t y hl
        · rw [y]; exact fun q => z q.symm
      · refine Or.inr ⟨t, by omega, t2, t3, t4, fun u q1 q2 q3 => ?_⟩
        rcases (show u < s ∨ u = s by omega) with y | y
        · exact t5 u q1 y q3
        · rw [y]; exact fun q => z q.symm
  · rw [x70]
    rcases (show t < s ∨ t = s by omega) with y | y
    · have := lt_l hl y
      rw [if_neg (by omega)]; exact f70 t y hl
    · subst y
      rw [if_pos rfl]
      rcases f69 (c t) hcs.2 with ⟨z1, z2⟩ | ⟨u, t1, t2, t3, t4, t5⟩
      · exact Or.inl ⟨z1, fun u q1 q2 => z2 u q1 q2⟩
      · exact Or.inr ⟨u, t1, t2, t3, t4, fun w q1 q2 q3 => t5 w q1 q2 q3⟩
theorem s_split {p b : hp_H} {E : Nat → Nat → Prop} {c : Nat → Nat} {kw P P' : Nat} {Q : hp_H → Prop} (a : SPH p E c kw P P' b)
    (hQ : ∀ b', (∀ k, k ≠ 64 → k ≠ 65 → (k < 68 ∨ 71 < k) → k ≠ hp_V → b' k = b k) → (∀ j, j ≠ 1 → b' 64 j = b 64 j) → b' hp_V 0 = nI (P' - 65) → b' hp_V 1 = nI (P - 65) → b' 64 1 = nI (cN E (gN (srch p))) → (∀ s, s < gN (srch p) → b' P' s = nI (cC E s)) → Q b') : q_X0_split b (nI kw) Q := by
  have a' := a
  obtain ⟨eqv, k13, n4, e35, pw, eP, eP', hc, hE⟩ := a'
  obtain ⟨o1, o2, o3⟩ := pw.o
  have V64 : hp_V ≠ 64 ∧ hp_V ≠ 69 ∧ hp_V ≠ 70 ∧ hp_V ≠ 71 ∧ hp_V ≠ 65 ∧ hp_V ≠ 68 := by decide
  have q64 : P' ≠ 64 ∧ P' ≠ 69 ∧ P' ≠ 70 ∧ P' ≠ 71 := by omega
  unfold q_X0_split
  refine s_fill (by decide) (fun h1 f1 z1 => ?_)
  intro h2 e2
  have i0 : SPI E c P' 0 b h2 := by
    refine ⟨fun k k1 _ k3 _ _ => ?_, fun j hj => ?_, ?_, fun t ht => by omega, fun t ht => by omega, fun x hx => Or.inl ⟨?_, fun t ht => by omega⟩, fun t ht => by omega⟩
    · rw [e2, hp_at, if_neg k1]; exact f1 k k3
    · rw [e2, hp_at, if_pos rfl, f1 64 (by decide)]; simp [upd, hj]
    · rw [e2]; simp [hp_at, upd]; rfl
    · rw [e2, hp_at, if_neg (by decide)]; exact z1 x hx
  refine hp_lp1h_ind (fun x h => ∃ s, x = nI s ∧ s ≤ gN (srch p) ∧ SPI E c P' s b h) (fun x h => 400 - nt x) ?_ ⟨0, rfl, by omega, i0⟩
  clear i0 e2 z1 f1
  clear h1 h2
  rintro x h ⟨s, rfl, hs, i⟩
  have i' := i
  obtain ⟨fr, f64, f1, fP, f71, f69, f70⟩ := i'
  have eV : h hp_V = b hp_V := fr hp_V V64.1 (by rcases o2 with z | z <;> rw [z] <;> decide) V64.2.1 V64.2.2.1 V64.2.2.2.1
  have e35' : h 35 2 = nI (gN (srch p)) := by rw [fr 35 (by decide) (by omega) (by decide) (by decide) (by decide)]; exact e35
  rw [e35', nI_leI (by omega) (by omega), eV]
  refine ⟨fun c4 => ?_, fun c4 => ?_⟩
  · rintro w7 rfl
    rw [eP]
    refine ⟨o1, ?_⟩
    rintro w8 rfl
    rw [eP']
    refine ⟨o2, ?_⟩
    rintro h9 rfl h10 e10
    have sN : s = gN (srch p) := by omega
    subst sN
    have PV' : P' ≠ hp_V := by rcases o2 with z | z <;> rw [z] <;> decide
    refine hQ h10 (fun k k1 k2 k3 k4 => ?_) (fun j hj => ?_) ?_ ?_ ?_ (fun t ht => ?_)
    · rw [e10]; simp [hp_at, k4]; exact fr k k1 (by omega) (by omega) (by omega) (by omega)
    · rw [e10]; simp [hp_at, Ne.symm V64.1]; exact f64 j hj
    · rw [e10]; simp [hp_at, upd]
    · rw [e10]; simp [hp_at, upd]
    · rw [e10]; simp [hp_at, Ne.symm V64.1]; exact f1
    · rw [e10]; simp [hp_at, PV']; exact fP t ht
  · have sN : s < gN (srch p) := by omega
    have next : ∀ h19 : hp_H, SPI E c P' (s + 1) b h19 → ∀ v20, v20 = nI s + nI 1 → (∃ s, v20 = nI s ∧ s ≤ gN (srch p) ∧ SPI E c P' s b h19) ∧ 400 - nt v20 < 400 - nt (nI s) := by
      rintro h19 i19 w rfl
      rw [nI_add]
      exact ⟨⟨s + 1, rfl, by omega, i19⟩, by rw [nt_nI (by omega), nt_nI (by omega)]; omega⟩
    refine s_newPartLike a i sN (fun l => ?_) (fun l => ?_)
    · rintro w12 rfl
      rw [eP']
      refine ⟨o2, hp_jn1h_i ⟨fun _ => ?_, fun z => absurd rfl z⟩⟩
      refine s_openPart a i sN l (fun h' hh => ⟨nu_in (by omega) (by decide), ?_⟩)
      intro h19 e19
      rw [nI_clamp (show s < 2 ^ 31 by omega)] at e19
      exact next h19 (hh h19 e19)
    · rintro w12 rfl
      rw [eP']
      have cl : cC E s < 400 := by have := cC_lt eqv sN; have := cN_le (E := E) (gN (srch p)); omega
      refine ⟨o2, hp_jn1h_i ⟨fun z => absurd z (fun y => (nu_m1 (by omega)).mp y), fun _ => ⟨nu_in (by omega) (by decide), ?_⟩⟩⟩
      intro h19 e19
      rw [nI_clamp (show s < 2 ^ 31 by omega)] at e19
      refine next h19 ?_
      have xP : ∀ j, h19 P' j = if j = s then nI (cC E s) else h P' j := by intro j; rw [e19]; simp [hp_at, upd]
      have xo : ∀ k, k ≠ P' → h19 k = h k := by intro k hk; rw [e19]; simp [hp_at, hk]
      have old : ∀ {t}, t < s + 1 → isL E t → t < s := by
        intro t h1 h2
        rcases (show t < s ∨ t = s by omega) with y | y
        · exact y
        · rw [y] at h2; exact absurd h2 l
      refine ⟨fun k k1 k2 k3 k4 k5 => by rw [xo k k2]; exact fr k k1 k2 k3 k4 k5, fun j hj => by rw [xo 64 (Ne.symm q64.1)]; exact f64 j hj, by rw [xo 64 (Ne.symm q64.1), cN_o l]; exact f1, fun t ht => ?_, fun t ht hl => by rw [xo 71 (Ne.symm q64.2.2.2)]; exact f71 t (old ht hl) hl, fun x hx => ?_, fun t ht hl => by rw [xo 70 (Ne.symm q64.2.2.1)]; exact f70 t (old ht hl) hl⟩
      · rw [xP]
        rcases (show t < s ∨ t = s by omega) with y | y
        · rw [if_neg (by omega)]; exact fP t y
        · rw [if_pos y, y]
      · rw [xo 69 (Ne.symm q64.2.1)]
        rcases f69 x hx with ⟨z1, z2⟩ | ⟨t, t1, t2, t3, t4, t5⟩
        · exact Or.inl ⟨z1, fun t ht hl => z2 t (old ht hl) hl⟩
        · exact Or.inr ⟨t, by omega, t2, t3, t4, fun u q1 q2 q3 => t5 u q1 (old q2 q3) q3⟩
