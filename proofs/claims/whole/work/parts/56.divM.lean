/-! ===== the reference divides ===== -/
theorem m_isSeenAlike {m h : hp_H} {s t n : Nat} {Q : Int32 → Prop} (e : h 0 31 = nI n) (hn : n ≤ 8) (hs : s < 400) (ht : t < 400) (h1 : (∀ k, k < n → h 48 (8 * s + k) = h 48 (8 * t + k)) → Q (nI 1)) (h0 : (¬ ∀ k, k < n → h 48 (8 * s + k) = h 48 (8 * t + k)) → Q (nI 0)) : q_X12_isSeenAlike h (nI s) (nI t) Q := by
  unfold q_X12_isSeenAlike
  refine hp_lp2_ind (fun x y => ∃ j, y = nI j ∧ j ≤ n ∧ ((x = nI 1 ∧ ∀ k, k < j → h 48 (8 * s + k) = h 48 (8 * t + k)) ∨ (x = nI 0 ∧ ¬ ∀ k, k < n → h 48 (8 * s + k) = h 48 (8 * t + k)))) (fun x y => 8 - nt y) ?_ ⟨0, rfl, by omega, Or.inl ⟨rfl, fun k hk => by omega⟩⟩
  rintro x y ⟨j, rfl, hj, hx⟩
  rw [e, nI_leI (by omega) (by omega), pk_mul, pk_mul, nI_add, nI_add, nI_clamp (show 8 * s + j < 2 ^ 31 by omega), nI_clamp (show 8 * t + j < 2 ^ 31 by omega)]
  have out : (x = nI 1 → ∀ k, k < n → h 48 (8 * s + k) = h 48 (8 * t + k)) → hp_bz x ∧ Q x := by
    intro q
    rcases hx with ⟨z, _⟩ | ⟨z, z2⟩
    · rw [z]; exact ⟨bz1, h1 (q z)⟩
    · rw [z]; exact ⟨bz0, h0 z2⟩
  refine ⟨fun c => out (fun z => ?_), fun c => ⟨fun z => out (fun z2 => absurd (z.symm.trans z2) (by decide)), fun z => ⟨nu_in (by omega) (by decide), nu_in (by omega) (by decide), ?_⟩⟩⟩
  · rcases hx with ⟨_, q⟩ | ⟨q, _⟩
    · exact fun k hk => q k (by omega)
    · rw [z] at q; exact absurd q (by decide)
  · rcases hx with ⟨_, q⟩ | ⟨q, _⟩
    case inr => exact absurd q z
    refine jn1_two (p := h 48 (8 * s + j) = h 48 (8 * t + j)) (fun K k1 k0 => ⟨k1, k0⟩) (fun z3 => ?_) (fun z3 => ?_)
    · rintro w rfl
      rw [nI_add]
      refine ⟨⟨j + 1, rfl, by omega, Or.inl ⟨rfl, fun k hk => ?_⟩⟩, by rw [nt_nI (by omega), nt_nI (by omega)]; omega⟩
      rcases (show k < j ∨ k = j by omega) with y | y
      · exact q k y
      · subst y; exact z3
    · rintro w rfl
      rw [nI_add]
      exact ⟨⟨j + 1, rfl, by omega, Or.inr ⟨rfl, fun z => z3 (z j (by omega))⟩⟩, by rw [nt_nI (by omega), nt_nI (by omega)]; omega⟩
theorem m_hasSameSigns {h : hp_H} {c : Nat → Nat} {s t : Nat} {Q : Int32 → Prop} (hs : s < 400) (ht : t < 400) (es : h 45 s = nI (c s)) (et : h 45 t = nI (c t)) (ls : c s < 2 ^ 31) (lt : c t < 2 ^ 31) (h1 : (c s = c t ∧ ∀ w, w < 7 → hp_ldL h 47 (7 * s + w) = hp_ldL h 47 (7 * t + w)) → Q (nI 1)) (h0 : (¬ (c s = c t ∧ ∀ w, w < 7 → hp_ldL h 47 (7 * s + w) = hp_ldL h 47 (7 * t + w))) → Q (nI 0)) : q_X12_hasSameSigns h (nI s) (nI t) Q := by
  unfold q_X12_hasSameSigns
  rw [nI_clamp (show s < 2 ^ 31 by omega), nI_clamp (show t < 2 ^ 31 by omega), es, et, nI_eq ls lt]
  refine ⟨nu_in (by omega) (by decide), nu_in (by omega) (by decide), ?_⟩
  refine ⟨fun x => (x = nI 1 ∧ c s = c t) ∨ (x = nI 0 ∧ ¬ c s = c t), ⟨fun z => Or.inl ⟨rfl, z⟩, fun z => Or.inr ⟨rfl, z⟩⟩, fun v3 hv3 => ?_⟩
  refine hp_lp2_ind (fun x y => ∃ j, y = nI j ∧ j ≤ 7 ∧ ((x = nI 1 ∧ c s = c t ∧ ∀ w, w < j → hp_ldL h 47 (7 * s + w) = hp_ldL h 47 (7 * t + w)) ∨ (x = nI 0 ∧ ¬ (c s = c t ∧ ∀ w, w < 7 → hp_ldL h 47 (7 * s + w) = hp_ldL h 47 (7 * t + w))))) (fun x y => 7 - nt y) ?_ ⟨0, rfl, by omega, ?_⟩
  case refine_2 =>
    rcases hv3 with ⟨z, z2⟩ | ⟨z, z2⟩
    · exact Or.inl ⟨z, z2, fun w hw => by omega⟩
    · exact Or.inr ⟨z, fun y => z2 y.1⟩
  rintro x y ⟨j, rfl, hj, hx⟩
  rw [nI_leI (by decide) (by omega), pk_mul, pk_mul, nI_add, nI_add, nI_clamp (show 7 * s + j < 2 ^ 31 by omega), nI_clamp (show 7 * t + j < 2 ^ 31 by omega), lg_cmp_eq]
  have out : (x = nI 1 → c s = c t ∧ ∀ w, w < 7 → hp_ldL h 47 (7 * s + w) = hp_ldL h 47 (7 * t + w)) → hp_bz x ∧ Q x := by
    intro q
    rcases hx with ⟨z, _⟩ | ⟨z, z2⟩
    · rw [z]; exact ⟨bz1, h1 (q z)⟩
    · rw [z]; exact ⟨bz0, h0 z2⟩
  refine ⟨fun c => out (fun z => ?_), fun c => ⟨fun z => out (fun z2 => absurd (z.symm.trans z2) (by decide)), fun z => ⟨nu_in (by omega) (by decide), nu_in (by omega) (by decide), ?_⟩⟩⟩
  · rcases hx with ⟨_, q⟩ | ⟨q, _⟩
    · exact ⟨q.1, fun k hk => q.2 k (by omega)⟩
    · rw [z] at q; exact absurd q (by decide)
  · rcases hx with ⟨_, q⟩ | ⟨q, _⟩
    case inr => exact absurd q z
    refine jn1_two (p := hp_ldL h 47 (7 * s + j) = hp_ldL h 47 (7 * t + j)) (fun K k1 k0 => ⟨k1, k0⟩) (fun z3 => ?_) (fun z3 => ?_)
    · rintro w rfl
      rw [nI_add]
      refine ⟨⟨j + 1, rfl, by omega, Or.inl ⟨rfl, q.1, fun k hk => ?_⟩⟩, by rw [nt_nI (by omega), nt_nI (by omega)]; omega⟩
      rcases (show k < j ∨ k = j by omega) with y | y
      · exact q.2 k y
      · subst y; exact z3
    · rintro w rfl
      rw [nI_add]
      exact ⟨⟨j + 1, rfl, by omega, Or.inr ⟨rfl, fun z => z3 (z.2 j (by omega))⟩⟩, by rw [nt_nI (by omega), nt_nI (by omega)]; omega⟩
theorem upL_ld {h h' : hp_H} {j : Nat} {x : Int64} (e : h' = hp_upL h 47 j x) : (∀ k, k ≠ 47 → h' k = h k) ∧ ∀ i, hp_ldL h' 47 i = if i = j then x else hp_ldL h 47 i := by
  refine ⟨fun k hk => by rw [e]; exact hp_upL_row hk, fun i => ?_⟩
  rw [e]
  by_cases z : i = j
  · rw [if_pos z, z, hp_upL_same]
  · rw [if_neg z, hp_upL_slot z]
/-- the found, on the side of the reference, with moves -/
def MM (p m : hp_H) : Prop := gN (srch p) ≤ 400 ∧ m 0 35 = nI (gN (srch p)) ∧ FS p (srch p) (gN (srch p)) ∧ (∀ i, i ≤ gN (srch p) → m 31 i = srch p 31 i) ∧ ∀ i, i < gK (srch p) → m 32 i = srch p 32 i ∧ m 33 i = srch p 33 i ∧ m 34 i = srch p 34 i ∧ m 35 i = srch p 35 i
theorem SRu.mm {p b m : hp_H} {q : Nat} (s : SRu p q b m) : MM p m := by
  obtain ⟨f1, f2, f3⟩ := s.f
  obtain ⟨n4, eb, em, -⟩ := s.n
  exact ⟨n4, em, f1, fun i hi => (f2 i hi).2, fun i hi => (f3 i hi).2.2⟩
theorem MM.fr {p m m' : hp_H} (h : MM p m) (f : FRm m m') : MM p m' := by
  obtain ⟨a, b, c, d, e⟩ := h
  exact ⟨a, by rw [f 0 (by decide)]; exact b, c, fun i hi => by rw [f 31 (by decide)]; exact d i hi, fun i hi => by rw [f 32 (by decide), f 33 (by decide), f 34 (by decide), f 35 (by decide)]; exact e i hi⟩
theorem m_findSigns {p m : hp_H} {c : Nat → Nat} {n : Nat} {Q : hp_H → Prop} (mm : MM p m) (hc : ∀ s, s < gN (srch p) → m 45 s = nI (c s) ∧ c s < n) (hn : n ≤ 400)
    (hQ : ∀ m', (∀ k, k ≠ 47 → m' k = m k) → (∀ s, s < gN (srch p) → ∀ w j, w < 7 → j < 64 → (bL (hp_ldL m' 47 (7 * s + w)) j ↔ lds (srch p) c s (nt (srch p 31 (s + 1))) (64 * w + j))) → Q m') : q_X12_findSigns m Q := by
  obtain ⟨n4, e35, fs, f31, f32⟩ := mm
  unfold q_X12_findSigns
  refine hp_lp1h_ind (fun x h => ∃ j, x = nI j ∧ j ≤ 7 * gN (srch p) ∧ (∀ k, k ≠ 47 → h k = m k) ∧ ∀ i, i < j → hp_ldL h 47 i = 0) (fun x h => 2800 - nt x) ?_ ⟨0, rfl, by omega, fun k _ => rfl, fun i hi => by omega⟩
  rintro x h ⟨j, rfl, hj, fr, hz⟩
  have e35' : h 0 35 = nI (gN (srch p)) := by rw [fr 0 (by decide)]; exact e35
  rw [e35', pk_mul, nI_leI (by omega) (by omega), nI_clamp (show j < 2 ^ 31 by omega)]
  refine ⟨fun c4 => ?_, fun c4 => ⟨nu_in (by omega) (by decide), ?_⟩⟩
  case refine_2 =>
    rintro h' e' w rfl
    rw [nI_add]
    obtain ⟨u1, u2⟩ := upL_ld e'
    refine ⟨⟨j + 1, rfl, by omega, fun k hk => (u1 k hk).trans (fr k hk), fun i hi => ?_⟩, by rw [nt_nI (by omega), nt_nI (by omega)]; omega⟩
    rw [u2]
    by_cases z : i = j
    · rw [if_pos z]
    · rw [if_neg z]; exact hz i (by omega)
  refine hp_lp1h_ind (fun x h => ∃ s, x = nI s ∧ s ≤ gN (srch p) ∧ (∀ k, k ≠ 47 → h k = m k) ∧ (∀ s', s' < s → ∀ w j, w < 7 → j < 64 → (bL (hp_ldL h 47 (7 * s' + w)) j ↔ lds (srch p) c s' (nt (srch p 31 (s' + 1))) (64 * w + j))) ∧ ∀ i, 7 * s ≤ i → i < 7 * gN (srch p) → hp_ldL h 47 i = 0) (fun x h => 400 - nt x) ?_ ⟨0, rfl, by omega, fr, fun s' hs => by omega, fun i _ hi => hz i (by omega)⟩
  clear hz fr e35' c4 hj
  clear h j
  rintro x h ⟨s, rfl, hs, fr, ky, hz⟩
  have e35' : h 0 35 = nI (gN (srch p)) := by rw [fr 0 (by decide)]; exact e35
  rw [e35', nI_leI (by omega) (by omega)]
  refine ⟨fun c4 => hQ h fr (fun s' h1 => ky s' (by omega)), fun c4 => ⟨nu_in (by omega) (by decide), ?_⟩⟩
  have sN : s < gN (srch p) := by omega
  obtain ⟨l1, l2, l3, l4, l5⟩ := fs.r sN
  rintro v9 rfl
  rw [nI_clamp (show s < 2 ^ 31 by omega), fr 31 (by decide), f31 s (by omega)]
  refine hp_lp1h_ind (fun x h => ∃ k, x = nI k ∧ nt (srch p 31 s) ≤ k ∧ k ≤ nt (srch p 31 (s + 1)) ∧ (∀ k, k ≠ 47 → h k = m k) ∧ (∀ s', s' < s → ∀ w j, w < 7 → j < 64 → (bL (hp_ldL h 47 (7 * s' + w)) j ↔ lds (srch p) c s' (nt (srch p 31 (s' + 1))) (64 * w + j))) ∧ (∀ i, 7 * (s + 1) ≤ i → i < 7 * gN (srch p) → hp_ldL h 47 i = 0) ∧ ∀ w j, w < 7 → j < 64 → (bL (hp_ldL h 47 (7 * s + w)) j ↔ lds (srch p) c s k (64 * w + j))) (fun x h => 6000 - nt x) ?_ ⟨nt (srch p 31 s), l1, Nat.le_refl _, l3, fr, ky, fun i i1 i2 => hz i (by omega) i2, fun w j h2 h3 => ?_⟩
  case refine_2 =>
    rw [hz _ (by omega) (by omega)]
    exact ⟨fun z => absurd z bL_0, fun ⟨i, i1, i2, _⟩ => by omega⟩
  clear hz ky fr e35'
  clear h
  rintro x h ⟨k, rfl, k1, k2, fr, ky1, hz, ky2⟩
  rw [nI_add, nI_clamp (show s + 1 < 2 ^ 31 by omega), fr 31 (by decide), f31 (s + 1) (by omega)]
  have el : (srch p 31 (s + 1) ≤ nI k) ↔ nt (srch p 31 (s + 1)) ≤ k := isn_leR (b := 6000) ⟨l2, by omega⟩ (by decide) (by omega)
  rw [el]
  refine ⟨nu_in (by omega) (by decide), fun c5 => ?_, fun c5 => ?_⟩
  · rintro w rfl
    have kn : k = nt (srch p 31 (s + 1)) := by omega
    subst kn
    refine ⟨⟨s + 1, rfl, by omega, fr, fun s' h1 => ?_, hz⟩, by rw [nt_nI (by omega), nt_nI (by omega)]; omega⟩
    rcases (show s' < s ∨ s' = s by omega) with y | y
    · exact ky1 s' y
    · rw [y]; exact ky2
  · obtain ⟨mv1, mv2, -⟩ := fs.1.2.2.2.2 k (by omega)
    have mv3 := mv1.2
    rw [nI_clamp (show k < 2 ^ 31 by omega), fr 32 (by decide), (f32 k (by omega)).1, mv1.1, nI_clamp (show nt (srch p 32 k) < 2 ^ 31 by omega), fr 45 (by decide), (hc _ mv2).1]
    have cl := (hc _ mv2).2
    refine ⟨nu_in (by omega) (by decide), nu_in (by omega) (by decide), ?_⟩
    rintro v15 rfl
    generalize eC : c (nt (srch p 32 k)) = C at cl
    rw [nu_div (show C < 2 ^ 31 by omega) (by decide) (by decide), nu_rem (show C < 2 ^ 31 by omega) (by decide) (by decide), pk_mul, nI_add, nI_clamp (show 7 * s + C / 64 < 2 ^ 31 by omega)]
    refine ⟨nu_in (by omega) (by decide), nu_in (by omega) (by decide), ?_⟩
    rintro h16 e16 w rfl
    rw [nI_add]
    obtain ⟨u1, u2⟩ := upL_ld e16
    refine ⟨⟨k + 1, rfl, by omega, by omega, fun i hi => (u1 i hi).trans (fr i hi), fun s' h1 w j h2 h3 => ?_, fun i i1 i2 => ?_, fun w j h2 h3 => ?_⟩, by rw [nt_nI (by omega), nt_nI (by omega)]; omega⟩
    · rw [u2, if_neg (by omega)]; exact ky1 s' h1 w j h2 h3
    · rw [u2, if_neg (by omega)]; exact hz i i1 i2
    · rw [u2]
      have step : lds (srch p) c s (k + 1) (64 * w + j) ↔ lds (srch p) c s k (64 * w + j) ∨ C = 64 * w + j := by
        constructor
        · rintro ⟨i, i1, i2, i3⟩
          rcases (show i < k ∨ i = k by omega) with y | y
          · exact Or.inl ⟨i, i1, y, i3⟩
          · rw [y, eC] at i3; exact Or.inr i3
        · rintro (⟨i, i1, i2, i3⟩ | y)
          · exact ⟨i, i1, by omega, i3⟩
          · exact ⟨k, k1, by omega, by rw [eC]; exact y⟩
      rw [step]
      by_cases y : w = C / 64
      · subst y
        rw [if_pos rfl, bL_o, ky2 _ j h2 h3, bL_1 (by omega) h3]
        constructor
        · rintro (z | z)
          · exact Or.inl z
          · exact Or.inr (by omega)
        · rintro (z | z)
          · exact Or.inl z
          · exact Or.inr (by omega)
      · rw [if_neg (by omega), ky2 w j h2 h3]
        constructor
        · exact Or.inl
        · rintro (z | z)
          · exact z
          · omega
set_option maxHeartbeats 2000000 in
theorem m_divide {p b m : hp_H} {q : Nat} {Q : Int32 → hp_H → Prop} (t : T0 b m) (sr : SRu p q b m) (hQ : ∀ m', FRm m m' → 1 ≤ (DIVf p (srch p) m).2 → (DIVf p (srch p) m).2 ≤ 400 → (∀ s, s < gN (srch p) → m' 45 s = nI ((DIVf p (srch p) m).1 s)) → Q (nI (DIVf p (srch p) m).2) m') : q_X12_divide m Q := by
  have mm := sr.mm
  obtain ⟨n4, e35, fs, f31, f32⟩ := mm
  have vo := t.2.2.2.1
  have o8 := vo.1.2
  have N1 : 1 ≤ gN (srch p) := sr.1.2.2.2.1.1.2.1
  obtain ⟨p15, p17⟩ := sr.1.2.1.e
  have ob : ∀ k, k < nt (m 0 31) → m 26 k = nI (nt (m 26 k)) ∧ nt (m 26 k) < nt (p 0 15) ∧ nt (m 26 k) < 80 := by
    intro k hk
    obtain ⟨q1, q2, q3⟩ := vo.2 k hk
    exact ⟨q1.1, by rw [← p15]; exact q2, by have := q1.2; omega⟩
  unfold q_X12_divide
  -- what is observed
  refine hp_lp1h_ind (fun x h => ∃ s, x = nI s ∧ s ≤ gN (srch p) ∧ FRm m h ∧ ∀ s', s' < s → ∀ k, k < nt (m 0 31) → h 48 (8 * s' + k) = vl p (srch p) s' (nt (m 26 k))) (fun x h => 400 - nt x) ?_ ⟨0, rfl, by omega, FRm.rf, fun s' hs => by omega⟩
  rintro x h ⟨s, rfl, hs, fr, ky⟩
  have e35' : h 0 35 = nI (gN (srch p)) := by rw [fr 0 (by decide)]; exact e35
  rw [e35', nI_leI (by omega) (by omega)]
  refine ⟨fun c4 => ?_, fun c4 => ?_⟩
  case refine_2 =>
    refine m_rk (sr.mfr t.2.2.2.2 FRb.rf fr) (by omega) (fun h59 f59 v59 => ?_)
    refine hp_lp1h_ind (fun x h' => ∃ j, x = nI j ∧ j ≤ nt (m 0 31) ∧ (∀ k, k ≠ 48 → h' k = h59 k) ∧ (∀ s', s' < s → ∀ k, k < nt (m 0 31) → h' 48 (8 * s' + k) = vl p (srch p) s' (nt (m 26 k))) ∧ ∀ k, k < j → h' 48 (8 * s + k) = vl p (srch p) s (nt (m 26 k))) (fun x h => 8 - nt x) ?_ ⟨0, rfl, by omega, fun k _ => rfl, fun s' h1 k h2 => by rw [f59 48 (by decide)]; exact ky s' h1 k h2, fun k hk => by omega⟩
    rintro x h' ⟨j, rfl, hj, fr', ky1, ky2⟩
    have fb : FRm m h' := fun k hk => by rw [fr' k (by omega), f59 k (by omega)]; exact fr k hk
    have e31 : h' 0 31 = nI (nt (m 0 31)) := by rw [fb 0 (by decide)]; exact vo.1.1
    rw [e31, nI_leI (by omega) (by omega), nI_clamp (show j < 2 ^ 31 by omega)]
    refine ⟨fun c2 => ?_, fun c2 => ⟨nu_in (by omega) (by decide), ?_⟩⟩
    · rintro w rfl
      rw [nI_add]
      refine ⟨⟨s + 1, rfl, by omega, fb, fun s' h1 k h2 => ?_⟩, by rw [nt_nI (by omega), nt_nI (by omega)]; omega⟩
      rcases (show s' < s ∨ s' = s by omega) with y | y
      · exact ky1 s' y k h2
      · rw [y]; exact ky2 k (by omega)
    · obtain ⟨q1, q2, q3⟩ := ob j (by omega)
      rw [fb 26 (by decide), q1, nI_clamp (show nt (m 26 j) < 2 ^ 31 by omega), pk_mul, nI_add, nI_clamp (show 8 * s + j < 2 ^ 31 by omega), fr' 37 (by decide), v59 _ q2]
      refine ⟨nu_in q3 (by decide), nu_in (by omega) (by decide), ?_⟩
      rintro h65 e65 w rfl
      rw [nI_add]
      have x48 : ∀ i, h65 48 i = if i = 8 * s + j then vl p (srch p) s (nt (m 26 j)) else h' 48 i := by intro i; rw [e65]; simp [hp_at, upd]
      refine ⟨⟨j + 1, rfl, by omega, fun k hk => by rw [e65, hp_at, if_neg hk]; exact fr' k hk, fun s' h1 k h2 => ?_, fun k hk => ?_⟩, by rw [nt_nI (by omega), nt_nI (by omega)]; omega⟩
      · rw [x48, if_neg (by omega)]; exact ky1 s' h1 k h2
      · rw [x48]
        by_cases y : k = j
        · rw [if_pos (by omega), y]
        · rw [if_neg (by omega)]; exact ky2 k (by omega)
  have ky' : ∀ s', s' < gN (srch p) → ∀ k, k < nt (m 0 31) → h 48 (8 * s' + k) = vl p (srch p) s' (nt (m 26 k)) := fun s' h1 => ky s' (by omega)
  generalize hEE : E0 p (srch p) m = E
  have eqv : EQV E := by rw [← hEE]; exact E0_q
  have hE : ∀ h' : hp_H, h' 48 = h 48 → ∀ u v, u < gN (srch p) → v < gN (srch p) → ((∀ k, k < nt (m 0 31) → h' 48 (8 * u + k) = h' 48 (8 * v + k)) ↔ E u v) := by
    intro h' e' u v hu hv
    rw [e', ← hEE]
    unfold E0
    exact ⟨fun z k hk => by have := z k hk; rw [ky' u hu k hk, ky' v hv k hk] at this; exact this, fun z k hk => by rw [ky' u hu k hk, ky' v hv k hk]; exact z k hk⟩
  -- the first classes
  refine hp_lp2h_ind (fun x y h' => ∃ s, y = nI s ∧ s ≤ gN (srch p) ∧ x = nI (cN E s) ∧ (∀ k, k ≠ 45 → h' k = h k) ∧ ∀ u, u < s → h' 45 u = nI (cC E u)) (fun x y h => 400 - nt y) ?_ ⟨0, rfl, by omega, rfl, fun k _ => rfl, fun u hu => by omega⟩
  rintro x y h1 ⟨s1, rfl, hs1, rfl, fr1, cl1⟩
  have e35' : h1 0 35 = nI (gN (srch p)) := by rw [fr1 0 (by decide)]; exact e35'
  have frm1 : FRm m h1 := fun k hk => by rw [fr1 k (by omega)]; exact fr k hk
  have nle := cN_le (E := E) s1
  rw [e35', nI_leI (by omega) (by omega)]
  refine ⟨fun c5 => ?_, fun c5 => ?_⟩
  case refine_2 =>
    have sN : s1 < gN (srch p) := by omega
    refine hp_lp1_ind (fun x => ∃ t, x = nI t ∧ t ≤ s1 ∧ ∀ u, u < t → ¬ E u s1) (fun x => 400 - nt x) ?_ ⟨0, rfl, by omega, fun u hu => by omega⟩
    rintro x ⟨t1, rfl, ht, hno⟩
    rw [nI_leI (by omega) (by omega), nI_clamp (show t1 < 2 ^ 31 by omega), nI_clamp (show s1 < 2 ^ 31 by omega)]
    refine ⟨(t1 = s1 ∧ isL E s1) ∨ (t1 < s1 ∧ E t1 s1), ⟨fun z => Or.inl ⟨by omega, fun ⟨u, u1, u2⟩ => hno u (by omega) u2⟩, fun z => ?_⟩, ?_⟩
    · refine m_isSeenAlike (m := m) (n := nt (m 0 31)) (by rw [frm1 0 (by decide)]; exact vo.1.1) o8 (by omega) (by omega) (fun w => br1 (Or.inr ⟨by omega, (hE h1 (fr1 48 (by decide)) t1 s1 (by omega) sN).mp w⟩)) (fun w => br00 ?_)
      rintro w' rfl
      rw [nI_add]
      refine ⟨⟨t1 + 1, rfl, by omega, fun u hu => ?_⟩, by rw [nt_nI (by omega), nt_nI (by omega)]; omega⟩
      rcases (show u < t1 ∨ u = t1 by omega) with y | y
      · exact hno u y
      · rw [y]; exact fun e => w ((hE h1 (fr1 48 (by decide)) t1 s1 (by omega) sN).mpr e)
    · intro hk
      have val : ∃ d, cN E (s1 + 1) = cN E s1 + d ∧ ((s1 ≤ t1 ∧ d = 1 ∧ cC E s1 = cN E s1) ∨ (¬ s1 ≤ t1 ∧ d = 0 ∧ cC E s1 = cC E t1)) := by
        rcases hk with ⟨z1, z2⟩ | ⟨z1, z2⟩
        · exact ⟨1, cN_l z2, Or.inl ⟨by omega, rfl, cC_l eqv z2⟩⟩
        · exact ⟨0, cN_o (fun l => l ⟨t1, z1, z2⟩), Or.inr ⟨by omega, rfl, cC_e eqv z2⟩⟩
      obtain ⟨dd, v1, v2⟩ := val
      refine ⟨fun x => x = nI (cC E s1), ⟨fun z => ?_, fun z => ⟨nu_in (by omega) (by decide), ?_⟩⟩, ?_⟩
      · rcases v2 with ⟨_, _, w⟩ | ⟨w, _⟩
        · rw [w]
        · exact absurd z w
      · rcases v2 with ⟨w, _⟩ | ⟨_, _, w⟩
        · exact absurd w z
        · rw [w]; exact cl1 t1 (by omega)
      rintro v52 rfl
      refine ⟨nu_in (by omega) (by decide), ?_⟩
      intro h53 e53
      refine ⟨fun x => x = nI dd, ⟨fun z => ?_, fun z => ?_⟩, ?_⟩
      · rcases v2 with ⟨_, w, _⟩ | ⟨w, _⟩
        · rw [w]
        · exact absurd z w
      · rcases v2 with ⟨w, _⟩ | ⟨_, w, _⟩
        · exact absurd w z
        · rw [w]
      rintro v56 rfl v57 rfl v58 rfl
      rw [nI_add, nI_add, ← v1]
      have x45 : ∀ i, h53 45 i = if i = s1 then nI (cC E s1) else h1 45 i := by intro i; rw [e53]; simp [hp_at, upd]
      refine ⟨⟨s1 + 1, rfl, by omega, rfl, fun k hk => by rw [e53, hp_at, if_neg hk]; exact fr1 k hk, fun u hu => ?_⟩, by rw [nt_nI (by omega), nt_nI (by omega)]; omega⟩
      rw [x45]
      by_cases y : u = s1
      · rw [if_pos y, y]
      · rw [if_neg y]; exact cl1 u (by omega)
  have sN : s1 = gN (srch p) := by omega
  subst sN
  generalize hF : DIVf p (srch p) m = FIN at hQ
  unfold DIVf at hF
  rw [hEE] at hF
  -- round by round
  refine hp_lp2h_ind (fun x y h' => ∃ c n was, x = nI n ∧ y = nI was ∧ FRm m h' ∧ n ≤ 400 ∧ was ≤ 400 ∧ 1 ≤ n ∧ (∀ s, s < gN (srch p) → h' 45 s = nI (c s) ∧ c s < n) ∧ ((was < n ∧ ∃ f, 402 ≤ n + f ∧ dvl (srch p) f c n = FIN) ∨ (n ≤ was ∧ (c, n) = FIN))) (fun x y h => if nt y < nt x then 402 - nt x else 0) ?_ ⟨_, _, 0, rfl, rfl, frm1, by omega, by omega, cN_p (by omega), fun s hs => ⟨cl1 s hs, cC_lt eqv hs⟩, Or.inl ⟨by have := cN_p (E := E) (N := gN (srch p)) (by omega); omega, 401, by have := cN_p (E := E) (N := gN (srch p)) (by omega); omega, hF⟩⟩
  clear cl1 fr1 frm1 hE ky' ky fr e35' hF hEE eqv nle c5 c4 hs1 hs
  rintro x y h ⟨c, n, was, rfl, rfl, fr, hn, hw, hn1, hc, hx⟩
  rw [nI_leI (by omega) (by omega)]
  refine ⟨fun c4 => ?_, fun c4 => ?_⟩
  · rcases hx with ⟨z, _⟩ | ⟨_, z⟩
    · omega
    · subst z; exact hQ h fr hn1 hn (fun s hs => (hc s hs).1)
  rcases hx with ⟨z, f, q3, q4⟩ | ⟨z, _⟩
  case inr => omega
  obtain ⟨f, rfl⟩ : ∃ f', f = f' + 1 := ⟨f - 1, by omega⟩
  rw [dvl_s] at q4
  refine m_findSigns (c := c) (n := n) (sr.mm.fr fr) hc hn (fun h2 f2 k2 => ?_)
  generalize hEE : E1 (srch p) c = E at q4
  have eqv : EQV E := by rw [← hEE]; exact E1_q
  have hE : ∀ h' : hp_H, h' 47 = h2 47 → ∀ u v, u < gN (srch p) → v < gN (srch p) → ((c u = c v ∧ ∀ w, w < 7 → hp_ldL h' 47 (7 * u + w) = hp_ldL h' 47 (7 * v + w)) ↔ E u v) := by
    intro h' e' u v hu hv
    have eL : ∀ i, hp_ldL h' 47 i = hp_ldL h2 47 i := fun i => by unfold hp_ldL; rw [e']
    simp only [eL]
    rw [← hEE]
    unfold E1
    simp only [mvT_l]
    refine ⟨fun e => ⟨e.1, fun x => ?_⟩, fun e => ⟨e.1, fun i hi => bL_x (fun j hj => ?_)⟩⟩
    · by_cases xn : x < n
      · have w1 := k2 u hu (x / 64) (x % 64) (by omega) (by omega)
        have w2 := k2 v hv (x / 64) (x % 64) (by omega) (by omega)
        rw [show 64 * (x / 64) + x % 64 = x by omega] at w1 w2
        rw [← w1, ← w2, e.2 (x / 64) (by omega)]
      · exact ⟨fun z => absurd (lds_lt fs hu (fun s hs => (hc s hs).2) z) xn, fun z => absurd (lds_lt fs hv (fun s hs => (hc s hs).2) z) xn⟩
    · rw [k2 u hu i j hi hj, k2 v hv i j hi hj]; exact e.2 _
  have fr2 : FRm m h2 := fun k hk => by rw [f2 k (by omega)]; exact fr k hk
  refine hp_lp2h_ind (fun x y h' => ∃ s, y = nI s ∧ s ≤ gN (srch p) ∧ x = nI (cN E s) ∧ (∀ k, k ≠ 46 → h' k = h2 k) ∧ ∀ u, u < s → h' 46 u = nI (cC E u)) (fun x y h => 400 - nt y) ?_ ⟨0, rfl, by omega, rfl, fun k _ => rfl, fun u hu => by omega⟩
  rintro x y h1 ⟨s1, rfl, hs1, rfl, fr1, cl1⟩
  have frm1 : FRm m h1 := fun k hk => by rw [fr1 k (by omega)]; exact fr2 k hk
  have e35' : h1 0 35 = nI (gN (srch p)) := by rw [frm1 0 (by decide)]; exact e35
  have nle := cN_le (E := E) s1
  rw [e35', nI_leI (by omega) (by omega)]
  refine ⟨fun c5 => ?_, fun c5 => ?_⟩
  case refine_2 =>
    have sN : s1 < gN (srch p) := by omega
    refine hp_lp1_ind (fun x => ∃ t, x = nI t ∧ t ≤ s1 ∧ ∀ u, u < t → ¬ E u s1) (fun x => 400 - nt x) ?_ ⟨0, rfl, by omega, fun u hu => by omega⟩
    rintro x ⟨t1, rfl, ht, hno⟩
    rw [nI_leI (by omega) (by omega), nI_clamp (show t1 < 2 ^ 31 by omega), nI_clamp (show s1 < 2 ^ 31 by omega)]
    have x45 : h1 45 = h 45 := by rw [fr1 45 (by decide), f2 45 (by decide)]
    refine ⟨(t1 = s1 ∧ isL E s1) ∨ (t1 < s1 ∧ E t1 s1), ⟨fun z => Or.inl ⟨by omega, fun ⟨u, u1, u2⟩ => hno u (by omega) u2⟩, fun z => ?_⟩, ?_⟩
    · have c1 := (hc t1 (by omega)).2
      have c2 := (hc s1 sN).2
      refine m_hasSameSigns (c := c) (by omega) (by omega) (by rw [x45]; exact (hc t1 (by omega)).1) (by rw [x45]; exact (hc s1 sN).1) (by omega) (by omega) (fun w => br1 (Or.inr ⟨by omega, (hE h1 (fr1 47 (by decide)) t1 s1 (by omega) sN).mp w⟩)) (fun w => br00 ?_)
      rintro w' rfl
      rw [nI_add]
      refine ⟨⟨t1 + 1, rfl, by omega, fun u hu => ?_⟩, by rw [nt_nI (by omega), nt_nI (by omega)]; omega⟩
      rcases (show u < t1 ∨ u = t1 by omega) with y | y
      · exact hno u y
      · rw [y]; exact fun e => w ((hE h1 (fr1 47 (by decide)) t1 s1 (by omega) sN).mpr e)
    · intro hk
      have val : ∃ d, cN E (s1 + 1) = cN E s1 + d ∧ ((s1 ≤ t1 ∧ d = 1 ∧ cC E s1 = cN E s1) ∨ (¬ s1 ≤ t1 ∧ d = 0 ∧ cC E s1 = cC E t1)) := by
        rcases hk with ⟨z1, z2⟩ | ⟨z1, z2⟩
        · exact ⟨1, cN_l z2, Or.inl ⟨by omega, rfl, cC_l eqv z2⟩⟩
        · exact ⟨0, cN_o (fun l => l ⟨t1, z1, z2⟩), Or.inr ⟨by omega, rfl, cC_e eqv z2⟩⟩
      obtain ⟨dd, v1, v2⟩ := val
      refine ⟨fun x => x = nI (cC E s1), ⟨fun z => ?_, fun z => ⟨nu_in (by omega) (by decide), ?_⟩⟩, ?_⟩
      · rcases v2 with ⟨_, _, w⟩ | ⟨w, _⟩
        · rw [w]
        · exact absurd z w
      · rcases v2 with ⟨w, _⟩ | ⟨_, _, w⟩
        · exact absurd w z
        · rw [w]; exact cl1 t1 (by omega)
      rintro v36 rfl
      refine ⟨nu_in (by omega) (by decide), ?_⟩
      intro h37 e37
      refine ⟨fun x => x = nI dd, ⟨fun z => ?_, fun z => ?_⟩, ?_⟩
      · rcases v2 with ⟨_, w, _⟩ | ⟨w, _⟩
        · rw [w]
        · exact absurd z w
      · rcases v2 with ⟨w, _⟩ | ⟨_, w, _⟩
        · exact absurd w z
        · rw [w]
      rintro v40 rfl v41 rfl v42 rfl
      rw [nI_add, nI_add, ← v1]
      have x46 : ∀ i, h37 46 i = if i = s1 then nI (cC E s1) else h1 46 i := by intro i; rw [e37]; simp [hp_at, upd]
      refine ⟨⟨s1 + 1, rfl, by omega, rfl, fun k hk => by rw [e37, hp_at, if_neg hk]; exact fr1 k hk, fun u hu => ?_⟩, by rw [nt_nI (by omega), nt_nI (by omega)]; omega⟩
      rw [x46]
      by_cases y : u = s1
      · rw [if_pos y, y]
      · rw [if_neg y]; exact cl1 u (by omega)
  have sN : s1 = gN (srch p) := by omega
  subst sN
  refine hp_lp1h_ind (fun x h' => ∃ j, x = nI j ∧ j ≤ gN (srch p) ∧ (∀ k, k ≠ 45 → h' k = h1 k) ∧ ∀ u, u < j → h' 45 u = nI (cC E u)) (fun x h => 400 - nt x) ?_ ⟨0, rfl, by omega, fun k _ => rfl, fun u hu => by omega⟩
  rintro x h3 ⟨j, rfl, hj, fr3, cl3⟩
  have frm3 : FRm m h3 := fun k hk => by rw [fr3 k (by omega)]; exact frm1 k hk
  have e35'' : h3 0 35 = nI (gN (srch p)) := by rw [frm3 0 (by decide)]; exact e35
  rw [e35'', nI_leI (by omega) (by omega), nI_clamp (show j < 2 ^ 31 by omega)]
  refine ⟨fun c6 => ?_, fun c6 => ⟨nu_in (by omega) (by decide), nu_in (by omega) (by decide), ?_⟩⟩
  · have np := cN_p (E := E) (N := gN (srch p)) (by omega)
    refine ⟨⟨cC E, cN E (gN (srch p)), n, rfl, rfl, frm3, by omega, by omega, np, fun s hs => ⟨cl3 s (by omega), cC_lt eqv hs⟩, ?_⟩, ?_⟩
    · by_cases g : n < cN E (gN (srch p))
      · rw [cif_t g] at q4
        exact Or.inl ⟨g, f, by omega, q4⟩
      · rw [cif_f g] at q4
        exact Or.inr ⟨by omega, q4⟩
    · rw [nt_nI (by omega), nt_nI (by omega), nt_nI (by omega)]
      rw [if_pos (show was < n by omega)]
      split <;> omega
  · rintro h25 e25 w rfl
    rw [nI_add]
    have x45 : ∀ i, h25 45 i = if i = j then h3 46 j else h3 45 i := by intro i; rw [e25]; simp [hp_at, upd]
    refine ⟨⟨j + 1, rfl, by omega, fun k hk => by rw [e25, hp_at, if_neg hk]; exact fr3 k hk, fun u hu => ?_⟩, by rw [nt_nI (by omega), nt_nI (by omega)]; omega⟩
    rw [x45]
    by_cases y : u = j
    · rw [if_pos y, y, fr3 46 (by decide)]; exact cl1 j (by omega)
    · rw [if_neg y]; exact cl3 u (by omega)
theorem R.dv {p b b' m m' : hp_H} {q : Nat} (h : R b m) (sr : SRu p q b m) (fb : FRd b b') (dv : DV0 b') (e11 : b' 64 11 = nI 1) (d : DVm p b' m) (fm : FRm m m') : R b' m' := by
  obtain ⟨f, f64⟩ := fb
  have g : ∀ k, k < 52 → k ≠ 16 → k ≠ 21 → b' k = b k := fun k h1 h2 h3 => f k h2 h3 (by omega) (by omega) (by omega) (by omega) (by rw [hV]; omega)
  have pb : PB b b' := ⟨fun k hk => by unfold PBc at hk; exact f k (by omega) (by omega) (by omega) (by omega) (by omega) (by omega) (by rw [hV]; omega), by rw [g 3 (by decide) (by decide) (by decide)], by rw [g 12 (by decide) (by decide) (by decide)], by rw [g 1 (by decide) (by decide) (by decide)], by rw [g 15 (by decide) (by decide) (by decide)], by rw [g 23 (by decide) (by decide) (by decide)], by rw [g 1 (by decide) (by decide) (by decide)], by rw [g 2 (by decide) (by decide) (by decide)], by rw [g 7 (by decide) (by decide) (by decide)], f64, by rw [g 15 (by decide) (by decide) (by decide)]⟩
  have t := h.1
  refine ⟨⟨t.1.cg fm.pm, t.2.1.cg pb fm.pm, t.2.2.1.cg pb fm.pm, t.2.2.2.1.cg fm.pm, dv⟩, Or.inr ⟨p, q, ?_⟩⟩
  obtain ⟨⟨v, pv, ft, ab, am, hq, e33, e34, -⟩, c⟩ := sr
  exact ⟨v, ⟨fun k h1 h2 => by rw [fm k (by omega)]; exact pv.1 k h1 h2, by rw [fm 0 (by decide)]; exact pv.2⟩, ft, ab.fs (fun k h1 h2 => g k (by omega) (by omega) (by omega)), am.fs (fm 0 (by decide)) (fun k h1 h2 => fm k (by omega)), hq, by rw [fm 0 (by decide)]; exact e33, by rw [fm 0 (by decide)]; exact e34, Or.inr ⟨e11, c, d.fr rfl rfl rfl rfl dv (by rw [fm 0 (by decide)]) (fm 26 (by decide))⟩⟩
theorem t_classes {b m : hp_H} (h : R b m) : q_X11_classes b (fun r b' => q_X12_classes m (fun r' m' => r = r' ∧ R b' m')) := by
  unfold q_X11_classes q_X12_classes
  rcases h.c with ⟨n1, n2⟩ | ⟨u1, u2, p, q, sr⟩
  · exact b_nus n1 (br00 (m_nus n2 (br00 ⟨rfl, h⟩)))
  refine b_us u1 (br1 (s_makeSure h.1 sr (fun b' fb dv e11 d => m_us u2 (br1 (m_divide h.1 sr (fun m' fm _ _ _ => ⟨d.1, h.dv sr fb dv e11 d fm⟩))))))
theorem t_classOf {b m : hp_H} (h : R b m) (a1 : Int32) : q_X11_classOf b a1 (fun r b' => q_X12_classOf m a1 (fun r' m' => r = r' ∧ R b' m')) := by
  unfold q_X11_classOf q_X12_classOf
  rcases h.c with ⟨n1, n2⟩ | ⟨u1, u2, p, q, sr⟩
  · exact b_nus n1 (br00 (m_nus n2 (br00 ⟨rfl, h⟩)))
  obtain ⟨n4, eb, em, dgs, rws, -⟩ := sr.n
  have n31 : gN (srch p) < 2 ^ 31 := by omega
  refine b_us u1 (br1 (b_has u1 eb n31 (fun z => br1 ?_) (fun z => br00 (m_us u2 (br1 (m_isSt em n31 (fun y => absurd y z) (fun _ => br00 ⟨rfl, h⟩)))))))
  have z' := z
  obtain ⟨s, hs, rfl⟩ := z
  refine s_makeSure h.1 sr (fun b' fb dv e11 d => ?_)
  obtain ⟨P, P', pw, eP, -, -, -⟩ := dv_w dv
  rintro w rfl
  refine ⟨by rw [eP]; exact pw.o.1, nu_in (by omega) (by decide), ?_⟩
  refine m_us u2 (br1 (m_isSt em n31 (fun _ => br1 (m_divide h.1 sr (fun m' fm d1 d4 d2 => ⟨fun c => ?_, fun _ => ⟨nu_in (by omega) (by decide), ?_, h.dv sr fb dv e11 d fm⟩⟩))) (fun y => absurd z' y)))
  · rw [← nI_0, nI_leI (by omega) (by decide)] at c
    omega
  · rw [nI_clamp (show s < 2 ^ 31 by omega), d2 s hs]
    exact d.2 s hs
