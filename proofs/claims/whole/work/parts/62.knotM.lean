/-! ===== the reference's knots ===== -/
/-- how many are not marked yet -/
def c0 (h : hp_H) (z : Nat) : Nat → Nat := fun t => if h z t = 0 then 1 else 0
theorem c0_up {h h' : hp_H} {z t N : Nat} (e : h' = hp_up h z t (nI 1)) (ht : t < N) (h0 : h z t = 0) : sm (c0 h' z) N + 1 = sm (c0 h z) N := by
  have q : c0 h' z = va_up (c0 h z) t 0 := by
    funext u
    unfold c0
    rw [e]
    simp only [hp_at, if_true, upd]
    by_cases y : u = t
    · rw [if_pos y, y, va_e, if_neg (by decide)]
    · rw [if_neg y, va_n _ _ y]
  have := (sm_up (f := c0 h z) (i := t) (v := 0) N).1 ht
  rw [q]
  have e1 : c0 h z t = 1 := if_pos h0
  omega
theorem MM.t {p m : hp_H} (mm : MM p m) {s k : Nat} (hs : s < gN (srch p)) (hk : k < nt (srch p 31 (s + 1))) : k < gK (srch p) ∧ k < 6000 ∧ m 32 k = nI (nt (srch p 32 k)) ∧ nt (srch p 32 k) < gN (srch p) ∧ nt (srch p 32 k) < 400 ∧ m 33 k = srch p 33 k ∧ m 34 k = srch p 34 k := by
  obtain ⟨n4, e35, fs, f31, f32⟩ := mm
  obtain ⟨l1, l2, l3, l4, l5⟩ := fs.r hs
  have kG : k < gK (srch p) := by omega
  obtain ⟨mv1, mv2, -⟩ := fs.1.2.2.2.2 k kG
  exact ⟨kG, by omega, by rw [(f32 k kG).1]; exact mv1.1, mv2, by omega, (f32 k kG).2.1, (f32 k kG).2.2.1⟩
theorem RE.lt {p m : hp_H} {W : Nat → Prop} {s t : Nat} (mm : MM p m) (hs : s < gN (srch p)) (h : RE (srch p) W s t) : t < gN (srch p) := by
  refine h (fun t => t < gN (srch p)) hs (fun x y hx _ ⟨k, k1, k2, k3⟩ => ?_)
  rw [← k3]; exact (mm.t hx k2).2.2.2.1
set_option maxHeartbeats 1000000 in
theorem m_goAhead {p m : hp_H} {W : Nat → Prop} {a : Nat} {Q : hp_H → Prop} (mm : MM p m) (hW : ∀ s, s < gN (srch p) → (¬ m 40 s = 0 ↔ W s)) (ha : a < gN (srch p)) (hQ : ∀ m', (∀ k, k ≠ 41 → m' k = m k) → (∀ t, t < gN (srch p) → (¬ m' 41 t = 0 ↔ RE (srch p) W a t)) → Q m') : q_X12_goAhead m (nI a) Q := by
  have mm0 := mm
  obtain ⟨n4, e35, fs, f31, f32⟩ := mm
  unfold q_X12_goAhead
  refine hp_lp1h_ind (fun x h => ∃ j, x = nI j ∧ j ≤ gN (srch p) ∧ (∀ k, k ≠ 41 → h k = m k) ∧ ∀ t, t < j → (¬ h 41 t = 0 ↔ t = a)) (fun x h => 400 - nt x) ?_ ⟨0, rfl, by omega, fun _ _ => rfl, fun t ht => by omega⟩
  rintro x h ⟨j, rfl, hj, fr, hz⟩
  have e35' : h 0 35 = nI (gN (srch p)) := by rw [fr 0 (by decide)]; exact e35
  rw [e35', nI_leI (by omega) (by omega), nI_eq (by omega) (by omega), nI_clamp (show j < 2 ^ 31 by omega)]
  refine ⟨fun c => ?_, fun c => ?_⟩
  case refine_2 =>
    refine jn1_two (p := j = a) (fun K k1 k0 => ⟨k1, k0⟩) (fun z => ⟨nu_in (by omega) (by decide), bz1, ?_⟩) (fun z => ⟨nu_in (by omega) (by decide), bz0, ?_⟩)
    all_goals
      rintro h33 e33 w rfl
      rw [nI_add]
      refine ⟨⟨j + 1, rfl, by omega, fun k hk => by rw [e33, hp_at, if_neg hk]; exact fr k hk, fun t ht => ?_⟩, by rw [nt_nI (by omega), nt_nI (by omega)]; omega⟩
      rw [e33, hp_at, if_pos rfl]
      unfold upd
      by_cases y : t = j
    · rw [if_pos y, y]; exact ⟨fun _ => z, fun _ => by decide⟩
    · rw [if_neg y]; exact hz t (by omega)
    · rw [if_pos y, y]; exact ⟨fun q => absurd rfl q, fun q => absurd q z⟩
    · rw [if_neg y]; exact hz t (by omega)
  have hz' : ∀ t, t < gN (srch p) → (¬ h 41 t = 0 ↔ t = a) := fun t ht => hz t (by omega)
  refine hp_lp1h_ind (fun x h => (∀ k, k ≠ 41 → h k = m k) ∧ (∀ t, t < gN (srch p) → ¬ h 41 t = 0 → RE (srch p) W a t) ∧ ¬ h 41 a = 0 ∧ (x = nI 1 ∨ (x = nI 0 ∧ ∀ s k, s < gN (srch p) → ¬ h 41 s = 0 → nt (srch p 31 s) ≤ k → k < nt (srch p 31 (s + 1)) → W (nt (srch p 32 k)) → ¬ h 41 (nt (srch p 32 k)) = 0))) (fun x h => if x = 0 then 0 else 1 + sm (c0 h 41) (gN (srch p))) ?_ ⟨fr, fun t ht q => by rw [(hz' t ht).mp q]; exact RE.rf, (hz' a ha).mpr rfl, Or.inl rfl⟩
  clear hz' hz fr e35' c hj
  clear h j
  rintro x h ⟨fr, snd, ina, hx⟩
  refine ⟨fun c => ?_, fun c => ?_⟩
  · rcases hx with z | ⟨_, z⟩
    · rw [z] at c; exact absurd c (by decide)
    · refine hQ h fr (fun t ht => ⟨snd t ht, fun r => ?_⟩)
      exact (r (fun y => y < gN (srch p) ∧ ¬ h 41 y = 0) ⟨ha, ina⟩ (fun u y hu wy ⟨k, k1, k2, k3⟩ => by
        subst k3
        exact ⟨(mm0.t hu.1 k2).2.2.2.1, z u k hu.1 hu.2 k1 k2 wy⟩)).2
  have x1 : x = nI 1 := by rcases hx with z | ⟨z, _⟩; exact z; exact absurd z c
  subst x1
  clear hx
  -- one pass
  refine hp_lp2h_ind (fun y z h' => ∃ s, z = nI s ∧ s ≤ gN (srch p) ∧ (∀ k, k ≠ 41 → h' k = m k) ∧ (∀ t, t < gN (srch p) → ¬ h' 41 t = 0 → RE (srch p) W a t) ∧ ¬ h' 41 a = 0 ∧ ((y = nI 1 ∧ sm (c0 h' 41) (gN (srch p)) < sm (c0 h 41) (gN (srch p))) ∨ (y = nI 0 ∧ sm (c0 h' 41) (gN (srch p)) ≤ sm (c0 h 41) (gN (srch p)) ∧ ∀ s' k, s' < s → ¬ h' 41 s' = 0 → nt (srch p 31 s') ≤ k → k < nt (srch p 31 (s' + 1)) → W (nt (srch p 32 k)) → ¬ h' 41 (nt (srch p 32 k)) = 0))) (fun y z h' => 400 - nt z) ?_ ⟨0, rfl, by omega, fr, snd, ina, Or.inr ⟨rfl, Nat.le_refl _, fun s' k hs => by omega⟩⟩
  rintro y z h' ⟨s, rfl, hs, fr', snd', ina', hy⟩
  have mm' : MM p h' := mm0.fr (fun k hk => fr' k (by omega))
  have e35' : h' 0 35 = nI (gN (srch p)) := mm'.2.1
  rw [e35', nI_leI (by omega) (by omega)]
  refine ⟨fun c2 => ?_, fun c2 => ⟨nu_in (by omega) (by decide), ?_⟩⟩
  · refine ⟨⟨fr', snd', ina', ?_⟩, ?_⟩
    · rcases hy with ⟨q, _⟩ | ⟨q, _, q2⟩
      · exact Or.inl q
      · exact Or.inr ⟨q, fun s' k h1 => q2 s' k (by omega)⟩
    · rw [if_neg (show ¬ nI 1 = 0 by decide)]
      rcases hy with ⟨q, q2⟩ | ⟨q, _⟩
      · rw [q, if_neg (show ¬ nI 1 = 0 by decide)]; omega
      · rw [q, if_pos (show nI 0 = 0 by rfl)]; omega
  have sN : s < gN (srch p) := by omega
  obtain ⟨l1, l2, l3, l4, l5⟩ := fs.r sN
  rintro v14 rfl
  rw [nI_clamp (show s < 2 ^ 31 by omega), mm'.2.2.2.1 s (by omega)]
  refine hp_lp2h_ind (fun y z h'' => ∃ k, z = nI k ∧ nt (srch p 31 s) ≤ k ∧ k ≤ nt (srch p 31 (s + 1)) ∧ (∀ k, k ≠ 41 → h'' k = m k) ∧ (∀ t, t < gN (srch p) → ¬ h'' 41 t = 0 → RE (srch p) W a t) ∧ ¬ h'' 41 a = 0 ∧ ((y = nI 1 ∧ sm (c0 h'' 41) (gN (srch p)) < sm (c0 h 41) (gN (srch p))) ∨ (y = nI 0 ∧ sm (c0 h'' 41) (gN (srch p)) ≤ sm (c0 h 41) (gN (srch p)) ∧ (∀ s' k', s' < s → ¬ h'' 41 s' = 0 → nt (srch p 31 s') ≤ k' → k' < nt (srch p 31 (s' + 1)) → W (nt (srch p 32 k')) → ¬ h'' 41 (nt (srch p 32 k')) = 0) ∧ (¬ h'' 41 s = 0 → ∀ k', nt (srch p 31 s) ≤ k' → k' < k → W (nt (srch p 32 k')) → ¬ h'' 41 (nt (srch p 32 k')) = 0)))) (fun y z h'' => 6000 - nt z) ?_ ⟨nt (srch p 31 s), l1, Nat.le_refl _, l3, fr', snd', ina', ?_⟩
  case refine_2 =>
    rcases hy with q | ⟨q1, q2, q3⟩
    · exact Or.inl q
    · exact Or.inr ⟨q1, q2, q3, fun _ k' k1 k2 => by omega⟩
  clear hy ina' snd' fr' mm' e35'
  clear h'
  rintro y z h' ⟨k, rfl, k1, k2, fr', snd', ina', hy⟩
  have mm' : MM p h' := mm0.fr (fun k hk => fr' k (by omega))
  rw [nI_add, nI_clamp (show s + 1 < 2 ^ 31 by omega), mm'.2.2.2.1 (s + 1) (by omega)]
  have el : (srch p 31 (s + 1) ≤ nI k) ↔ nt (srch p 31 (s + 1)) ≤ k := isn_leR (b := 6000) ⟨l2, by omega⟩ (by decide) (by omega)
  rw [el]
  refine ⟨nu_in (by omega) (by decide), nt (srch p 31 (s + 1)) ≤ k ∨ h' 41 s = 0, ⟨fun c3 => Or.inl c3, fun c3 => ⟨nu_in (by omega) (by decide), fun c4 => Or.inr c4, fun c4 => ?_⟩⟩, fun ex => ?_⟩
  case refine_2 =>
    rintro w rfl
    refine ⟨⟨s + 1, rfl, by omega, fr', snd', ina', ?_⟩, by rw [nt_nI (by omega), nt_nI (by omega)]; omega⟩
    rcases hy with q | ⟨q1, q2, q3, q4⟩
    · exact Or.inl q
    · refine Or.inr ⟨q1, q2, fun s' k' h1 h2 h3 h4 h5 => ?_⟩
      rcases (show s' < s ∨ s' = s by omega) with w | w
      · exact q3 s' k' w h2 h3 h4 h5
      · subst w
        rcases ex with ex | ex
        · exact q4 h2 k' h3 (by omega) h5
        · exact absurd ex h2
  obtain ⟨t1, t2, t3, t4, t5, -⟩ := mm'.t sN (show k < nt (srch p 31 (s + 1)) by omega)
  have i6 : vp_in (nI k) 6000 := nu_in (by omega) (by decide)
  have it : vp_in (nI (nt (srch p 32 k))) 400 := nu_in (by omega) (by decide)
  rw [nI_clamp (show k < 2 ^ 31 by omega), t3, nI_clamp (show nt (srch p 32 k) < 2 ^ 31 by omega), fr' 40 (by decide)]
  have wt := hW _ t4
  -- nothing new
  have old : ∀ v28, v28 = nI k + nI 1 → (W (nt (srch p 32 k)) → ¬ h' 41 (nt (srch p 32 k)) = 0) → (∃ k, v28 = nI k ∧ nt (srch p 31 s) ≤ k ∧ k ≤ nt (srch p 31 (s + 1)) ∧ (∀ k, k ≠ 41 → h' k = m k) ∧ (∀ t, t < gN (srch p) → ¬ h' 41 t = 0 → RE (srch p) W a t) ∧ ¬ h' 41 a = 0 ∧ ((y = nI 1 ∧ sm (c0 h' 41) (gN (srch p)) < sm (c0 h 41) (gN (srch p))) ∨ (y = nI 0 ∧ sm (c0 h' 41) (gN (srch p)) ≤ sm (c0 h 41) (gN (srch p)) ∧ (∀ s' k', s' < s → ¬ h' 41 s' = 0 → nt (srch p 31 s') ≤ k' → k' < nt (srch p 31 (s' + 1)) → W (nt (srch p 32 k')) → ¬ h' 41 (nt (srch p 32 k')) = 0) ∧ (¬ h' 41 s = 0 → ∀ k', nt (srch p 31 s) ≤ k' → k' < k → W (nt (srch p 32 k')) → ¬ h' 41 (nt (srch p 32 k')) = 0)))) ∧ 6000 - nt v28 < 6000 - nt (nI k) := by
    rintro v28 rfl q
    rw [nI_add]
    refine ⟨⟨k + 1, rfl, by omega, by omega, fr', snd', ina', ?_⟩, by rw [nt_nI (by omega), nt_nI (by omega)]; omega⟩
    rcases hy with z | ⟨q1, q2, q3, q4⟩
    · exact Or.inl z
    · refine Or.inr ⟨q1, q2, q3, fun h2 k' h3 h4 h5 => ?_⟩
      rcases (show k' < k ∨ k' = k by omega) with w | w
      · exact q4 h2 k' h3 w h5
      · rw [w] at h5 ⊢; exact q h5
  refine ⟨i6, it, hp_jn1h_i ⟨fun c5 => fun v28 e28 => old v28 e28 (fun q => absurd c5 (wt.mpr q)), fun c5 => ⟨i6, it, fun c6 => ⟨i6, it, ?_⟩, fun c6 => fun v28 e28 => old v28 e28 (fun _ => c6)⟩⟩⟩
  rintro h27 e27 v28 rfl
  rw [nI_add]
  have x41 : ∀ t, h27 41 t = if t = nt (srch p 32 k) then nI 1 else h' 41 t := by intro t; rw [e27]; simp [hp_at, upd]
  have cu := c0_up e27 t4 c6
  refine ⟨⟨k + 1, rfl, by omega, by omega, fun k hk => by rw [e27, hp_at, if_neg hk]; exact fr' k hk, fun t ht q => ?_, ?_, Or.inl ⟨rfl, ?_⟩⟩, by rw [nt_nI (by omega), nt_nI (by omega)]; omega⟩
  · rw [x41] at q
    by_cases w : t = nt (srch p 32 k)
    · rw [w]; exact (snd' s sN c4).st (wt.mp c5) ⟨k, k1, by omega, rfl⟩
    · rw [if_neg w] at q; exact snd' t ht q
  · rw [x41]
    by_cases w : a = nt (srch p 32 k)
    · rw [if_pos w]; decide
    · rw [if_neg w]; exact ina'
  · rcases hy with ⟨_, z⟩ | ⟨_, z, _⟩ <;> omega
set_option maxHeartbeats 1000000 in
theorem m_goBack {p m : hp_H} {W : Nat → Prop} {a : Nat} {Q : hp_H → Prop} (mm : MM p m) (hW : ∀ s, s < gN (srch p) → (¬ m 40 s = 0 ↔ W s)) (ha : a < gN (srch p)) (Wa : W a) (hQ : ∀ m', (∀ k, k ≠ 42 → m' k = m k) → (∀ t, t < gN (srch p) → (¬ m' 42 t = 0 ↔ W t ∧ RE (srch p) W t a)) → Q m') : q_X12_goBack m (nI a) Q := by
  have mm0 := mm
  obtain ⟨n4, e35, fs, f31, f32⟩ := mm
  unfold q_X12_goBack
  refine hp_lp1h_ind (fun x h => ∃ j, x = nI j ∧ j ≤ gN (srch p) ∧ (∀ k, k ≠ 42 → h k = m k) ∧ ∀ t, t < j → (¬ h 42 t = 0 ↔ t = a)) (fun x h => 400 - nt x) ?_ ⟨0, rfl, by omega, fun _ _ => rfl, fun t ht => by omega⟩
  rintro x h ⟨j, rfl, hj, fr, hz⟩
  have e35' : h 0 35 = nI (gN (srch p)) := by rw [fr 0 (by decide)]; exact e35
  rw [e35', nI_leI (by omega) (by omega), nI_eq (by omega) (by omega), nI_clamp (show j < 2 ^ 31 by omega)]
  refine ⟨fun c => ?_, fun c => ?_⟩
  case refine_2 =>
    refine jn1_two (p := j = a) (fun K k1 k0 => ⟨k1, k0⟩) (fun z => ⟨nu_in (by omega) (by decide), bz1, ?_⟩) (fun z => ⟨nu_in (by omega) (by decide), bz0, ?_⟩)
    all_goals
      rintro h33 e33 w rfl
      rw [nI_add]
      refine ⟨⟨j + 1, rfl, by omega, fun k hk => by rw [e33, hp_at, if_neg hk]; exact fr k hk, fun t ht => ?_⟩, by rw [nt_nI (by omega), nt_nI (by omega)]; omega⟩
      rw [e33, hp_at, if_pos rfl]
      unfold upd
      by_cases y : t = j
    · rw [if_pos y, y]; exact ⟨fun _ => z, fun _ => by decide⟩
    · rw [if_neg y]; exact hz t (by omega)
    · rw [if_pos y, y]; exact ⟨fun q => absurd rfl q, fun q => absurd q z⟩
    · rw [if_neg y]; exact hz t (by omega)
  have hz' : ∀ t, t < gN (srch p) → (¬ h 42 t = 0 ↔ t = a) := fun t ht => hz t (by omega)
  refine hp_lp1h_ind (fun x h => (∀ k, k ≠ 42 → h k = m k) ∧ (∀ t, t < gN (srch p) → ¬ h 42 t = 0 → W t ∧ RE (srch p) W t a) ∧ ¬ h 42 a = 0 ∧ (x = nI 1 ∨ (x = nI 0 ∧ ∀ s k, s < gN (srch p) → W s → h 42 s = 0 → nt (srch p 31 s) ≤ k → k < nt (srch p 31 (s + 1)) → h 42 (nt (srch p 32 k)) = 0))) (fun x h => if x = 0 then 0 else 1 + sm (c0 h 42) (gN (srch p))) ?_ ⟨fr, fun t ht q => by rw [(hz' t ht).mp q]; exact ⟨Wa, RE.rf⟩, (hz' a ha).mpr rfl, Or.inl rfl⟩
  clear hz' hz fr e35' c hj
  clear h j
  rintro x h ⟨fr, snd, ina, hx⟩
  refine ⟨fun c => ?_, fun c => ?_⟩
  · rcases hx with z | ⟨_, z⟩
    · rw [z] at c; exact absurd c (by decide)
    · refine hQ h fr (fun t ht => ⟨snd t ht, fun r q => ?_⟩)
      exact ina (r.2 (fun y => y < gN (srch p) ∧ W y ∧ h 42 y = 0) ⟨ht, r.1, q⟩ (fun u y hu wy ⟨k, k1, k2, k3⟩ => by
        subst k3
        exact ⟨(mm0.t hu.1 k2).2.2.2.1, wy, z u k hu.1 hu.2.1 hu.2.2 k1 k2⟩)).2.2
  have x1 : x = nI 1 := by rcases hx with z | ⟨z, _⟩; exact z; exact absurd z c
  subst x1
  clear hx
  have e35' : h 0 35 = nI (gN (srch p)) := by rw [fr 0 (by decide)]; exact e35
  rintro v9 rfl
  rw [e35']
  -- one pass, from the last one down
  refine hp_lp2h_ind (fun y z h' => ∃ n, z = nI n - nI 1 ∧ n ≤ gN (srch p) ∧ (∀ k, k ≠ 42 → h' k = m k) ∧ (∀ t, t < gN (srch p) → ¬ h' 42 t = 0 → W t ∧ RE (srch p) W t a) ∧ ¬ h' 42 a = 0 ∧ ((y = nI 1 ∧ sm (c0 h' 42) (gN (srch p)) < sm (c0 h 42) (gN (srch p))) ∨ (y = nI 0 ∧ sm (c0 h' 42) (gN (srch p)) ≤ sm (c0 h 42) (gN (srch p)) ∧ ∀ s' k, n ≤ s' → s' < gN (srch p) → W s' → h' 42 s' = 0 → nt (srch p 31 s') ≤ k → k < nt (srch p 31 (s' + 1)) → h' 42 (nt (srch p 32 k)) = 0))) (fun y z h' => nt (z + nI 1)) ?_ ⟨gN (srch p), rfl, Nat.le_refl _, fr, snd, ina, Or.inr ⟨rfl, Nat.le_refl _, fun s' k h1 h2 => by omega⟩⟩
  rintro y z h' ⟨n, rfl, hn, fr', snd', ina', hy⟩
  have mm' : MM p h' := mm0.fr (fun k hk => fr' k (by omega))
  rw [nI_neg (by omega)]
  refine ⟨fun c2 => ?_, fun c2 => ?_⟩
  · refine ⟨⟨fr', snd', ina', ?_⟩, ?_⟩
    · rcases hy with ⟨q, _⟩ | ⟨q, _, q2⟩
      · exact Or.inl q
      · exact Or.inr ⟨q, fun s' k h1 => q2 s' k (by omega) h1⟩
    · rw [if_neg (show ¬ nI 1 = 0 by decide)]
      rcases hy with ⟨q, q2⟩ | ⟨q, _⟩
      · rw [q, if_neg (show ¬ nI 1 = 0 by decide)]; omega
      · rw [q, if_pos (show nI 0 = 0 by rfl)]; omega
  obtain ⟨s, rfl⟩ : ∃ s, n = s + 1 := ⟨n - 1, by omega⟩
  have sN : s < gN (srch p) := by omega
  obtain ⟨l1, l2, l3, l4, l5⟩ := fs.r sN
  have es : nI (s + 1) - nI 1 = nI s := by rw [pk_sub (by omega), Nat.add_sub_cancel]
  rw [es]
  refine ⟨nu_in (by omega) (by decide), ?_⟩
  rintro v15 rfl
  rw [nI_clamp (show s < 2 ^ 31 by omega), mm'.2.2.2.1 s (by omega)]
  refine hp_lp2h_ind (fun y z h'' => ∃ k, z = nI k ∧ nt (srch p 31 s) ≤ k ∧ k ≤ nt (srch p 31 (s + 1)) ∧ (∀ k, k ≠ 42 → h'' k = m k) ∧ (∀ t, t < gN (srch p) → ¬ h'' 42 t = 0 → W t ∧ RE (srch p) W t a) ∧ ¬ h'' 42 a = 0 ∧ ((y = nI 1 ∧ sm (c0 h'' 42) (gN (srch p)) < sm (c0 h 42) (gN (srch p))) ∨ (y = nI 0 ∧ sm (c0 h'' 42) (gN (srch p)) ≤ sm (c0 h 42) (gN (srch p)) ∧ (∀ s' k', s + 1 ≤ s' → s' < gN (srch p) → W s' → h'' 42 s' = 0 → nt (srch p 31 s') ≤ k' → k' < nt (srch p 31 (s' + 1)) → h'' 42 (nt (srch p 32 k')) = 0) ∧ (W s → h'' 42 s = 0 → ∀ k', nt (srch p 31 s) ≤ k' → k' < k → h'' 42 (nt (srch p 32 k')) = 0)))) (fun y z h'' => 6000 - nt z) ?_ ⟨nt (srch p 31 s), l1, Nat.le_refl _, l3, fr', snd', ina', ?_⟩
  case refine_2 =>
    rcases hy with q | ⟨q1, q2, q3⟩
    · exact Or.inl q
    · exact Or.inr ⟨q1, q2, q3, fun _ _ k' k1 k2 => by omega⟩
  clear hy ina' snd' fr' mm'
  clear h'
  rintro y z h' ⟨k, rfl, k1, k2, fr', snd', ina', hy⟩
  have mm' : MM p h' := mm0.fr (fun k hk => fr' k (by omega))
  rw [nI_add, nI_clamp (show s + 1 < 2 ^ 31 by omega), mm'.2.2.2.1 (s + 1) (by omega)]
  have el : (srch p 31 (s + 1) ≤ nI k) ↔ nt (srch p 31 (s + 1)) ≤ k := isn_leR (b := 6000) ⟨l2, by omega⟩ (by decide) (by omega)
  have ws := hW s sN
  rw [el, fr' 40 (by decide)]
  refine ⟨nu_in (by omega) (by decide), nt (srch p 31 (s + 1)) ≤ k ∨ ¬ W s ∨ ¬ h' 42 s = 0, ⟨fun c3 => Or.inl c3, fun c3 => ⟨nu_in (by omega) (by decide), fun c4 => Or.inr (Or.inl (fun q => ws.mpr q c4)), fun c4 => ⟨nu_in (by omega) (by decide), fun c5 => ?_, fun c5 => Or.inr (Or.inr c5)⟩⟩⟩, fun ex => ?_⟩
  case refine_2 =>
    rintro w rfl
    rw [nI_m1]
    refine ⟨⟨s, rfl, by omega, fr', snd', ina', ?_⟩, by rw [Int32.sub_add_cancel, nt_nI (by omega), nt_nI (by omega)]; omega⟩
    rcases hy with q | ⟨q1, q2, q3, q4⟩
    · exact Or.inl q
    · refine Or.inr ⟨q1, q2, fun s' k' h1 h1' h2 h3 h4 h5 => ?_⟩
      rcases (show s + 1 ≤ s' ∨ s' = s by omega) with w | w
      · exact q3 s' k' w h1' h2 h3 h4 h5
      · subst w
        rcases ex with ex | ex | ex
        · exact q4 h2 h3 k' h4 (by omega)
        · exact absurd h2 ex
        · exact absurd h3 ex
  obtain ⟨t1, t2, t3, t4, t5, -⟩ := mm'.t sN (show k < nt (srch p 31 (s + 1)) by omega)
  have i6 : vp_in (nI k) 6000 := nu_in (by omega) (by decide)
  have it : vp_in (nI (nt (srch p 32 k))) 400 := nu_in (by omega) (by decide)
  rw [nI_clamp (show k < 2 ^ 31 by omega), t3, nI_clamp (show nt (srch p 32 k) < 2 ^ 31 by omega)]
  refine ⟨i6, it, hp_jn1h_i ⟨fun c6 => ?_, fun c6 => ⟨nu_in (by omega) (by decide), ?_⟩⟩⟩
  · rintro v28 rfl
    rw [nI_add]
    refine ⟨⟨k + 1, rfl, by omega, by omega, fr', snd', ina', ?_⟩, by rw [nt_nI (by omega), nt_nI (by omega)]; omega⟩
    rcases hy with z | ⟨q1, q2, q3, q4⟩
    · exact Or.inl z
    · refine Or.inr ⟨q1, q2, q3, fun h1 h2 k' h3 h4 => ?_⟩
      rcases (show k' < k ∨ k' = k by omega) with w | w
      · exact q4 h1 h2 k' h3 w
      · rw [w]; exact c6
  · rintro h28 e28 v29 rfl
    rw [nI_add]
    have x42 : ∀ t, h28 42 t = if t = s then nI 1 else h' 42 t := by intro t; rw [e28]; simp [hp_at, upd]
    have cu := c0_up e28 sN c5
    refine ⟨⟨k + 1, rfl, by omega, by omega, fun k hk => by rw [e28, hp_at, if_neg hk]; exact fr' k hk, fun t ht q => ?_, ?_, Or.inl ⟨rfl, ?_⟩⟩, by rw [nt_nI (by omega), nt_nI (by omega)]; omega⟩
    · rw [x42] at q
      by_cases w : t = s
      · have := snd' _ t4 c6
        rw [w]; exact ⟨ws.mp c4, (RE.one this.1 ⟨k, k1, by omega, rfl⟩).tr this.2⟩
      · rw [if_neg w] at q; exact snd' t ht q
    · rw [x42]
      by_cases w : a = s
      · rw [if_pos w]; decide
      · rw [if_neg w]; exact ina'
    · rcases hy with ⟨_, z⟩ | ⟨_, z, _⟩ <;> omega
theorem m_hasMove {p m : hp_H} {A : Nat → Prop} {Q : Int32 → Prop} (mm : MM p m) (hA : ∀ s, s < gN (srch p) → (¬ m 41 s = 0 ↔ A s)) (h1 : (∃ u k, u < gN (srch p) ∧ A u ∧ nt (srch p 31 u) ≤ k ∧ k < nt (srch p 31 (u + 1)) ∧ ¬ srch p 33 k = -1 ∧ A (nt (srch p 32 k))) → Q (nI 1)) (h0 : (¬ ∃ u k, u < gN (srch p) ∧ A u ∧ nt (srch p 31 u) ≤ k ∧ k < nt (srch p 31 (u + 1)) ∧ ¬ srch p 33 k = -1 ∧ A (nt (srch p 32 k))) → Q (nI 0)) : q_X12_hasMove m Q := by
  have mm0 := mm
  obtain ⟨n4, e35, fs, f31, f32⟩ := mm
  unfold q_X12_hasMove
  refine hp_lp1_ind (fun x => ∃ s, x = nI s ∧ s ≤ gN (srch p) ∧ ∀ u k, u < s → A u → nt (srch p 31 u) ≤ k → k < nt (srch p 31 (u + 1)) → ¬ (¬ srch p 33 k = -1 ∧ A (nt (srch p 32 k)))) (fun x => 400 - nt x) ?_ ⟨0, rfl, by omega, fun u k hu => by omega⟩
  rintro x ⟨s, rfl, hs, hk⟩
  rw [e35, nI_leI (by omega) (by omega)]
  refine ⟨fun c => h0 (fun ⟨u, k, q1, q2, q3, q4, q5⟩ => hk u k (by omega) q2 q3 q4 q5), fun c => ⟨nu_in (by omega) (by decide), ?_⟩⟩
  have sN : s < gN (srch p) := by omega
  obtain ⟨l1, l2, l3, l4, l5⟩ := fs.r sN
  rintro v4 rfl
  rw [nI_add, nI_clamp (show s < 2 ^ 31 by omega), nI_clamp (show s + 1 < 2 ^ 31 by omega), f31 s (by omega), f31 (s + 1) (by omega)]
  refine hp_lp1_ind (fun x => ∃ k, x = nI k ∧ nt (srch p 31 s) ≤ k ∧ k ≤ nt (srch p 31 (s + 1)) ∧ (A s → ∀ k', nt (srch p 31 s) ≤ k' → k' < k → ¬ (¬ srch p 33 k' = -1 ∧ A (nt (srch p 32 k'))))) (fun x => 6000 - nt x) ?_ ⟨nt (srch p 31 s), l1, Nat.le_refl _, l3, fun _ k' k1 k2 => by omega⟩
  rintro x ⟨k, rfl, k1, k2, hk2⟩
  have el : (srch p 31 (s + 1) ≤ nI k) ↔ nt (srch p 31 (s + 1)) ≤ k := isn_leR (b := 6000) ⟨l2, by omega⟩ (by decide) (by omega)
  rw [el]
  refine ⟨nu_in (by omega) (by decide), nt (srch p 31 (s + 1)) ≤ k ∨ ¬ A s, ⟨fun c3 => Or.inl c3, fun c3 => ⟨nu_in (by omega) (by decide), fun c4 => Or.inr (fun q => (hA s sN).mpr q c4), fun c4 => ?_⟩⟩, fun ex => ?_⟩
  case refine_2 =>
    rintro w rfl
    refine ⟨⟨s + 1, rfl, by omega, fun u k' h1 h2 h3 h4 => ?_⟩, by rw [nt_nI (by omega), nt_nI (by omega)]; omega⟩
    rcases (show u < s ∨ u = s by omega) with w | w
    · exact hk u k' w h2 h3 h4
    · subst w
      rcases ex with ex | ex
      · exact hk2 h2 k' h3 (by omega)
      · exact absurd h2 ex
  obtain ⟨t1, t2, t3, t4, t5, t6, t7⟩ := mm0.t sN (show k < nt (srch p 31 (s + 1)) by omega)
  have i6 : vp_in (nI k) 6000 := nu_in (by omega) (by decide)
  have As := (hA s sN).mp c4
  rw [nI_clamp (show k < 2 ^ 31 by omega), t6, t3, nI_clamp (show nt (srch p 32 k) < 2 ^ 31 by omega)]
  refine ⟨i6, ¬ (¬ srch p 33 k = -1 ∧ A (nt (srch p 32 k))), ⟨fun c5 q => q.1 c5, fun c5 => ⟨i6, nu_in (by omega) (by decide), fun c6 q => (hA _ t4).mpr q.2 c6, fun c6 => h1 ⟨s, k, sN, As, k1, by omega, c5, (hA _ t4).mp c6⟩⟩⟩, fun q => ?_⟩
  rintro w rfl
  rw [nI_add]
  refine ⟨⟨k + 1, rfl, by omega, by omega, fun _ k' h1 h2 => ?_⟩, by rw [nt_nI (by omega), nt_nI (by omega)]; omega⟩
  rcases (show k' < k ∨ k' = k by omega) with w | w
  · exact hk2 As k' h1 w
  · rw [w]; exact q
/-- a member has its turn -/
def TA (g : hp_H) (A : Nat → Prop) (N : Nat) (a1 a2 : Int32) : Prop := ∃ u, u < N ∧ A u ∧ ((∃ k, nt (g 31 u) ≤ k ∧ k < nt (g 31 (u + 1)) ∧ (g 33 k = a1 ∧ g 34 k = a2) ∧ A (nt (g 32 k))) ∨ ∀ k, nt (g 31 u) ≤ k → k < nt (g 31 (u + 1)) → ¬ (g 33 k = a1 ∧ g 34 k = a2))
theorem m_hasTurn {p m : hp_H} {A : Nat → Prop} {a1 a2 : Int32} {Q : Int32 → Prop} (mm : MM p m) (hA : ∀ s, s < gN (srch p) → (¬ m 41 s = 0 ↔ A s)) (h1 : TA (srch p) A (gN (srch p)) a1 a2 → Q (nI 1)) (h0 : ¬ TA (srch p) A (gN (srch p)) a1 a2 → Q (nI 0)) : q_X12_hasTurn m a1 a2 Q := by
  have mm0 := mm
  obtain ⟨n4, e35, fs, f31, f32⟩ := mm
  unfold q_X12_hasTurn
  refine hp_lp1_ind (fun x => ∃ s, x = nI s ∧ s ≤ gN (srch p) ∧ ∀ u, u < s → A u → ¬ ((∃ k, nt (srch p 31 u) ≤ k ∧ k < nt (srch p 31 (u + 1)) ∧ (srch p 33 k = a1 ∧ srch p 34 k = a2) ∧ A (nt (srch p 32 k))) ∨ ∀ k, nt (srch p 31 u) ≤ k → k < nt (srch p 31 (u + 1)) → ¬ (srch p 33 k = a1 ∧ srch p 34 k = a2))) (fun x => 400 - nt x) ?_ ⟨0, rfl, by omega, fun u hu => by omega⟩
  rintro x ⟨s, rfl, hs, hk⟩
  rw [e35, nI_leI (by omega) (by omega)]
  refine ⟨fun c => h0 (fun ⟨u, q1, q2, q3⟩ => hk u (by omega) q2 q3), fun c => ⟨nu_in (by omega) (by decide), ?_⟩⟩
  have sN : s < gN (srch p) := by omega
  obtain ⟨l1, l2, l3, l4, l5⟩ := fs.r sN
  rintro v4 rfl
  rw [nI_add, nI_clamp (show s < 2 ^ 31 by omega), nI_clamp (show s + 1 < 2 ^ 31 by omega), f31 s (by omega), f31 (s + 1) (by omega)]
  refine hp_lp2_ind (fun y x => ∃ k, x = nI k ∧ nt (srch p 31 s) ≤ k ∧ k ≤ nt (srch p 31 (s + 1)) ∧ ((y = nI 1 ∧ ∃ k', nt (srch p 31 s) ≤ k' ∧ k' < k ∧ srch p 33 k' = a1 ∧ srch p 34 k' = a2) ∨ (y = nI 0 ∧ ∀ k', nt (srch p 31 s) ≤ k' → k' < k → ¬ (srch p 33 k' = a1 ∧ srch p 34 k' = a2))) ∧ ∀ k', nt (srch p 31 s) ≤ k' → k' < k → ¬ ((srch p 33 k' = a1 ∧ srch p 34 k' = a2) ∧ A (nt (srch p 32 k')))) (fun y x => 6000 - nt x) ?_ ⟨nt (srch p 31 s), l1, Nat.le_refl _, l3, Or.inr ⟨rfl, fun k' k1 k2 => by omega⟩, fun k' k1 k2 => by omega⟩
  rintro y x ⟨k, rfl, k1, k2, hy, hk2⟩
  have el : (srch p 31 (s + 1) ≤ nI k) ↔ nt (srch p 31 (s + 1)) ≤ k := isn_leR (b := 6000) ⟨l2, by omega⟩ (by decide) (by omega)
  rw [el]
  refine ⟨nu_in (by omega) (by decide), nt (srch p 31 (s + 1)) ≤ k ∨ ¬ A s, ⟨fun c3 => Or.inl c3, fun c3 => ⟨nu_in (by omega) (by decide), fun c4 => Or.inr (fun q => (hA s sN).mpr q c4), fun c4 => ?_⟩⟩, fun ex => ⟨nu_in (by omega) (by decide), ?_⟩⟩
  case refine_2 =>
    refine ⟨A s → ∃ k', nt (srch p 31 s) ≤ k' ∧ k' < k ∧ srch p 33 k' = a1 ∧ srch p 34 k' = a2, ⟨fun c4 q => absurd c4 ((hA s sN).mpr q), fun c4 => ⟨fun c5 => ?_, fun c5 _ => ?_⟩⟩, fun q => ?_⟩
    · have As := (hA s sN).mp c4
      rcases ex with ex | ex
      · refine h1 ⟨s, sN, As, Or.inr (fun k' w1 w2 => ?_)⟩
        rcases hy with ⟨w, _⟩ | ⟨_, w⟩
        · rw [w] at c5; exact absurd c5 (by decide)
        · exact w k' w1 (by omega)
      · exact absurd As ex
    · rcases hy with ⟨_, w⟩ | ⟨w, _⟩
      · exact w
      · exact absurd w c5
    · rintro w rfl
      refine ⟨⟨s + 1, rfl, by omega, fun u h1 h2 h3 => ?_⟩, by rw [nt_nI (by omega), nt_nI (by omega)]; omega⟩
      rcases (show u < s ∨ u = s by omega) with w | w
      · exact hk u w h2 h3
      · subst w
        rcases ex with ex | ex
        · rcases h3 with ⟨k', w1, w2, w3⟩ | h3
          · exact hk2 k' w1 (by omega) w3
          · obtain ⟨k', w1, w2, w3⟩ := q h2
            exact h3 k' w1 (by omega) w3
        · exact ex h2
  obtain ⟨t1, t2, t3, t4, t5, t6, t7⟩ := mm0.t sN (show k < nt (srch p 31 (s + 1)) by omega)
  have i6 : vp_in (nI k) 6000 := nu_in (by omega) (by decide)
  have As := (hA s sN).mp c4
  rw [nI_clamp (show k < 2 ^ 31 by omega), t6, t7, t3, nI_clamp (show nt (srch p 32 k) < 2 ^ 31 by omega)]
  refine ⟨i6, fun v13 => (v13 = nI 1 ∧ srch p 33 k = a1 ∧ srch p 34 k = a2) ∨ (v13 = nI 0 ∧ ¬ (srch p 33 k = a1 ∧ srch p 34 k = a2)), ⟨¬ (srch p 33 k = a1 ∧ srch p 34 k = a2), ⟨fun c5 => ⟨i6, fun c6 => Or.inl ⟨rfl, c5, c6⟩, fun c6 q => c6 q.2⟩, fun c5 q => c5 q.1⟩, fun q => Or.inr ⟨rfl, q⟩⟩, fun v13 h13 => ?_⟩
  refine ⟨fun v18 => (v18 = nI 1 ∧ ∃ k', nt (srch p 31 s) ≤ k' ∧ k' < k + 1 ∧ srch p 33 k' = a1 ∧ srch p 34 k' = a2) ∨ (v18 = nI 0 ∧ ∀ k', nt (srch p 31 s) ≤ k' → k' < k + 1 → ¬ (srch p 33 k' = a1 ∧ srch p 34 k' = a2)), ⟨∃ k', nt (srch p 31 s) ≤ k' ∧ k' < k + 1 ∧ srch p 33 k' = a1 ∧ srch p 34 k' = a2, ⟨fun c5 => ⟨fun c6 => Or.inr ⟨rfl, fun k' w1 w2 w3 => ?_⟩, fun c6 => ?_⟩, fun c5 => ?_⟩, fun q => Or.inl ⟨rfl, q⟩⟩, fun v18 h18 => ?_⟩
  · rcases (show k' < k ∨ k' = k by omega) with w | w
    · rcases hy with ⟨q, _⟩ | ⟨_, q⟩
      · rw [q] at c5; exact absurd c5 (by decide)
      · exact q k' w1 w w3
    · rw [w] at w3
      rcases h13 with ⟨q, _⟩ | ⟨_, q⟩
      · rw [q] at c6; exact absurd c6 (by decide)
      · exact q w3
  · rcases h13 with ⟨_, q⟩ | ⟨q, _⟩
    · exact ⟨k, k1, by omega, q⟩
    · exact absurd q c6
  · rcases hy with ⟨_, k', w1, w2, w3⟩ | ⟨q, _⟩
    · exact ⟨k', w1, by omega, w3⟩
    · exact absurd q c5
  · refine ⟨¬ ((srch p 33 k = a1 ∧ srch p 34 k = a2) ∧ A (nt (srch p 32 k))), ⟨fun c5 q => ?_, fun c5 => ⟨i6, nu_in (by omega) (by decide), fun c6 q => (hA _ t4).mpr q.2 c6, fun c6 => ?_⟩⟩, fun q => ?_⟩
    · rcases h13 with ⟨w, _⟩ | ⟨_, w⟩
      · rw [w] at c5; exact absurd c5 (by decide)
      · exact w q.1
    · rcases h13 with ⟨_, w⟩ | ⟨w, _⟩
      · exact h1 ⟨s, sN, As, Or.inl ⟨k, k1, by omega, w, (hA _ t4).mp c6⟩⟩
      · exact absurd w c5
    · rintro w rfl
      rw [nI_add]
      refine ⟨⟨k + 1, rfl, by omega, by omega, h18, fun k' w1 w2 => ?_⟩, by rw [nt_nI (by omega), nt_nI (by omega)]; omega⟩
      rcases (show k' < k ∨ k' = k by omega) with w | w
      · exact hk2 k' w1 w
      · rw [w]; exact q
theorem m_isFair {p m : hp_H} {A : Nat → Prop} {Q : Int32 → Prop} (v : VP p) (pv : PV p m) (mm : MM p m) (hA : ∀ s, s < gN (srch p) → (¬ m 41 s = 0 ↔ A s)) (h1 : (∀ r i, r < nt (p 0 4) → i < nt (p 4 r) → TA (srch p) A (gN (srch p)) (nI r) (nI i)) → Q (nI 1)) (h0 : (¬ ∀ r i, r < nt (p 0 4) → i < nt (p 4 r) → TA (srch p) A (gN (srch p)) (nI r) (nI i)) → Q (nI 0)) : q_X12_isFair m Q := by
  have vr := v.2.1
  have R3 := vr.1.2
  have e4 : m 0 4 = nI (nt (p 0 4)) := by rw [pv.2.2.1]; exact vr.1.1
  unfold q_X12_isFair
  refine hp_lp1_ind (fun x => ∃ r, x = nI r ∧ r ≤ nt (p 0 4) ∧ ∀ r' i, r' < r → i < nt (p 4 r') → TA (srch p) A (gN (srch p)) (nI r') (nI i)) (fun x => 3 - nt x) ?_ ⟨0, rfl, by omega, fun r' i h => by omega⟩
  rintro x ⟨r, rfl, hr', hk⟩
  rw [e4, nI_leI (by omega) (by omega)]
  refine ⟨fun c => h1 (fun r' i q1 q2 => hk r' i (by omega) q2), fun c => ?_⟩
  have rr : r < nt (p 0 4) := by omega
  have m4 := (vr.2.2.1 r rr).1
  have m42 := m4.2
  have e13 : m 4 r = nI (nt (p 4 r)) := by rw [pv.1 4 (by decide) (by decide)]; exact m4.1
  refine hp_lp1_ind (fun x => ∃ i, x = nI i ∧ i ≤ nt (p 4 r) ∧ ∀ i', i' < i → TA (srch p) A (gN (srch p)) (nI r) (nI i')) (fun x => 3 - nt x) ?_ ⟨0, rfl, by omega, fun i h => by omega⟩
  rintro x ⟨i, rfl, hi, hk2⟩
  rw [nI_clamp (show r < 2 ^ 31 by omega), e13, nI_leI (by omega) (by omega)]
  refine ⟨nu_in (by omega) (by decide), fun c2 => ?_, fun c2 => ?_⟩
  · rintro w rfl
    rw [nI_add]
    refine ⟨⟨r + 1, rfl, by omega, fun r' i' q1 q2 => ?_⟩, by rw [nt_nI (by omega), nt_nI (by omega)]; omega⟩
    rcases (show r' < r ∨ r' = r by omega) with y | y
    · exact hk r' i' y q2
    · subst y; exact hk2 i' (by omega)
  · refine m_hasTurn mm hA (fun q => br1 ?_) (fun q => br00 (h0 (fun y => q (y r i rr (by omega)))))
    rintro w rfl
    rw [nI_add]
    refine ⟨⟨i + 1, rfl, by omega, fun i' q1 => ?_⟩, by rw [nt_nI (by omega), nt_nI (by omega)]; omega⟩
    rcases (show i' < i ∨ i' = i by omega) with y | y
    · exact hk2 i' y
    · rw [y]; exact q
