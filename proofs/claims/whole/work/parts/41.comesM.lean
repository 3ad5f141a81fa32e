/-! ===== the reference: order, and what comes ===== -/
theorem m_isBehind {m : hp_H} {e : Nat → Nat} {r i : Nat} {Q : Int32 → Prop} (he : ∀ k, e k ≤ 9) (hn : NE m e) (hr : r < 3) (hi : i < 2) (h0 : rw_w e (1 + (3 * r + i)) ≤ rw_w e (2 + (3 * r + i)) → Q (nI 0)) (h1 : ¬ rw_w e (1 + (3 * r + i)) ≤ rw_w e (2 + (3 * r + i)) → Q (nI 1)) : q_X12_isBehind m (nI r) (nI i) (nI (i + 1)) Q := by
  unfold q_X12_isBehind q_X12_memberAt
  rw [mAt, mAt]
  have wa := rw_m e (show 3 * r + i < 9 by omega)
  have wb := rw_m e (show 3 * r + (i + 1) < 9 by omega)
  rw [show 1 + (3 * r + (i + 1)) = 2 + (3 * r + i) by omega] at wb
  refine hp_lp1_ind (fun x => ∃ j, x = nI j ∧ j ≤ 4 ∧ ∀ k, k < j → e (6 + 4 * (3 * r + i) + k) = e (6 + 4 * (3 * r + (i + 1)) + k)) (fun x => 4 - nt x) ?_ ⟨0, rfl, by omega, fun k hk => by omega⟩
  rintro x ⟨j, rfl, hj, hq⟩
  rw [nI_leI (by decide) (by omega), nI_add, nI_add, nI_clamp (show 6 + 4 * (3 * r + i) + j < 2 ^ 31 by omega), nI_clamp (show 6 + 4 * (3 * r + (i + 1)) + j < 2 ^ 31 by omega)]
  have q0 : ∀ k, k < 4 → (6 + 4 * (3 * r + i) + k = 6 + k + 4 * (3 * r + i)) ∧ (6 + 4 * (3 * r + (i + 1)) + k = 6 + k + 4 * (3 * r + (i + 1))) := fun k _ => ⟨by omega, by omega⟩
  have x0 := he (6 + 4 * (3 * r + i)); have x1 := he (7 + 4 * (3 * r + i)); have x2 := he (8 + 4 * (3 * r + i)); have x3 := he (9 + 4 * (3 * r + i))
  have y0 := he (6 + 4 * (3 * r + (i + 1))); have y1 := he (7 + 4 * (3 * r + (i + 1))); have y2 := he (8 + 4 * (3 * r + (i + 1))); have y3 := he (9 + 4 * (3 * r + (i + 1)))
  have g : ∀ k, k < j → e (6 + k + 4 * (3 * r + i)) = e (6 + k + 4 * (3 * r + (i + 1))) := fun k hk => by
    have := hq k hk
    rw [(q0 k (by omega)).1, (q0 k (by omega)).2] at this; exact this
  refine ⟨fun c => h0 ?_, fun c => ⟨nu_in (by omega) (by decide), nu_in (by omega) (by decide), ?_⟩⟩
  · have g0 := g 0 (by omega); have g1 := g 1 (by omega); have g2 := g 2 (by omega); have g3 := g 3 (by omega)
    simp only [Nat.reduceAdd] at g0 g1 g2 g3
    omega
  have a9 := he (6 + 4 * (3 * r + i) + j); have b9 := he (6 + 4 * (3 * r + (i + 1)) + j)
  rw [hn _ (by omega), hn _ (by omega), nI_eq (by omega) (by omega), nI_leI (by omega) (by omega)]
  refine ⟨fun z => ?_, fun z => ⟨nu_in (by omega) (by decide), nu_in (by omega) (by decide), fun y => h0 ?_, fun y => h1 ?_⟩⟩
  · rintro w rfl
    rw [nI_add]
    refine ⟨⟨j + 1, rfl, by omega, fun k hk => ?_⟩, by rw [nt_nI (by omega), nt_nI (by omega)]; omega⟩
    rcases (show k < j ∨ k = j by omega) with y | y
    · exact hq k y
    · subst y; exact z
  · rw [(q0 j (by omega)).1, (q0 j (by omega)).2] at z y
    rcases (show j = 0 ∨ j = 1 ∨ j = 2 ∨ j = 3 by omega) with h | h | h | h <;> subst h
    · simp only [Nat.reduceAdd] at z y; omega
    · have g0 := g 0 (by omega); simp only [Nat.reduceAdd] at z y g0; omega
    · have g0 := g 0 (by omega); have g1 := g 1 (by omega); simp only [Nat.reduceAdd] at z y g0 g1; omega
    · have g0 := g 0 (by omega); have g1 := g 1 (by omega); have g2 := g 2 (by omega); simp only [Nat.reduceAdd] at z y g0 g1 g2; omega
  · rw [(q0 j (by omega)).1, (q0 j (by omega)).2] at z y
    rcases (show j = 0 ∨ j = 1 ∨ j = 2 ∨ j = 3 by omega) with h | h | h | h <;> subst h
    · simp only [Nat.reduceAdd] at z y; omega
    · have g0 := g 0 (by omega); simp only [Nat.reduceAdd] at z y g0; omega
    · have g0 := g 0 (by omega); have g1 := g 1 (by omega); simp only [Nat.reduceAdd] at z y g0 g1; omega
    · have g0 := g 0 (by omega); have g1 := g 1 (by omega); have g2 := g 2 (by omega); simp only [Nat.reduceAdd] at z y g0 g1 g2; omega
def cwl (e : Nat → Nat) (i : Nat) : Nat → Nat → Nat
  | 0 => e
  | k + 1 => rw_cw (cwl e i k) (i + k)
theorem cwl_9 {e : Nat → Nat} {i : Nat} (h : ∀ k, e k ≤ 9) : ∀ n k, cwl e i n k ≤ 9 := by
  intro n
  induction n with
  | zero => exact h
  | succ n ih => exact cw_9 ih
theorem cwl_ar {e : Nat → Nat} {r n : Nat} (hr : r < 3) (hn : 1 ≤ n) (hn3 : n ≤ 3) : cwl (cwl e (3 * r) (n - 1)) (3 * r) (n - 1) = rw_ar e r n := by
  rcases (show n = 1 ∨ n = 2 ∨ n = 3 by omega) with h | h | h
  · subst h; unfold rw_ar; rw [if_neg (by decide), if_neg (by decide)]; rfl
  · subst h
    have a := ar_ss (e := e) hr (show 2 ≤ 3 by decide) 0 (by decide)
    have : rw_ar e r 2 = rw_cw e (3 * r) := by unfold rw_ar; rw [if_neg (by decide), if_pos rfl]
    rw [this] at a ⊢
    simp only [Nat.add_zero] at a
    show rw_cw (rw_cw e (3 * r + 0)) (3 * r + 0) = _
    rw [Nat.add_zero, cw_id a]
  · subst h
    have a := ar_ss (e := e) hr (show 3 ≤ 3 by decide) 1 (by decide)
    have : rw_ar e r 3 = rw_cw (rw_cw (rw_cw e (3 * r)) (3 * r + 1)) (3 * r) := by unfold rw_ar; rw [if_pos rfl]
    rw [this] at a ⊢
    show rw_cw (rw_cw (rw_cw (rw_cw e (3 * r + 0)) (3 * r + 1)) (3 * r + 0)) (3 * r + 1) = _
    rw [Nat.add_zero, cw_id a]
def orf (p : hp_H) (e : Nat → Nat) : Nat → Nat → Nat
  | 0 => e
  | r + 1 => rw_ar (orf p e r) r (nt (p 4 r))
theorem orf_9 {p : hp_H} {e : Nat → Nat} (h : ∀ k, e k ≤ 9) : ∀ n k, orf p e n k ≤ 9 := by
  intro n
  induction n with
  | zero => exact h
  | succ n ih => exact ar_9 ih
theorem orf_id {p : hp_H} {e : Nat → Nat} {n : Nat} (h : ∀ r, r < n → ss e r (nt (p 4 r))) : orf p e n = e := by
  induction n with
  | zero => rfl
  | succ n ih =>
    show rw_ar (orf p e n) n (nt (p 4 n)) = e
    rw [ih (fun r hr => h r (by omega)), ar_id (h n (by omega))]
theorem orf_one {p : hp_H} {e : Nat → Nat} {n r : Nat} (n3 : n ≤ 3) (m3 : ∀ r, r < n → nt (p 4 r) ≤ 3) (hr : r < n) (h : ∀ x, x < n → x ≠ r → ss e x (nt (p 4 x))) : orf p e n = rw_ar e r (nt (p 4 r)) := by
  have key : ∀ k, k ≤ n → orf p e k = if k ≤ r then e else rw_ar e r (nt (p 4 r)) := by
    intro k
    induction k with
    | zero => intro _; rw [if_pos (by omega)]; rfl
    | succ k ih =>
      intro hk
      show rw_ar (orf p e k) k (nt (p 4 k)) = _
      rw [ih (by omega)]
      by_cases z : k < r
      · rw [if_pos (by omega), if_pos (by omega), ar_id (h k (by omega) (by omega))]
      · by_cases z2 : k = r
        · rw [if_pos (by omega), if_neg (by omega), z2]
        · rw [if_neg (by omega), if_neg (by omega)]
          refine ar_id (fun y hy => ?_)
          have y3 := m3 k (by omega)
          have w : ∀ q, q < 3 → rw_w (rw_ar e r (nt (p 4 r))) (1 + (3 * k + q)) = rw_w e (1 + (3 * k + q)) := by
            intro q hq
            exact ww_cg (by omega) (fun x h1 h2 => ar_o (by omega))
          have := h k (by omega) (by omega) y hy
          rw [show 2 + (3 * k + y) = 1 + (3 * k + (y + 1)) by omega] at this ⊢
          rw [w y (by omega), w (y + 1) (by omega)]
          exact this
  rw [key n (Nat.le_refl _), if_neg (by omega)]
set_option maxHeartbeats 1000000 in
theorem m_order {p m : hp_H} {e : Nat → Nat} {Q : hp_H → Prop} (v : VP p) (pv : PV p m) (he : ∀ k, e k ≤ 9) (hn : NE m e) (hQ : ∀ m', (∀ k, k ≠ 36 → m' k = m k) → NE m' (orf p e (nt (p 0 4))) → Q m') : q_X12_order m Q := by
  have vr := v.2.1
  have R3 := vr.1.2
  unfold q_X12_order
  refine hp_lp1h_ind (fun x h => ∃ r, x = nI r ∧ r ≤ nt (p 0 4) ∧ (∀ k, k ≠ 36 → h k = m k) ∧ NE h (orf p e r)) (fun x h => 3 - nt x) ?_ ⟨0, rfl, by omega, fun k _ => rfl, hn⟩
  rintro x h ⟨r, rfl, hr, fr, hN⟩
  have e4 : h 0 4 = nI (nt (p 0 4)) := by rw [fr 0 (by decide), pv.2.2.1]; exact vr.1.1
  rw [e4, nI_leI (by omega) (by omega)]
  refine ⟨fun c => hQ h fr (by rw [show r = nt (p 0 4) by omega] at hN; exact hN), fun c => ?_⟩
  have rr : r < nt (p 0 4) := by omega
  obtain ⟨m4, m1⟩ := vr.2.2.1 r rr
  have m42 := m4.2
  refine hp_lp1h_ind (fun x h => ∃ w e', x = nI w ∧ w ≤ 2 ∧ (∀ k, k ≠ 36 → h k = m k) ∧ NE h e' ∧ (∀ k, e' k ≤ 9) ∧ (w = 0 → e' = orf p e r) ∧ (w = 1 → e' = cwl (orf p e r) (3 * r) (nt (p 4 r) - 1)) ∧ (w = 2 → e' = orf p e (r + 1))) (fun x h => 2 - nt x) ?_ ⟨0, _, rfl, by omega, fr, hN, orf_9 he r, fun _ => rfl, fun z => by omega, fun z => by omega⟩
  rintro x h ⟨w, e', rfl, hw, fr, hN, e9, w0, w1, w2⟩
  rw [nI_leI (by decide) (by omega)]
  refine ⟨fun c => ?_, fun c => ?_⟩
  · rintro y rfl
    rw [nI_add]
    rw [w2 (by omega)] at hN
    exact ⟨⟨r + 1, rfl, by omega, fr, hN⟩, by rw [nt_nI (by omega), nt_nI (by omega)]; omega⟩
  have c9 := fun n => cwl_9 (i := 3 * r) e9 n
  refine hp_lp1h_ind (fun x h => ∃ i, x = nI i ∧ i + 1 ≤ nt (p 4 r) ∧ (∀ k, k ≠ 36 → h k = m k) ∧ NE h (cwl e' (3 * r) i)) (fun x h => 3 - nt x) ?_ ⟨0, rfl, by omega, fr, hN⟩
  rintro x h ⟨i, rfl, hi, fr, hN⟩
  have e4' : h 4 r = nI (nt (p 4 r)) := by rw [fr 4 (by decide), pv.1 4 (by decide) (by decide)]; exact m4.1
  rw [nI_clamp (show r < 2 ^ 31 by omega), e4', nI_add, nI_leI (by omega) (by omega)]
  refine ⟨nu_in (by omega) (by decide), fun c2 => ?_, fun c2 => ?_⟩
  · rintro y rfl
    rw [nI_add]
    have ei : i = nt (p 4 r) - 1 := by omega
    subst ei
    refine ⟨⟨w + 1, _, rfl, by omega, fr, hN, c9 _, fun z => by omega, fun z => by rw [w0 (by omega)], fun z => ?_⟩, by rw [nt_nI (by omega), nt_nI (by omega)]; omega⟩
    rw [w1 (by omega)]
    exact cwl_ar (by omega) m1 m42
  have i2 : i < 2 := by omega
  -- the two may change their places
  have fin : ∀ h18 : hp_H, (∀ k, k ≠ 36 → h18 k = m k) → NE h18 (cwl e' (3 * r) (i + 1)) → ∀ v28 : Int32, v28 = nI (i + 1) → (∃ i, v28 = nI i ∧ i + 1 ≤ nt (p 4 r) ∧ (∀ k, k ≠ 36 → h18 k = m k) ∧ NE h18 (cwl e' (3 * r) i)) ∧ 3 - nt v28 < 3 - nt (nI i) := by
    rintro h18 f18 n18 v28 rfl
    exact ⟨⟨i + 1, rfl, by omega, f18, n18⟩, by rw [nt_nI (by omega), nt_nI (by omega)]; omega⟩
  refine m_isBehind (c9 i) hN (by omega) i2 (fun le => hp_jn0h_i (br00 (fin h fr ?_))) (fun le => hp_jn0h_i (br1 ?_))
  · show NE h (rw_cw (cwl e' (3 * r) i) (3 * r + i))
    rw [cw_id le]; exact hN
  unfold q_X12_memberAt
  rw [mAt]
  refine hp_lp1h_ind (fun x h' => ∃ j, x = nI j ∧ j ≤ 4 ∧ (∀ k, k ≠ 36 → h' k = m k) ∧ ∀ k, k < 54 → h' 36 k = nI (if 6 + 4 * (3 * r + i) ≤ k ∧ k < 6 + 4 * (3 * r + i) + j then cwl e' (3 * r) i (k + 4) else if 10 + 4 * (3 * r + i) ≤ k ∧ k < 10 + 4 * (3 * r + i) + j then cwl e' (3 * r) i (k - 4) else cwl e' (3 * r) i k)) (fun x h => 4 - nt x) ?_ ⟨0, rfl, by omega, fr, fun k hk => by rw [if_neg (by omega), if_neg (by omega)]; exact hN k hk⟩
  rintro x h' ⟨j, rfl, hj, fr', hq⟩
  rw [nI_leI (by decide) (by omega), nI_add, nI_add, nI_add, nI_clamp (show 6 + 4 * (3 * r + i) + j < 2 ^ 31 by omega), nI_clamp (show 6 + 4 * (3 * r + i) + 4 + j < 2 ^ 31 by omega)]
  refine ⟨fun c3 => fin h' fr' (fun k hk => ?_), fun c3 => ⟨nu_in (by omega) (by decide), ?_⟩⟩
  · rw [hq k hk]
    congr 1
    show _ = rw_cw (cwl e' (3 * r) i) (3 * r + i) k
    unfold rw_cw
    rw [if_neg le]
    unfold rw_sw
    have ej : j = 4 := by omega
    subst ej
    by_cases y1 : 6 + 4 * (3 * r + i) ≤ k ∧ k < 6 + 4 * (3 * r + i) + 4
    · rw [if_pos y1, if_pos (by omega)]
    · have n1 : ¬ (6 + 4 * (3 * r + i) ≤ k ∧ k < 10 + 4 * (3 * r + i)) := by omega
      by_cases y2 : 10 + 4 * (3 * r + i) ≤ k ∧ k < 10 + 4 * (3 * r + i) + 4
      · rw [if_neg y1, if_pos y2, if_neg n1, if_pos (by omega)]
      · rw [if_neg y1, if_neg y2, if_neg n1, if_neg (by omega)]
  rintro w rfl
  refine ⟨nu_in (by omega) (by decide), nu_in (by omega) (by decide), ?_⟩
  intro h25 e25
  refine ⟨nu_in (by omega) (by decide), ?_⟩
  intro h26 e26
  rintro w rfl
  rw [nI_add]
  refine ⟨⟨j + 1, rfl, by omega, fun k hk => by rw [e26, hp_at, if_neg hk, e25, hp_at, if_neg hk]; exact fr' k hk, fun k hk => ?_⟩, by rw [nt_nI (by omega), nt_nI (by omega)]; omega⟩
  rw [e26, e25]
  simp only [hp_at, if_true, upd]
  by_cases y1 : k = 6 + 4 * (3 * r + i) + 4 + j
  · rw [if_pos y1, hq _ (by omega), if_neg (by omega), if_neg (by omega), if_neg (by omega), if_pos (by omega), y1]; congr 2; omega
  · rw [if_neg y1]
    by_cases y2 : k = 6 + 4 * (3 * r + i) + j
    · rw [if_pos y2, hq _ (by omega), if_neg (by omega), if_neg (by omega), if_pos (by omega), y2]; congr 2; omega
    · rw [if_neg y2, hq k hk]
      congr 1
      by_cases z1 : 6 + 4 * (3 * r + i) ≤ k ∧ k < 6 + 4 * (3 * r + i) + j
      · rw [if_pos z1, if_pos (by omega)]
      · have n1 : ¬ (6 + 4 * (3 * r + i) ≤ k ∧ k < 6 + 4 * (3 * r + i) + (j + 1)) := by omega
        by_cases z2 : 10 + 4 * (3 * r + i) ≤ k ∧ k < 10 + 4 * (3 * r + i) + j
        · rw [if_neg z1, if_pos z2, if_neg n1, if_pos (by omega)]
        · rw [if_neg z1, if_neg z2, if_neg n1, if_neg (by omega)]
