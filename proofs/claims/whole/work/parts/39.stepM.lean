/-! ===== the reference does a step ===== -/
def NE (m : hp_H) (e : Nat → Nat) : Prop := ∀ k, k < 54 → m 36 k = nI (e k)
theorem m_isFirst {m : hp_H} {s c i : Nat} {d : Nat → Nat} {Q : Int32 → Prop} (hd : ∀ k, d k ≤ 9) (hs : s < 400) (hr : RW m s d) (hc : c < 3) (hi : i < 3) (h1 : rw_f d c i → Q (nI 1)) (h0 : ¬ rw_f d c i → Q (nI 0)) : q_X12_isFirst m (nI s) (nI c) (nI i) Q := by
  unfold q_X12_isFirst q_X12_channelAt
  rw [cAt]
  rintro w rfl
  rw [nI_add]
  refine hp_lp1_ind (fun x => ∃ j, x = nI j ∧ j ≤ i ∧ ∀ k, k < j → d (43 + 4 * c + k) ≠ d (43 + 4 * c + i)) (fun x => 3 - nt x) ?_ ⟨0, rfl, by omega, fun k hk => by omega⟩
  rintro x ⟨j, rfl, hj, hq⟩
  rw [nI_leI (by omega) (by omega), nI_add, nI_add]
  refine ⟨fun c1 => h1 (fun k hk => hq k (by omega)), fun c1 => ?_⟩
  refine m_cell hs hr (by omega) (m_cell hs hr (by omega) ?_)
  have a := hd (42 + 4 * c + 1 + j); have b := hd (42 + 4 * c + 1 + i)
  rw [nI_eq (by omega) (by omega)]
  refine ⟨fun z => h0 (fun q => q j (by omega) (by rw [show 43 + 4 * c + j = 42 + 4 * c + 1 + j by omega, show 43 + 4 * c + i = 42 + 4 * c + 1 + i by omega]; exact z)), fun z => ?_⟩
  rintro w rfl
  rw [nI_add]
  refine ⟨⟨j + 1, rfl, by omega, fun k hk => ?_⟩, by rw [nt_nI (by omega), nt_nI (by omega)]; omega⟩
  rcases (show k < j ∨ k = j by omega) with y | y
  · exact hq k y
  · subst y; rw [show 43 + 4 * c + k = 42 + 4 * c + 1 + k by omega, show 43 + 4 * c + i = 42 + 4 * c + 1 + i by omega]; exact z
theorem m_nextChoice {p m : hp_H} {s k c f : Nat} {d : Nat → Nat} {Q : Int32 → Prop} (pv : PV p m) (hd : DG p d) (hs : s < 400) (hr : RW m s d) (hk : k < 96) (ec : p 24 k = nI c) (hc : c < 3) (hf : 1 ≤ f) (hf4 : f ≤ 3)
    (h1 : ∀ n, ¬ p 11 c = 0 → nx d c f = some n → Q (nI n)) (h0 : p 11 c = 0 ∨ nx d c f = none → Q (-1)) : q_X12_nextChoice m (nI s) (nI k) (nI f) Q := by
  have hl := (hd.2.1 c hc).1
  unfold q_X12_nextChoice q_X12_channelAt
  rw [nI_clamp (show k < 2 ^ 31 by omega), pv.1 24 (by decide) (by decide), pv.1 11 (by decide) (by decide), ec]
  refine ⟨nu_in hk (by decide), ?_⟩
  rintro w rfl
  rw [cAt, nI_clamp (show c < 2 ^ 31 by omega)]
  refine m_cell hs hr (by omega) ?_
  refine hp_lp1_ind (fun x => ∃ i, x = nI i ∧ f ≤ i ∧ i ≤ 3 ∧ ∀ j, f ≤ j → j < i → ¬ rw_f d c j) (fun x => 3 - nt x) ?_ ⟨f, rfl, Nat.le_refl _, hf4, fun j h1 h2 => by omega⟩
  rintro x ⟨i, rfl, hi, hi3, hno⟩
  rw [nI_leI (by omega) (by omega)]
  refine ⟨(d (42 + 4 * c) ≤ i) ∨ (i < d (42 + 4 * c) ∧ rw_f d c i), ⟨fun z => Or.inl z, fun z => ?_⟩, fun A => ⟨fun z => h0 (Or.inr (nx_none (fun j j1 j2 => hno j j1 (by omega)))), fun z => ⟨nu_in hc (by decide), fun y => ⟨fun q => ?_, fun _ => h0 (Or.inl y)⟩, fun y => ?_⟩⟩⟩
  · refine m_isFirst hd.1 hs hr hc (by omega) (fun q => br1 (Or.inr ⟨by omega, q⟩)) (fun q => br00 ?_)
    rintro w rfl
    rw [nI_add]
    refine ⟨⟨i + 1, rfl, by omega, by omega, fun j j1 j2 => ?_⟩, by rw [nt_nI (by omega), nt_nI (by omega)]; omega⟩
    rcases (show j < i ∨ j = i by omega) with y | y
    · exact hno j j1 y
    · subst y; exact q
  · rw [nu_0 (by omega)] at q; omega
  · rcases A with q | ⟨q1, q2⟩
    · exact absurd q z
    · exact h1 i y (nx_some hl hi q1 q2 hno)
theorem m_hasNextWay {p m : hp_H} {st s : Nat} {d c : Nat → Nat} {Q : Int32 → hp_H → Prop} (v : VP p) (pv : PV p m) (hd : DG p d) (hst : st < 400) (hr : RW m st d) (hs : s < nt (p 0 21)) (cv : CV p d s c) (h38 : ∀ i, i < 4 → m 38 i = nI (c i))
    (h1 : ∀ c' m', nxt p d s (nt (p 22 s)) c = some c' → (∀ k, k ≠ 38 → m' k = m k) → (∀ i, i < 4 → m' 38 i = nI (c' i)) → Q (nI 1) m') (h0 : ∀ m', nxt p d s (nt (p 22 s)) c = none → (∀ k, k ≠ 38 → m' k = m k) → Q (nI 0) m') : q_X12_hasNextWay m (nI st) (nI s) Q := by
  obtain ⟨vs', vr, vc, vx, vt, v30⟩ := v
  have s24 : s < 24 := by have := vt.1.2; omega
  have i24 : vp_in (nI s) 24 := nu_in s24 (by decide)
  obtain ⟨v1, v2, v3, v4, v5, v6, v7⟩ := vt.2.2.2 s hs
  have v22 := vt.2.1 s s24
  have n4 := v22.2
  unfold q_X12_hasNextWay
  refine ⟨i24, ?_⟩
  rintro x rfl
  rw [nI_clamp (show s < 2 ^ 31 by omega), pv.1 22 (by decide) (by decide)]
  refine hp_lp1h_ind (fun x h => ∃ i c', x = nI i - nI 1 ∧ i ≤ nt (p 22 s) ∧ (∀ k, k ≠ 38 → h k = m k) ∧ (∀ j, j < 4 → h 38 j = nI (c' j)) ∧ (∀ j, c' j < 3) ∧ (∀ j, ¬ LSe p s j → c' j = 0) ∧ nxt p d s (nt (p 22 s)) c = nxt p d s i c') (fun x h => nt (x + nI 1)) ?_ ⟨nt (p 22 s), c, by rw [← v22.1], Nat.le_refl _, fun k _ => rfl, h38, fun j => (cv j).1, fun j hj => (cv j).2.1 (fun z => hj z.2), rfl⟩
  rintro x h ⟨i, c', rfl, hi, fr, hp, c3, cz, hn⟩
  rw [nI_neg (by omega)]
  refine ⟨fun z => ?_, fun z => ?_⟩
  · subst z; exact h0 h hn fr
  obtain ⟨i, rfl⟩ : ∃ j, i = j + 1 := ⟨i - 1, by omega⟩
  rintro w rfl
  have pvh : PV p h := pv.fs (fun k hk => fr k (by omega))
  have rh : RW h st d := hr.fs (fr 27 (by decide))
  rw [pk_sub (by omega), Nat.add_sub_cancel, pk_mul, nI_add, nI_clamp (show 4 * s + i < 2 ^ 31 by omega), nI_clamp (show i < 2 ^ 31 by omega), pvh.1 23 (by decide) (by decide)]
  have i96 : vp_in (nI (4 * s + i)) 96 := nu_in (by omega) (by decide)
  refine ⟨i96, ?_⟩
  obtain ⟨w1, w2, w3, w4, w5, w6⟩ := v6 i (by omega)
  have kk : p 23 (4 * s + i) = nI 3 ↔ nt (p 23 (4 * s + i)) = 3 := ⟨fun z => by rw [z]; exact nt_nI (by omega), fun z => by rw [w1.1, z]⟩
  rw [kk]
  refine ⟨fun h' => (∀ k, k ≠ 38 → h' k = m k) ∧ ∃ c2, (∀ j, j < 4 → h' 38 j = nI (c2 j)) ∧ (∀ j, c2 j < 3) ∧ (∀ j, ¬ LSe p s j → c2 j = 0) ∧ nxt p d s (i + 1) c' = nxt p d s i c2, ⟨fun k => ?_, fun k => ⟨fr, c', hp, c3, cz, nxt_n (fun z => k z.1)⟩⟩, ?_⟩
  · obtain ⟨a1, a2⟩ := w4 (by omega)
    have a12 := a1.2
    have ci := c3 i
    refine ⟨nu_in (by omega) (by decide), ?_⟩
    rw [hp i (by omega), nI_add]
    have zero : (nxt p d s (i + 1) c' = nxt p d s i (va_up c' i 0)) → ∀ h15, h15 = hp_up h 38 i (nI 0) → (∀ k, k ≠ 38 → h15 k = m k) ∧ ∃ c2, (∀ j, j < 4 → h15 38 j = nI (c2 j)) ∧ (∀ j, c2 j < 3) ∧ (∀ j, ¬ LSe p s j → c2 j = 0) ∧ nxt p d s (i + 1) c' = nxt p d s i c2 := by
      rintro e h15 rfl
      refine ⟨fun k hk => by rw [hp_at, if_neg hk]; exact fr k hk, va_up c' i 0, fun j hj => ?_, fun j => ?_, fun j hj => ?_, e⟩
      · simp only [hp_at, if_true, upd]
        by_cases y : j = i
        · rw [if_pos y, y, va_e]
        · rw [if_neg y, va_n _ _ y]; exact hp j hj
      · by_cases y : j = i
        · rw [y, va_e]; decide
        · rw [va_n _ _ y]; exact c3 j
      · by_cases y : j = i
        · rw [y, va_e]
        · rw [va_n _ _ y]; exact cz j hj
    refine m_nextChoice (c := nt (p 24 (4 * s + i))) pvh hd hst rh (by omega) a1.1 (by omega) (by omega) (by omega) (fun n y1 y2 => ?_) (fun y => ?_)
    · have n3 := (nx_get y2).2
      refine ⟨fun q => absurd q (fun w => (nu_m1 (by omega)).mp w), fun _ => ⟨nu_in (by omega) (by decide), ?_⟩⟩
      rintro h15 rfl
      refine h1 (va_up c' i n) _ (by rw [hn]; exact nxt_s ⟨k, y1⟩ y2) (fun k hk => by rw [hp_at, if_neg hk]; exact fr k hk) (fun j hj => ?_)
      simp only [hp_at, if_true, upd]
      by_cases y : j = i
      · rw [if_pos y, y, va_e]
      · rw [if_neg y, va_n _ _ y]; exact hp j hj
    · refine ⟨fun _ => ⟨nu_in (by omega) (by decide), zero ?_⟩, fun q => absurd rfl q⟩
      by_cases ls : LSe p s i
      · rcases y with y | y
        · exact absurd y ls.2
        · exact nxt_z ls y
      · rw [nxt_n ls, va_id (cz i ls)]
  · rintro h' ⟨f', c2, q1, q2, q3, q4⟩
    rintro w rfl
    rw [nI_m1]
    refine ⟨⟨i, c2, rfl, by omega, f', q1, q2, q3, by rw [hn, q4]⟩, ?_⟩
    rw [Int32.sub_add_cancel, nI_add, nt_nI (by omega), nt_nI (by omega)]
    omega
theorem m_take {m : hp_H} {s : Nat} {d : Nat → Nat} {Q : hp_H → Prop} (hs : s < 400) (hr : RW m s d) (hQ : ∀ m', (∀ k, k ≠ 36 → m' k = m k) → NE m' d → Q m') : q_X12_take m (nI s) Q := by
  unfold q_X12_take
  refine hp_lp1h_ind (fun x h => ∃ j, x = nI j ∧ j ≤ 54 ∧ (∀ k, k ≠ 36 → h k = m k) ∧ ∀ k, k < j → h 36 k = nI (d k)) (fun x h => 54 - nt x) ?_ ⟨0, rfl, by omega, fun k _ => rfl, fun k hk => by omega⟩
  rintro x h ⟨j, rfl, hj, fr, hq⟩
  rw [nI_leI (by decide) (by omega), pk_mul, nI_add, nI_clamp (show 54 * s + j < 2 ^ 31 by omega), nI_clamp (show j < 2 ^ 31 by omega), fr 27 (by decide)]
  refine ⟨fun c => hQ h fr (fun k hk => hq k (by omega)), fun c => ⟨nu_in (by omega) (by decide), nu_in (by omega) (by decide), ?_⟩⟩
  rintro h' rfl w rfl
  rw [nI_add]
  refine ⟨⟨j + 1, rfl, by omega, fun k hk => by rw [hp_at, if_neg hk]; exact fr k hk, fun k hk => ?_⟩, by rw [nt_nI (by omega), nt_nI (by omega)]; omega⟩
  simp only [hp_at, if_true, upd]
  by_cases y : k = j
  · rw [if_pos y, y]; exact hr j (by omega)
  · rw [if_neg y]; exact hq k (by omega)
theorem m_letterGoes {m : hp_H} {c i : Nat} {e : Nat → Nat} {Q : hp_H → Prop} (he : ∀ k, e k ≤ 9) (ht : rw_T e) (hn : NE m e) (hc : c < 3) (hi : i < e (42 + 4 * c)) (hQ : ∀ m', (∀ k, k ≠ 36 → m' k = m k) → NE m' (rw_tk e c i) → Q m') : q_X12_letterGoes m (nI c) (nI i) Q := by
  obtain ⟨t1, t2⟩ := ht c hc
  unfold q_X12_letterGoes q_X12_channelAt
  rw [cAt]
  refine hp_lp1h_ind (fun x h => ∃ j, x = nI j ∧ i ≤ j ∧ j + 1 ≤ e (42 + 4 * c) ∧ (∀ k, k ≠ 36 → h k = m k) ∧ ∀ k, k < 54 → h 36 k = nI (if 43 + 4 * c + i ≤ k ∧ k < 43 + 4 * c + j then e (k + 1) else e k)) (fun x h => 3 - nt x) ?_ ⟨i, rfl, Nat.le_refl _, by omega, fun k _ => rfl, fun k hk => by rw [if_neg (by omega)]; exact hn k hk⟩
  rintro x h ⟨j, rfl, hij, hj, fr, hq⟩
  have hat : h 36 (42 + 4 * c) = nI (e (42 + 4 * c)) := by rw [hq _ (by omega), if_neg (by omega)]
  rw [nI_add, nI_clamp (show 42 + 4 * c < 2 ^ 31 by omega), hat, nI_leI (by omega) (by omega)]
  refine ⟨nu_in (by omega) (by decide), fun z => ?_, fun z => ?_⟩
  · have ej : e (42 + 4 * c) = j + 1 := by omega
    rw [nI_add, nI_clamp (by omega)]
    refine ⟨nu_in (by omega) (by decide), nu_in (by omega) (by decide), ?_⟩
    rintro h6 rfl
    have hat6 : hp_up h 36 (42 + 4 * c + e (42 + 4 * c)) (nI 0) 36 (42 + 4 * c) = nI (e (42 + 4 * c)) := by
      simp only [hp_at, if_true, upd]; rw [if_neg (by omega), hat]
    rw [hat6, pk_sub (by omega)]
    refine ⟨nu_in (by omega) (by decide), nu_in (by omega) (by decide), ?_⟩
    intro h7 e7
    refine hQ h7 (fun k hk => by rw [e7, hp_at, if_neg hk, hp_at, if_neg hk]; exact fr k hk) (fun k hk => ?_)
    rw [e7]
    simp only [hp_at, if_true, upd]
    by_cases y : k = 42 + 4 * c
    · rw [if_pos y, y, tk_h]
    · rw [if_neg y]
      by_cases y2 : k = 42 + 4 * c + e (42 + 4 * c)
      · rw [if_pos y2]
        have : rw_tk e c i k = 0 := by
          unfold rw_tk
          rw [if_neg y]
          split
          · rw [show k + 1 = 43 + 4 * c + (k - 42 - 4 * c) by omega]; exact t2 _ (by omega) (by omega)
          · split
            · rfl
            · omega
        rw [this]
      · rw [if_neg y2, hq k hk]
        congr 1
        unfold rw_tk
        rw [if_neg y]
        by_cases y3 : 43 + 4 * c + i ≤ k ∧ k < 43 + 4 * c + j
        · rw [if_pos y3, if_pos (by omega)]
        · rw [if_neg y3]
          by_cases y4 : 43 + 4 * c + i ≤ k ∧ k < 45 + 4 * c
          · rw [if_pos y4]
            have a1 := t2 (k - 43 - 4 * c) (by omega) (by omega)
            have a2 := t2 (k - 42 - 4 * c) (by omega) (by omega)
            rw [show 43 + 4 * c + (k - 43 - 4 * c) = k by omega] at a1
            rw [show 43 + 4 * c + (k - 42 - 4 * c) = k + 1 by omega] at a2
            rw [a1, a2]
          · rw [if_neg y4]
            by_cases y5 : k = 45 + 4 * c
            · rw [if_pos y5]
              have a1 := t2 2 (by omega) (by omega)
              rw [show 43 + 4 * c + 2 = k by omega] at a1
              exact a1
            · rw [if_neg y5]
  · rw [nI_add, nI_add, nI_add, nI_add, nI_clamp (show 42 + 4 * c + 2 + j < 2 ^ 31 by omega), nI_clamp (show 42 + 4 * c + 1 + j < 2 ^ 31 by omega)]
    refine ⟨nu_in (by omega) (by decide), nu_in (by omega) (by decide), ?_⟩
    rintro h8 rfl w rfl
    refine ⟨⟨j + 1, rfl, by omega, by omega, fun k hk => by rw [hp_at, if_neg hk]; exact fr k hk, fun k hk => ?_⟩, by rw [nt_nI (by omega), nt_nI (by omega)]; omega⟩
    simp only [hp_at, if_true, upd]
    by_cases y : k = 42 + 4 * c + 1 + j
    · rw [if_pos y, hq _ (by omega), if_neg (by omega), if_pos (by omega), y]; congr 2; omega
    · rw [if_neg y, hq k hk]
      congr 1
      by_cases y2 : 43 + 4 * c + i ≤ k ∧ k < 43 + 4 * c + j
      · rw [if_pos y2, if_pos (by omega)]
      · rw [if_neg y2, if_neg (by omega)]
