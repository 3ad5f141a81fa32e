/-! ===== alike members ===== -/
theorem cw_1 {e : Nat → Nat} {i : Nat} (hi : i < 8) : rw_w (rw_cw e i) (1 + i) = min (rw_w e (1 + i)) (rw_w e (2 + i)) := by
  unfold rw_cw
  split
  · omega
  · rw [rw_sw1 hi]; omega
theorem cw_2 {e : Nat → Nat} {i : Nat} (hi : i < 8) : rw_w (rw_cw e i) (2 + i) = max (rw_w e (1 + i)) (rw_w e (2 + i)) := by
  unfold rw_cw
  split
  · omega
  · rw [rw_sw2 hi]; omega
theorem cw_0 {e : Nat → Nat} {i j : Nat} (hi : i < 8) (h1 : j ≠ 1 + i) (h2 : j ≠ 2 + i) : rw_w (rw_cw e i) j = rw_w e j := by
  unfold rw_cw
  split
  · rfl
  · exact rw_sw0 hi h1 h2
theorem cw_id {e : Nat → Nat} {i : Nat} (h : rw_w e (1 + i) ≤ rw_w e (2 + i)) : rw_cw e i = e := if_pos h
theorem sw_9 {e : Nat → Nat} {i : Nat} (h : ∀ k, e k ≤ 9) : ∀ k, rw_sw e i k ≤ 9 := by
  intro k
  unfold rw_sw
  split
  · exact h _
  · split <;> exact h _
theorem cw_9 {e : Nat → Nat} {i : Nat} (h : ∀ k, e k ≤ 9) : ∀ k, rw_cw e i k ≤ 9 := by
  unfold rw_cw
  split
  · exact h
  · exact sw_9 h
theorem cw_o {e : Nat → Nat} {i k : Nat} (h : k < 6 + 4 * i ∨ 14 + 4 * i ≤ k) : rw_cw e i k = e k := by
  unfold rw_cw
  split
  · rfl
  · unfold rw_sw
    rw [if_neg (by omega), if_neg (by omega)]
def ss (e : Nat → Nat) (r n : Nat) : Prop := ∀ m, m + 1 < n → rw_w e (1 + (3 * r + m)) ≤ rw_w e (2 + (3 * r + m))
theorem ar_id {e : Nat → Nat} {r n : Nat} (h : ss e r n) : rw_ar e r n = e := by
  unfold rw_ar
  by_cases h3 : n = 3
  · rw [if_pos h3]
    have a := h 0 (by omega); have b := h 1 (by omega)
    rw [Nat.add_zero] at a
    rw [cw_id a, cw_id b, cw_id a]
  · rw [if_neg h3]
    by_cases h2 : n = 2
    · rw [if_pos h2]
      have a := h 0 (by omega)
      rw [Nat.add_zero] at a
      exact cw_id a
    · rw [if_neg h2]
theorem ar_ss {e : Nat → Nat} {r n : Nat} (hr : r < 3) (hn : n ≤ 3) : ss (rw_ar e r n) r n := by
  intro m hm
  unfold rw_ar
  by_cases h3 : n = 3
  · rw [if_pos h3]
    have a1 := cw_1 (e := e) (i := 3 * r) (by omega); have a2 := cw_2 (e := e) (i := 3 * r) (by omega); have a0 := cw_0 (e := e) (i := 3 * r) (j := 3 + 3 * r) (by omega) (by omega) (by omega)
    have b1 := cw_1 (e := rw_cw e (3 * r)) (i := 3 * r + 1) (by omega); have b2 := cw_2 (e := rw_cw e (3 * r)) (i := 3 * r + 1) (by omega); have b0 := cw_0 (e := rw_cw e (3 * r)) (i := 3 * r + 1) (j := 1 + 3 * r) (by omega) (by omega) (by omega)
    have c1 := cw_1 (e := rw_cw (rw_cw e (3 * r)) (3 * r + 1)) (i := 3 * r) (by omega); have c2 := cw_2 (e := rw_cw (rw_cw e (3 * r)) (3 * r + 1)) (i := 3 * r) (by omega); have c0 := cw_0 (e := rw_cw (rw_cw e (3 * r)) (3 * r + 1)) (i := 3 * r) (j := 3 + 3 * r) (by omega) (by omega) (by omega)
    rw [show 1 + (3 * r + 1) = 2 + 3 * r by omega, show 2 + (3 * r + 1) = 3 + 3 * r by omega] at b1 b2
    rcases (show m = 0 ∨ m = 1 by omega) with z | z <;> subst z
    · simp only [Nat.add_zero]; omega
    · rw [show 1 + (3 * r + 1) = 2 + 3 * r by omega, show 2 + (3 * r + 1) = 3 + 3 * r by omega]; omega
  · rw [if_neg h3]
    have h2 : n = 2 := by omega
    rw [if_pos h2]
    have a1 := cw_1 (e := e) (i := 3 * r) (by omega); have a2 := cw_2 (e := e) (i := 3 * r) (by omega)
    rw [show m = 0 by omega, Nat.add_zero]; omega
theorem ar_9 {e : Nat → Nat} {r n : Nat} (h : ∀ k, e k ≤ 9) : ∀ k, rw_ar e r n k ≤ 9 := by
  unfold rw_ar
  split
  · exact cw_9 (cw_9 (cw_9 h))
  · split
    · exact cw_9 h
    · exact h
theorem ar_o {e : Nat → Nat} {r n k : Nat} (h : k < 6 + 12 * r ∨ 18 + 12 * r ≤ k) : rw_ar e r n k = e k := by
  unfold rw_ar
  split
  · rw [cw_o (by omega), cw_o (by omega), cw_o (by omega)]
  · split
    · rw [cw_o (by omega)]
    · rfl
theorem rw_T_hi {e e' : Nat → Nat} (h : ∀ k, 42 ≤ k → e' k = e k) (ht : rw_T e) : rw_T e' := by
  intro c hc
  rw [h _ (by omega)]
  exact ⟨(ht c hc).1, fun i hi hl => by rw [h _ (by omega)]; exact (ht c hc).2 i hi hl⟩
theorem ww_cg {e e' : Nat → Nat} {i : Nat} (hi : i < 9) (h : ∀ k, 6 + 4 * i ≤ k → k < 10 + 4 * i → e' k = e k) : rw_w e' (1 + i) = rw_w e (1 + i) := by
  rw [rw_m _ hi, rw_m _ hi, h (6 + 4 * i) (by omega) (by omega), h (7 + 4 * i) (by omega) (by omega), h (8 + 4 * i) (by omega) (by omega), h (9 + 4 * i) (by omega) (by omega)]
/-- the row behind a step -/
theorem DG_w {p : hp_H} {d e : Nat → Nat} {r m s i : Nat} (v : VP p) (hg : DG p d) (hs : s < nt (p 0 21)) (hr : nt (p 18 s) = r) (hm : m < nt (p 4 r)) (h : DA p d r m s i e) : DG p (alk p (va_up e (6 + 4 * (3 * r + m)) (nt (p 20 s))) r) := by
  obtain ⟨vs, vr, vc, vx, vt, v30⟩ := v
  obtain ⟨v1, v2, v3, v4, v5, v6, v7⟩ := vt.2.2.2 s hs
  obtain ⟨h1, h2, h3, h4, h5⟩ := h
  have r3 : r < 3 := by have := v1.2; omega
  have rr : r < nt (p 0 4) := by omega
  have n3 := (vr.2.2.1 r rr).1.2
  have b9 := va_9 (k := 6 + 4 * (3 * r + m)) h1 v4.2
  have bT := rw_T_lo (k := 6 + 4 * (3 * r + m)) (v := nt (p 20 s)) h2 (by omega)
  unfold alk
  by_cases z : p 0 30 = 0
  · rw [cif_t z]
    exact ⟨b9, bT, fun q => absurd z q⟩
  · rw [cif_f z]
    refine ⟨ar_9 b9, rw_T_hi (fun k hk => ar_o (by omega)) bT, fun _ x hx y hy => ?_⟩
    by_cases xr : x = r
    · subst xr
      exact ar_ss r3 n3 y hy
    · have x3 : x < 3 := by have := vr.1.2; omega
      have y3 : y + 1 < 3 := by have := (vr.2.2.1 x hx).1.2; omega
      have w : ∀ q, q < 3 → rw_w (rw_ar (va_up e (6 + 4 * (3 * r + m)) (nt (p 20 s))) r (nt (p 4 r))) (1 + (3 * x + q)) = rw_w d (1 + (3 * x + q)) := by
        intro q hq
        refine ww_cg (by omega) (fun k k1 k2 => ?_)
        rw [ar_o (by omega), va_n _ _ (by omega)]
        exact h5 k (by omega) (by omega) (by omega)
      have := hg.2.2 z x hx y hy
      rw [show 2 + (3 * x + y) = 1 + (3 * x + (y + 1)) by omega] at this ⊢
      rw [w y (by omega), w (y + 1) (by omega)]
      exact this
theorem DG_l {p : hp_H} {d : Nat → Nat} {c i : Nat} (v : VP p) (hg : DG p d) (hc : c < 3) (hi : i < d (42 + 4 * c)) : DG p (rw_tk d c i) := by
  refine ⟨tk_9 hg.1, rw_T_tk hg.2.1 hc hi, fun z x hx y hy => ?_⟩
  have x3 : x < 3 := by have := v.2.1.1.2; omega
  have y3 : y + 1 < 3 := by have := (v.2.1.2.2.1 x hx).1.2; omega
  have w : ∀ q, q < 3 → rw_w (rw_tk d c i) (1 + (3 * x + q)) = rw_w d (1 + (3 * x + q)) := by
    intro q hq
    exact ww_cg (by omega) (fun k k1 k2 => tk_o (by omega))
  have := hg.2.2 z x hx y hy
  rw [show 2 + (3 * x + y) = 1 + (3 * x + (y + 1)) by omega] at this ⊢
  rw [w y (by omega), w (y + 1) (by omega)]
  exact this
/-! ===== what is found, kept sound ===== -/
def GW (p g : hp_H) : Prop := isn (g 0 35) 400 ∧ 1 ≤ gN g ∧ isn (g 0 40) 6000 ∧ hp_bz (g 0 34) ∧ hp_bz (g 0 46) ∧ (∀ s, s < gN g → (∀ k, k < 54 → g 27 (54 * s + k) = nI (dg g s k)) ∧ DG p (dg g s)) ∧ ∀ s t, s < gN g → t < gN g → s ≠ t → ¬ ∀ k, k < 54 → dg g s k = dg g t k
theorem dg_lt {g : hp_H} {s k : Nat} (h : k < 54) : dg g s k = nt (g 27 (54 * s + k)) := if_pos h
theorem gE_u {p g : hp_H} {e : Nat → Nat} {i j : Nat} (h : GW p g) (hi : gE g e i) (hj : gE g e j) : i = j := by
  by_cases z : i = j
  · exact z
  · exact absurd (fun k hk => by rw [hi.2 k hk, hj.2 k hk]) (h.2.2.2.2.2.2 i j hi.1 hj.1 z)
theorem mvg_full {g : hp_H} {s : Nat} {r m t : Int32} {e : Nat → Nat} (h : gK g = 6000) : mvg g s r m t e = hp_up g 0 34 (nI 1) := by unfold mvg; rw [cif_t h]
theorem mvg_old {p g : hp_H} {s i : Nat} {r m t : Int32} {e : Nat → Nat} (w : GW p g) (h : ¬ gK g = 6000) (hi : gE g e i) : mvg g s r m t e = gM g i r m t := by
  unfold mvg
  rw [cif_f h, cif_t ⟨i, hi⟩]
  rw [gE_u w (Classical.epsilon_spec (p := gE g e) ⟨i, hi⟩) hi]
theorem mvg_400 {g : hp_H} {s : Nat} {r m t : Int32} {e : Nat → Nat} (h : ¬ gK g = 6000) (hn : ¬ ∃ i, gE g e i) (h4 : gN g = 400) : mvg g s r m t e = hp_up g 0 34 (nI 1) := by
  unfold mvg; rw [cif_f h, cif_f hn, cif_t h4]
theorem mvg_new {g : hp_H} {s : Nat} {r m t : Int32} {e : Nat → Nat} (h : ¬ gK g = 6000) (hn : ¬ ∃ i, gE g e i) (h4 : ¬ gN g = 400) : mvg g s r m t e = gM (gS g e s) (gN g) r m t := by
  unfold mvg; rw [cif_f h, cif_f hn, cif_f h4]
