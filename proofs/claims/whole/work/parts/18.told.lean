/-! ===== telling: what stays, what grows ===== -/
def PM (m m' : hp_H) : Prop := (∀ k, 1 ≤ k → k ≤ 26 → m' k = m k) ∧ m' 0 0 = m 0 0 ∧ m' 0 4 = m 0 4 ∧ m' 0 11 = m 0 11 ∧ m' 0 15 = m 0 15 ∧ m' 0 21 = m 0 21 ∧ m' 0 30 = m 0 30 ∧ m' 0 31 = m 0 31
def PBc (k : Nat) : Prop := (4 ≤ k ∧ k ≤ 6) ∨ (8 ≤ k ∧ k ≤ 11) ∨ k = 13 ∨ k = 14 ∨ (17 ≤ k ∧ k ≤ 20) ∨ k = 22 ∨ (24 ≤ k ∧ k ≤ 34) ∨ k = 66
def PB (b b' : hp_H) : Prop := (∀ k, PBc k → b' k = b k) ∧ b' 3 0 = b 3 0 ∧ b' 12 1 = b 12 1 ∧ b' 1 8 = b 1 8 ∧ b' 15 1 = b 15 1 ∧ b' 23 8 = b 23 8 ∧ b' 1 9 = b 1 9 ∧ b' 2 1 = b 2 1 ∧ b' 7 1 = b 7 1 ∧ b' 64 0 = b 64 0 ∧ b' 15 9 = b 15 9
theorem PM.rf {m : hp_H} : PM m m := ⟨fun _ _ _ => rfl, rfl, rfl, rfl, rfl, rfl, rfl, rfl⟩
theorem PB.rf {b : hp_H} : PB b b := ⟨fun _ _ => rfl, rfl, rfl, rfl, rfl, rfl, rfl, rfl, rfl, rfl, rfl⟩
theorem PM.tr {m m1 m2 : hp_H} (h : PM m m1) (k : PM m1 m2) : PM m m2 := by
  obtain ⟨a0, a1, a2, a3, a4, a5, a6, a7⟩ := h
  obtain ⟨c0, c1, c2, c3, c4, c5, c6, c7⟩ := k
  exact ⟨fun k h1 h2 => (c0 k h1 h2).trans (a0 k h1 h2), c1.trans a1, c2.trans a2, c3.trans a3, c4.trans a4, c5.trans a5, c6.trans a6, c7.trans a7⟩
theorem PB.tr {b b1 b2 : hp_H} (h : PB b b1) (k : PB b1 b2) : PB b b2 := by
  obtain ⟨a0, a1, a2, a3, a4, a5, a6, a7, a8, a9, a10⟩ := h
  obtain ⟨c0, c1, c2, c3, c4, c5, c6, c7, c8, c9, c10⟩ := k
  exact ⟨fun k h1 => (c0 k h1).trans (a0 k h1), c1.trans a1, c2.trans a2, c3.trans a3, c4.trans a4, c5.trans a5, c6.trans a6, c7.trans a7, c8.trans a8, c9.trans a9, c10.trans a10⟩
theorem VP.cg {m m' : hp_H} (h : PM m m') (v : VP m) : VP m' := by
  obtain ⟨h0, e0, e4, e11, e15, e21, e30, e31⟩ := h
  simp only [VP, VPs, VPr, VPc, VPx, VPx1, VPt, VPt1, VPa, h0 1 (by decide) (by decide), h0 2 (by decide) (by decide), h0 3 (by decide) (by decide), h0 4 (by decide) (by decide), h0 5 (by decide) (by decide), h0 6 (by decide) (by decide), h0 7 (by decide) (by decide), h0 8 (by decide) (by decide), h0 10 (by decide) (by decide), h0 11 (by decide) (by decide), h0 12 (by decide) (by decide), h0 13 (by decide) (by decide), h0 14 (by decide) (by decide), h0 15 (by decide) (by decide), h0 16 (by decide) (by decide), h0 17 (by decide) (by decide), h0 18 (by decide) (by decide), h0 19 (by decide) (by decide), h0 20 (by decide) (by decide), h0 21 (by decide) (by decide), h0 22 (by decide) (by decide), h0 23 (by decide) (by decide), h0 24 (by decide) (by decide), h0 25 (by decide) (by decide), e0, e4, e11, e15, e21, e30]
  simpa only [VP, VPs, VPr, VPc, VPx, VPx1, VPt, VPt1, VPa] using v
theorem VPo.cg {m m' : hp_H} (h : PM m m') (v : VPo m) : VPo m' := by
  obtain ⟨h0, e0, e4, e11, e15, e21, e30, e31⟩ := h
  simp only [VPo, h0 26 (by decide) (by decide), h0 17 (by decide) (by decide), e15, e31]
  exact v
theorem EQ.cg {b b' m m' : hp_H} (hb : PB b b') (h : PM m m') (v : EQ b m) : EQ b' m' := by
  obtain ⟨h0, e0, e4, e11, e15, e21, e30, e31⟩ := h
  obtain ⟨g0, f1, f2, f3, f4, f5, f6, f7, f8, f9, f10⟩ := hb
  simp only [EQ, EQp, EQf, EQe, EQn, h0 1 (by decide) (by decide), h0 2 (by decide) (by decide), h0 3 (by decide) (by decide), h0 4 (by decide) (by decide), h0 5 (by decide) (by decide), h0 6 (by decide) (by decide), h0 7 (by decide) (by decide), h0 8 (by decide) (by decide), h0 9 (by decide) (by decide), h0 10 (by decide) (by decide), h0 11 (by decide) (by decide), h0 12 (by decide) (by decide), h0 13 (by decide) (by decide), h0 14 (by decide) (by decide), h0 15 (by decide) (by decide), h0 16 (by decide) (by decide), h0 17 (by decide) (by decide), h0 18 (by decide) (by decide), h0 19 (by decide) (by decide), h0 20 (by decide) (by decide), h0 21 (by decide) (by decide), h0 22 (by decide) (by decide), h0 23 (by decide) (by decide), h0 24 (by decide) (by decide), h0 25 (by decide) (by decide), e0, e4, e11, e15, e21, e30,
    g0 4 (by unfold PBc; omega), g0 5 (by unfold PBc; omega), g0 6 (by unfold PBc; omega), g0 8 (by unfold PBc; omega), g0 9 (by unfold PBc; omega), g0 10 (by unfold PBc; omega), g0 11 (by unfold PBc; omega), g0 13 (by unfold PBc; omega), g0 14 (by unfold PBc; omega), g0 17 (by unfold PBc; omega), g0 18 (by unfold PBc; omega), g0 19 (by unfold PBc; omega), g0 20 (by unfold PBc; omega), g0 22 (by unfold PBc; omega), g0 24 (by unfold PBc; omega), g0 25 (by unfold PBc; omega), g0 26 (by unfold PBc; omega), g0 27 (by unfold PBc; omega), g0 28 (by unfold PBc; omega), g0 29 (by unfold PBc; omega), g0 30 (by unfold PBc; omega), g0 31 (by unfold PBc; omega), g0 32 (by unfold PBc; omega), g0 33 (by unfold PBc; omega), g0 34 (by unfold PBc; omega), f1, f2, f3, f4, f5, f6, f7, f8, f10]
  simpa only [EQ, EQp, EQf, EQe, EQn] using v
theorem EQo.cg {b b' m m' : hp_H} (hb : PB b b') (h : PM m m') (v : EQo b m) : EQo b' m' := by
  obtain ⟨h0, e0, e4, e11, e15, e21, e30, e31⟩ := h
  obtain ⟨g0, f1, f2, f3, f4, f5, f6, f7, f8, f9, f10⟩ := hb
  simp only [EQo, h0 26 (by decide) (by decide), g0 66 (by unfold PBc; omega), f9, e31]
  exact v
theorem s_endSearch {b : hp_H} {Q : hp_H → Prop} (hq : ∀ b', (∀ k, k ≠ 35 → k ≠ 64 → b' k = b k) → (∀ j, j ≠ 11 → b' 64 j = b 64 j) → b' 35 0 = nI 0 → b' 35 1 = nI 0 → b' 35 2 = nI 0 → b' 64 11 = nI 0 → Q b') : q_X11_endSearch b Q := by
  unfold q_X11_endSearch q_X2_clear
  rintro h1 rfl h2 rfl h3 rfl h4 rfl h5 rfl h6 rfl h7 rfl h8 rfl
  unfold q_X0_forget
  rintro h9 rfl
  refine hq _ (fun k h1 h2 => ?_) (fun j hj => ?_) ?_ ?_ ?_ ?_
  · simp only [hp_at, h1, h2, if_false]
  · simp only [hp_at, Nat.reduceEqDiff, if_true, if_false, upd, hj]
  · simp [hp_at, upd]
  · simp [hp_at, upd]
  · simp [hp_at, upd]
  · simp [hp_at, upd]
theorem s_over {m : hp_H} {Q : hp_H → Prop} (hq : ∀ m', (∀ k, k ≠ 0 → m' k = m k) → (∀ j, j ≠ 33 → j ≠ 34 → j ≠ 35 → j ≠ 40 → m' 0 j = m 0 j) → m' 0 33 = nI 0 → m' 0 34 = nI 0 → m' 0 35 = nI 0 → Q m') : q_X12_over m Q := by
  unfold q_X12_over
  rintro h1 rfl h2 rfl h3 rfl h4 rfl
  refine hq _ (fun k h1 => ?_) (fun j h1 h2 h3 h4 => ?_) ?_ ?_ ?_
  · simp only [hp_at, h1, if_false]
  · simp only [hp_at, if_true, upd, h1, h2, h3, h4, if_false]
  · simp [hp_at, upd]
  · simp [hp_at, upd]
  · simp [hp_at, upd]
/-- all that a telling keeps -/
def T0 (b m : hp_H) : Prop := VP m ∧ EQ b m ∧ EQo b m ∧ VPo m ∧ DV0 b
/-- told anew: no search is there -/
def T1 (b m : hp_H) : Prop := T0 b m ∧ GR0 b m ∧ b 64 11 = nI 0
theorem T0.cg {b b' m m' : hp_H} (hb : PB b b') (h : PM m m') (h1 : b' hp_V 0 = b hp_V 0) (h2 : b' hp_V 1 = b hp_V 1) (v : T0 b m) : T0 b' m' := ⟨v.1.cg h, v.2.1.cg hb h, v.2.2.1.cg hb h, v.2.2.2.1.cg h, by unfold DV0; rw [h1, h2]; exact v.2.2.2.2⟩
/-- behind both 'ends the search' -/
theorem s_ends {b m : hp_H} {Q : hp_H → Prop} {R : hp_H → hp_H → Prop} (t : T0 b m) (hq : ∀ b', T1 b' m → (∀ k, k ≠ 35 → k ≠ 64 → b' k = b k) → Q b') : q_X11_endSearch b Q → True := fun _ => trivial
theorem EQ_fr {b b' : hp_H} (f1 : ∀ k, k ≠ 35 → k ≠ 64 → b' k = b k) (f2 : ∀ j, j ≠ 11 → b' 64 j = b 64 j) : PB b b' :=
  ⟨fun k hk => by
    by_cases e : k = 35
    · unfold PBc at hk; omega
    · by_cases e2 : k = 64
      · unfold PBc at hk; omega
      · exact f1 k e e2, by rw [f1 3 (by decide) (by decide)], by rw [f1 12 (by decide) (by decide)], by rw [f1 1 (by decide) (by decide)], by rw [f1 15 (by decide) (by decide)], by rw [f1 23 (by decide) (by decide)], by rw [f1 1 (by decide) (by decide)], by rw [f1 2 (by decide) (by decide)], by rw [f1 7 (by decide) (by decide)], f2 0 (by decide), by rw [f1 15 (by decide) (by decide)]⟩
theorem PM_fr {m m' : hp_H} (f1 : ∀ k, k ≠ 0 → m' k = m k) (f2 : ∀ j, j ≠ 33 → j ≠ 34 → j ≠ 35 → j ≠ 40 → m' 0 j = m 0 j) : PM m m' :=
  ⟨fun k h1 _ => f1 k (by omega), f2 0 (by decide) (by decide) (by decide) (by decide), f2 4 (by decide) (by decide) (by decide) (by decide), f2 11 (by decide) (by decide) (by decide) (by decide), f2 15 (by decide) (by decide) (by decide) (by decide), f2 21 (by decide) (by decide) (by decide) (by decide), f2 30 (by decide) (by decide) (by decide) (by decide), f2 31 (by decide) (by decide) (by decide) (by decide)⟩
theorem s_es {b : hp_H} {Q : hp_H → Prop} (hq : ∀ b', PB b b' → b' hp_V = b hp_V → b' 35 0 = nI 0 → b' 35 1 = nI 0 → b' 35 2 = nI 0 → b' 64 11 = nI 0 → Q b') : q_X11_endSearch b Q :=
  s_endSearch (fun b' f1 f2 g0 g1 g2 g3 => hq b' (EQ_fr f1 f2) (f1 hp_V (by decide) (by decide)) g0 g1 g2 g3)
theorem s_ov {m : hp_H} {Q : hp_H → Prop} (hq : ∀ m', PM m m' → m' 9 = m 9 → m' 0 33 = nI 0 → m' 0 34 = nI 0 → m' 0 35 = nI 0 → Q m') : q_X12_over m Q :=
  s_over (fun m' f1 f2 g0 g1 g2 => hq m' (PM_fr f1 f2) (f1 9 (by decide)) g0 g1 g2)
