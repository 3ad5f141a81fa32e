/-! ===== truth values, small numbers, what both heaps hold of what was told ===== -/
def nt (x : Int32) : Nat := x.toNatClampNeg
def isn (x : Int32) (b : Nat) : Prop := x = nI (nt x) ∧ nt x ≤ b
theorem nt_nI {n : Nat} (h : n < 2 ^ 31) : nt (nI n) = n := nI_clamp h
theorem isn_i {n b : Nat} (h : n ≤ b) (hb : b < 2 ^ 31) : isn (nI n) b := by
  unfold isn
  rw [nt_nI (by omega)]
  exact ⟨rfl, h⟩
theorem isn_up {x : Int32} {b c : Nat} (h : isn x b) (hc : b ≤ c) : isn x c := ⟨h.1, Nat.le_trans h.2 hc⟩
theorem isn_e {x : Int32} {b : Nat} (h : isn x b) : ∃ n, n ≤ b ∧ x = nI n ∧ nt x = n := ⟨nt x, h.2, h.1, rfl⟩
def bi (p : Prop) [Decidable p] : Int32 := if p then nI 1 else nI 0
theorem bi_0 {p : Prop} [Decidable p] : (bi p = 0) ↔ ¬ p := by
  unfold bi
  split
  · next h => exact ⟨fun q => absurd q (by decide), fun q => absurd h q⟩
  · next h => exact ⟨fun _ => h, fun _ => rfl⟩
theorem bi_bz {p : Prop} [Decidable p] : hp_bz (bi p) := by
  unfold bi hp_bz
  split
  · exact Or.inr rfl
  · exact Or.inl rfl
theorem bi_t {p : Prop} [Decidable p] (h : p) : bi p = nI 1 := if_pos h
theorem bi_f {p : Prop} [Decidable p] (h : ¬ p) : bi p = nI 0 := if_neg h
theorem bi_c {p q : Prop} [Decidable p] [Decidable q] (h : p ↔ q) : bi p = bi q := by
  unfold bi
  by_cases z : p
  · rw [if_pos z, if_pos (h.mp z)]
  · rw [if_neg z, if_neg (fun y => z (h.mpr y))]
theorem le_lt {x y : Int32} : ¬ x ≤ y ↔ y < x := Int32.not_le
theorem lt_le {x y : Int32} : ¬ x < y ↔ y ≤ x := Int32.not_lt
/-- two tests, one after the other -/
theorem q2 {a b : Prop} [Decidable a] [Decidable b] {Q : Int32 → Prop} : ((a → Q (nI 0)) ∧ (¬ a → (b → Q (nI 0)) ∧ (¬ b → Q (nI 1)))) ↔ Q (bi (¬ a ∧ ¬ b)) := by
  by_cases h1 : a
  · rw [bi_f (fun z => z.1 h1)]
    exact ⟨fun q => q.1 h1, fun q => ⟨fun _ => q, fun z => absurd h1 z⟩⟩
  · by_cases h2 : b
    · rw [bi_f (fun z => z.2 h2)]
      exact ⟨fun q => (q.2 h1).1 h2, fun q => ⟨fun z => absurd z h1, fun _ => ⟨fun _ => q, fun z => absurd h2 z⟩⟩⟩
    · rw [bi_t ⟨h1, h2⟩]
      exact ⟨fun q => (q.2 h1).2 h2, fun q => ⟨fun z => absurd z h1, fun _ => ⟨fun z => absurd z h2, fun _ => q⟩⟩⟩
theorem i_X1_has {h : hp_H} {a : Int32} {Q : Int32 → Prop} : q_X1_has h a Q ↔ Q (bi (¬ a < 0 ∧ ¬ h 15 1 ≤ a)) := q2
theorem i_X6_has {h : hp_H} {a : Int32} {Q : Int32 → Prop} : q_X6_has h a Q ↔ Q (bi (¬ a < 0 ∧ ¬ h 12 1 ≤ a)) := q2
theorem i_X9_has {h : hp_H} {a : Int32} {Q : Int32 → Prop} : q_X9_has h a Q ↔ Q (bi (¬ a < 0 ∧ ¬ h 23 8 ≤ a)) := q2
theorem i_X4_hasChannel {h : hp_H} {a : Int32} {Q : Int32 → Prop} : q_X4_hasChannel h a Q ↔ Q (bi (¬ a < 0 ∧ ¬ h 1 8 ≤ a)) := q2
theorem i_X11_isDigit {a : Int32} {Q : Int32 → Prop} : q_X11_isDigit a Q ↔ Q (bi (¬ a < 0 ∧ ¬ nI 9 < a)) := q2
theorem i_X12_in {a b c : Int32} {Q : Int32 → Prop} : q_X12_in a b c Q ↔ Q (bi (¬ a < b ∧ ¬ c < a)) := q2
theorem i_X12_isRole {h : hp_H} {a : Int32} {Q : Int32 → Prop} : q_X12_isRole h a Q ↔ Q (bi (¬ a < nI 0 ∧ ¬ (h 0 4) - (nI 1) < a)) := by
  unfold q_X12_isRole
  rw [i_X12_in]
  exact ⟨fun q => q.2, fun q => ⟨bi_bz, q⟩⟩
theorem i_X12_isExpr {h : hp_H} {a : Int32} {Q : Int32 → Prop} : q_X12_isExpr h a Q ↔ Q (bi (¬ a < nI 0 ∧ ¬ (h 0 15) - (nI 1) < a)) := by
  unfold q_X12_isExpr
  rw [i_X12_in]
  exact ⟨fun q => q.2, fun q => ⟨bi_bz, q⟩⟩
theorem i_X12_isChannel {h : hp_H} {a : Int32} {Q : Int32 → Prop} : q_X12_isChannel h a Q ↔ Q (bi (¬ a < nI 0 ∧ ¬ (h 0 11) - (nI 1) < a)) := by
  unfold q_X12_isChannel
  rw [i_X12_in]
  exact ⟨fun q => q.2, fun q => ⟨bi_bz, q⟩⟩
/-- below a count, said in two ways -/
theorem nu_pred {a : Int32} {n : Nat} (hn : n < 2 ^ 31) : (nI n - nI 1 < a) ↔ nI n ≤ a := by
  rw [Int32.lt_iff_toInt_lt, Int32.le_iff_toInt_le]
  cases n with
  | zero =>
    have e1 : (nI 0 - nI 1).toInt = -1 := by decide
    have e2 : (nI 0).toInt = 0 := by decide
    rw [e1, e2]; omega
  | succ k =>
    rw [pk_sub (by omega), nI_toInt (by omega), nI_toInt hn]
    omega
theorem bi_in {a x : Int32} {b : Nat} (hx : isn x b) (hb : b < 2 ^ 31) : bi (¬ a < nI 0 ∧ ¬ x - nI 1 < a) = bi (¬ a < 0 ∧ ¬ x ≤ a) := by
  apply bi_c
  obtain ⟨n, h1, h2, -⟩ := isn_e hx
  rw [h2, nu_pred (by omega), nI_0]
/-- a number between -/
theorem nu_get {a x : Int32} {b : Nat} (hx : isn x b) (hb : b < 2 ^ 31) (h : ¬ a < 0 ∧ ¬ x ≤ a) : ∃ k, k < nt x ∧ a = nI k := by
  obtain ⟨n, h1, h2, h3⟩ := isn_e hx
  obtain ⟨j, j1, j2⟩ := nI_of h.1
  refine ⟨j, ?_, j2⟩
  have := h.2
  rw [h2, j2, nI_leI (by omega) j1] at this
  omega
theorem nu_put {x : Int32} {b k : Nat} (hx : isn x b) (hb : b < 2 ^ 31) (hk : k < nt x) : ¬ nI k < 0 ∧ ¬ x ≤ nI k := by
  obtain ⟨n, h1, h2, h3⟩ := isn_e hx
  refine ⟨nI_pos (by omega), ?_⟩
  rw [h2, nI_leI (by omega) (by omega)]
  omega
theorem nu_dg {a : Int32} (h : ¬ a < 0 ∧ ¬ nI 9 < a) : ∃ k, k ≤ 9 ∧ a = nI k := by
  obtain ⟨j, j1, j2⟩ := nI_of h.1
  have := h.2
  rw [j2, nI_ltI (by omega) j1] at this
  exact ⟨j, by omega, j2⟩
/-- a heap's cell, behind a store -/
theorem hp_at (h : hp_H) (k j : Nat) (v : Int32) (i : Nat) : hp_up h k j v i = if i = k then upd (h k) j v else h i := by
  funext b
  unfold hp_up upd
  by_cases e : i = k
  · subst e
    by_cases z : b = j
    · simp [z]
    · simp [z]
  · simp [e]
/-! ===== what was told ===== -/
def EQp (b m : hp_H) : Prop := b 4 = m 1 ∧ b 5 = m 2 ∧ b 6 = m 3 ∧ b 13 = m 4 ∧ b 8 = m 5 ∧ b 9 = m 6 ∧ b 10 = m 7 ∧ b 11 = m 8 ∧ b 32 = m 10 ∧ b 33 = m 11 ∧ b 34 = m 12 ∧ b 17 = m 13 ∧ b 18 = m 14 ∧ b 19 = m 15 ∧ b 20 = m 16 ∧ b 22 = m 17 ∧ b 24 = m 18 ∧ b 25 = m 19 ∧ b 26 = m 20 ∧ b 27 = m 21 ∧ b 28 = m 22 ∧ b 29 = m 23 ∧ b 30 = m 24 ∧ b 31 = m 25
def EQf (b m : hp_H) : Prop := b 3 0 = m 0 0 ∧ b 12 1 = m 0 4 ∧ b 1 8 = m 0 11 ∧ b 15 1 = m 0 15 ∧ b 23 8 = m 0 21 ∧ b 1 9 = m 0 30 ∧ b 2 1 = nI 6 ∧ b 7 1 = nI 3
def EQo (b m : hp_H) : Prop := b 66 = m 26 ∧ b 64 0 = m 0 31
def EQe (b m : hp_H) : Prop := ∀ r, r < 3 → ∃ n, n < 1024 ∧ b 14 r = nI n ∧ ∀ p, p < 10 → hp_bz (m 9 (10 * r + p)) ∧ (n.testBit p = true ↔ m 9 (10 * r + p) = nI 1)
def EQn (b m : hp_H) : Prop := hp_bz (b 15 9) ∧ (b 15 9 = 0 ↔ ∀ e, e < nt (m 0 15) → m 13 e ≠ nI 3 ∧ m 13 e ≠ nI 6)
def VPd (lo hi fi : Int32) : Prop := isn lo 9 ∧ isn hi 9 ∧ isn fi 9 ∧ nt lo ≤ nt fi ∧ nt fi ≤ nt hi
def VPs (m : hp_H) : Prop := isn (m 0 0) 6 ∧ ∀ i, i < nt (m 0 0) → VPd (m 1 i) (m 2 i) (m 3 i)
def VPr (m : hp_H) : Prop := isn (m 0 4) 3 ∧ (∀ r, r < 3 → isn (m 5 r) 3) ∧ (∀ r, r < nt (m 0 4) → isn (m 4 r) 3 ∧ 1 ≤ nt (m 4 r)) ∧ (∀ r, nt (m 0 4) ≤ r → r < 3 → m 5 r = nI 0) ∧ ∀ r v, r < 3 → v < nt (m 5 r) → VPd (m 6 (3 * r + v)) (m 7 (3 * r + v)) (m 8 (3 * r + v))
def VPc (m : hp_H) : Prop := isn (m 0 11) 3 ∧ ∀ c, c < nt (m 0 11) → isn (m 10 c) 3 ∧ 1 ≤ nt (m 10 c) ∧ hp_bz (m 11 c) ∧ hp_bz (m 12 c)
def VPx1 (m : hp_H) (e : Nat) : Prop := isn (m 13 e) 14 ∧ hp_bz (m 17 e) ∧
  (nt (m 13 e) = 1 → isn (m 14 e) 5 ∧ nt (m 14 e) < nt (m 0 0)) ∧
  (nt (m 13 e) = 2 → isn (m 14 e) 2) ∧
  (nt (m 13 e) = 4 → isn (m 14 e) 2 ∧ nt (m 14 e) < nt (m 0 4) ∧ isn (m 15 e) 9) ∧
  (nt (m 13 e) = 5 → isn (m 14 e) 2 ∧ nt (m 14 e) < nt (m 0 11)) ∧
  (nt (m 13 e) = 6 → isn (m 14 e) 2 ∧ nt (m 14 e) < nt (m 0 4) ∧ isn (m 15 e) 2 ∧ nt (m 15 e) < nt (m 4 (nt (m 14 e))) ∧ isn (m 16 e) 2 ∧ nt (m 16 e) < nt (m 5 (nt (m 14 e)))) ∧
  (7 ≤ nt (m 13 e) → isn (m 14 e) 79 ∧ nt (m 14 e) < e) ∧
  (7 ≤ nt (m 13 e) → nt (m 13 e) < 14 → isn (m 15 e) 79 ∧ nt (m 15 e) < e) ∧
  (m 17 e = 0 → nt (m 13 e) ≠ 2 ∧ nt (m 13 e) ≠ 3 ∧ (7 ≤ nt (m 13 e) → m 17 (nt (m 14 e)) = 0) ∧ (7 ≤ nt (m 13 e) → nt (m 13 e) < 14 → m 17 (nt (m 15 e)) = 0))
def VPx (m : hp_H) : Prop := isn (m 0 15) 80 ∧ ∀ e, e < nt (m 0 15) → VPx1 m e
def VPa (m : hp_H) (s i : Nat) : Prop := isn (m 23 (4 * s + i)) 3 ∧
  (nt (m 23 (4 * s + i)) = 0 → isn (m 24 (4 * s + i)) 5 ∧ nt (m 24 (4 * s + i)) < nt (m 0 0)) ∧
  (nt (m 23 (4 * s + i)) = 1 → isn (m 24 (4 * s + i)) 2 ∧ nt (m 24 (4 * s + i)) < nt (m 5 (nt (m 18 s)))) ∧
  (2 ≤ nt (m 23 (4 * s + i)) → isn (m 24 (4 * s + i)) 2 ∧ nt (m 24 (4 * s + i)) < nt (m 0 11)) ∧
  (nt (m 23 (4 * s + i)) < 3 → isn (m 25 (4 * s + i)) 79 ∧ nt (m 25 (4 * s + i)) < nt (m 0 15)) ∧
  (nt (m 23 (4 * s + i)) = 3 → isn (m 25 (4 * s + i)) 2 ∧ nt (m 25 (4 * s + i)) < nt (m 5 (nt (m 18 s))))
def VPt1 (m : hp_H) (s : Nat) : Prop := isn (m 18 s) 2 ∧ nt (m 18 s) < nt (m 0 4) ∧ isn (m 19 s) 9 ∧ isn (m 20 s) 9 ∧ (m 21 s = -1 ∨ (isn (m 21 s) 79 ∧ nt (m 21 s) < nt (m 0 15))) ∧ (∀ i, i < nt (m 22 s) → VPa m s i) ∧
  ∀ i j, i < nt (m 22 s) → j < nt (m 22 s) → i ≠ j → m 23 (4 * s + i) = m 23 (4 * s + j) → 2 ≤ nt (m 23 (4 * s + i)) → m 24 (4 * s + i) ≠ m 24 (4 * s + j)
def VPt (m : hp_H) : Prop := isn (m 0 21) 24 ∧ (∀ s, s < 24 → isn (m 22 s) 4) ∧ (∀ s, nt (m 0 21) ≤ s → s < 24 → m 22 s = nI 0) ∧ ∀ s, s < nt (m 0 21) → VPt1 m s
def VPo (m : hp_H) : Prop := isn (m 0 31) 8 ∧ ∀ k, k < nt (m 0 31) → isn (m 26 k) 79 ∧ nt (m 26 k) < nt (m 0 15) ∧ m 17 (nt (m 26 k)) = 0
def VP (m : hp_H) : Prop := VPs m ∧ VPr m ∧ VPc m ∧ VPx m ∧ VPt m ∧ hp_bz (m 0 30)
def EQ (b m : hp_H) : Prop := EQp b m ∧ EQf b m ∧ EQe b m ∧ EQn b m
/-- there is no search -/
def GR0 (b m : hp_H) : Prop := b 35 0 = nI 0 ∧ b 35 1 = nI 0 ∧ b 35 2 = nI 0 ∧ m 0 33 = nI 0 ∧ m 0 34 = nI 0 ∧ m 0 35 = nI 0
def DV0 (b : hp_H) : Prop := (b hp_V 0 = nI 0 ∧ b hp_V 1 = nI 3) ∨ (b hp_V 0 = nI 3 ∧ b hp_V 1 = nI 0)
