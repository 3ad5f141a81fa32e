/-! ===== rows that the search meets ===== -/
def SR (p : hp_H) (d : Nat → Nat) : Prop := ¬ p 0 30 = 0 → ∀ r, r < nt (p 0 4) → ∀ m, m + 1 < nt (p 4 r) → rw_w d (1 + (3 * r + m)) ≤ rw_w d (2 + (3 * r + m))
def DG (p : hp_H) (d : Nat → Nat) : Prop := (∀ k, d k ≤ 9) ∧ rw_T d ∧ SR p d
theorem DG.D {p : hp_H} {d : Nat → Nat} (h : DG p d) : rw_D d := fun k => by have := h.1 k; omega
theorem dgt {v lo hi : Int32} (h1 : isn lo 9) (h2 : isn hi 9) (h3 : ¬ v < lo) (h4 : ¬ hi < v) : isn v 9 := by
  obtain ⟨a, a1, rfl, -⟩ := isn_e h1
  obtain ⟨b, b1, rfl, -⟩ := isn_e h2
  have v0 : ¬ v < 0 := by
    rw [Int32.lt_iff_toInt_lt] at h3 ⊢
    rw [nI_toInt (by omega)] at h3
    have : (0 : Int32).toInt = 0 := by decide
    omega
  obtain ⟨j, j1, rfl⟩ := nI_of v0
  rw [nI_ltI (by omega) j1] at h4
  exact isn_i (by omega) (by decide)
theorem va_e {α : Type} (d : Nat → α) (k : Nat) (v : α) : va_up d k v k = v := by unfold va_up; simp
theorem va_n {α : Type} (d : Nat → α) {k j : Nat} (v : α) (h : j ≠ k) : va_up d k v j = d j := by unfold va_up; simp [h]
def CV (p : hp_H) (d : Nat → Nat) (s : Nat) (c : Nat → Nat) : Prop := ∀ i, c i < 3 ∧ (¬ (i < nt (p 22 s) ∧ LSe p s i) → c i = 0) ∧ (i < nt (p 22 s) → nt (p 23 (4 * s + i)) = 3 → c i < d (42 + 4 * nt (p 24 (4 * s + i))))
theorem CV_0 {p : hp_H} {d : Nat → Nat} {s : Nat} (h : ∀ i, i < nt (p 22 s) → cnA p d s i) : CV p d s (fun _ => 0) := fun i => ⟨Nat.zero_lt_succ 2, fun _ => rfl, fun h1 h2 => (h i h1).2 h2⟩
theorem nxt_s {p : hp_H} {d : Nat → Nat} {s i : Nat} {c : Nat → Nat} (h : LSe p s i) {n : Nat} (e : nx d (nt (p 24 (4 * s + i))) (c i + 1) = some n) : nxt p d s (i + 1) c = some (va_up c i n) := by
  show cif (LSe p s i) _ _ = _
  rw [cif_t h, e]
theorem nxt_z {p : hp_H} {d : Nat → Nat} {s i : Nat} {c : Nat → Nat} (h : LSe p s i) (e : nx d (nt (p 24 (4 * s + i))) (c i + 1) = none) : nxt p d s (i + 1) c = nxt p d s i (va_up c i 0) := by
  show cif (LSe p s i) _ _ = _
  rw [cif_t h, e]
theorem nxt_n {p : hp_H} {d : Nat → Nat} {s i : Nat} {c : Nat → Nat} (h : ¬ LSe p s i) : nxt p d s (i + 1) c = nxt p d s i c := by
  show cif (LSe p s i) _ _ = _
  rw [cif_f h]
theorem nxt_g {p : hp_H} {d : Nat → Nat} {s : Nat} : ∀ (n : Nat) (c c' : Nat → Nat), nxt p d s n c = some c' → ∃ i, i < n ∧ LSe p s i ∧ c i + 1 ≤ c' i ∧ c' i < 3 ∧ c' i < d (42 + 4 * nt (p 24 (4 * s + i))) ∧ (∀ j, j < i → c' j = c j) ∧ (∀ j, i < j → j < n → LSe p s j → c' j = 0) ∧ (∀ j, i < j → j < n → ¬ LSe p s j → c' j = c j) ∧ ∀ j, n ≤ j → c' j = c j := by
  intro n
  induction n with
  | zero => intro c c' h; exact absurd h (by intro z; cases z)
  | succ n ih =>
    intro c c' h
    by_cases hl : LSe p s n
    · cases e : nx d (nt (p 24 (4 * s + n))) (c n + 1) with
      | some x =>
        rw [nxt_s hl e] at h
        cases h
        obtain ⟨⟨o1, o2, o3⟩, o4⟩ := nx_get e
        refine ⟨n, by omega, hl, by rw [va_e]; exact o1, by rw [va_e]; exact o4, by rw [va_e]; exact o2, fun j hj => va_n _ _ (by omega), fun j h1 h2 => by omega, fun j h1 h2 => by omega, fun j hj => va_n _ _ (by omega)⟩
      | none =>
        rw [nxt_z hl e] at h
        obtain ⟨i, i1, i2, i3, i4, i5, i6, i7, i8, i9⟩ := ih _ _ h
        rw [va_n _ _ (by omega)] at i3
        refine ⟨i, by omega, i2, i3, i4, i5, fun j hj => by rw [i6 j hj, va_n _ _ (by omega)], fun j h1 h2 h3 => ?_, fun j h1 h2 h3 => ?_, fun j hj => by rw [i9 j (by omega), va_n _ _ (by omega)]⟩
        · rcases (show j < n ∨ j = n by omega) with z | z
          · exact i7 j h1 z h3
          · subst z; rw [i9 j (by omega), va_e]
        · rcases (show j < n ∨ j = n by omega) with z | z
          · rw [i8 j h1 z h3, va_n _ _ (by omega)]
          · subst z; exact absurd hl h3
    · rw [nxt_n hl] at h
      obtain ⟨i, i1, i2, i3, i4, i5, i6, i7, i8, i9⟩ := ih _ _ h
      refine ⟨i, by omega, i2, i3, i4, i5, i6, fun j h1 h2 h3 => ?_, fun j h1 h2 h3 => ?_, fun j hj => i9 j (by omega)⟩
      · rcases (show j < n ∨ j = n by omega) with z | z
        · exact i7 j h1 z h3
        · subst z; exact absurd h3 hl
      · rcases (show j < n ∨ j = n by omega) with z | z
        · exact i8 j h1 z h3
        · subst z; exact i9 j (by omega)
theorem CV_n {p : hp_H} {d : Nat → Nat} {s : Nat} {c c' : Nat → Nat} (h : CV p d s c) (hc : ∀ i, i < nt (p 22 s) → cnA p d s i) (e : nxt p d s (nt (p 22 s)) c = some c') : CV p d s c' := by
  obtain ⟨i, i1, i2, i3, i4, i5, i6, i7, i8, i9⟩ := nxt_g _ _ _ e
  intro j
  by_cases z : j < i
  · rw [i6 j z]; exact h j
  by_cases z2 : j = i
  · subst z2; exact ⟨i4, fun q => absurd ⟨i1, i2⟩ q, fun _ _ => i5⟩
  by_cases z3 : j < nt (p 22 s)
  · by_cases z4 : LSe p s j
    · rw [i7 j (by omega) z3 z4]; exact ⟨by decide, fun _ => rfl, fun h1 h2 => (hc j h1).2 h2⟩
    · rw [i8 j (by omega) z3 z4]; exact h j
  · rw [i9 j (by omega)]; exact h j
/-- the picks, as a number of three digits at most -/
noncomputable def vx (p : hp_H) (s i : Nat) : Nat := cif (i < nt (p 22 s) ∧ LSe p s i) 1 0
noncomputable def vm (p : hp_H) (s : Nat) (c : Nat → Nat) : Nat := c 3 * vx p s 3 + c 2 * (vx p s 2 * 3 ^ vx p s 3) + c 1 * (vx p s 1 * 3 ^ (vx p s 2 + vx p s 3)) + c 0 * (vx p s 0 * 3 ^ (vx p s 1 + vx p s 2 + vx p s 3))
theorem vx_c (p : hp_H) (s i : Nat) : (vx p s i = 1 ∧ i < nt (p 22 s) ∧ LSe p s i) ∨ (vx p s i = 0 ∧ ¬ (i < nt (p 22 s) ∧ LSe p s i)) := by
  unfold vx
  by_cases h : i < nt (p 22 s) ∧ LSe p s i
  · left; rw [cif_t h]; exact ⟨rfl, h⟩
  · right; rw [cif_f h]; exact ⟨rfl, h⟩
theorem vx_3 {p : hp_H} {s : Nat} (v : VPt1 p s) : vx p s 0 + vx p s 1 + vx p s 2 + vx p s 3 ≤ 3 := by
  obtain ⟨v1, v2, v3, v4, v5, v6, v7⟩ := v
  rcases vx_c p s 0 with ⟨a0, b0, c0⟩ | ⟨a0, -⟩ <;> rcases vx_c p s 1 with ⟨a1, b1, c1⟩ | ⟨a1, -⟩ <;> rcases vx_c p s 2 with ⟨a2, b2, c2⟩ | ⟨a2, -⟩ <;> rcases vx_c p s 3 with ⟨a3, b3, c3⟩ | ⟨a3, -⟩ <;> try omega
  have ch : ∀ i, i < nt (p 22 s) → LSe p s i → p 23 (4 * s + i) = nI 3 ∧ p 24 (4 * s + i) = nI (nt (p 24 (4 * s + i))) ∧ nt (p 24 (4 * s + i)) ≤ 2 := by
    intro i hi hl
    obtain ⟨w1, w2, w3, w4, w5, w6⟩ := v6 i hi
    have := (w4 (by rw [hl.1]; decide)).1
    exact ⟨by rw [w1.1, hl.1], this.1, this.2⟩
  have ne : ∀ i j, i < nt (p 22 s) → j < nt (p 22 s) → i ≠ j → LSe p s i → LSe p s j → nt (p 24 (4 * s + i)) ≠ nt (p 24 (4 * s + j)) := by
    intro i j hi hj hij li lj e
    obtain ⟨q1, q2, q3⟩ := ch i hi li
    obtain ⟨r1, r2, r3⟩ := ch j hj lj
    exact v7 i j hi hj hij (by rw [q1, r1]) (by rw [li.1]; decide) (by rw [q2, r2, e])
  have x0 := (ch 0 b0 c0).2.2; have x1 := (ch 1 b1 c1).2.2; have x2 := (ch 2 b2 c2).2.2; have x3 := (ch 3 b3 c3).2.2
  have y01 := ne 0 1 b0 b1 (by decide) c0 c1; have y02 := ne 0 2 b0 b2 (by decide) c0 c2; have y03 := ne 0 3 b0 b3 (by decide) c0 c3
  have y12 := ne 1 2 b1 b2 (by decide) c1 c2; have y13 := ne 1 3 b1 b3 (by decide) c1 c3; have y23 := ne 2 3 b2 b3 (by decide) c2 c3
  omega
theorem vm_lt {p : hp_H} {d : Nat → Nat} {s : Nat} {c : Nat → Nat} (v : VPt1 p s) (h : CV p d s c) : vm p s c < 27 := by
  have h3 := vx_3 v
  have c0 := (h 0).1; have c1 := (h 1).1; have c2 := (h 2).1; have c3 := (h 3).1
  unfold vm
  rcases vx_c p s 0 with ⟨a0, -⟩ | ⟨a0, -⟩ <;> rcases vx_c p s 1 with ⟨a1, -⟩ | ⟨a1, -⟩ <;> rcases vx_c p s 2 with ⟨a2, -⟩ | ⟨a2, -⟩ <;> rcases vx_c p s 3 with ⟨a3, -⟩ | ⟨a3, -⟩ <;> rw [a0, a1, a2, a3] at h3 ⊢ <;> simp only [Nat.reduceAdd, Nat.reducePow, Nat.mul_one, Nat.mul_zero, Nat.zero_mul, Nat.one_mul, Nat.add_zero] <;> omega
theorem vm_up {p : hp_H} {d : Nat → Nat} {s : Nat} {c c' : Nat → Nat} (v : VPt1 p s) (n4 : nt (p 22 s) ≤ 4) (h : CV p d s c) (e : nxt p d s (nt (p 22 s)) c = some c') : vm p s c < vm p s c' := by
  obtain ⟨i, i1, i2, i3, i4, i5, i6, i7, i8, i9⟩ := nxt_g _ _ _ e
  have c0 := (h 0).1; have c1 := (h 1).1; have c2 := (h 2).1; have c3 := (h 3).1
  have xi : vx p s i = 1 := by unfold vx; exact cif_t ⟨i1, i2⟩
  unfold vm
  rcases (show i = 0 ∨ i = 1 ∨ i = 2 ∨ i = 3 by omega) with z | z | z | z <;> subst z
  · rcases vx_c p s 1 with ⟨a1, -⟩ | ⟨a1, -⟩ <;> rcases vx_c p s 2 with ⟨a2, -⟩ | ⟨a2, -⟩ <;> rcases vx_c p s 3 with ⟨a3, -⟩ | ⟨a3, -⟩ <;> rw [xi, a1, a2, a3] <;> simp only [Nat.reduceAdd, Nat.reducePow, Nat.mul_one, Nat.mul_zero, Nat.zero_mul, Nat.one_mul, Nat.add_zero] <;> omega
  · have e0 := i6 0 (by omega)
    rcases vx_c p s 0 with ⟨a1, -⟩ | ⟨a1, -⟩ <;> rcases vx_c p s 2 with ⟨a2, -⟩ | ⟨a2, -⟩ <;> rcases vx_c p s 3 with ⟨a3, -⟩ | ⟨a3, -⟩ <;> rw [xi, a1, a2, a3] <;> simp only [Nat.reduceAdd, Nat.reducePow, Nat.mul_one, Nat.mul_zero, Nat.zero_mul, Nat.one_mul, Nat.add_zero] <;> omega
  · have e0 := i6 0 (by omega); have e1 := i6 1 (by omega)
    rcases vx_c p s 0 with ⟨a1, -⟩ | ⟨a1, -⟩ <;> rcases vx_c p s 1 with ⟨a2, -⟩ | ⟨a2, -⟩ <;> rcases vx_c p s 3 with ⟨a3, -⟩ | ⟨a3, -⟩ <;> rw [xi, a1, a2, a3] <;> simp only [Nat.reduceAdd, Nat.reducePow, Nat.mul_one, Nat.mul_zero, Nat.zero_mul, Nat.one_mul, Nat.add_zero] <;> omega
  · have e0 := i6 0 (by omega); have e1 := i6 1 (by omega); have e2 := i6 2 (by omega)
    rcases vx_c p s 0 with ⟨a1, -⟩ | ⟨a1, -⟩ <;> rcases vx_c p s 1 with ⟨a2, -⟩ | ⟨a2, -⟩ <;> rcases vx_c p s 2 with ⟨a3, -⟩ | ⟨a3, -⟩ <;> rw [xi, a1, a2, a3] <;> simp only [Nat.reduceAdd, Nat.reducePow, Nat.mul_one, Nat.mul_zero, Nat.zero_mul, Nat.one_mul, Nat.add_zero] <;> omega
/-- the row between the acts of a step -/
def DA (p : hp_H) (d : Nat → Nat) (r m s i : Nat) (e : Nat → Nat) : Prop := (∀ k, e k ≤ 9) ∧ rw_T e ∧ (∀ x, x < 3 → (∀ j, j < i → ¬ (nt (p 23 (4 * s + j)) = 2 ∧ nt (p 24 (4 * s + j)) = x)) → e (42 + 4 * x) ≤ d (42 + 4 * x)) ∧ (∀ x, x < 3 → (∀ j, j < i → ¬ (nt (p 23 (4 * s + j)) = 3 ∧ nt (p 24 (4 * s + j)) = x)) → d (42 + 4 * x) ≤ e (42 + 4 * x)) ∧ ∀ k, 6 ≤ k → k < 42 → (k < 6 + 4 * (3 * r + m) ∨ 10 + 4 * (3 * r + m) ≤ k) → e k = d k
theorem DA_0 {p : hp_H} {d : Nat → Nat} {r m s : Nat} (h : DG p d) : DA p d r m s 0 d := ⟨h.1, h.2.1, fun x _ _ => Nat.le_refl _, fun x _ _ => Nat.le_refl _, fun k _ _ _ => rfl⟩
/-- what an act meets is there -/
theorem DA_w {p : hp_H} {d : Nat → Nat} {r m s i : Nat} {e : Nat → Nat} (v : VP p) (hs : s < nt (p 0 21)) (hi : i < nt (p 22 s)) (hc : cnA p d s i) (h : DA p d r m s i e) :
    (nt (p 23 (4 * s + i)) = 2 → e (42 + 4 * nt (p 24 (4 * s + i))) < 3) ∧ (nt (p 23 (4 * s + i)) = 3 → d (42 + 4 * nt (p 24 (4 * s + i))) ≤ e (42 + 4 * nt (p 24 (4 * s + i))) ∧ 0 < e (42 + 4 * nt (p 24 (4 * s + i)))) := by
  obtain ⟨vs, vr, vc, vx, vt, v30⟩ := v
  obtain ⟨v1, v2, v3, v4, v5, v6, v7⟩ := vt.2.2.2 s hs
  obtain ⟨w1, w2, w3, w4, w5, w6⟩ := v6 i hi
  have nodup : ∀ j, j < i → nt (p 23 (4 * s + i)) = 2 ∨ nt (p 23 (4 * s + i)) = 3 → nt (p 23 (4 * s + j)) = nt (p 23 (4 * s + i)) → nt (p 24 (4 * s + j)) ≠ nt (p 24 (4 * s + i)) := by
    intro j hj hk hkk e
    obtain ⟨u1, u2, u3, u4, u5, u6⟩ := v6 j (by omega)
    refine v7 j i (by omega) hi (by omega) (by rw [u1.1, w1.1, hkk]) (by omega) ?_
    rw [(u4 (by omega)).1.1, (w4 (by omega)).1.1, e]
  refine ⟨fun k2 => ?_, fun k3 => ?_⟩
  · obtain ⟨x1, x2⟩ := w4 (by omega)
    have := hc.1 k2
    have q := (vc.2 _ x2).1.2
    have := h.2.2.1 _ (by have := x1.2; omega) (fun j hj z => nodup j hj (Or.inl k2) (by omega) z.2)
    omega
  · obtain ⟨x1, x2⟩ := w4 (by omega)
    have := hc.2 k3
    have := h.2.2.2.1 _ (by have := x1.2; omega) (fun j hj z => nodup j hj (Or.inr k3) (by omega) z.2)
    omega
theorem va_9 {e : Nat → Nat} {k v : Nat} (h : ∀ k, e k ≤ 9) (hv : v ≤ 9) : ∀ j, va_up e k v j ≤ 9 := by
  intro j
  by_cases z : j = k
  · rw [z, va_e]; exact hv
  · rw [va_n _ _ z]; exact h j
theorem rw_T_lo {e : Nat → Nat} {k v : Nat} (h : rw_T e) (hk : k < 42) : rw_T (va_up e k v) := by
  intro c hc
  rw [va_n _ _ (by omega)]
  refine ⟨(h c hc).1, fun i hi hl => ?_⟩
  rw [va_n _ _ (by omega)]
  exact (h c hc).2 i hi hl
theorem rw_T_pt {e : Nat → Nat} {c v : Nat} (h : rw_T e) (hc : c < 3) (hl : e (42 + 4 * c) < 3) : rw_T (rw_pt e c v) := by
  intro x hx
  unfold rw_pt
  by_cases z : x = c
  · subst z
    rw [va_e]
    refine ⟨by omega, fun i hi h2 => ?_⟩
    rw [va_n _ _ (by omega), va_n _ _ (by omega)]
    exact (h x hx).2 i hi (by omega)
  · rw [va_n _ _ (by omega), va_n _ _ (by omega)]
    refine ⟨(h x hx).1, fun i hi h2 => ?_⟩
    rw [va_n _ _ (by omega), va_n _ _ (by omega)]
    exact (h x hx).2 i hi h2
theorem tk_o {e : Nat → Nat} {c i k : Nat} (h : k < 42 + 4 * c ∨ 46 + 4 * c ≤ k) : rw_tk e c i k = e k := by
  unfold rw_tk
  rw [if_neg (by omega), if_neg (by omega), if_neg (by omega)]
theorem tk_h {e : Nat → Nat} {c i : Nat} : rw_tk e c i (42 + 4 * c) = e (42 + 4 * c) - 1 := by
  unfold rw_tk
  rw [if_pos rfl]
theorem tk_9 {e : Nat → Nat} {c i : Nat} (h : ∀ k, e k ≤ 9) : ∀ j, rw_tk e c i j ≤ 9 := by
  intro j
  have a := h j; have b := h (j + 1)
  unfold rw_tk
  split
  · omega
  · split
    · exact b
    · split
      · omega
      · exact a
theorem rw_T_tk {e : Nat → Nat} {c i : Nat} (h : rw_T e) (hc : c < 3) (hi : i < e (42 + 4 * c)) : rw_T (rw_tk e c i) := by
  intro x hx
  by_cases z : x = c
  · subst z
    rw [tk_h]
    have q := h x hx
    refine ⟨by omega, fun j hj h2 => ?_⟩
    unfold rw_tk
    rw [if_neg (by omega)]
    split
    · rw [show 43 + 4 * x + j + 1 = 43 + 4 * x + (j + 1) by omega]
      exact q.2 (j + 1) (by omega) (by omega)
    · split
      · rfl
      · exact q.2 j hj (by omega)
  · rw [tk_o (by omega)]
    refine ⟨(h x hx).1, fun j hj h2 => ?_⟩
    rw [tk_o (by omega)]
    exact (h x hx).2 j hj h2
theorem pt_o {e : Nat → Nat} {c v k : Nat} (hl : e (42 + 4 * c) < 3) (h : k < 42 + 4 * c ∨ 46 + 4 * c ≤ k) : rw_pt e c v k = e k := by
  unfold rw_pt
  rw [va_n _ _ (by omega), va_n _ _ (by omega)]
theorem pt_9 {e : Nat → Nat} {c v : Nat} (h : ∀ k, e k ≤ 9) (hl : e (42 + 4 * c) < 3) (hv : v ≤ 9) : ∀ j, rw_pt e c v j ≤ 9 := va_9 (va_9 h hv) (by omega)
theorem DA_s {p : hp_H} {d : Nat → Nat} {t : Nat → Int32} {r m s i : Nat} {c e e' : Nat → Nat} (v : VP p) (hg : ∀ k, d k ≤ 9) (hs : s < nt (p 0 21)) (hr : nt (p 18 s) = r) (hm : m < nt (p 4 r)) (hi : i < nt (p 22 s)) (hc : cnA p d s i) (cv : CV p d s c) (h : DA p d r m s i e) (ha : ac1 p d t r m s c i e = some e') : DA p d r m s (i + 1) e' := by
  have hw := DA_w v hs hi hc h
  obtain ⟨vs, vr, vc, vx, vt, v30⟩ := v
  obtain ⟨v1, v2, v3, v4, v5, v6, v7⟩ := vt.2.2.2 s hs
  obtain ⟨w1, w2, w3, w4, w5, w6⟩ := v6 i hi
  obtain ⟨h1, h2, h3, h4, h5⟩ := h
  have r3 : r < 3 := by have := v1.2; omega
  have rr : r < nt (p 0 4) := by omega
  have m3 : m < 3 := by have := (vr.2.2.1 r rr).1.2; omega
  have up : ∀ (x : Nat), (∀ j, j < i + 1 → ¬ (nt (p 23 (4 * s + j)) = 2 ∧ nt (p 24 (4 * s + j)) = x)) → ∀ j, j < i → ¬ (nt (p 23 (4 * s + j)) = 2 ∧ nt (p 24 (4 * s + j)) = x) := fun x q j hj => q j (by omega)
  have up3 : ∀ (x : Nat), (∀ j, j < i + 1 → ¬ (nt (p 23 (4 * s + j)) = 3 ∧ nt (p 24 (4 * s + j)) = x)) → ∀ j, j < i → ¬ (nt (p 23 (4 * s + j)) = 3 ∧ nt (p 24 (4 * s + j)) = x) := fun x q j hj => q j (by omega)
  have w1' := w1.2
  unfold ac1 at ha
  rcases (show nt (p 23 (4 * s + i)) = 0 ∨ nt (p 23 (4 * s + i)) = 1 ∨ nt (p 23 (4 * s + i)) = 2 ∨ nt (p 23 (4 * s + i)) = 3 by omega) with k | k | k | k <;> rw [k] at ha
  · obtain ⟨a1, a2⟩ := w2 k
    have a1' := a1.2
    by_cases g : ¬ t (nt (p 25 (4 * s + i))) < p 1 (nt (p 24 (4 * s + i))) ∧ ¬ p 2 (nt (p 24 (4 * s + i))) < t (nt (p 25 (4 * s + i)))
    · rw [cif_t g] at ha
      cases ha
      obtain ⟨b1, b2, -⟩ := vs.2 _ a2
      have b := (dgt b1 b2 g.1 g.2).2
      exact ⟨va_9 h1 b, rw_T_lo h2 (by omega), fun x hx q => by rw [va_n _ _ (by omega)]; exact h3 x hx (up x q), fun x hx q => by rw [va_n _ _ (by omega)]; exact h4 x hx (up3 x q), fun k k1 k2 k3 => by rw [va_n _ _ (by omega)]; exact h5 k k1 k2 k3⟩
    · rw [cif_f g] at ha; cases ha
  · obtain ⟨a1, a2⟩ := w3 k
    have a1' := a1.2
    by_cases g : ¬ t (nt (p 25 (4 * s + i))) < p 6 (3 * r + nt (p 24 (4 * s + i))) ∧ ¬ p 7 (3 * r + nt (p 24 (4 * s + i))) < t (nt (p 25 (4 * s + i)))
    · rw [cif_t g] at ha
      cases ha
      obtain ⟨b1, b2, -⟩ := vr.2.2.2.2 r _ r3 (by rw [hr] at a2; exact a2)
      have b := (dgt b1 b2 g.1 g.2).2
      exact ⟨va_9 h1 b, rw_T_lo h2 (by omega), fun x hx q => by rw [va_n _ _ (by omega)]; exact h3 x hx (up x q), fun x hx q => by rw [va_n _ _ (by omega)]; exact h4 x hx (up3 x q), fun k k1 k2 k3 => by rw [va_n _ _ (by omega)]; exact h5 k k1 k2 k3⟩
    · rw [cif_f g] at ha; cases ha
  · obtain ⟨a1, a2⟩ := w4 (by omega)
    have a1' := a1.2
    by_cases g : ¬ t (nt (p 25 (4 * s + i))) < 0 ∧ ¬ nI 9 < t (nt (p 25 (4 * s + i)))
    · rw [cif_t g] at ha
      cases ha
      have hl := hw.1 k
      obtain ⟨u, u1, u2⟩ := nu_dg g
      have b : nt (t (nt (p 25 (4 * s + i)))) ≤ 9 := by rw [u2, nt_nI (by omega)]; exact u1
      refine ⟨pt_9 h1 hl b, rw_T_pt h2 (by omega) hl, fun x hx q => ?_, fun x hx q => ?_, fun k k1 k2 k3 => by rw [pt_o hl (by omega)]; exact h5 k k1 k2 k3⟩
      · have ne : nt (p 24 (4 * s + i)) ≠ x := fun z => q i (by omega) ⟨k, z⟩
        rw [pt_o hl (by omega)]; exact h3 x hx (up x q)
      · have := h4 x hx (up3 x q)
        by_cases z : x = nt (p 24 (4 * s + i))
        · subst z
          unfold rw_pt
          rw [va_e]; omega
        · rw [pt_o hl (by omega)]; exact this
    · rw [cif_f g] at ha; cases ha
  · obtain ⟨a1, a2⟩ := w4 (by omega)
    obtain ⟨o1, o2⟩ := w6 k
    have a1' := a1.2
    have o1' := o1.2
    by_cases g : ¬ nI (d (43 + 4 * nt (p 24 (4 * s + i)) + c i)) < p 6 (3 * r + nt (p 25 (4 * s + i))) ∧ ¬ p 7 (3 * r + nt (p 25 (4 * s + i))) < nI (d (43 + 4 * nt (p 24 (4 * s + i)) + c i))
    · rw [cif_t g] at ha
      cases ha
      have hl := hw.2 k
      have ci := (cv i).2.2 hi k
      have b := hg (43 + 4 * nt (p 24 (4 * s + i)) + c i)
      have t2 : rw_T (va_up e (7 + 4 * (3 * r + m) + nt (p 25 (4 * s + i))) (d (43 + 4 * nt (p 24 (4 * s + i)) + c i))) := rw_T_lo h2 (by omega)
      refine ⟨tk_9 (va_9 h1 b), rw_T_tk t2 (by omega) (by rw [va_n _ _ (by omega)]; omega), fun x hx q => ?_, fun x hx q => ?_, fun k k1 k2 k3 => by rw [tk_o (by omega), va_n _ _ (by omega)]; exact h5 k k1 k2 k3⟩
      · have := h3 x hx (up x q)
        by_cases z : x = nt (p 24 (4 * s + i))
        · subst z
          rw [tk_h, va_n _ _ (by omega)]; omega
        · rw [tk_o (by omega), va_n _ _ (by omega)]; exact this
      · have ne : nt (p 24 (4 * s + i)) ≠ x := fun z => q i (by omega) ⟨k, z⟩
        rw [tk_o (by omega), va_n _ _ (by omega)]; exact h4 x hx (up3 x q)
    · rw [cif_f g] at ha; cases ha
theorem DA_i {p : hp_H} {d : Nat → Nat} {t : Nat → Int32} {r m s : Nat} {c : Nat → Nat} (v : VP p) (hg : DG p d) (hs : s < nt (p 0 21)) (hr : nt (p 18 s) = r) (hm : m < nt (p 4 r)) (hc : ∀ i, i < nt (p 22 s) → cnA p d s i) (cv : CV p d s c) : ∀ i e, i ≤ nt (p 22 s) → dn p d t r m s c i = some e → DA p d r m s i e := by
  intro i
  induction i with
  | zero => intro e _ h; cases h; exact DA_0 hg
  | succ i ih =>
    intro e hi h
    cases q : dn p d t r m s c i with
    | none => rw [dn_n q (i + 1) (by omega)] at h; cases h
    | some x =>
      rw [dn_s q] at h
      exact DA_s v hg.1 hs hr hm (by omega) (hc i (by omega)) cv (ih x (by omega) q) h
