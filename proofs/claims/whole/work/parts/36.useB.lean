/-! ===== which expressions are used ===== -/
def dep (p : hp_H) (x y : Nat) : Prop := 7 ≤ nt (p 13 x) ∧ (y = nt (p 14 x) ∨ (nt (p 13 x) < 14 ∧ y = nt (p 15 x)))
def Rc (p : hp_H) (X : Nat → Prop) (e : Nat) : Prop := ∀ S : Nat → Prop, (∀ x, X x → S x) → (∀ x y, S x → dep p x y → S y) → S e
theorem Rc.b {p : hp_H} {X : Nat → Prop} {e : Nat} (h : X e) : Rc p X e := fun _ h1 _ => h1 e h
theorem Rc.s {p : hp_H} {X : Nat → Prop} {x y : Nat} (h : Rc p X x) (d : dep p x y) : Rc p X y := fun S h1 h2 => h2 x y (h S h1 h2) d
theorem Rc.mono {p : hp_H} {X Y : Nat → Prop} {e : Nat} (h : Rc p X e) (q : ∀ x, X x → Y x) : Rc p Y e := fun S h1 h2 => h S (fun x hx => h1 x (q x hx)) h2
def rootS (p : hp_H) (s x : Nat) : Prop := (¬ p 21 s = -1 ∧ x = nt (p 21 s)) ∨ ∃ i, i < nt (p 22 s) ∧ ¬ nt (p 23 (4 * s + i)) = 3 ∧ x = nt (p 25 (4 * s + i))
def roots (p : hp_H) (r x : Nat) : Prop := ∃ s, s < nt (p 0 21) ∧ nt (p 18 s) = r ∧ rootS p s x
def FIT (p : hp_H) : Prop := (¬ p 0 30 = 0 → ∀ e, e < nt (p 0 15) → nt (p 13 e) ≠ 3 ∧ nt (p 13 e) ≠ 6) ∧ ∀ r, r < nt (p 0 4) → ∀ e, e < nt (p 0 15) → Rc p (roots p r) e → nt (p 13 e) = 2 → nt (p 14 e) < nt (p 5 r)
theorem dep_lt {p : hp_H} (v : VP p) {x y : Nat} (hx : x < nt (p 0 15)) (d : dep p x y) : y < x := by
  obtain ⟨x1, x2, x3, x4, x5, x6, x7, x8, x9, x10⟩ := v.2.2.2.1.2 x hx
  rcases d with ⟨d1, d2 | ⟨d2, d3⟩⟩
  · rw [d2]; exact (x8 d1).2
  · rw [d3]; exact (x9 d1 d2).2
theorem Rc_lt {p : hp_H} (v : VP p) {X : Nat → Prop} {e : Nat} (h : Rc p X e) (hX : ∀ x, X x → x < nt (p 0 15)) : e < nt (p 0 15) := h (fun e => e < nt (p 0 15)) hX (fun x y hx d => by have := dep_lt v hx d; omega)
theorem rootS_lt {p : hp_H} (v : VP p) {s x : Nat} (hs : s < nt (p 0 21)) (h : rootS p s x) : x < nt (p 0 15) := by
  obtain ⟨v1, v2, v3, v4, v5, v6, v7⟩ := v.2.2.2.2.1.2.2.2 s hs
  rcases h with ⟨h1, h2⟩ | ⟨i, i1, i2, i3⟩
  · rw [h2]; exact v5.elim (fun z => absurd z h1) (fun z => z.2)
  · have := (v6 i i1).1.2
    rw [i3]; exact ((v6 i i1).2.2.2.2.1 (by omega)).2
theorem or_and0 (x y u : Int32) : (x ||| y) &&& u = 0 ↔ x &&& u = 0 ∧ y &&& u = 0 := by
  rw [← Int32.toBitVec_inj, ← Int32.toBitVec_inj, ← Int32.toBitVec_inj, Int32.toBitVec_and, Int32.toBitVec_or, Int32.toBitVec_and, Int32.toBitVec_and]
  have z : (0 : Int32).toBitVec = 0#32 := rfl
  rw [z]
  constructor
  · intro h
    constructor
    · apply BitVec.eq_of_getLsbD_eq
      intro i hi
      have := congrArg (fun q => q.getLsbD i) h
      simp at this ⊢
      intro a
      exact this (Or.inl a)
    · apply BitVec.eq_of_getLsbD_eq
      intro i hi
      have := congrArg (fun q => q.getLsbD i) h
      simp at this ⊢
      intro a
      exact this (Or.inr a)
  · rintro ⟨h1, h2⟩
    apply BitVec.eq_of_getLsbD_eq
    intro i hi
    have a1 := congrArg (fun q => q.getLsbD i) h1
    have a2 := congrArg (fun q => q.getLsbD i) h2
    simp at a1 a2 ⊢
    intro a
    exact a.elim a1 a2
theorem and_rot (x y u : Int32) : (x &&& y) &&& u = x &&& (y &&& u) := Int32.and_assoc x y u
theorem rb_rb : ∀ r, r < 3 → ∀ s, s < 3 → (rb s &&& rb r = 0 ↔ s ≠ r) := by decide +kernel
theorem drop7 : ∀ r, r < 3 → (nI 7 ^^^ (-1)) &&& rb r = 0 := by decide +kernel
theorem and_z (x : Int32) : x &&& 0 = 0 := by
  rw [← Int32.toBitVec_inj, Int32.toBitVec_and]
  simp
/-- a use is spread to the parts -/
theorem s_spreadUses {p b : hp_H} {Q : hp_H → Prop} (v : VP p) (eq : EQ b p) (hQ : ∀ b', (∀ k, k ≠ 21 → b' k = b k) → (∀ u e, e < nt (p 0 15) → (¬ (b' 21 e &&& u) = 0 ↔ Rc p (fun x => x < nt (p 0 15) ∧ ¬ (b 21 x &&& u) = 0) e)) → Q b') : q_X1_spreadUses b Q := by
  have v' := v
  obtain ⟨vs, vr, vc, vx, vt, v30⟩ := v'
  have E8 := vx.1.2
  obtain ⟨e4, e5, e6, e13, e8, e9, e10, e11, e32, e33, e34, e17, e18, e19, e20, -⟩ := eq.1
  have e15 : b 15 1 = nI (nt (p 0 15)) := by rw [eq.2.1.2.2.2.1]; exact vx.1.1
  unfold q_X1_spreadUses
  rintro x rfl
  rw [e15]
  refine hp_lp1h_ind (fun x h => ∃ n, x = nI n - nI 1 ∧ n ≤ nt (p 0 15) ∧ (∀ k, k ≠ 21 → h k = b k) ∧ ∀ u, (∀ e, e < nt (p 0 15) → ¬ (h 21 e &&& u) = 0 → Rc p (fun x => x < nt (p 0 15) ∧ ¬ (b 21 x &&& u) = 0) e) ∧ (∀ e, ¬ (b 21 e &&& u) = 0 → ¬ (h 21 e &&& u) = 0) ∧ ∀ x y, n ≤ x → x < nt (p 0 15) → ¬ (h 21 x &&& u) = 0 → dep p x y → ¬ (h 21 y &&& u) = 0) (fun x h => nt (x + nI 1)) ?_ ⟨nt (p 0 15), rfl, Nat.le_refl _, fun k _ => rfl, fun u => ⟨fun e he z => Rc.b ⟨he, z⟩, fun e z => z, fun x y h1 h2 => by omega⟩⟩
  rintro x h ⟨n, rfl, hn, fr, hu⟩
  rw [nI_neg (by omega)]
  refine ⟨fun c => hQ h fr (fun u e he => ⟨(hu u).1 e he, fun z => ?_⟩), fun c => ?_⟩
  · have : e < nt (p 0 15) ∧ ¬ (h 21 e &&& u) = 0 := z (fun e => e < nt (p 0 15) ∧ ¬ (h 21 e &&& u) = 0) (fun x hx => ⟨hx.1, (hu u).2.1 x hx.2⟩) (fun x y hx d => ⟨by have := dep_lt v hx.1 d; omega, (hu u).2.2 x y (by omega) hx.1 hx.2 d⟩)
    exact this.2
  obtain ⟨n, rfl⟩ : ∃ j, n = j + 1 := ⟨n - 1, by omega⟩
  have nE : n < nt (p 0 15) := by omega
  obtain ⟨x1, x2, x3, x4, x5, x6, x7, x8, x9, x10⟩ := vx.2 n nE
  have x12 := x1.2
  have i80 : vp_in (nI n) 80 := nu_in (by omega) (by decide)
  rw [pk_sub (by omega), Nat.add_sub_cancel, nI_clamp (show n < 2 ^ 31 by omega), fr 17 (by decide), fr 18 (by decide), e17, e18]
  have l7 : p 13 n < nI 7 ↔ nt (p 13 n) < 7 := by
    conv => lhs; rw [x1.1]
    exact nI_ltI (by omega) (by decide)
  have l14 : nI 14 ≤ p 13 n ↔ 14 ≤ nt (p 13 n) := by
    conv => lhs; rw [x1.1]
    exact nI_leI (by decide) (by omega)
  refine ⟨i80, ?_⟩
  -- behind the first part
  have mid : ∀ h9 : hp_H, (∀ k, k ≠ 21 → h9 k = b k) → (∀ u, (∀ e, e < nt (p 0 15) → ¬ (h9 21 e &&& u) = 0 → Rc p (fun x => x < nt (p 0 15) ∧ ¬ (b 21 x &&& u) = 0) e) ∧ (∀ e, ¬ (b 21 e &&& u) = 0 → ¬ (h9 21 e &&& u) = 0) ∧ (∀ x y, n + 1 ≤ x → x < nt (p 0 15) → ¬ (h9 21 x &&& u) = 0 → dep p x y → ¬ (h9 21 y &&& u) = 0) ∧ (7 ≤ nt (p 13 n) → ¬ (h9 21 n &&& u) = 0 → ¬ (h9 21 (nt (p 14 n)) &&& u) = 0)) →
      vp_in (nI n) 80 ∧ q_X1_isMadeOfTwo (h9 17 n) (fun r11 =>
        hp_jn0h (fun K13 =>
          (r11 = 0 →
            K13 h9) ∧ (¬ r11 = 0 →
            vp_in (nI n) 80 ∧
            vp_in (h9 19 n) 80 ∧
            vp_in (nI n) 80 ∧
            vp_in (h9 19 n) 80 ∧
            ∀ h15 : hp_H, h15 = hp_up h9 21 (h9 19 n).toNatClampNeg ((h9 21 (h9 19 n).toNatClampNeg) ||| (h9 21 n)) →
            K13 h15)) (fun h14 =>
          ∀ v16 : Int32, v16 = nI n + (-1) →
          (∃ n', v16 = nI n' - nI 1 ∧ n' ≤ nt (p 0 15) ∧ (∀ k, k ≠ 21 → h14 k = b k) ∧ ∀ u, (∀ e, e < nt (p 0 15) → ¬ (h14 21 e &&& u) = 0 → Rc p (fun x => x < nt (p 0 15) ∧ ¬ (b 21 x &&& u) = 0) e) ∧ (∀ e, ¬ (b 21 e &&& u) = 0 → ¬ (h14 21 e &&& u) = 0) ∧ ∀ x y, n' ≤ x → x < nt (p 0 15) → ¬ (h14 21 x &&& u) = 0 → dep p x y → ¬ (h14 21 y &&& u) = 0) ∧ nt (v16 + nI 1) < nt (nI n + nI 1))) := by
    intro h9 f9 u9
    refine ⟨i80, ?_⟩
    rw [f9 17 (by decide), f9 19 (by decide), e17, e19]
    have fin : ∀ h14 : hp_H, (∀ k, k ≠ 21 → h14 k = b k) → (∀ u, (∀ e, e < nt (p 0 15) → ¬ (h14 21 e &&& u) = 0 → Rc p (fun x => x < nt (p 0 15) ∧ ¬ (b 21 x &&& u) = 0) e) ∧ (∀ e, ¬ (b 21 e &&& u) = 0 → ¬ (h14 21 e &&& u) = 0) ∧ ∀ x y, n ≤ x → x < nt (p 0 15) → ¬ (h14 21 x &&& u) = 0 → dep p x y → ¬ (h14 21 y &&& u) = 0) → ∀ v16 : Int32, v16 = nI n + (-1) → (∃ n', v16 = nI n' - nI 1 ∧ n' ≤ nt (p 0 15) ∧ (∀ k, k ≠ 21 → h14 k = b k) ∧ ∀ u, (∀ e, e < nt (p 0 15) → ¬ (h14 21 e &&& u) = 0 → Rc p (fun x => x < nt (p 0 15) ∧ ¬ (b 21 x &&& u) = 0) e) ∧ (∀ e, ¬ (b 21 e &&& u) = 0 → ¬ (h14 21 e &&& u) = 0) ∧ ∀ x y, n' ≤ x → x < nt (p 0 15) → ¬ (h14 21 x &&& u) = 0 → dep p x y → ¬ (h14 21 y &&& u) = 0) ∧ nt (v16 + nI 1) < nt (nI n + nI 1) := by
      rintro h14 f14 u14 v16 rfl
      rw [nI_m1, Int32.sub_add_cancel, nI_add, nt_nI (by omega), nt_nI (by omega)]
      exact ⟨⟨n, rfl, by omega, f14, u14⟩, by omega⟩
    unfold q_X1_isMadeOfTwo
    rw [l7, l14]
    have no2 : ¬ (7 ≤ nt (p 13 n) ∧ nt (p 13 n) < 14) → ∀ u, (∀ e, e < nt (p 0 15) → ¬ (h9 21 e &&& u) = 0 → Rc p (fun x => x < nt (p 0 15) ∧ ¬ (b 21 x &&& u) = 0) e) ∧ (∀ e, ¬ (b 21 e &&& u) = 0 → ¬ (h9 21 e &&& u) = 0) ∧ ∀ x y, n ≤ x → x < nt (p 0 15) → ¬ (h9 21 x &&& u) = 0 → dep p x y → ¬ (h9 21 y &&& u) = 0 := by
      intro z u
      obtain ⟨a1, a2, a3, a4⟩ := u9 u
      refine ⟨a1, a2, fun x y h1 h2 h3 h4 => ?_⟩
      rcases (show n + 1 ≤ x ∨ x = n by omega) with q | q
      · exact a3 x y q h2 h3 h4
      · subst q
        rcases h4 with ⟨d1, d2 | ⟨d2, d3⟩⟩
        · rw [d2]; exact a4 d1 h3
        · omega
    refine ⟨fun d => hp_jn0h_i (br00 (fin h9 f9 (no2 (by omega)))), fun d => ⟨fun d2 => hp_jn0h_i (br00 (fin h9 f9 (no2 (by omega)))), fun d2 => hp_jn0h_i (br1 ?_)⟩⟩
    obtain ⟨y1, y2⟩ := x9 (by omega) (by omega)
    have y12 := y1.2
    have iy : vp_in (p 15 n) 80 := isn_in y1 (by decide) (by omega)
    refine ⟨i80, iy, i80, iy, ?_⟩
    rintro h15 rfl
    rw [nt_def]
    refine fin _ (fun k hk => by rw [hp_at, if_neg hk]; exact f9 k hk) (fun u => ?_)
    obtain ⟨a1, a2, a3, a4⟩ := u9 u
    have ch : ∀ e, ¬ (hp_up h9 21 (nt (p 15 n)) (h9 21 (nt (p 15 n)) ||| h9 21 n) 21 e &&& u) = 0 ↔ (¬ (h9 21 e &&& u) = 0 ∨ (e = nt (p 15 n) ∧ ¬ (h9 21 n &&& u) = 0)) := by
      intro e
      simp only [hp_at, if_true, upd]
      by_cases z : e = nt (p 15 n)
      · rw [if_pos z, or_and0, z]
        constructor
        · intro q
          by_cases w : h9 21 (nt (p 15 n)) &&& u = 0
          · exact Or.inr ⟨rfl, fun y => q ⟨w, y⟩⟩
          · exact Or.inl w
        · rintro (q | ⟨-, q⟩)
          · exact fun y => q y.1
          · exact fun y => q y.2
      · rw [if_neg z]
        exact ⟨Or.inl, fun q => q.elim id (fun y => absurd y.1 z)⟩
    refine ⟨fun e he z => ?_, fun e z => (ch e).mpr (Or.inl (a2 e z)), fun x y h1 h2 h3 h4 => ?_⟩
    · rcases (ch e).mp z with q | ⟨q1, q2⟩
      · exact a1 e he q
      · exact (a1 n nE q2).s ⟨by omega, Or.inr ⟨by omega, q1⟩⟩
    · have hx : ¬ (h9 21 x &&& u) = 0 := by
        rcases (ch x).mp h3 with q | ⟨q1, q2⟩
        · exact q
        · omega
      refine (ch y).mpr ?_
      rcases (show n + 1 ≤ x ∨ x = n by omega) with q | q
      · exact Or.inl (a3 x y q h2 hx h4)
      · subst q
        rcases h4 with ⟨d1, d2 | ⟨d2, d3⟩⟩
        · rw [d2]; exact Or.inl (a4 d1 hx)
        · exact Or.inr ⟨d3, hx⟩
  unfold q_X1_isMade
  rw [l7]
  refine ⟨fun d => hp_jn0h_i (br00 (mid h fr (fun u => ⟨(hu u).1, (hu u).2.1, (hu u).2.2, fun z => by omega⟩))), fun d => hp_jn0h_i (br1 ?_)⟩
  obtain ⟨y1, y2⟩ := x8 (by omega)
  have y12 := y1.2
  have iy : vp_in (p 14 n) 80 := isn_in y1 (by decide) (by omega)
  refine ⟨i80, iy, i80, iy, ?_⟩
  rintro h10 rfl
  rw [nt_def]
  refine mid _ (fun k hk => by rw [hp_at, if_neg hk]; exact fr k hk) (fun u => ?_)
  obtain ⟨a1, a2, a3⟩ := hu u
  have ch : ∀ e, ¬ (hp_up h 21 (nt (p 14 n)) (h 21 (nt (p 14 n)) ||| h 21 n) 21 e &&& u) = 0 ↔ (¬ (h 21 e &&& u) = 0 ∨ (e = nt (p 14 n) ∧ ¬ (h 21 n &&& u) = 0)) := by
    intro e
    simp only [hp_at, if_true, upd]
    by_cases z : e = nt (p 14 n)
    · rw [if_pos z, or_and0, z]
      constructor
      · intro q
        by_cases w : h 21 (nt (p 14 n)) &&& u = 0
        · exact Or.inr ⟨rfl, fun y => q ⟨w, y⟩⟩
        · exact Or.inl w
      · rintro (q | ⟨-, q⟩)
        · exact fun y => q y.1
        · exact fun y => q y.2
    · rw [if_neg z]
      exact ⟨Or.inl, fun q => q.elim id (fun y => absurd y.1 z)⟩
  refine ⟨fun e he z => ?_, fun e z => (ch e).mpr (Or.inl (a2 e z)), fun x y h1 h2 h3 h4 => ?_, fun h7 z => ?_⟩
  · rcases (ch e).mp z with q | ⟨q1, q2⟩
    · exact a1 e he q
    · exact (a1 n nE q2).s ⟨by omega, Or.inl q1⟩
  · have hx : ¬ (h 21 x &&& u) = 0 := by
      rcases (ch x).mp h3 with q | ⟨q1, q2⟩
      · exact q
      · omega
    exact (ch y).mpr (Or.inl (a3 x y h1 h2 hx h4))
  · refine (ch _).mpr (Or.inr ⟨rfl, ?_⟩)
    rcases (ch n).mp z with q | ⟨q1, q2⟩
    · exact q
    · exact q2
theorem s_addUse {b : hp_H} {e : Nat} {us : Int32} {Q : hp_H → Prop} (he : e < 80) (hQ : ∀ b', (∀ k, k ≠ 21 → b' k = b k) → (∀ u x, ¬ (b' 21 x &&& u) = 0 ↔ ¬ (b 21 x &&& u) = 0 ∨ (x = e ∧ ¬ (us &&& u) = 0)) → Q b') : q_X1_addUse b (nI e) us Q := by
  unfold q_X1_addUse
  refine ⟨nu_in he (by decide), nu_in he (by decide), ?_⟩
  rintro h1 rfl
  rw [nI_clamp (show e < 2 ^ 31 by omega)]
  refine hQ _ (fun k hk => by rw [hp_at, if_neg hk]) (fun u x => ?_)
  simp only [hp_at, if_true, upd]
  by_cases z : x = e
  · rw [if_pos z, or_and0, z]
    constructor
    · intro q
      by_cases w : b 21 e &&& u = 0
      · exact Or.inr ⟨rfl, fun y => q ⟨w, y⟩⟩
      · exact Or.inl w
    · rintro (q | ⟨-, q⟩)
      · exact fun y => q y.1
      · exact fun y => q y.2
  · rw [if_neg z]
    exact ⟨Or.inl, fun q => q.elim id (fun y => absurd y.1 z)⟩
theorem s_dropUse {p b : hp_H} {us : Int32} {Q : hp_H → Prop} (v : VP p) (eq : EQ b p) (hQ : ∀ b', (∀ k, k ≠ 21 → b' k = b k) → (∀ x, x < nt (p 0 15) → b' 21 x = b 21 x &&& (us ^^^ (-1))) → Q b') : q_X1_dropUse b us Q := by
  have vx := v.2.2.2.1
  have E8 := vx.1.2
  have e15 : b 15 1 = nI (nt (p 0 15)) := by rw [eq.2.1.2.2.2.1]; exact vx.1.1
  unfold q_X1_dropUse
  refine hp_lp1h_ind (fun x h => ∃ n, x = nI n ∧ n ≤ nt (p 0 15) ∧ (∀ k, k ≠ 21 → h k = b k) ∧ (∀ x, x < n → h 21 x = b 21 x &&& (us ^^^ (-1))) ∧ ∀ x, n ≤ x → h 21 x = b 21 x) (fun x h => 80 - nt x) ?_ ⟨0, rfl, by omega, fun k _ => rfl, fun x hx => by omega, fun x _ => rfl⟩
  rintro x h ⟨n, rfl, hn, fr, h1, h2⟩
  rw [fr 15 (by decide), e15, nI_leI (by omega) (by omega), nI_clamp (show n < 2 ^ 31 by omega)]
  refine ⟨fun c => hQ h fr (fun x hx => h1 x (by omega)), fun c => ⟨nu_in (by omega) (by decide), nu_in (by omega) (by decide), ?_⟩⟩
  rintro h5 rfl w rfl
  rw [nI_add]
  refine ⟨⟨n + 1, rfl, by omega, fun k hk => by rw [hp_at, if_neg hk]; exact fr k hk, fun x hx => ?_, fun x hx => ?_⟩, by rw [nt_nI (by omega), nt_nI (by omega)]; omega⟩
  · simp only [hp_at, if_true, upd]
    by_cases z : x = n
    · rw [if_pos z, z, h2 n (by omega)]
    · rw [if_neg z]; exact h1 x (by omega)
  · simp only [hp_at, if_true, upd]
    rw [if_neg (by omega)]; exact h2 x (by omega)
