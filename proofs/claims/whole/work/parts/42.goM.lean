/-! ===== the reference goes through a state ===== -/
def AM (p g : hp_H) (q : Nat) (m : hp_H) : Prop := GW p g ∧ m 0 35 = g 0 35 ∧ m 0 40 = g 0 40 ∧ m 0 46 = g 0 46 ∧ (¬ g 0 46 = 0 → m 0 47 = g 0 47 ∧ m 0 48 = g 0 48 ∧ m 0 49 = g 0 49 ∧ m 0 50 = g 0 50) ∧
  (∀ s, s < gN g → RW m s (dg g s)) ∧ (∀ s, s < gN g → m 28 s = g 28 s ∧ m 29 s = g 29 s ∧ m 30 s = g 30 s) ∧
  (∀ i, i < gK g → m 32 i = g 32 i ∧ m 33 i = g 33 i ∧ m 34 i = g 34 i ∧ m 35 i = g 35 i) ∧ ∀ i, i < q → m 31 i = g 31 i
theorem AM.fs {p g m m' : hp_H} {q : Nat} (f0 : m' 0 = m 0) (f : ∀ k, 27 ≤ k → k ≤ 35 → m' k = m k) (a : AM p g q m) : AM p g q m' := by
  unfold AM RW at a ⊢
  simp only [f0, f 27 (by decide) (by decide), f 28 (by decide) (by decide), f 29 (by decide) (by decide), f 30 (by decide) (by decide), f 31 (by decide) (by decide), f 32 (by decide) (by decide), f 33 (by decide) (by decide), f 34 (by decide) (by decide), f 35 (by decide) (by decide)]
  exact a
theorem m_placeOf {p g m : hp_H} {q : Nat} {e : Nat → Nat} {Q : Int32 → Prop} (a : AM p g q m) (he : ∀ k, e k ≤ 9) (hn : NE m e) (h1 : ∀ i, gE g e i → Q (nI i)) (h0 : (¬ ∃ i, gE g e i) → Q (-1)) : q_X12_placeOf m Q := by
  obtain ⟨w, a1, a2, a3, a4, a5, a6, a7, a8⟩ := a
  have n4 := gN_le w
  have e35 : m 0 35 = nI (gN g) := by rw [a1]; exact w.1.1
  unfold q_X12_placeOf
  refine hp_lp1_ind (fun x => ∃ s, x = nI s ∧ s ≤ gN g ∧ ∀ i, i < s → ¬ gE g e i) (fun x => 400 - nt x) ?_ ⟨0, rfl, by omega, fun i hi => by omega⟩
  rintro x ⟨s, rfl, hs, hq⟩
  rw [e35, nI_leI (by omega) (by omega)]
  refine ⟨fun c => h0 (fun ⟨i, hi⟩ => hq i (by have := hi.1; omega) hi), fun c => ?_⟩
  have sN : s < gN g := by omega
  have d9 := (w.2.2.2.2.2.1 s sN).2.1
  refine hp_lp2_ind (fun x y => ∃ k, y = nI k ∧ k ≤ 54 ∧ ((x = nI 1 ∧ ∀ j, j < k → dg g s j = e j) ∨ (x = nI 0 ∧ ¬ gE g e s))) (fun x y => 54 - nt y) ?_ ⟨0, rfl, by omega, Or.inl ⟨rfl, fun j hj => by omega⟩⟩
  rintro x y ⟨k, rfl, hk, hx⟩
  rw [nI_leI (by decide) (by omega), pk_mul, nI_add, nI_clamp (show 54 * s + k < 2 ^ 31 by omega), nI_clamp (show k < 2 ^ 31 by omega)]
  refine ⟨(x = nI 1 ∧ gE g e s) ∨ (x = nI 0 ∧ ¬ gE g e s), ⟨fun z => ?_, fun z => ⟨fun z2 => ?_, fun z2 => ⟨nu_in (by omega) (by decide), nu_in (by omega) (by decide), ?_⟩⟩⟩, ?_⟩
  · rcases hx with ⟨q1, q2⟩ | q2
    · exact Or.inl ⟨q1, sN, fun j hj => q2 j (by omega)⟩
    · exact Or.inr q2
  · rcases hx with ⟨q1, q2⟩ | q2
    · rw [q1] at z2; exact absurd z2 (by decide)
    · exact Or.inr q2
  · rcases hx with ⟨q1, q2⟩ | ⟨q1, q2⟩
    case inr => exact absurd q1 z2
    have x1 := d9 k; have x2 := he k
    rw [a5 s sN k (by omega), hn k (by omega), nI_eq (by omega) (by omega)]
    refine jn1_two (p := dg g s k = e k) (fun K k1 k0 => ⟨k1, k0⟩) (fun z3 => ?_) (fun z3 => ?_)
    · rintro w rfl
      rw [nI_add]
      refine ⟨⟨k + 1, rfl, by omega, Or.inl ⟨rfl, fun j hj => ?_⟩⟩, by rw [nt_nI (by omega), nt_nI (by omega)]; omega⟩
      rcases (show j < k ∨ j = k by omega) with y | y
      · exact q2 j y
      · subst y; exact z3
    · rintro w rfl
      rw [nI_add]
      exact ⟨⟨k + 1, rfl, by omega, Or.inr ⟨rfl, fun z => z3 (z.2 k (by omega))⟩⟩, by rw [nt_nI (by omega), nt_nI (by omega)]; omega⟩
  · rintro (⟨rfl, ge⟩ | ⟨rfl, ge⟩)
    · exact ⟨fun z => absurd z (by decide), fun _ => h1 s ge⟩
    · refine ⟨fun _ => ?_, fun z => absurd rfl z⟩
      rintro w rfl
      rw [nI_add]
      refine ⟨⟨s + 1, rfl, by omega, fun i hi => ?_⟩, by rw [nt_nI (by omega), nt_nI (by omega)]; omega⟩
      rcases (show i < s ∨ i = s by omega) with y | y
      · exact hq i y
      · subst y; exact ge
/-- which cells the reference's search leaves as they are -/
def FM (m m' : hp_H) : Prop := (∀ k, 1 ≤ k → (k < 27 ∨ 38 < k) → m' k = m k) ∧ ∀ j, j ≠ 35 → j ≠ 40 → j < 46 ∨ 50 < j → m' 0 j = m 0 j
theorem FM.rf {m : hp_H} : FM m m := ⟨fun _ _ _ => rfl, fun _ _ _ _ => rfl⟩
theorem FM.tr {a b c : hp_H} (h : FM a b) (k : FM b c) : FM a c := ⟨fun x h1 h2 => (k.1 x h1 h2).trans (h.1 x h1 h2), fun j h1 h2 h3 => (k.2 j h1 h2 h3).trans (h.2 j h1 h2 h3)⟩
theorem FM.pv {p m m' : hp_H} (h : PV p m) (f : FM m m') : PV p m' := by
  obtain ⟨a, b0, b4, b11, b15, b21, b30⟩ := h
  exact ⟨fun k h1 h2 => by rw [f.1 k h1 (by omega)]; exact a k h1 h2, by rw [f.2 0 (by decide) (by decide) (by decide)]; exact b0, by rw [f.2 4 (by decide) (by decide) (by decide)]; exact b4, by rw [f.2 11 (by decide) (by decide) (by decide)]; exact b11, by rw [f.2 15 (by decide) (by decide) (by decide)]; exact b15, by rw [f.2 21 (by decide) (by decide) (by decide)]; exact b21, by rw [f.2 30 (by decide) (by decide) (by decide)]; exact b30⟩
theorem FM.one {m m' : hp_H} {x : Nat} (h : ∀ k, k ≠ x → m' k = m k) (h1 : 27 ≤ x) (h2 : x ≤ 38) : FM m m' := ⟨fun k k1 k2 => h k (by omega), fun j _ _ _ => by rw [h 0 (by omega)]⟩
theorem AM_M {p g m m' : hp_H} {q i : Nat} {r x t : Int32} (a : AM p g q m) (h : ¬ gK g = 6000) (e : m' = hp_up (hp_up (hp_up (hp_up (hp_up m 32 (gK g) (nI i)) 33 (gK g) r) 34 (gK g) x) 35 (gK g) t) 0 40 (nI (gK g + 1))) : AM p (gM g i r x t) q m' := by
  obtain ⟨w, a1, a2, a3, a4, a5, a6, a7, a8⟩ := a
  have k6 := gK_lt w h
  have o : ∀ k, k ≠ 0 → k ≠ 32 → k ≠ 33 → k ≠ 34 → k ≠ 35 → m' k = m k := by intro k h1 h2 h3 h4 h5; rw [e]; simp [hp_at, h1, h2, h3, h4, h5]
  have o0 : ∀ j, j ≠ 40 → m' 0 j = m 0 j := by intro j hj; rw [e]; simp [hp_at, upd, hj]
  unfold AM
  rw [gM_N, gM_0 (j := 35) (by decide), gM_0 (j := 46) (by decide), gM_0 (j := 47) (by decide), gM_0 (j := 48) (by decide), gM_0 (j := 49) (by decide), gM_0 (j := 50) (by decide), (gM_K (by omega)).2, (gM_K (by omega)).1, o0 35 (by decide), o0 46 (by decide), o0 47 (by decide), o0 48 (by decide), o0 49 (by decide), o0 50 (by decide), o 28 (by decide) (by decide) (by decide) (by decide) (by decide), o 29 (by decide) (by decide) (by decide) (by decide) (by decide), o 30 (by decide) (by decide) (by decide) (by decide) (by decide), o 31 (by decide) (by decide) (by decide) (by decide) (by decide)]
  refine ⟨GW_M w h, a1, by rw [e]; simp [hp_at, upd], a3, a4, fun s hs => ?_, fun s hs => ?_, fun y hy => ?_, fun y hy => ?_⟩
  · rw [gM_dg]; exact (a5 s hs).fs (o 27 (by decide) (by decide) (by decide) (by decide) (by decide))
  · rw [gM_k (by decide) (by decide) (by decide) (by decide) (by decide), gM_k (by decide) (by decide) (by decide) (by decide) (by decide), gM_k (by decide) (by decide) (by decide) (by decide) (by decide)]; exact a6 s hs
  · rcases (show y < gK g ∨ y = gK g by omega) with z | z
    · rw [gM_old (by omega) (by decide), gM_old (by omega) (by decide), gM_old (by omega) (by decide), gM_old (by omega) (by decide)]
      have : m' 32 y = m 32 y ∧ m' 33 y = m 33 y ∧ m' 34 y = m 34 y ∧ m' 35 y = m 35 y := by rw [e]; simp [hp_at, upd, show y ≠ gK g by omega]
      rw [this.1, this.2.1, this.2.2.1, this.2.2.2]; exact a7 y z
    · subst z
      obtain ⟨q1, q2, q3, q4⟩ := gM_new (g := g) (i := i) (r := r) (m := x) (t := t)
      rw [q1, q2, q3, q4, e]; simp [hp_at, upd]
  · rw [gM_k (by decide) (by decide) (by decide) (by decide) (by decide)]; exact a8 y hy
theorem AM_sp {p g m : hp_H} {q : Nat} (a : AM p g q m) : AM p (hp_up g 0 34 (nI 1)) q m := by
  obtain ⟨w, a1, a2, a3, a4, a5, a6, a7, a8⟩ := a
  have g0 : ∀ j, j ≠ 34 → hp_up g 0 34 (nI 1) 0 j = g 0 j := by intro j hj; simp [hp_at, upd, hj]
  have gk : ∀ k, k ≠ 0 → hp_up g 0 34 (nI 1) k = g k := by intro k hk; simp [hp_at, hk]
  have gd : dg (hp_up g 0 34 (nI 1)) = dg g := by funext s k; unfold dg; rw [gk 27 (by decide)]
  have gn : gN (hp_up g 0 34 (nI 1)) = gN g := by unfold gN; rw [g0 35 (by decide)]
  have gkk : gK (hp_up g 0 34 (nI 1)) = gK g := by unfold gK; rw [g0 40 (by decide)]
  unfold AM
  rw [gn, gkk, gd, g0 35 (by decide), g0 40 (by decide), g0 46 (by decide), g0 47 (by decide), g0 48 (by decide), g0 49 (by decide), g0 50 (by decide), gk 28 (by decide), gk 29 (by decide), gk 30 (by decide), gk 31 (by decide), gk 32 (by decide), gk 33 (by decide), gk 34 (by decide), gk 35 (by decide)]
  exact ⟨GW_fr w (gk 27 (by decide)) (g0 35 (by decide)) (by rw [g0 40 (by decide)]; exact w.2.2.1) (by simp [hp_at, upd]; exact Or.inr rfl) (by rw [g0 46 (by decide)]; exact w.2.2.2.2.1), a1, a2, a3, a4, a5, a6, a7, a8⟩
theorem AM_S {p g m m' : hp_H} {q s : Nat} {e : Nat → Nat} (v : VP p) (a : AM p g q m) (h : ¬ gN g = 400) (hn : ¬ ∃ i, gE g e i) (he : DG p e) (hsn : s < gN g) (hq : s < q)
    (f1 : ∀ k, 31 ≤ k → k ≤ 35 → m' k = m k) (f2 : ∀ j, j ≠ 35 → m' 0 j = m 0 j) (f3 : m' 0 35 = nI (gN g + 1)) (f4 : ∀ i, i < 54 * gN g → m' 27 i = m 27 i) (f5 : ∀ k, k < 54 → m' 27 (54 * gN g + k) = nI (e k)) (f6 : ∀ i, i ≠ gN g → m' 28 i = m 28 i ∧ m' 29 i = m 29 i ∧ m' 30 i = m 30 i) (f7 : m' 28 (gN g) = nI s) (f8 : m' 29 (gN g) = m 0 40 - m 31 s) (f9 : m' 30 (gN g) = m 30 s + nI 1) : AM p (gS g e s) q m' := by
  obtain ⟨w, a1, a2, a3, a4, a5, a6, a7, a8⟩ := a
  have n4 := gN_le w
  have nw : ∀ k, k < 54 → dg (gS g e s) (gN g) k = e k := fun k hk => gS_new hk (he.1 k)
  unfold AM
  rw [(gS_N n4).1, (gS_N n4).2, gS_0 (j := 40) (by decide), gS_0 (j := 46) (by decide), gS_0 (j := 47) (by decide), gS_0 (j := 48) (by decide), gS_0 (j := 49) (by decide), gS_0 (j := 50) (by decide), gS_K, f2 40 (by decide), f2 46 (by decide), f2 47 (by decide), f2 48 (by decide), f2 49 (by decide), f2 50 (by decide), f1 31 (by decide) (by decide), f1 32 (by decide) (by decide), f1 33 (by decide) (by decide), f1 34 (by decide) (by decide), f1 35 (by decide) (by decide)]
  refine ⟨GW_S v w h hn he, f3, a2, a3, a4, fun t ht => ?_, fun t ht => ?_, fun i hi => ?_, fun i hi => ?_⟩
  · rcases (show t < gN g ∨ t = gN g by omega) with z | z
    · rw [gS_old z]; intro k hk; rw [f4 _ (by omega)]; exact a5 t z k hk
    · subst z; intro k hk; rw [f5 k hk, nw k hk]
  · rcases (show t < gN g ∨ t = gN g by omega) with z | z
    · obtain ⟨q1, q2, q3⟩ := f6 t (by omega)
      rw [q1, q2, q3]
      have c : ∀ k, k = 28 ∨ k = 29 ∨ k = 30 → gS g e s k t = g k t := by
        intro k hk
        unfold gS
        have : t ≠ gN g := by omega
        rcases hk with y | y | y <;> subst y <;> simp [this]
      rw [c 28 (by decide), c 29 (by decide), c 30 (by decide)]; exact a6 t z
    · subst z
      rw [f7, f8, f9]
      unfold gS
      simp
      rw [a2, a8 s hq]
      exact ⟨rfl, (a6 s hsn).2.2⟩
  · rw [gS_k (by decide) (by decide) (by decide) (by decide) (by decide), gS_k (by decide) (by decide) (by decide) (by decide) (by decide), gS_k (by decide) (by decide) (by decide) (by decide) (by decide), gS_k (by decide) (by decide) (by decide) (by decide) (by decide)]; exact a7 i hi
  · rw [gS_k (by decide) (by decide) (by decide) (by decide) (by decide)]; exact a8 i hi
set_option maxHeartbeats 1000000 in
theorem m_comes {p g m : hp_H} {q s : Nat} {e0 e : Nat → Nat} {r x t : Int32} {Q : Int32 → hp_H → Prop} (v : VP p) (pv : PV p m) (a : AM p g q m) (sp : g 0 34 = 0) (hs : s < gN g) (hq : s < q) (he0 : ∀ k, e0 k ≤ 9) (hn : NE m e0) (he : DG p e) (ee : (p 0 30 = 0 → e = e0) ∧ (¬ p 0 30 = 0 → orf p e0 (nt (p 0 4)) = e))
    (hQ : ∀ y m', FM m m' → (∀ k, k ≠ 36 → 35 < k → m' k = m k) → AM p (mvg g s r x t e) q m' → ((mvg g s r x t e 0 34 = 0 ∧ y = nI 1) ∨ (¬ mvg g s r x t e 0 34 = 0 ∧ y = nI 0)) → Q y m') : q_X12_comes m (nI s) r x t Q := by
  have w := a.1
  have n4 := gN_le w
  have kl := w.2.2.1.2
  have kK : m 0 40 = nI (gK g) := by rw [a.2.2.1]; exact w.2.2.1.1
  have up1 : ¬ hp_up g 0 34 (nI 1) 0 34 = 0 := by simp [hp_at, upd]; decide
  unfold q_X12_comes
  rw [kK, nI_eq (by unfold gK; omega) (by decide)]
  refine ⟨fun c => hQ _ m FM.rf (fun k _ _ => rfl) (by rw [mvg_full c]; exact AM_sp a) (Or.inr ⟨by rw [mvg_full c]; exact up1, rfl⟩), fun c => ?_⟩
  have k6 := gK_lt w c
  refine ⟨fun h => (∀ k, k ≠ 36 → h k = m k) ∧ NE h e, ?_, ?_⟩
  · rw [pv.2.2.2.2.2.2]
    refine ⟨fun z => ⟨fun k _ => rfl, by rw [ee.1 z]; exact hn⟩, fun z => ?_⟩
    exact m_order v pv he0 hn (fun m' f n => ⟨f, by rw [← ee.2 z]; exact n⟩)
  rintro h4 ⟨f4, n4'⟩
  have a4 : AM p g q h4 := a.fs (f4 0 (by decide)) (fun k h1 h2 => f4 k (by omega))
  have nN : h4 0 35 = nI (gN g) := by rw [a4.2.1]; exact w.1.1
  -- behind: the move is written
  have wr : ∀ (i : Nat) (G h10 : hp_H), FM m h10 → (∀ k, k ≠ 36 → 35 < k → h10 k = m k) → AM p G q h10 → gK G = gK g → ¬ gK G = 6000 → mvg g s r x t e = gM G i r x t → G 0 34 = 0 → 
      vp_in (h10 0 40) 6000 ∧
        ∀ h23 : hp_H, h23 = hp_up h10 32 (h10 0 40).toNatClampNeg (nI i) →
        vp_in (h23 0 40) 6000 ∧
        ∀ h24 : hp_H, h24 = hp_up h23 33 (h23 0 40).toNatClampNeg r →
        vp_in (h24 0 40) 6000 ∧
        ∀ h25 : hp_H, h25 = hp_up h24 34 (h24 0 40).toNatClampNeg x →
        vp_in (h25 0 40) 6000 ∧
        ∀ h26 : hp_H, h26 = hp_up h25 35 (h25 0 40).toNatClampNeg t →
        ∀ h27 : hp_H, h27 = hp_up h26 0 40 ((h26 0 40) + (nI 1)) →
        Q (nI 1) h27 := by
    intro i G h10 f10 f10' a10 gk c' em sG
    have kK' : h10 0 40 = nI (gK G) := by rw [a10.2.2.1]; exact a10.1.2.2.1.1
    have k6' := gK_lt a10.1 c'
    have i6 : vp_in (nI (gK G)) 6000 := nu_in k6' (by decide)
    rw [kK', nI_clamp (show gK G < 2 ^ 31 by omega)]
    refine ⟨i6, ?_⟩
    rintro h23 rfl
    simp only [hp_at, Nat.reduceEqDiff, if_true, if_false, kK', nI_clamp (show gK G < 2 ^ 31 by omega)]
    refine ⟨i6, ?_⟩
    rintro h24 rfl
    simp only [hp_at, Nat.reduceEqDiff, if_true, if_false, kK', nI_clamp (show gK G < 2 ^ 31 by omega)]
    refine ⟨i6, ?_⟩
    rintro h25 rfl
    simp only [hp_at, Nat.reduceEqDiff, if_true, if_false, kK', nI_clamp (show gK G < 2 ^ 31 by omega)]
    refine ⟨i6, ?_⟩
    rintro h26 rfl
    simp only [hp_at, Nat.reduceEqDiff, if_true, if_false, kK', nI_add]
    intro h27 e27
    refine hQ _ h27 (f10.tr ⟨fun k h1 h2 => ?_, fun j h1 h2 h3 => ?_⟩) (fun k h1 h2 => ?_) (by rw [em]; exact AM_M a10 c' e27) (Or.inl ⟨by rw [em, gM_0 (by decide)]; exact sG, rfl⟩)
    · rw [e27]; simp [hp_at, show k ≠ 0 by omega, show k ≠ 32 by omega, show k ≠ 33 by omega, show k ≠ 34 by omega, show k ≠ 35 by omega]
    · rw [e27]; simp [hp_at, upd, h2]
    · rw [e27]; simp [hp_at, show k ≠ 0 by omega, show k ≠ 32 by omega, show k ≠ 33 by omega, show k ≠ 34 by omega, show k ≠ 35 by omega]; exact f10' k h1 h2
  have fm4 : FM m h4 := FM.one f4 (by decide) (by decide)
  refine m_placeOf a4 he.1 n4' (fun i hi => ?_) (fun hno => ?_)
  · have i4 := hi.1
    refine hp_jn1h_i ⟨fun z => absurd z (fun y => (nu_m1 (by omega)).mp y), fun _ => ?_⟩
    exact wr i g h4 fm4 (fun k h1 _ => f4 k h1) a4 rfl c (mvg_old w c hi) sp
  · refine hp_jn1h_i ⟨fun _ => ?_, fun z => absurd rfl z⟩
    rw [nN, nI_eq (by omega) (by decide)]
    refine ⟨fun c2 => hQ _ h4 fm4 (fun k h1 _ => f4 k h1) (by rw [mvg_400 c hno c2]; exact AM_sp a4) (Or.inr ⟨by rw [mvg_400 c hno c2]; exact up1, rfl⟩), fun c2 => ?_⟩
    rintro w' rfl
    have N4 : gN g < 400 := by omega
    refine hp_lp1h_ind (fun y h => ∃ k, y = nI k ∧ k ≤ 54 ∧ (∀ j, j ≠ 27 → h j = h4 j) ∧ (∀ i, i < 54 * gN g → h 27 i = h4 27 i) ∧ ∀ j, j < k → h 27 (54 * gN g + j) = nI (e j)) (fun y h => 54 - nt y) ?_ ⟨0, rfl, by omega, fun j _ => rfl, fun i _ => rfl, fun j hj => by omega⟩
    rintro y h ⟨k, rfl, hk, fr, lo, hi⟩
    rw [nI_leI (by decide) (by omega), pk_mul, nI_add, nI_clamp (show 54 * gN g + k < 2 ^ 31 by omega), nI_clamp (show k < 2 ^ 31 by omega), nI_clamp (show gN g < 2 ^ 31 by omega), nI_clamp (show s < 2 ^ 31 by omega)]
    have iN : vp_in (nI (gN g)) 400 := nu_in N4 (by decide)
    refine ⟨fun c3 => ⟨iN, ?_⟩, fun c3 => ⟨nu_in (by omega) (by decide), nu_in (by omega) (by decide), ?_⟩⟩
    · have o0 : h 0 = h4 0 := fr 0 (by decide)
      rintro h17 rfl
      refine ⟨nu_in (by omega) (by decide), iN, ?_⟩
      rintro h18 rfl
      refine ⟨nu_in (by omega) (by decide), iN, ?_⟩
      rintro h19 rfl
      simp only [hp_at, Nat.reduceEqDiff, if_true, if_false, o0, nN, nI_add]
      intro h20 e20
      have o : ∀ k, k ≠ 0 → k ≠ 27 → k ≠ 28 → k ≠ 29 → k ≠ 30 → h20 k = h4 k := by intro k h0 h1 h2 h3 h4'; rw [e20]; simp [hp_at, h0, h2, h3, h4', fr k h1]
      refine wr (gN g) (gS g e s) h20 (fm4.tr ⟨fun k h1 h2 => o k (by omega) (by omega) (by omega) (by omega) (by omega), fun j h1 h2 h3 => ?_⟩) (fun k h1 h2 => by rw [o k (by omega) (by omega) (by omega) (by omega) (by omega)]; exact f4 k h1) ?_ gS_K (by rw [gS_K]; exact c) (mvg_new c hno c2) (by rw [gS_0 (by decide)]; exact sp)
      · rw [e20]; simp [hp_at, upd, h1, o0]
      · refine AM_S v a4 c2 hno he hs hq (fun k h1 h2 => o k (by omega) (by omega) (by omega) (by omega) (by omega)) (fun j hj => ?_) ?_ (fun i hi' => ?_) (fun j hj => ?_) (fun i hi' => ?_) ?_ ?_ ?_
        · rw [e20]; simp [hp_at, upd, hj, o0]
        · rw [e20]; simp [hp_at, upd]
        · rw [e20]; simp [hp_at]; exact lo i hi'
        · rw [e20]; simp [hp_at]; exact hi j (by omega)
        · rw [e20]; simp [hp_at, upd, hi', fr 28 (by decide), fr 29 (by decide), fr 30 (by decide)]
        · rw [e20]; simp [hp_at, upd]
        · rw [e20]; simp [hp_at, upd, fr 31 (by decide)]
        · rw [e20]; simp [hp_at, upd, fr 30 (by decide)]
    · rintro h21 rfl w' rfl
      rw [nI_add]
      refine ⟨⟨k + 1, rfl, by omega, fun j hj => by rw [hp_at, if_neg hj]; exact fr j hj, fun i hi' => ?_, fun j hj => ?_⟩, by rw [nt_nI (by omega), nt_nI (by omega)]; omega⟩
      · simp only [hp_at, if_true, upd]
        rw [if_neg (by omega)]; exact lo i hi'
      · simp only [hp_at, if_true, upd]
        by_cases z : j = k
        · rw [if_pos (by omega), z, fr 36 (by decide)]; exact n4' k (by omega)
        · rw [if_neg (by omega)]; exact hi j (by omega)
