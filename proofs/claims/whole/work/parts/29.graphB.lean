def AB (p g : hp_H) (q : Nat) (b : hp_H) : Prop := GW p g ∧ b 35 0 = nI 1 ∧ b 35 1 = g 0 34 ∧ b 35 2 = g 0 35 ∧ b 35 3 = g 0 40 ∧
  (g 0 46 = 0 → b 35 4 = -1 ∧ b 35 5 = -1 ∧ b 35 6 = -1 ∧ b 35 7 = -1) ∧ (¬ g 0 46 = 0 → b 35 4 = g 0 47 ∧ b 35 5 = g 0 48 ∧ b 35 6 = g 0 49 ∧ b 35 7 = g 0 50 ∧ ¬ g 0 47 = -1) ∧
  (∀ s, s < gN g → ∀ j, j < 13 → b 42 (13 * s + j) = nI (rw_w (dg g s) j)) ∧
  (∀ s, s < gN g → b 39 s = g 28 s ∧ b 40 s = g 29 s ∧ b 38 s = g 30 s) ∧
  (∀ i, i < gK g → b 37 i = g 32 i ∧ b 41 i = mvc (g 33 i) (g 34 i) (g 35 i)) ∧
  (∀ i, i < q → b 36 i = g 31 i) ∧ HS g b
theorem nI_val {n : Nat} (h : n < 2 ^ 31) : isn (nI n) n := isn_i (Nat.le_refl _) h
theorem s_isSame {p g b : hp_H} {q s : Nat} {e : Nat → Nat} {Q : Int32 → Prop} (a : AB p g q b) (he : rw_D e) (hb : rw_B b 48 e) (hs : s < gN g) (h1 : gE g e s → Q (nI 1)) (h0 : ¬ gE g e s → Q (nI 0)) : q_X2_isSame b (nI s) Q := by
  obtain ⟨w, a1, a2, a3, a4, a5, a6, a7, a8, a9, a10, a11⟩ := a
  have n4 := gN_le w
  have D := (w.2.2.2.2.2.1 s hs).2.D
  unfold q_X2_isSame
  rintro v1 rfl
  rw [pk_mul]
  refine hp_lp1_ind (fun v => ∃ j, v = nI j ∧ j ≤ 13 ∧ ∀ i, i < j → rw_w (dg g s) i = rw_w e i) (fun v => 13 - nt v) ?_ ⟨0, rfl, by omega, fun i hi => by omega⟩
  rintro v ⟨j, rfl, hj, hq⟩
  rw [nI_leI (by decide) (by omega), nI_add, nI_clamp (show s * 13 + j < 2 ^ 31 by omega), nI_clamp (show j < 2 ^ 31 by omega)]
  refine ⟨fun c => h1 ⟨hs, rw_inj D he (fun i hi => hq i (by omega))⟩, fun c => ⟨nu_in (by omega) (by decide), nu_in (by omega) (by decide), ?_⟩⟩
  rw [show s * 13 + j = 13 * s + j by omega, a7 s hs j (by omega), hb j (by omega)]
  have l1 := rw_lt D j; have l2 := rw_lt he j
  rw [nI_eq (by omega) (by omega)]
  refine ⟨fun c2 => ?_, fun c2 => h0 (fun z => c2 (rw_cong z.2 j (by omega)))⟩
  rintro v6 rfl
  rw [nI_add]
  refine ⟨⟨j + 1, rfl, by omega, fun i hi => ?_⟩, by rw [nt_nI (by omega), nt_nI (by omega)]; omega⟩
  rcases (show i < j ∨ i = j by omega) with z | z
  · exact hq i z
  · subst z; exact c2
theorem s_slotOf {p g b : hp_H} {q : Nat} {e : Nat → Nat} {Q : Int32 → Prop} (a : AB p g q b) (he : rw_D e) (hb : rw_B b 48 e) (h1 : ∀ i x, gE g e i → x < 1024 → b 43 x = nI (i + 1) → Q (nI x)) (h0 : (¬ ∃ i, gE g e i) → ∀ x, x < 1024 → b 43 x = 0 → HP b (wd e) x → Q (nI x)) : q_X2_slotOf b Q := by
  have a' := a
  obtain ⟨w, a1, a2, a3, a4, a5, a6, a7, a8, a9, a10, a11⟩ := a'
  have n4 := gN_le w
  unfold q_X2_slotOf
  refine hp_lp2_ind (fun x v => ∃ j, v = nI j ∧ j ≤ 13 ∧ x = mx (wd e) j) (fun x v => 13 - nt v) ?_ ⟨0, rfl, by omega, rfl⟩
  rintro x v ⟨j, rfl, hj, rfl⟩
  rw [nI_leI (by decide) (by omega), nI_clamp (show j < 2 ^ 31 by omega)]
  refine ⟨fun c => ?_, fun c => ⟨nu_in (by omega) (by decide), ?_⟩⟩
  · have e13 : j = 13 := by omega
    subst e13
    rintro v5 rfl v6 rfl
    obtain ⟨l1, l2⟩ := hs_lt (wd e)
    rw [l2]
    refine hp_lp2_ind (fun x v => ∃ t, v = nI t ∧ t ≤ 1024 ∧ x = nI ((hs (wd e) + t) % 1024) ∧ ∀ u, u < t → ∃ s, s < gN g ∧ b 43 ((hs (wd e) + u) % 1024) = nI (s + 1) ∧ ¬ gE g e s) (fun x v => 1024 - nt v) ?_ ⟨0, rfl, by omega, by rw [Nat.add_zero, Nat.mod_eq_of_lt l1], fun u hu => by omega⟩
    rintro x v ⟨t, rfl, ht, rfl, hu⟩
    have xl : (hs (wd e) + t) % 1024 < 1024 := Nat.mod_lt _ (by decide)
    have nz : ∀ u, u < t → ¬ b 43 ((hs (wd e) + u) % 1024) = 0 := by
      intro u hut
      obtain ⟨s, s1, s2, -⟩ := hu u hut
      rw [s2, nu_0 (by omega)]; omega
    rw [nI_leI (by decide) (by omega), nI_clamp (show (hs (wd e) + t) % 1024 < 2 ^ 31 by omega)]
    refine ⟨fun c2 => absurd (fun u hu2 => nz u (by omega)) (HS_free n4 a11 (wd e)), fun c2 => ⟨nu_in xl (by decide), fun c3 => ?_, fun c3 => ⟨nu_in xl (by decide), ?_⟩⟩⟩
    · refine h0 ?_ _ xl c3 ⟨t, by omega, rfl, nz⟩
      rintro ⟨i, hi⟩
      obtain ⟨x, x1, x2, t', t1, t2, t3⟩ := a11.2.2 i hi.1
      have hh : hs (wd (dg g i)) = hs (wd e) := hs_cg (fun j hj => by unfold wd; rw [rw_cong hi.2 j hj])
      rw [hh] at t2 t3
      rcases Nat.lt_trichotomy t' t with z | z | z
      · obtain ⟨s, s1, s2, s3⟩ := hu t' z
        rw [← t2, x2, nI_eq (by have := hi.1; omega) (by omega)] at s2
        rw [show s = i by omega] at s3
        exact s3 hi
      · subst z
        rw [← t2, x2, nu_0 (by have := hi.1; omega)] at c3
        omega
      · exact t3 t z c3
    · rcases a11.1 _ xl with z | ⟨s, s1, s2⟩
      · exact absurd z c3
      rw [s2, pk_sub (by omega), Nat.add_sub_cancel]
      refine s_isSame a he hb s1 (fun ge => ⟨fun z => absurd z (by decide), fun _ => h1 s _ ge xl s2⟩) (fun ge => ⟨fun _ => ?_, fun z => absurd rfl z⟩)
      rintro v14 rfl v15 rfl
      rw [nI_add, nI_add]
      refine ⟨⟨t + 1, rfl, by omega, ?_, fun u hut => ?_⟩, by rw [nt_nI (by omega), nt_nI (by omega)]; omega⟩
      · rw [show (nI 1023 : Int32) = nI (2 ^ 10 - 1) from rfl, nu_low (by omega) (by decide)]
        congr 1; omega
      · rcases (show u < t ∨ u = t by omega) with y | y
        · exact hu u y
        · subst y; exact ⟨s, s1, s2, ge⟩
  · rintro v16 rfl v17 rfl
    rw [hb j (by omega), nI_add]
    exact ⟨⟨j + 1, rfl, by omega, rfl⟩, by rw [nt_nI (by omega), nt_nI (by omega)]; omega⟩
theorem cp_at {h : hp_H} {k0 k1 sp dp n a x : Nat} : hp_cp h k0 k1 sp dp n a x = if a = k1 then va_cpy (h k0) (h k1) sp dp n x else h a x := rfl
theorem s_addState {b : hp_H} {n x : Nat} {a3 a4 : Int32} {e : Nat → Nat} {Q : hp_H → Prop} (hn : b 35 2 = nI n) (n4 : n < 400) (hb : rw_B b 48 e) (hx : x < 1024) (h3 : a3 = -1 ∨ ∃ s, s < 400 ∧ a3 = nI s)
    (hQ : ∀ b', (∀ k, k ≠ 35 → k ≠ 38 → k ≠ 39 → k ≠ 40 → k ≠ 42 → k ≠ 43 → b' k = b k) → (∀ j, j ≠ 2 → b' 35 j = b 35 j) → b' 35 2 = nI (n + 1) → (∀ i, i < 13 * n ∨ 13 * n + 13 ≤ i → b' 42 i = b 42 i) → (∀ j, j < 13 → b' 42 (13 * n + j) = nI (rw_w e j)) → (∀ i, i ≠ n → b' 39 i = b 39 i ∧ b' 40 i = b 40 i ∧ b' 38 i = b 38 i) → b' 39 n = a3 → b' 40 n = a4 → (a3 = -1 → b' 38 n = nI 0) → (∀ s, s < 400 → a3 = nI s → b' 38 n = b 38 s + nI 1) → (∀ y, y ≠ x → b' 43 y = b 43 y) → b' 43 x = nI (n + 1) → Q b') : q_X2_addState b (nI x) a3 a4 Q := by
  unfold q_X2_addState
  have i4 : vp_in (nI n) 400 := nu_in n4 (by decide)
  rw [hn, pk_mul, nI_clamp (show 0 < 2 ^ 31 by decide), nI_clamp (show 13 < 2 ^ 31 by decide), nI_clamp (show n * 13 < 2 ^ 31 by omega)]
  refine ⟨⟨nI_pos (by decide), nI_pos (by omega), nI_pos (by decide), by omega, by omega⟩, ?_⟩
  rintro h1 rfl
  have e35 : hp_cp b 48 42 0 (n * 13) 13 35 = b 35 := by funext y; rw [cp_at, if_neg (by decide)]
  rw [e35, hn]
  refine ⟨i4, ?_⟩
  rintro h2 rfl
  simp only [hp_at, Nat.reduceEqDiff, if_true, if_false, e35, hn]
  refine ⟨i4, ?_⟩
  rintro h3' rfl
  simp only [hp_at, Nat.reduceEqDiff, if_true, if_false, e35, hn, nI_clamp (show n < 2 ^ 31 by omega)]
  have c42 : ∀ y, hp_cp b 48 42 0 (n * 13) 13 42 y = if n * 13 ≤ y ∧ y < n * 13 + 13 then b 48 (0 + (y - n * 13)) else b 42 y := fun y => rfl
  have cO : ∀ k, k ≠ 42 → hp_cp b 48 42 0 (n * 13) 13 k = b k := by intro k hk; funext y; rw [cp_at, if_neg hk]
  refine ⟨fun v => (a3 = -1 → v = nI 0) ∧ ∀ s, s < 400 → a3 = nI s → v = b 38 s + nI 1, ⟨fun c => ⟨fun _ => rfl, fun s hs z => ?_⟩, fun c => ?_⟩, ?_⟩
  · rw [z] at c; exact absurd c (fun y => (nu_m1 (by omega)).mp y)
  · rcases h3 with z | ⟨s, s1, s2⟩
    · exact absurd z c
    · subst s2
      refine ⟨nu_in s1 (by decide), fun z => absurd z c, fun s' h1 h2 => ?_⟩
      rw [nI_eq (by omega) (by omega)] at h2
      subst h2
      rw [nI_clamp (by omega), cO 38 (by decide)]
  rintro v6 ⟨v61, v62⟩
  refine ⟨i4, ?_⟩
  rintro h7 rfl
  simp only [hp_at, Nat.reduceEqDiff, if_true, if_false, e35, hn]
  rintro h8 rfl
  refine ⟨nu_in hx (by decide), ?_⟩
  rw [nI_clamp (show x < 2 ^ 31 by omega)]
  simp only [hp_at, Nat.reduceEqDiff, if_true, if_false, e35, hn, upd, nI_add]
  intro h9 e9
  refine hQ h9 (fun k k1 k2 k3 k4 k5 k6 => ?_) (fun j hj => ?_) ?_ (fun i hi => ?_) (fun j hj => ?_) (fun i hi => ⟨?_, ?_, ?_⟩) ?_ ?_ (fun z => ?_) (fun s s1 s2 => ?_) (fun y hy => ?_) ?_
  · rw [e9]; simp [hp_at, k1, k2, k3, k4, k6, cO k k5]
  · rw [e9]; simp [hp_at, upd, hj, e35]
  · rw [e9]; simp [hp_at, upd]
  · rw [e9]; simp [hp_at]; rw [c42, if_neg (by omega)]
  · rw [e9]; simp [hp_at]; rw [c42, if_pos (by omega), show 0 + (13 * n + j - n * 13) = j by omega]; exact hb j hj
  · rw [e9]; simp [hp_at, upd, hi, cO]
  · rw [e9]; simp [hp_at, upd, hi, cO]
  · rw [e9]; simp [hp_at, upd, hi, cO]
  · rw [e9]; simp [hp_at, upd]
  · rw [e9]; simp [hp_at, upd]
  · rw [e9]; simp [hp_at, upd]; exact v61 z
  · rw [e9]; simp [hp_at, upd]; exact v62 s s1 s2
  · rw [e9]; simp [hp_at, upd, hy, cO]
  · rw [e9]; simp [hp_at, upd]
theorem AB_M {p g b b' : hp_H} {q i : Nat} {r m t : Int32} (a : AB p g q b) (h : ¬ gK g = 6000) (e : b' = hp_up (hp_up (hp_up b 37 (gK g) (nI i)) 41 (gK g) (mvc r m t)) 35 3 (nI (gK g + 1))) : AB p (gM g i r m t) q b' := by
  obtain ⟨w, a1, a2, a3, a4, a5, a6, a7, a8, a9, a10, a11⟩ := a
  have k6 := gK_lt w h
  have o : ∀ k, k ≠ 35 → k ≠ 37 → k ≠ 41 → b' k = b k := by intro k h1 h2 h3; rw [e]; simp [hp_at, h1, h2, h3]
  have o35 : ∀ j, j ≠ 3 → b' 35 j = b 35 j := by intro j hj; rw [e]; simp [hp_at, upd, hj]
  unfold AB
  rw [gM_N, gM_0 (j := 34) (by decide), gM_0 (j := 35) (by decide), gM_0 (j := 46) (by decide), gM_0 (j := 47) (by decide), gM_0 (j := 48) (by decide), gM_0 (j := 49) (by decide), gM_0 (j := 50) (by decide), (gM_K (by omega)).2, (gM_K (by omega)).1, o35 0 (by decide), o35 1 (by decide), o35 2 (by decide), o35 4 (by decide), o35 5 (by decide), o35 6 (by decide), o35 7 (by decide), o 42 (by decide) (by decide) (by decide), o 39 (by decide) (by decide) (by decide), o 40 (by decide) (by decide) (by decide), o 38 (by decide) (by decide) (by decide), o 36 (by decide) (by decide) (by decide)]
  refine ⟨GW_M w h, a1, a2, a3, by rw [e]; simp [hp_at, upd], a5, a6, fun s hs j hj => ?_, fun s hs => ?_, fun x hx => ?_, fun x hx => ?_, ?_⟩
  · rw [gM_dg]; exact a7 s hs j hj
  · rw [gM_k (by decide) (by decide) (by decide) (by decide) (by decide), gM_k (by decide) (by decide) (by decide) (by decide) (by decide), gM_k (by decide) (by decide) (by decide) (by decide) (by decide)]; exact a8 s hs
  · rcases (show x < gK g ∨ x = gK g by omega) with z | z
    · rw [gM_old (by omega) (by decide), gM_old (by omega) (by decide), gM_old (by omega) (by decide), gM_old (by omega) (by decide)]
      have : b' 37 x = b 37 x ∧ b' 41 x = b 41 x := by rw [e]; simp [hp_at, upd, show x ≠ gK g by omega]
      rw [this.1, this.2]; exact a9 x z
    · subst z
      obtain ⟨q1, q2, q3, q4⟩ := gM_new (g := g) (i := i) (r := r) (m := m) (t := t)
      rw [q1, q2, q3, q4, e]; simp [hp_at, upd]
  · rw [gM_k (by decide) (by decide) (by decide) (by decide) (by decide)]; exact a10 x hx
  · have : HS (gM g i r m t) b' ↔ HS g b := by
      unfold HS HP
      rw [gM_N, o 43 (by decide) (by decide) (by decide)]
      simp only [gM_dg]
    exact this.mpr a11
theorem AB_S {p g b b' : hp_H} {q s x : Nat} {e : Nat → Nat} (v : VP p) (a : AB p g q b) (h : ¬ gN g = 400) (hn : ¬ ∃ i, gE g e i) (he : DG p e) (hsn : s < gN g) (hq : s < q) (hx : x < 1024) (x0 : b 43 x = 0) (hp : HP b (wd e) x)
    (f1 : ∀ k, k ≠ 35 → k ≠ 38 → k ≠ 39 → k ≠ 40 → k ≠ 42 → k ≠ 43 → b' k = b k) (f2 : ∀ j, j ≠ 2 → b' 35 j = b 35 j) (f3 : b' 35 2 = nI (gN g + 1)) (f4 : ∀ i, i < 13 * gN g ∨ 13 * gN g + 13 ≤ i → b' 42 i = b 42 i) (f5 : ∀ j, j < 13 → b' 42 (13 * gN g + j) = nI (rw_w e j)) (f6 : ∀ i, i ≠ gN g → b' 39 i = b 39 i ∧ b' 40 i = b 40 i ∧ b' 38 i = b 38 i) (f7 : b' 39 (gN g) = nI s) (f8 : b' 40 (gN g) = b 35 3 - b 36 s) (f9 : b' 38 (gN g) = b 38 s + nI 1) (f10 : ∀ y, y ≠ x → b' 43 y = b 43 y) (f11 : b' 43 x = nI (gN g + 1)) : AB p (gS g e s) q b' := by
  obtain ⟨w, a1, a2, a3, a4, a5, a6, a7, a8, a9, a10, a11⟩ := a
  have n4 := gN_le w
  have nw : ∀ k, k < 54 → dg (gS g e s) (gN g) k = e k := fun k hk => gS_new hk (he.1 k)
  unfold AB
  rw [(gS_N n4).1, (gS_N n4).2, gS_0 (j := 34) (by decide), gS_0 (j := 40) (by decide), gS_0 (j := 46) (by decide), gS_0 (j := 47) (by decide), gS_0 (j := 48) (by decide), gS_0 (j := 49) (by decide), gS_0 (j := 50) (by decide), gS_K, f2 0 (by decide), f2 1 (by decide), f2 3 (by decide), f2 4 (by decide), f2 5 (by decide), f2 6 (by decide), f2 7 (by decide), f1 37 (by decide) (by decide) (by decide) (by decide) (by decide) (by decide), f1 41 (by decide) (by decide) (by decide) (by decide) (by decide) (by decide), f1 36 (by decide) (by decide) (by decide) (by decide) (by decide) (by decide)]
  refine ⟨GW_S v w h hn he, a1, a2, f3, a4, a5, a6, fun t ht j hj => ?_, fun t ht => ?_, fun i hi => ?_, fun i hi => ?_, fun y hy => ?_, fun y z hy hz => ?_, fun t ht => ?_⟩
  · rcases (show t < gN g ∨ t = gN g by omega) with z | z
    · rw [gS_old z, f4 _ (by omega)]; exact a7 t z j hj
    · subst z; rw [f5 j hj, rw_cong nw j hj]
  · rcases (show t < gN g ∨ t = gN g by omega) with z | z
    · obtain ⟨q1, q2, q3⟩ := f6 t (by omega)
      rw [q1, q2, q3]
      have c : ∀ k, k = 28 ∨ k = 29 ∨ k = 30 → gS g e s k t = g k t := by
        intro k hk
        unfold gS
        have : t ≠ gN g := by omega
        rcases hk with y | y | y <;> subst y <;> simp [this]
      rw [c 28 (by decide), c 29 (by decide), c 30 (by decide)]; exact a8 t z
    · subst z
      rw [f7, f8, f9]
      unfold gS
      simp
      rw [a4, a10 s hq]
      exact ⟨rfl, (a8 s hsn).2.2⟩
  · rw [gS_k (by decide) (by decide) (by decide) (by decide) (by decide), gS_k (by decide) (by decide) (by decide) (by decide) (by decide), gS_k (by decide) (by decide) (by decide) (by decide) (by decide), gS_k (by decide) (by decide) (by decide) (by decide) (by decide)]; exact a9 i hi
  · rw [gS_k (by decide) (by decide) (by decide) (by decide) (by decide)]; exact a10 i hi
  · rw [(gS_N n4).1]
    by_cases z : y = x
    · subst z; exact Or.inr ⟨gN g, by omega, f11⟩
    · rw [f10 y z]
      rcases a11.1 y hy with z2 | ⟨u, u1, u2⟩
      · exact Or.inl z2
      · exact Or.inr ⟨u, by omega, u2⟩
  · have old : ∀ y, y < 1024 → y ≠ x → b' 43 y ≠ b' 43 x := by
      intro y hy hyx
      rw [f10 y hyx, f11]
      rcases a11.1 y hy with z2 | ⟨u, u1, u2⟩
      · rw [z2]; exact fun q => by rw [eq_comm, nu_0 (by omega)] at q; omega
      · rw [u2]; exact fun q => by rw [nI_eq (by omega) (by omega)] at q; omega
    intro e1 e2
    by_cases c1 : y = x
    · by_cases c2 : z = x
      · omega
      · subst c1; exact absurd e1.symm (old z hz c2)
    · by_cases c2 : z = x
      · subst c2; exact absurd e1 (old y hy c1)
      · rw [f10 y c1, f10 z c2] at e1
        rw [f10 y c1] at e2
        exact a11.2.1 y z hy hz e1 e2
  · have nzk : ∀ y, ¬ b 43 y = 0 → ¬ b' 43 y = 0 := by
      intro y hy
      by_cases c : y = x
      · subst c; exact absurd x0 hy
      · rw [f10 y c]; exact hy
    rw [(gS_N n4).1] at ht
    rcases (show t < gN g ∨ t = gN g by omega) with z | z
    · obtain ⟨y, y1, y2, u, u1, u2, u3⟩ := a11.2.2 t z
      refine ⟨y, y1, ?_, u, u1, ?_, ?_⟩
      · rw [f10 y (fun c => by subst c; rw [y2, nu_0 (by omega)] at x0; omega)]; exact y2
      · rw [gS_old z]; exact u2
      · rw [gS_old z]; exact fun k hk => nzk _ (u3 k hk)
    · subst z
      obtain ⟨u, u1, u2, u3⟩ := hp
      have hh : hs (wd (dg (gS g e s) (gN g))) = hs (wd e) := hs_cg (fun j hj => by unfold wd; rw [rw_cong nw j hj])
      exact ⟨x, hx, f11, u, u1, by rw [hh]; exact u2, by rw [hh]; exact fun k hk => nzk _ (u3 k hk)⟩
theorem AB_sp {p g b b' : hp_H} {q : Nat} (a : AB p g q b) (e : b' = hp_up b 35 1 (nI 1)) : AB p (hp_up g 0 34 (nI 1)) q b' := by
  obtain ⟨w, a1, a2, a3, a4, a5, a6, a7, a8, a9, a10, a11⟩ := a
  have o : ∀ k, k ≠ 35 → b' k = b k := by intro k h1; rw [e]; simp [hp_at, h1]
  have o35 : ∀ j, j ≠ 1 → b' 35 j = b 35 j := by intro j hj; rw [e]; simp [hp_at, upd, hj]
  have g0 : ∀ j, j ≠ 34 → hp_up g 0 34 (nI 1) 0 j = g 0 j := by intro j hj; simp [hp_at, upd, hj]
  have gk : ∀ k, k ≠ 0 → hp_up g 0 34 (nI 1) k = g k := by intro k hk; simp [hp_at, hk]
  have gd : dg (hp_up g 0 34 (nI 1)) = dg g := by funext s k; unfold dg; rw [gk 27 (by decide)]
  have gn : gN (hp_up g 0 34 (nI 1)) = gN g := by unfold gN; rw [g0 35 (by decide)]
  have gkk : gK (hp_up g 0 34 (nI 1)) = gK g := by unfold gK; rw [g0 40 (by decide)]
  unfold AB
  rw [gn, gkk, gd, g0 35 (by decide), g0 40 (by decide), g0 46 (by decide), g0 47 (by decide), g0 48 (by decide), g0 49 (by decide), g0 50 (by decide), gk 28 (by decide), gk 29 (by decide), gk 30 (by decide), gk 31 (by decide), gk 32 (by decide), gk 33 (by decide), gk 34 (by decide), gk 35 (by decide), o 42 (by decide), o 39 (by decide), o 40 (by decide), o 38 (by decide), o 37 (by decide), o 41 (by decide), o 36 (by decide), o35 0 (by decide), o35 2 (by decide), o35 3 (by decide), o35 4 (by decide), o35 5 (by decide), o35 6 (by decide), o35 7 (by decide)]
  refine ⟨GW_fr w (gk 27 (by decide)) (g0 35 (by decide)) (by rw [g0 40 (by decide)]; exact w.2.2.1) (by simp [hp_at, upd]; exact Or.inr rfl) (by rw [g0 46 (by decide)]; exact w.2.2.2.2.1), a1, by rw [e]; simp [hp_at, upd], a3, a4, a5, a6, a7, a8, a9, a10, ?_⟩
  unfold HS HP
  rw [gn, gd, o 43 (by decide)]
  exact a11
theorem s_addMove {p g b : hp_H} {q s : Nat} {e : Nat → Nat} {r m t : Int32} {Q : hp_H → Prop} (v : VP p) (a : AB p g q b) (hs : s < gN g) (hq : s < q) (he : DG p e) (hb : rw_B b 48 e)
    (hQ : ∀ b', (∀ k, k < 35 ∨ 43 < k → b' k = b k) → AB p (mvg g s r m t e) q b' → Q b') : q_X2_addMove b (nI s) (mvc r m t) Q := by
  have a' := a
  obtain ⟨w, a1, a2, a3, a4, a5, a6, a7, a8, a9, a10, a11⟩ := a'
  have n4 := gN_le w
  have kl := w.2.2.1.2
  have kK : b 35 3 = nI (gK g) := by rw [a4]; exact w.2.2.1.1
  have nN : b 35 2 = nI (gN g) := by rw [a3]; exact w.1.1
  unfold q_X2_addMove
  refine s_slotOf a he.D hb (fun i x hi hx h43 => ⟨nu_in hx (by decide), ?_⟩) (fun hn x hx h43 hp => ⟨nu_in hx (by decide), ?_⟩)
  · have i4 := hi.1
    rw [nI_clamp (show x < 2 ^ 31 by omega), h43, nu_0 (by omega)]
    refine ⟨fun v => v = nI 0, ⟨fun z => by omega, fun _ => rfl⟩, ?_⟩
    rintro v4 rfl
    rw [kK, nI_eq (by unfold gK; omega) (by decide)]
    refine ⟨fun c => ?_, fun c => ?_⟩
    · intro h6 e6
      exact hQ h6 (fun k hk => by rw [e6, hp_at, if_neg (by omega)]) (by rw [mvg_full c]; exact AB_sp a e6)
    · have k6 := gK_lt w c
      refine hp_jn0_i (br00 (hp_jn0h_i (br00 ?_)))
      rw [kK, h43, pk_sub (by omega), Nat.add_sub_cancel]
      refine ⟨nu_in hx (by decide), nu_in k6 (by decide), ?_⟩
      rw [nI_clamp (show gK g < 2 ^ 31 by omega)]
      rintro h15 rfl
      simp only [hp_at, Nat.reduceEqDiff, if_true, if_false, kK]
      refine ⟨nu_in k6 (by decide), ?_⟩
      rw [nI_clamp (show gK g < 2 ^ 31 by omega)]
      rintro h16 rfl
      simp only [hp_at, Nat.reduceEqDiff, if_true, if_false, kK, nI_add]
      intro h17 e17
      exact hQ h17 (fun k hk => by rw [e17, hp_at, if_neg (by omega), hp_at, if_neg (by omega), hp_at, if_neg (by omega)]) (by rw [mvg_old w c hi]; exact AB_M a c e17)
  · rw [nI_clamp (show x < 2 ^ 31 by omega), h43]
    refine ⟨fun v => v = nI 1, ⟨fun _ => rfl, fun z => absurd rfl z⟩, ?_⟩
    rintro v4 rfl
    rw [kK, nI_eq (by unfold gK; omega) (by decide)]
    refine ⟨fun c => ?_, fun c => ?_⟩
    · intro h6 e6
      exact hQ h6 (fun k hk => by rw [e6, hp_at, if_neg (by omega)]) (by rw [mvg_full c]; exact AB_sp a e6)
    · have k6 := gK_lt w c
      refine hp_jn0_i (br1 ?_)
      rw [nN, nI_eq (by omega) (by decide)]
      refine ⟨fun c2 => ?_, fun c2 => ?_⟩
      · intro h6 e6
        exact hQ h6 (fun k hk => by rw [e6, hp_at, if_neg (by omega)]) (by rw [mvg_400 c hn c2]; exact AB_sp a e6)
      · refine hp_jn0h_i (br1 ⟨nu_in (by omega) (by decide), ?_⟩)
        rw [nI_clamp (show s < 2 ^ 31 by omega)]
        refine s_addState nN (by omega) hb hx (Or.inr ⟨s, by omega, rfl⟩) (fun b' f1 f2 f3 f4 f5 f6 f7 f8 f9 f9' f10 f11 => ?_)
        have aS : AB p (gS g e s) q b' := AB_S v a c2 hn he hs hq hx h43 hp f1 f2 f3 f4 f5 f6 f7 (by rw [f8, kK]) (f9' s (by omega) rfl) f10 f11
        have kK' : b' 35 3 = nI (gK g) := by rw [f2 3 (by decide), kK]
        dsimp only
        rw [kK', f11, pk_sub (by omega), Nat.add_sub_cancel]
        refine ⟨nu_in hx (by decide), nu_in k6 (by decide), ?_⟩
        rw [nI_clamp (show gK g < 2 ^ 31 by omega)]
        rintro h15 rfl
        simp only [hp_at, Nat.reduceEqDiff, if_true, if_false, kK']
        refine ⟨nu_in k6 (by decide), ?_⟩
        rw [nI_clamp (show gK g < 2 ^ 31 by omega)]
        rintro h16 rfl
        simp only [hp_at, Nat.reduceEqDiff, if_true, if_false, kK', nI_add]
        intro h17 e17
        refine hQ h17 (fun k hk => ?_) ?_
        · rw [e17, hp_at, if_neg (by omega), hp_at, if_neg (by omega), hp_at, if_neg (by omega)]
          exact f1 k (by omega) (by omega) (by omega) (by omega) (by omega) (by omega)
        · rw [mvg_new c hn c2]
          exact AB_M aS (by rw [gS_K]; exact c) (by rw [gS_K]; exact e17)
