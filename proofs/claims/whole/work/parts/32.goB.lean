/-! ===== the class goes through a state ===== -/
theorem nI_m1 (i : Nat) : nI i + (-1) = nI i - nI 1 := by rw [Int32.sub_eq_add_neg]; rfl
theorem nI_neg {i : Nat} (h : i < 2 ^ 31) : (nI i - nI 1 < 0) ↔ i = 0 := by
  rcases i with _ | i
  · exact ⟨fun _ => rfl, fun _ => by decide⟩
  · rw [pk_sub (by omega), Nat.add_sub_cancel, nu_lt0 (by omega)]; exact ⟨False.elim, fun z => by omega⟩
theorem va_id {c : Nat → Nat} {i : Nat} (h : c i = 0) : va_up c i 0 = c := by
  funext x
  by_cases z : x = i
  · rw [z, va_e, h]
  · rw [va_n _ _ z]
theorem s_pickNext {p b : hp_H} {s : Nat} {d c : Nat → Nat} {Q : Int32 → hp_H → Prop} (v : VP p) (eq : EQ b p) (hd : DG p d) (h46 : rw_B b 46 d) (hs : s < nt (p 0 21)) (cv : CV p d s c) (h49 : ∀ i, i < 4 → b 49 i = nI (c i))
    (h1 : ∀ c' b', nxt p d s (nt (p 22 s)) c = some c' → (∀ k, k ≠ 49 → b' k = b k) → (∀ i, i < 4 → b' 49 i = nI (c' i)) → Q (nI 1) b') (h0 : ∀ b', nxt p d s (nt (p 22 s)) c = none → (∀ k, k ≠ 49 → b' k = b k) → Q (nI 0) b') : q_X8_pickNext b (nI s) Q := by
  obtain ⟨vs', vr, vc, vx, vt, v30⟩ := v
  have s24 : s < 24 := by have := vt.1.2; omega
  have i24 : vp_in (nI s) 24 := nu_in s24 (by decide)
  obtain ⟨v1, v2, v3, v4, v5, v6, v7⟩ := vt.2.2.2 s hs
  have v22 := vt.2.1 s s24
  have n4 := v22.2
  obtain ⟨e4, e5, e6, e13, e8, e9, e10, e11, e32, e33, e34, e17, e18, e19, e20, e22, e24, e25, e26, e27, e28, e29, e30, e31⟩ := eq.1
  unfold q_X8_pickNext
  refine ⟨i24, ?_⟩
  rintro x rfl
  rw [nI_clamp (show s < 2 ^ 31 by omega), e28]
  refine hp_lp1h_ind (fun x h => ∃ i c', x = nI i - nI 1 ∧ i ≤ nt (p 22 s) ∧ (∀ k, k ≠ 49 → h k = b k) ∧ (∀ j, j < 4 → h 49 j = nI (c' j)) ∧ (∀ j, c' j < 3) ∧ nxt p d s (nt (p 22 s)) c = nxt p d s i c') (fun x h => nt (x + nI 1)) ?_ ⟨nt (p 22 s), c, by rw [← v22.1], Nat.le_refl _, fun k _ => rfl, h49, fun j => (cv j).1, rfl⟩
  rintro x h ⟨i, c', rfl, hi, fr, hp, c3, hn⟩
  rw [nI_neg (by omega)]
  refine ⟨fun z => ?_, fun z => ?_⟩
  · subst z; exact h0 h hn fr
  obtain ⟨i, rfl⟩ : ∃ j, i = j + 1 := ⟨i - 1, by omega⟩
  rintro w rfl
  rw [pk_sub (by omega), Nat.add_sub_cancel, pk_mul, nI_add, nI_clamp (show s * 4 + i < 2 ^ 31 by omega), nI_clamp (show i < 2 ^ 31 by omega), show s * 4 + i = 4 * s + i by omega, fr 30 (by decide), fr 29 (by decide), fr 33 (by decide), e30, e29, e33]
  have i96 : vp_in (nI (4 * s + i)) 96 := nu_in (by omega) (by decide)
  refine ⟨i96, ?_⟩
  rintro w rfl
  refine ⟨i96, ?_⟩
  obtain ⟨w1, w2, w3, w4, w5, w6⟩ := v6 i (by omega)
  have kk : p 23 (4 * s + i) = nI 3 ↔ nt (p 23 (4 * s + i)) = 3 := ⟨fun z => by rw [z]; exact nt_nI (by omega), fun z => by rw [w1.1, z]⟩
  rw [kk]
  refine ⟨fun h' => (∀ k, k ≠ 49 → h' k = b k) ∧ ∃ c2, (∀ j, j < 4 → h' 49 j = nI (c2 j)) ∧ (∀ j, c2 j < 3) ∧ nxt p d s (i + 1) c' = nxt p d s i c2, ⟨fun k => ?_, fun k => ⟨fr, c', hp, c3, nxt_n (fun z => k z.1)⟩⟩, ?_⟩
  · obtain ⟨a1, a2⟩ := w4 (by omega)
    have a12 := a1.2
    refine ⟨isn_in a1 (by decide) (by omega), ?_⟩
    rw [nt_def]
    refine ⟨fun z => ⟨fr, c', hp, c3, nxt_n (fun y => y.2 z)⟩, fun z => ⟨nu_in (by omega) (by decide), ?_⟩⟩
    have ls : LSe p s i := ⟨k, z⟩
    rw [hp i (by omega), a1.1]
    have hl := (hd.2.1 _ (show nt (p 24 (4 * s + i)) < 3 by omega)).1
    have ci := c3 i
    refine s_nextUnlike (s := c' i + 1) hd.D (fun j hj => by rw [fr 46 (by decide)]; exact h46 j hj) (by omega) hl (by rw [nI_add]) (by omega) (fun u u1 u2 u3 u4 => ?_) (fun u => ?_)
    · refine ⟨fun y => absurd y (fun q => (nu_m1 (by omega)).mp q), fun _ => ⟨nu_in (by omega) (by decide), ?_⟩⟩
      rintro h15 rfl
      refine h1 (va_up c' i u) _ (by rw [hn]; exact nxt_s ls (nx_some hl u1 u2 u3 u4)) (fun k hk => by rw [hp_at, if_neg hk]; exact fr k hk) (fun j hj => ?_)
      simp only [hp_at, if_true, upd]
      by_cases y : j = i
      · rw [if_pos y, y, va_e]
      · rw [if_neg y, va_n _ _ y]; exact hp j hj
    · refine ⟨fun _ => ⟨nu_in (by omega) (by decide), ?_⟩, fun y => absurd rfl y⟩
      rintro h15 rfl
      refine ⟨fun k hk => by rw [hp_at, if_neg hk]; exact fr k hk, va_up c' i 0, fun j hj => ?_, fun j => ?_, nxt_z ls (nx_none u)⟩
      · simp only [hp_at, if_true, upd]
        by_cases y : j = i
        · rw [if_pos y, y, va_e]
        · rw [if_neg y, va_n _ _ y]; exact hp j hj
      · by_cases y : j = i
        · rw [y, va_e]; decide
        · rw [va_n _ _ y]; exact c3 j
  · rintro h' ⟨f', c2, q1, q2, q3⟩
    rintro w rfl
    rw [nI_m1]
    refine ⟨⟨i, c2, rfl, by omega, f', q1, q2, by rw [hn, q3]⟩, ?_⟩
    rw [show nI i + nI 1 = nI (i + 1) from nI_add _ _, nt_nI (by omega)]
    rw [Int32.sub_add_cancel, nt_nI (by omega)]
    omega
theorem s_fill {x n : Nat} {b : hp_H} {a : Int32} {Q : hp_H → Prop} (hn : n < 2 ^ 30) (hQ : ∀ b', (∀ k, k ≠ x → b' k = b k) → (∀ i, i < n → b' x i = a) → Q b') : q_J7_fill_53178 x n b a Q := by
  unfold q_J7_fill_53178
  rintro v1 rfl
  refine hp_lp1h_ind (fun y h => ∃ j, y = nI j ∧ j ≤ n ∧ (∀ k, k ≠ x → h k = b k) ∧ ∀ i, i < j → h x i = a) (fun y h => n - nt y) ?_ ⟨0, rfl, by omega, fun k _ => rfl, fun i hi => by omega⟩
  rintro y h ⟨j, rfl, hj, fr, hv⟩
  rw [nI_leI (by omega) (by omega), nI_clamp (show j < 2 ^ 31 by omega)]
  refine ⟨fun c => hQ h fr (fun i hi => hv i (by omega)), fun c => ⟨nu_in (by omega) (by omega), ?_⟩⟩
  rintro h' rfl w rfl
  rw [nI_add]
  refine ⟨⟨j + 1, rfl, by omega, fun k hk => by rw [hp_at, if_neg hk]; exact fr k hk, fun i hi => ?_⟩, by rw [nt_nI (by omega), nt_nI (by omega)]; omega⟩
  simp only [hp_at, if_true, upd]
  by_cases z : i = j
  · rw [if_pos z]
  · rw [if_neg z]; exact hv i (by omega)
theorem s_noteFault {p g b : hp_H} {q s : Nat} {r m t : Int32} {Q : hp_H → Prop} (a : AB p g q b) (hs : s < 400) (hQ : ∀ b', (∀ k, k ≠ 35 → b' k = b k) → AB p (flt g s r m t) q b' → Q b') : q_X2_noteFault b (nI s) r m t Q := by
  have a' := a
  obtain ⟨w, a1, a2, a3, a4, a5, a6, a7, a8, a9, a10, a11⟩ := a
  unfold q_X2_noteFault
  by_cases f : g 0 46 = 0
  · rw [(a5 f).1]
    refine ⟨fun _ => ?_, fun z => absurd rfl z⟩
    rintro h2 rfl h3 rfl h4 rfl
    intro h5 e5
    have o : ∀ k, k ≠ 35 → h5 k = b k := by intro k h1; rw [e5]; simp [hp_at, h1]
    have o35 : ∀ j, j ≠ 4 → j ≠ 5 → j ≠ 6 → j ≠ 7 → h5 35 j = b 35 j := by intro j h1 h2 h3 h4; rw [e5]; simp [hp_at, upd, h1, h2, h3, h4]
    refine hQ h5 o ?_
    unfold flt
    rw [cif_t f]
    generalize eg : hp_up (hp_up (hp_up (hp_up (hp_up g 0 46 (nI 1)) 0 47 (nI s)) 0 48 r) 0 49 m) 0 50 t = g'
    have g0 : ∀ j, j < 46 → g' 0 j = g 0 j := by intro j hj; rw [← eg]; simp [hp_at, upd, show j ≠ 46 by omega, show j ≠ 47 by omega, show j ≠ 48 by omega, show j ≠ 49 by omega, show j ≠ 50 by omega]
    have gk : ∀ k, k ≠ 0 → g' k = g k := by intro k hk; rw [← eg]; simp [hp_at, hk]
    have gd : dg g' = dg g := by funext s k; unfold dg; rw [gk 27 (by decide)]
    have gn : gN g' = gN g := by unfold gN; rw [g0 35 (by decide)]
    have gkk : gK g' = gK g := by unfold gK; rw [g0 40 (by decide)]
    have v46 : g' 0 46 = nI 1 := by rw [← eg]; simp [hp_at, upd]
    unfold AB
    rw [gn, gkk, gd, g0 34 (by decide), g0 35 (by decide), g0 40 (by decide), v46, gk 28 (by decide), gk 29 (by decide), gk 30 (by decide), gk 31 (by decide), gk 32 (by decide), gk 33 (by decide), gk 34 (by decide), gk 35 (by decide), o 42 (by decide), o 39 (by decide), o 40 (by decide), o 38 (by decide), o 37 (by decide), o 41 (by decide), o 36 (by decide), o35 0 (by decide) (by decide) (by decide) (by decide), o35 1 (by decide) (by decide) (by decide) (by decide), o35 2 (by decide) (by decide) (by decide) (by decide), o35 3 (by decide) (by decide) (by decide) (by decide)]
    refine ⟨GW_fr w (gk 27 (by decide)) (g0 35 (by decide)) (by rw [g0 40 (by decide)]; exact w.2.2.1) (by rw [g0 34 (by decide)]; exact w.2.2.2.1) (by rw [v46]; exact Or.inr rfl), a1, a2, a3, a4, fun z => absurd z (by decide), fun _ => ?_, a7, a8, a9, a10, ?_⟩
    · rw [← eg, e5]
      simp [hp_at, upd]
      exact fun z => (nu_m1 (by omega)).mp z
    · unfold HS HP
      rw [gn, gd, o 43 (by decide)]
      exact a11
  · rw [(a6 f).1]
    have := (a6 f).2.2.2.2
    refine ⟨fun z => absurd z this, fun _ => hQ b (fun k _ => rfl) ?_⟩
    unfold flt
    rw [cif_f f]
    exact a'
theorem mvc_n {r m t : Nat} (h : r < 2 ^ 31) : mvc (nI r) (nI m) (nI t) = ((nI r * nI 3) + nI m) * nI 24 + nI t := by
  unfold mvc
  rw [if_neg (fun z => (nu_m1 h).mp z)]
theorem pr_N {s : Nat} {g : hp_H} {x : Int32 × Int32 × Int32 × Option (Nat → Nat)} (h : gN g ≤ 400) : gN g ≤ gN (pr s g x) := by
  have up : gN (hp_up g 0 34 (nI 1)) = gN g := by unfold gN; simp [hp_at, upd]
  unfold pr
  by_cases z : g 0 34 = 0
  · rw [cif_t z]
    rcases x with ⟨r, m, t, _ | e⟩
    · show gN g ≤ gN (flt g s r m t)
      unfold flt
      by_cases f : g 0 46 = 0
      · rw [cif_t f]; unfold gN; simp [hp_at, upd]
      · rw [cif_f f]; exact Nat.le_refl _
    · show gN g ≤ gN (mvg g s r m t e)
      unfold mvg
      by_cases c1 : gK g = 6000
      · rw [cif_t c1, up]; exact Nat.le_refl _
      rw [cif_f c1]
      by_cases c2 : ∃ i, gE g e i
      · rw [cif_t c2, gM_N]; exact Nat.le_refl _
      rw [cif_f c2]
      by_cases c3 : gN g = 400
      · rw [cif_t c3, up]; exact Nat.le_refl _
      · rw [cif_f c3, gM_N, (gS_N h).1]; omega
  · rw [cif_f z]; exact Nat.le_refl _
/-- which cells the class's search leaves as they are -/
def FW (b b' : hp_H) : Prop := ∀ k, k ≠ 48 → k ≠ 49 → (k < 35 ∨ 43 < k) → b' k = b k
theorem FW.tr {a b c : hp_H} (h : FW a b) (k : FW b c) : FW a c := fun x h1 h2 h3 => (k x h1 h2 h3).trans (h x h1 h2 h3)
set_option maxHeartbeats 2000000 in
theorem s_goWays {p g b : hp_H} {q st m s r : Nat} {d : Nat → Nat} {t : Nat → Int32} {Q : hp_H → Prop} (v : VP p) (eq : EQ b p) (a : AB p g q b) (hst : st < gN g) (hq : st < q) (hd : DG p d) (h46 : rw_B b 46 d) (hs : s < nt (p 0 21)) (hr : nt (p 18 s) = r) (hm : m < nt (p 4 r)) (vs : VS p b t s) (hc : ∀ i, i < nt (p 22 s) → cnA p d s i)
    (hQ : ∀ b', FW b b' → AB p (List.foldl (pr st) g ((wl p d s 27 (fun _ => 0)).map (wev p d t r m s))) q b' → Q b') : q_X8_goWays b (nI st) (nI m) (nI s) Q := by
  have v' := v
  obtain ⟨vs', vr, vc, vx, vt, v30⟩ := v'
  have s24 : s < 24 := by have := vt.1.2; omega
  have i24 : vp_in (nI s) 24 := nu_in s24 (by decide)
  obtain ⟨v1, v2, v3, v4, v5, v6, v7⟩ := vt.2.2.2 s hs
  have r3 : r < 3 := by have := v1.2; omega
  have rr : r < nt (p 0 4) := by omega
  have m4 := (vr.2.2.1 r rr).1
  have m3 : m < 3 := by have := m4.2; omega
  have n4 := gN_le a.1
  obtain ⟨e4, e5, e6, e13, e8, e9, e10, e11, e32, e33, e34, e17, e18, e19, e20, e22, e24, e25, e26, e27, e28, e29, e30, e31⟩ := eq.1
  generalize hF : List.foldl (pr st) g ((wl p d s 27 (fun _ => 0)).map (wev p d t r m s)) = FIN at hQ
  unfold q_X8_goWays
  refine ⟨i24, ?_⟩
  rintro x rfl
  rw [nI_clamp (show s < 2 ^ 31 by omega), e24, v1.1, hr]
  refine s_fill (by decide) (fun h fr h49 => ?_)
  have ab0 : AB p g q h := by
    unfold AB HS HP at a ⊢
    simp only [fr 35 (by decide), fr 36 (by decide), fr 37 (by decide), fr 38 (by decide), fr 39 (by decide), fr 40 (by decide), fr 41 (by decide), fr 42 (by decide), fr 43 (by decide)]
    exact a
  refine hp_lp2h_ind (fun x y h => ∃ w g', y = nI w ∧ w ≤ 27 ∧ FW b h ∧ AB p g' q h ∧ gN g ≤ gN g' ∧ ((x = 0 ∧ FIN = g') ∨ (x = nI 1 ∧ ∃ c, CV p d s c ∧ (∀ i, i < 4 → h 49 i = nI (c i)) ∧ FIN = List.foldl (pr st) g' ((wl p d s (27 - w) c).map (wev p d t r m s))))) (fun x y h => 27 - nt y) ?_ ⟨0, g, rfl, by omega, fun k h1 h2 h3 => fr k h2, ab0, Nat.le_refl _, Or.inr ⟨rfl, fun _ => 0, CV_0 hc, fun i hi => h49 i hi, hF.symm⟩⟩
  rintro x y h1 ⟨w, g', rfl, hw, fw, ab, gle, hx⟩
  have gn' := gN_le ab.1
  rw [nI_leI (by decide) (by omega)]
  refine ⟨fun c1 => hQ h1 fw ?_, fun c1 => ⟨fun c2 => hQ h1 fw ?_, fun c2 => ⟨fun c3 => ?_, fun c3 => hQ h1 fw ?_⟩⟩⟩
  · rcases hx with ⟨-, z⟩ | ⟨-, c, -, -, z⟩
    · rw [z]; exact ab
    · rw [show 27 - w = 0 by omega] at z; rw [z]; exact ab
  · rcases hx with ⟨-, z⟩ | ⟨z, -⟩
    · rw [z]; exact ab
    · rw [z] at c2; exact absurd c2 (by decide)
  case refine_4 =>
    rcases hx with ⟨-, z⟩ | ⟨-, c, -, -, z⟩
    · rw [z]; exact ab
    · rw [z, pr_sp (by rw [← ab.2.2.1]; exact c3)]; exact ab
  rcases hx with ⟨z, -⟩ | ⟨-, c, cv, hp, hfin⟩
  · exact absurd z c2
  have sp : g' 0 34 = 0 := by rw [← ab.2.2.1]; exact c3
  have fwk : ∀ k, k < 35 → h1 k = b k := fun k hk => fw k (by omega) (by omega) (by omega)
  have eq1 : EQ h1 p := EQ.fs (fun k hk => fwk k (by omega)) eq
  have h46' : rw_B h1 46 d := fun j hj => by rw [fw 46 (by decide) (by decide) (by decide)]; exact h46 j hj
  have wls : wl p d s (27 - w) c = c :: (match nxt p d s (nt (p 22 s)) c with
      | none => []
      | some c' => wl p d s (27 - (w + 1)) c') := by
    rw [show 27 - w = (27 - (w + 1)) + 1 by omega]; rfl
  rw [wls, List.map_cons, List.foldl_cons] at hfin
  have abf : ∀ {h2 h3 : hp_H} {gg : hp_H}, (∀ k, k ≠ 48 → h3 k = h2 k) → AB p gg q h2 → AB p gg q h3 := by
    intro h2 h3 gg f x
    unfold AB HS HP at x ⊢
    simp only [f 35 (by decide), f 36 (by decide), f 37 (by decide), f 38 (by decide), f 39 (by decide), f 40 (by decide), f 41 (by decide), f 42 (by decide), f 43 (by decide)]
    exact x
  have abf9 : ∀ {h2 h3 : hp_H} {gg : hp_H}, (∀ k, k ≠ 49 → h3 k = h2 k) → AB p gg q h2 → AB p gg q h3 := by
    intro h2 h3 gg f x
    unfold AB HS HP at x ⊢
    simp only [f 35 (by decide), f 36 (by decide), f 37 (by decide), f 38 (by decide), f 39 (by decide), f 40 (by decide), f 41 (by decide), f 42 (by decide), f 43 (by decide)]
    exact x
  -- behind the way: the next picks
  have tail : ∀ h15 : hp_H, FW b h15 → (∀ i, i < 4 → h15 49 i = nI (c i)) → AB p (pr st g' (wev p d t r m s c)) q h15 → q_X8_pickNext h15 (nI s) (fun r21 h22 => ∀ v23 : Int32, v23 = nI w + nI 1 → (∃ w' g'', v23 = nI w' ∧ w' ≤ 27 ∧ FW b h22 ∧ AB p g'' q h22 ∧ gN g ≤ gN g'' ∧ ((r21 = 0 ∧ FIN = g'') ∨ (r21 = nI 1 ∧ ∃ c, CV p d s c ∧ (∀ i, i < 4 → h22 49 i = nI (c i)) ∧ FIN = List.foldl (pr st) g'' ((wl p d s (27 - w') c).map (wev p d t r m s))))) ∧ 27 - nt v23 < 27 - nt (nI w)) := by
    intro h15 f15 p15 a15
    have gl : gN g ≤ gN (pr st g' (wev p d t r m s c)) := Nat.le_trans gle (pr_N gn')
    refine s_pickNext v (EQ.fs (fun k hk => f15 k (by omega) (by omega) (by omega)) eq) hd (fun j hj => by rw [f15 46 (by decide) (by decide) (by decide)]; exact h46 j hj) hs cv p15 (fun c' b' n1 f1 p1 => ?_) (fun b' n1 f1 => ?_)
    · rintro v23 rfl
      rw [nI_add]
      rw [n1] at hfin
      exact ⟨⟨w + 1, _, rfl, by omega, f15.tr (fun k _ h2 _ => f1 k h2), abf9 f1 a15, gl, Or.inr ⟨rfl, c', CV_n cv hc n1, p1, hfin⟩⟩, by rw [nt_nI (by omega), nt_nI (by omega)]; omega⟩
    · rintro v23 rfl
      rw [nI_add]
      rw [n1] at hfin
      exact ⟨⟨w + 1, _, rfl, by omega, f15.tr (fun k _ h2 _ => f1 k h2), abf9 f1 a15, gl, Or.inl ⟨rfl, hfin⟩⟩, by rw [nt_nI (by omega), nt_nI (by omega)]; omega⟩
  refine s_copy h46' (fun h10 f10 r10 => ?_)
  have k16 : h10 16 = b 16 := by rw [f10 16 (by decide), fwk 16 (by decide)]
  refine s_doActs v (EQ.fs (fun k hk => f10 k (by omega)) eq1) hd (fun j hj => by rw [f10 46 (by decide)]; exact h46' j hj) r10 hs hr hm (by unfold VS at vs ⊢; rw [k16]; exact vs) hc cv (fun i hi => by rw [f10 49 (by decide)]; exact hp i hi) (fun e h12 ed f12 r12 => ?_) (fun h12 ed f12 => ?_)
  · refine hp_jn0h_i (br1 ⟨i24, ?_⟩)
    have DAe := DA_i v hd hs hr hm hc cv _ e (Nat.le_refl _) ed
    have DGe := DG_w v hd hs hr hm DAe
    have fA : ∀ k, k ≠ 48 → h12 k = h1 k := fun k hk => by rw [f12 k hk, f10 k hk]
    rw [fA 26 (by decide), fwk 26 (by decide), e26, v4.1]
    have v42 := v4.2
    refine s_setPlace (fun k => by have := DAe.1 k; omega) r12 r3 m3 (by omega) (fun h17 f17 r17 => ?_)
    have fB : ∀ k, k ≠ 48 → h17 k = h1 k := fun k hk => by rw [f17 k hk, fA k hk]
    have ev : wev p d t r m s c = (nI r, nI m, nI s, some (alk p (va_up e (6 + 4 * (3 * r + m)) (nt (p 20 s))) r)) := by unfold wev; rw [ed]
    have last : ∀ h18, (∀ k, k ≠ 48 → h18 k = h1 k) → rw_B h18 48 (alk p (va_up e (6 + 4 * (3 * r + m)) (nt (p 20 s))) r) → q_X2_mover (nI r) (nI m) (nI s) (fun r19 => q_X2_addMove h18 (nI st) r19 (fun h20 => q_X8_pickNext h20 (nI s) (fun r21 h22 => ∀ v23 : Int32, v23 = nI w + nI 1 → (∃ w' g'', v23 = nI w' ∧ w' ≤ 27 ∧ FW b h22 ∧ AB p g'' q h22 ∧ gN g ≤ gN g'' ∧ ((r21 = 0 ∧ FIN = g'') ∨ (r21 = nI 1 ∧ ∃ c, CV p d s c ∧ (∀ i, i < 4 → h22 49 i = nI (c i)) ∧ FIN = List.foldl (pr st) g'' ((wl p d s (27 - w') c).map (wev p d t r m s))))) ∧ 27 - nt v23 < 27 - nt (nI w)))) := by
      intro h18 f18 r18
      unfold q_X2_mover
      rw [← mvc_n (by omega)]
      refine s_addMove v (abf f18 ab) (by omega) hq DGe r18 (fun h20 f20 a20 => tail h20 ?_ (fun i hi => by rw [f20 49 (by decide), f18 49 (by decide)]; exact hp i hi) (by rw [ev, pr_m sp]; exact a20))
      exact fun k h1' h2' h3' => by rw [f20 k h3', f18 k h1']; exact fw k h1' h2' h3'
    unfold q_X8_takeAlike
    have e19 : h17 1 9 = p 0 30 := by rw [fB 1 (by decide), fwk 1 (by decide)]; exact eq.2.1.2.2.2.2.2.1
    rw [e19, nI_clamp (show r < 2 ^ 31 by omega), fB 13 (by decide), fwk 13 (by decide), e13]
    refine ⟨fun z => last h17 fB ?_, fun z => ⟨nu_in r3 (by decide), ?_⟩⟩
    · unfold alk; rw [cif_t z]; exact r17
    · rw [m4.1]
      refine s_arrange (fun k => by have := va_9 (k := 6 + 4 * (3 * r + m)) DAe.1 v42 k; omega) r17 r3 (by have := (vr.2.2.1 r rr).2; omega) m4.2 (fun h18 f18 r18 => last h18 (fun k hk => by rw [f18 k hk, fB k hk]) ?_)
      unfold alk; rw [cif_f z]; exact r18
  · refine hp_jn0h_i (br00 ?_)
    have fA : ∀ k, k ≠ 48 → h12 k = h1 k := fun k hk => by rw [f12 k hk, f10 k hk]
    have ev : wev p d t r m s c = (nI r, nI m, nI s, none) := by unfold wev; rw [ed]
    refine s_noteFault (abf fA ab) (by omega) (fun h16 f16 a16 => tail h16 ?_ (fun i hi => by rw [f16 49 (by decide), fA 49 (by decide)]; exact hp i hi) (by rw [ev, pr_f sp]; exact a16))
    exact fun k h1' h2' h3' => by rw [f16 k (by omega), fA k h1']; exact fw k h1' h2' h3'
