theorem DG.cg {p : hp_H} {d e : Nat → Nat} (h : DG p e) (he : ∀ k, k < 54 → d k = e k) (h9 : ∀ k, d k ≤ 9) (v : VP p) : DG p d := by
  refine ⟨h9, fun c hc => ?_, fun z r hr m hm => ?_⟩
  · rw [he _ (by omega)]
    exact ⟨(h.2.1 c hc).1, fun i hi hl => by rw [he _ (by omega)]; exact (h.2.1 c hc).2 i hi hl⟩
  · have x3 : r < 3 := by have := v.2.1.1.2; omega
    have y3 : m + 1 < 3 := by have := (v.2.1.2.2.1 r hr).1.2; omega
    rw [rw_cong he _ (by omega), rw_cong he _ (by omega)]
    exact h.2.2 z r hr m hm
theorem gS_27 {g : hp_H} {e : Nat → Nat} {s b : Nat} (h : ¬ (54 * gN g ≤ b ∧ b < 54 * gN g + 54)) : gS g e s 27 b = g 27 b := by
  unfold gS
  rw [if_neg (fun z => h z.2), if_neg (by omega), if_neg (by omega), if_neg (by omega), if_neg (by omega)]
theorem gS_old {g : hp_H} {e : Nat → Nat} {s t : Nat} (h : t < gN g) : dg (gS g e s) t = dg g t := by
  funext k
  unfold dg
  by_cases z : k < 54
  · rw [if_pos z, if_pos z, gS_27 (by omega)]
  · rw [if_neg z, if_neg z]
theorem gS_new {g : hp_H} {e : Nat → Nat} {s k : Nat} (h : k < 54) (h9 : e k ≤ 9) : dg (gS g e s) (gN g) k = e k := by
  rw [dg_lt h]
  unfold gS
  rw [if_pos ⟨rfl, by omega, by omega⟩, show 54 * gN g + k - 54 * gN g = k by omega]
  exact nt_nI (by omega)
theorem gS_N {g : hp_H} {e : Nat → Nat} {s : Nat} (h : gN g ≤ 400) : gN (gS g e s) = gN g + 1 ∧ gS g e s 0 35 = nI (gN g + 1) := by
  have : gS g e s 0 35 = nI (gN g + 1) := by unfold gS; simp
  refine ⟨?_, this⟩
  show nt (gS g e s 0 35) = _
  rw [this]; exact nt_nI (by omega)
theorem gS_0 {g : hp_H} {e : Nat → Nat} {s j : Nat} (h : j ≠ 35) : gS g e s 0 j = g 0 j := by unfold gS; simp [h]
theorem gS_k {g : hp_H} {e : Nat → Nat} {s k : Nat} (h : k ≠ 27) (h1 : k ≠ 28) (h2 : k ≠ 29) (h3 : k ≠ 30) (h4 : k ≠ 0) : gS g e s k = g k := by
  funext b
  unfold gS; simp [h, h1, h2, h3, h4]
theorem gM_0 {g : hp_H} {i j : Nat} {r m t : Int32} (h : j ≠ 40) : gM g i r m t 0 j = g 0 j := by unfold gM; simp [h]
theorem gM_K {g : hp_H} {i : Nat} {r m t : Int32} (h : gK g ≤ 6000) : gK (gM g i r m t) = gK g + 1 ∧ gM g i r m t 0 40 = nI (gK g + 1) := by
  have : gM g i r m t 0 40 = nI (gK g + 1) := by unfold gM; simp
  refine ⟨?_, this⟩
  show nt (gM g i r m t 0 40) = _
  rw [this]; exact nt_nI (by omega)
theorem gM_k {g : hp_H} {i k : Nat} {r m t : Int32} (h : k ≠ 32) (h1 : k ≠ 33) (h2 : k ≠ 34) (h3 : k ≠ 35) (h4 : k ≠ 0) : gM g i r m t k = g k := by
  funext b
  unfold gM; simp [h, h1, h2, h3, h4]
theorem gM_dg {g : hp_H} {i s : Nat} {r m t : Int32} : dg (gM g i r m t) s = dg g s := by
  funext k; unfold dg; rw [gM_k (by decide) (by decide) (by decide) (by decide) (by decide)]
theorem gM_N {g : hp_H} {i : Nat} {r m t : Int32} : gN (gM g i r m t) = gN g := by unfold gN; rw [gM_0 (by decide)]
theorem gM_old {g : hp_H} {i k x : Nat} {r m t : Int32} (h : x ≠ gK g) (hk : k ≠ 0) : gM g i r m t k x = g k x := by
  unfold gM; simp [h, hk]
theorem gM_new {g : hp_H} {i : Nat} {r m t : Int32} : gM g i r m t 32 (gK g) = nI i ∧ gM g i r m t 33 (gK g) = r ∧ gM g i r m t 34 (gK g) = m ∧ gM g i r m t 35 (gK g) = t := by
  unfold gM; simp
/-- only a field of the found, or a first move, changes -/
theorem GW_fr {p g g' : hp_H} (w : GW p g) (h27 : g' 27 = g 27) (h35 : g' 0 35 = g 0 35) (h40 : isn (g' 0 40) 6000) (h34 : hp_bz (g' 0 34)) (h46 : hp_bz (g' 0 46)) : GW p g' := by
  have e : dg g' = dg g := by funext s k; unfold dg; rw [h27]
  have n : gN g' = gN g := by unfold gN; rw [h35]
  obtain ⟨a, b, c, d, f, x, y⟩ := w
  unfold GW
  rw [h27, h35, e, n]
  exact ⟨a, b, h40, h34, h46, x, y⟩
theorem gK_lt {p g : hp_H} (w : GW p g) (h : ¬ gK g = 6000) : gK g < 6000 := by have := w.2.2.1.2; unfold gK at *; omega
theorem gN_le {p g : hp_H} (w : GW p g) : gN g ≤ 400 := w.1.2
theorem GW_M {p g : hp_H} {i : Nat} {r m t : Int32} (w : GW p g) (h : ¬ gK g = 6000) : GW p (gM g i r m t) := by
  have k := gK_lt w h
  refine GW_fr w (gM_k (by decide) (by decide) (by decide) (by decide) (by decide)) (gM_0 (by decide)) ?_ ?_ ?_
  · rw [(gM_K (by omega)).2]; exact isn_i (by omega) (by decide)
  · rw [gM_0 (by decide)]; exact w.2.2.2.1
  · rw [gM_0 (by decide)]; exact w.2.2.2.2.1
theorem GW_S {p g : hp_H} {e : Nat → Nat} {s : Nat} (v : VP p) (w : GW p g) (h : ¬ gN g = 400) (hn : ¬ ∃ i, gE g e i) (he : DG p e) : GW p (gS g e s) := by
  have n4 := gN_le w
  obtain ⟨a, b, c, d, f, x, y⟩ := w
  have nw : ∀ k, k < 54 → dg (gS g e s) (gN g) k = e k := fun k hk => gS_new hk (he.1 k)
  unfold GW
  rw [(gS_N n4).1, (gS_N n4).2, gS_0 (by decide), gS_0 (by decide), gS_0 (by decide)]
  refine ⟨isn_i (by omega) (by decide), by omega, c, d, f, fun t ht => ?_, fun t u ht hu htu => ?_⟩
  · rcases (show t < gN g ∨ t = gN g by omega) with z | z
    · rw [gS_old z]
      exact ⟨fun k hk => by rw [gS_27 (by omega)]; exact (x t z).1 k hk, (x t z).2⟩
    · subst z
      refine ⟨fun k hk => ?_, he.cg nw (fun k => ?_) v⟩
      · rw [nw k hk]
        unfold gS
        rw [if_pos ⟨rfl, by omega, by omega⟩, show 54 * gN g + k - 54 * gN g = k by omega]
      · by_cases z : k < 54
        · rw [nw k z]; exact he.1 k
        · unfold dg; rw [if_neg z]; omega
  · rcases (show t < gN g ∨ t = gN g by omega) with z | z <;> rcases (show u < gN g ∨ u = gN g by omega) with z2 | z2
    · rw [gS_old z, gS_old z2]; exact y t u z z2 htu
    · subst z2
      rw [gS_old z]
      exact fun q => hn ⟨t, z, fun k hk => (q k hk).trans (nw k hk)⟩
    · subst z
      rw [gS_old z2]
      exact fun q => hn ⟨u, z2, fun k hk => ((q k hk).symm).trans (nw k hk)⟩
    · omega
theorem gS_K {g : hp_H} {e : Nat → Nat} {s : Nat} : gK (gS g e s) = gK g := by unfold gK; rw [gS_0 (by decide)]
/-! ===== the class's graph ===== -/
def mvc (r m t : Int32) : Int32 := if r = -1 then -1 else ((r * nI 3) + m) * nI 24 + t
def mx (w : Nat → Int32) : Nat → Int32
  | 0 => nI 0
  | n + 1 => mx w n * nI 31 + w n
def hs (w : Nat → Int32) : Nat := nt ((mx w 13 ^^^ (hp_ushr (mx w 13) (nI 20) ^^^ hp_ushr (mx w 13) (nI 10))) &&& nI 1023)
theorem and_1023 (x : Int32) : ∃ n, n < 1024 ∧ x &&& nI 1023 = nI n := by
  obtain ⟨n, h1, rfl⟩ := nu_b x
  exact ⟨n % 1024, Nat.mod_lt _ (by decide), nu_low (k := 10) h1 (by decide)⟩
theorem hs_lt (w : Nat → Int32) : hs w < 1024 ∧ (mx w 13 ^^^ (hp_ushr (mx w 13) (nI 20) ^^^ hp_ushr (mx w 13) (nI 10))) &&& nI 1023 = nI (hs w) := by
  obtain ⟨n, h1, h2⟩ := and_1023 (mx w 13 ^^^ (hp_ushr (mx w 13) (nI 20) ^^^ hp_ushr (mx w 13) (nI 10)))
  unfold hs
  rw [h2, nt_nI (by omega)]
  exact ⟨h1, rfl⟩
theorem mx_cg {w w' : Nat → Int32} : ∀ n, (∀ j, j < n → w j = w' j) → mx w n = mx w' n := by
  intro n
  induction n with
  | zero => intro _; rfl
  | succ n ih => intro h; show mx w n * nI 31 + w n = mx w' n * nI 31 + w' n; rw [ih (fun j hj => h j (by omega)), h n (by omega)]
theorem hs_cg {w w' : Nat → Int32} (h : ∀ j, j < 13 → w j = w' j) : hs w = hs w' := by unfold hs; rw [mx_cg 13 h]
def wd (d : Nat → Nat) : Nat → Int32 := fun j => nI (rw_w d j)
/-- a slot on the way of a hash, all before it taken -/
def HP (b : hp_H) (w : Nat → Int32) (x : Nat) : Prop := ∃ t, t < 1024 ∧ x = (hs w + t) % 1024 ∧ ∀ u, u < t → ¬ b 43 ((hs w + u) % 1024) = 0
def HS (g b : hp_H) : Prop := (∀ x, x < 1024 → b 43 x = 0 ∨ ∃ s, s < gN g ∧ b 43 x = nI (s + 1)) ∧ (∀ x y, x < 1024 → y < 1024 → b 43 x = b 43 y → ¬ b 43 x = 0 → x = y) ∧ ∀ s, s < gN g → ∃ x, x < 1024 ∧ b 43 x = nI (s + 1) ∧ HP b (wd (dg g s)) x
/-- one pigeon too many -/
theorem pigeon : ∀ (n N : Nat) (f : Nat → Nat), (∀ x, x < N → f x < n) → (∀ x y, x < N → y < N → f x = f y → x = y) → N ≤ n := by
  intro n
  induction n with
  | zero => intro N f h _; rcases N with _ | N; exact Nat.le_refl _; exact absurd (h 0 (by omega)) (by omega)
  | succ n ih =>
    intro N f h inj
    rcases N with _ | N
    · omega
    -- the last pigeon's hole is given to whoever sits in hole n
    have := ih N (fun x => if f x = n then f N else f x) (fun x hx => ?_) (fun x y hx hy e => ?_)
    · omega
    · try dsimp only
      have a := h x (by omega); have b := h N (by omega)
      have ne : f x ≠ f N := fun z => by have := inj x N (by omega) (by omega) z; omega
      split <;> omega
    · try dsimp only at e
      have nx : f x ≠ f N := fun z => by have := inj x N (by omega) (by omega) z; omega
      have ny : f y ≠ f N := fun z => by have := inj y N (by omega) (by omega) z; omega
      by_cases c1 : f x = n
      · by_cases c2 : f y = n
        · exact inj x y (by omega) (by omega) (by omega)
        · rw [if_pos c1, if_neg c2] at e; exact absurd e.symm ny
      · by_cases c2 : f y = n
        · rw [if_neg c1, if_pos c2] at e; exact absurd e nx
        · rw [if_neg c1, if_neg c2] at e; exact inj x y (by omega) (by omega) e
theorem HS_free {g b : hp_H} (hN : gN g ≤ 400) (h : HS g b) (w : Nat → Int32) : ¬ ∀ u, u < 1024 → ¬ b 43 ((hs w + u) % 1024) = 0 := by
  intro q
  have := pigeon 401 1024 (fun x => nt (b 43 x)) (fun x hx => ?_) (fun x y hx hy e => ?_)
  · omega
  · try dsimp only
    rcases h.1 x hx with z | ⟨s, s1, s2⟩
    · rw [z]; decide
    · rw [s2, nt_nI (by omega)]; omega
  · try dsimp only at e
    have nz : ∀ x, x < 1024 → ¬ b 43 x = 0 := by
      intro x hx
      have hl := (hs_lt w).1
      have := q ((x + 1024 - hs w) % 1024) (Nat.mod_lt _ (by decide))
      rw [show (hs w + (x + 1024 - hs w) % 1024) % 1024 = x by omega] at this
      exact this
    rcases h.1 x hx with z | ⟨s, s1, s2⟩
    · exact absurd z (nz x hx)
    · rcases h.1 y hy with z | ⟨t, t1, t2⟩
      · exact absurd z (nz y hy)
      · refine h.2.1 x y hx hy ?_ (nz x hx)
        rw [s2, t2, nt_nI (by omega), nt_nI (by omega)] at e
        rw [s2, t2, e]
