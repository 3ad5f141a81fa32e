/-! ===== what is found, in order: moves, first moves ===== -/
abbrev Ev : Type := Int32 × Int32 × Int32 × Option (Nat → Nat)
def MVr (p : hp_H) (a b c : Int32) : Prop := (a = -1 ∧ b = -1 ∧ c = -1) ∨ ∃ r m t, r < nt (p 0 4) ∧ m < nt (p 4 r) ∧ t < nt (p 0 21) ∧ a = nI r ∧ b = nI m ∧ c = nI t
def MV (p g : hp_H) (i : Nat) : Prop := isn (g 32 i) 399 ∧ nt (g 32 i) < gN g ∧ MVr p (g 33 i) (g 34 i) (g 35 i)
def GI (p g : hp_H) : Prop := gN g ≤ 400 ∧ g 0 35 = nI (gN g) ∧ gK g ≤ 6000 ∧ g 0 40 = nI (gK g) ∧ ∀ i, i < gK g → MV p g i
def EXT (g g' : hp_H) : Prop := gN g ≤ gN g' ∧ gK g ≤ gK g' ∧ (∀ i, i < gK g → g' 32 i = g 32 i ∧ g' 33 i = g 33 i ∧ g' 34 i = g 34 i ∧ g' 35 i = g 35 i) ∧ g' 31 = g 31
theorem EXT.rf {g : hp_H} : EXT g g := ⟨Nat.le_refl _, Nat.le_refl _, fun _ _ => ⟨rfl, rfl, rfl, rfl⟩, rfl⟩
theorem EXT.tr {a b c : hp_H} (h : EXT a b) (k : EXT b c) : EXT a c := by
  refine ⟨Nat.le_trans h.1 k.1, Nat.le_trans h.2.1 k.2.1, fun i hi => ?_, k.2.2.2.trans h.2.2.2⟩
  obtain ⟨a1, a2, a3, a4⟩ := h.2.2.1 i hi
  obtain ⟨b1, b2, b3, b4⟩ := k.2.2.1 i (Nat.lt_of_lt_of_le hi h.2.1)
  exact ⟨b1.trans a1, b2.trans a2, b3.trans a3, b4.trans a4⟩
theorem MV_ext {p g g' : hp_H} {i : Nat} (e : EXT g g') (hi : i < gK g) (h : MV p g i) : MV p g' i := by
  obtain ⟨a1, a2, a3, a4⟩ := e.2.2.1 i hi
  unfold MV
  rw [a1, a2, a3, a4]
  exact ⟨h.1, Nat.lt_of_lt_of_le h.2.1 e.1, h.2.2⟩
theorem gM_I {p g : hp_H} {i : Nat} {r m t : Int32} (h : GI p g) (hk : ¬ gK g = 6000) (hi : i < gN g) (hv : MVr p r m t) : GI p (gM g i r m t) ∧ EXT g (gM g i r m t) ∧ gK (gM g i r m t) = gK g + 1 ∧ gM g i r m t 33 (gK g) = r := by
  obtain ⟨n4, n5, k6, k7, hm⟩ := h
  have ex : EXT g (gM g i r m t) := ⟨by rw [gM_N]; exact Nat.le_refl _, by rw [(gM_K k6).1]; omega, fun j hj => ⟨gM_old (by omega) (by decide), gM_old (by omega) (by decide), gM_old (by omega) (by decide), gM_old (by omega) (by decide)⟩, gM_k (by decide) (by decide) (by decide) (by decide) (by decide)⟩
  refine ⟨⟨by rw [gM_N]; exact n4, by rw [gM_N, gM_0 (by decide)]; exact n5, by rw [(gM_K k6).1]; omega, by rw [(gM_K k6).1, (gM_K k6).2], fun j hj => ?_⟩, ex, (gM_K k6).1, gM_new.2.1⟩
  rw [(gM_K k6).1] at hj
  rcases (show j < gK g ∨ j = gK g by omega) with z | z
  · exact MV_ext ex z (hm j z)
  · subst z
    obtain ⟨q1, q2, q3, q4⟩ := gM_new (g := g) (i := i) (r := r) (m := m) (t := t)
    unfold MV
    rw [q1, q2, q3, q4, gM_N, nt_nI (by omega)]
    exact ⟨isn_i (by omega) (by decide), hi, hv⟩
theorem gS_I {p g : hp_H} {e : Nat → Nat} {s : Nat} (h : GI p g) (hn : ¬ gN g = 400) : GI p (gS g e s) ∧ EXT g (gS g e s) ∧ gN (gS g e s) = gN g + 1 := by
  obtain ⟨n4, n5, k6, k7, hm⟩ := h
  have ex : EXT g (gS g e s) := ⟨by rw [(gS_N n4).1]; omega, by rw [gS_K]; exact Nat.le_refl _, fun j hj => ⟨by rw [gS_k (by decide) (by decide) (by decide) (by decide) (by decide)], by rw [gS_k (by decide) (by decide) (by decide) (by decide) (by decide)], by rw [gS_k (by decide) (by decide) (by decide) (by decide) (by decide)], by rw [gS_k (by decide) (by decide) (by decide) (by decide) (by decide)]⟩, gS_k (by decide) (by decide) (by decide) (by decide) (by decide)⟩
  exact ⟨⟨by rw [(gS_N n4).1]; omega, by rw [(gS_N n4).1, (gS_N n4).2], by rw [gS_K]; exact k6, by rw [gS_K, gS_0 (by decide)]; exact k7, fun j hj => MV_ext ex (by rw [gS_K] at hj; exact hj) (hm j (by rw [gS_K] at hj; exact hj))⟩, ex, (gS_N n4).1⟩
theorem fld_I {p g g' : hp_H} (h : GI p g) (f0 : g' 0 35 = g 0 35) (f1 : g' 0 40 = g 0 40) (f : ∀ k, k ≠ 0 → g' k = g k) : GI p g' ∧ EXT g g' ∧ gK g' = gK g := by
  have a : gN g' = gN g := by unfold gN; rw [f0]
  have b : gK g' = gK g := by unfold gK; rw [f1]
  have ex : EXT g g' := ⟨by rw [a]; exact Nat.le_refl _, by rw [b]; exact Nat.le_refl _, fun i _ => ⟨by rw [f 32 (by decide)], by rw [f 33 (by decide)], by rw [f 34 (by decide)], by rw [f 35 (by decide)]⟩, f 31 (by decide)⟩
  exact ⟨⟨by rw [a]; exact h.1, by rw [a, f0]; exact h.2.1, by rw [b]; exact h.2.2.1, by rw [b, f1]; exact h.2.2.2.1, fun i hi => MV_ext ex (by rw [b] at hi; exact hi) (h.2.2.2.2 i (by rw [b] at hi; exact hi))⟩, ex, b⟩
theorem pr_I {p g : hp_H} {s : Nat} {x : Ev} (h : GI p g) (hv : MVr p x.1 x.2.1 x.2.2.1) : GI p (pr s g x) ∧ EXT g (pr s g x) ∧ ∀ i, gK g ≤ i → i < gK (pr s g x) → pr s g x 33 i = x.1 := by
  obtain ⟨r, m, u, o⟩ := x
  unfold pr
  by_cases c : g 0 34 = 0
  · rw [cif_t c]
    cases o with
    | none =>
      show GI p (flt g s r m u) ∧ EXT g (flt g s r m u) ∧ ∀ i, gK g ≤ i → i < gK (flt g s r m u) → flt g s r m u 33 i = r
      unfold flt
      by_cases z : g 0 46 = 0
      · rw [cif_t z]
        obtain ⟨a, b, c⟩ := fld_I (g' := hp_up (hp_up (hp_up (hp_up (hp_up g 0 46 (nI 1)) 0 47 (nI s)) 0 48 r) 0 49 m) 0 50 u) h (by simp [hp_at, upd]) (by simp [hp_at, upd]) (fun k hk => by simp [hp_at, hk])
        exact ⟨a, b, fun i h1 h2 => by omega⟩
      · rw [cif_f z]; exact ⟨h, EXT.rf, fun i h1 h2 => by omega⟩
    | some e =>
      show GI p (mvg g s r m u e) ∧ EXT g (mvg g s r m u e) ∧ ∀ i, gK g ≤ i → i < gK (mvg g s r m u e) → mvg g s r m u e 33 i = r
      have sp : GI p (hp_up g 0 34 (nI 1)) ∧ EXT g (hp_up g 0 34 (nI 1)) ∧ ∀ i, gK g ≤ i → i < gK (hp_up g 0 34 (nI 1)) → hp_up g 0 34 (nI 1) 33 i = r := by
        obtain ⟨a, b, c⟩ := fld_I (g' := hp_up g 0 34 (nI 1)) h (by simp [hp_at, upd]) (by simp [hp_at, upd]) (fun k hk => by simp [hp_at, hk])
        exact ⟨a, b, fun i h1 h2 => by omega⟩
      by_cases c1 : gK g = 6000
      · rw [mvg_full c1]; exact sp
      by_cases c2 : ∃ i, gE g e i
      · have ep : gE g e (Classical.epsilon (gE g e)) := Classical.epsilon_spec c2
        have : mvg g s r m u e = gM g (Classical.epsilon (gE g e)) r m u := by unfold mvg; rw [cif_f c1, cif_t c2]
        rw [this]
        obtain ⟨a, b, c, d⟩ := gM_I (r := r) (m := m) (t := u) h c1 ep.1 hv
        exact ⟨a, b, fun i h1 h2 => by rw [show i = gK g by omega]; exact d⟩
      by_cases c3 : gN g = 400
      · rw [mvg_400 c1 c2 c3]; exact sp
      · rw [mvg_new c1 c2 c3]
        obtain ⟨a, b, c⟩ := gS_I (e := e) (s := s) h c3
        obtain ⟨a', b', c', d'⟩ := gM_I (i := gN g) (r := r) (m := m) (t := u) a (by rw [gS_K]; exact c1) (by omega) hv
        rw [gS_K] at c' d'
        exact ⟨a', b.tr b', fun i h1 h2 => by rw [show i = gK g by omega]; exact d'⟩
  · rw [cif_f c]; exact ⟨h, EXT.rf, fun i h1 h2 => by omega⟩
theorem fold_I {p : hp_H} {s : Nat} {P : Int32 → Prop} : ∀ (l : List Ev) (g : hp_H), GI p g → (∀ x, x ∈ l → MVr p x.1 x.2.1 x.2.2.1 ∧ P x.1) → GI p (List.foldl (pr s) g l) ∧ EXT g (List.foldl (pr s) g l) ∧ ∀ i, gK g ≤ i → i < gK (List.foldl (pr s) g l) → P (List.foldl (pr s) g l 33 i) := by
  intro l
  induction l with
  | nil => intro g h _; exact ⟨h, EXT.rf, fun i h1 h2 => by rw [List.foldl_nil] at h2; omega⟩
  | cons x l ih =>
    intro g h hx
    obtain ⟨a, b, c⟩ := pr_I (s := s) h (hx x List.mem_cons_self).1
    obtain ⟨a', b', c'⟩ := ih _ a (fun y hy => hx y (List.mem_cons_of_mem _ hy))
    rw [List.foldl_cons]
    refine ⟨a', b.tr b', fun i h1 h2 => ?_⟩
    rcases (show i < gK (pr s g x) ∨ gK (pr s g x) ≤ i by omega) with z | z
    · rw [(b'.2.2.1 i z).2.1, c i h1 z]; exact (hx x List.mem_cons_self).2
    · exact c' i z h2
theorem fl_mem {α : Type} {f : Nat → List α} {x : α} : ∀ (k i : Nat), x ∈ fl f i k → ∃ j, i ≤ j ∧ j < i + k ∧ x ∈ f j := by
  intro k
  induction k with
  | zero => intro i h; exact absurd h List.not_mem_nil
  | succ k ih =>
    intro i h
    rcases List.mem_append.mp h with z | z
    · exact ⟨i, Nat.le_refl _, by omega, z⟩
    · obtain ⟨j, a, b, c⟩ := ih (i + 1) z
      exact ⟨j, by omega, by omega, c⟩
theorem cif_mem {α : Type} {c : Prop} {a b : List α} {x : α} (h : x ∈ cif c a b) : (c ∧ x ∈ a) ∨ (¬ c ∧ x ∈ b) := by
  by_cases z : c
  · rw [cif_t z] at h; exact Or.inl ⟨z, h⟩
  · rw [cif_f z] at h; exact Or.inr ⟨z, h⟩
theorem ev_r {p : hp_H} {d : Nat → Nat} (v : VP p) {x : Ev} (h : x ∈ fl (rev p d) 0 (nt (p 0 4) - 0)) : MVr p x.1 x.2.1 x.2.2.1 ∧ ¬ x.1 = -1 := by
  obtain ⟨r, _, r2, r3⟩ := fl_mem _ _ h
  obtain ⟨m, _, m2, m3⟩ := fl_mem _ _ r3
  obtain ⟨s, _, s2, s3⟩ := fl_mem _ _ m3
  have R3 := v.2.1.1.2
  rcases cif_mem s3 with ⟨_, z⟩ | ⟨_, z⟩
  · obtain ⟨c, _, e⟩ := List.mem_map.mp z
    rw [← e]
    exact ⟨Or.inr ⟨r, m, s, by omega, by omega, by omega, rfl, rfl, rfl⟩, fun y => (nu_m1 (show r < 2 ^ 31 by omega)).mp y⟩
  · exact absurd z List.not_mem_nil
theorem ev_l {p : hp_H} {d : Nat → Nat} {x : Ev} (h : x ∈ fl (lev p d) 0 (nt (p 0 11) - 0)) : MVr p x.1 x.2.1 x.2.2.1 ∧ x.1 = -1 := by
  obtain ⟨c, _, _, c3⟩ := fl_mem _ _ h
  rcases cif_mem c3 with ⟨_, z⟩ | ⟨_, z⟩
  · exact absurd z List.not_mem_nil
  obtain ⟨i, _, _, i3⟩ := fl_mem _ _ z
  rcases cif_mem i3 with ⟨_, z⟩ | ⟨_, z⟩
  · rw [List.mem_singleton] at z
    rw [z]; exact ⟨Or.inl ⟨rfl, rfl, rfl⟩, rfl⟩
  · exact absurd z List.not_mem_nil
def ORD (g : hp_H) (lo hi : Nat) : Prop := ∀ i j, lo ≤ i → i < j → j < hi → g 33 i = -1 → g 33 j = -1
def FS (p g : hp_H) (s : Nat) : Prop := GI p g ∧ g 31 0 = nI 0 ∧ g 31 s = g 0 40 ∧ (∀ t, t ≤ s → isn (g 31 t) 6000 ∧ nt (g 31 t) ≤ gK g) ∧ ∀ t, t < s → nt (g 31 t) ≤ nt (g 31 (t + 1)) ∧ ORD g (nt (g 31 t)) (nt (g 31 (t + 1)))
theorem gB_id {g : hp_H} {s : Nat} (h : g 31 s = g 0 40) : gB g s = g := by
  funext a b
  unfold gB hp_up
  by_cases z : a = 31 ∧ b = s
  · rw [if_pos z, z.1, z.2, h]
  · rw [if_neg z]
theorem FS_s {p g : hp_H} {s : Nat} {d : Nat → Nat} (v : VP p) (h : FS p g s) : FS p (gB (List.foldl (pr s) (gB g s) (evs p d)) (s + 1)) (s + 1) ∧ gN g ≤ gN (gB (List.foldl (pr s) (gB g s) (evs p d)) (s + 1)) := by
  obtain ⟨gi, z0, zs, fm, od⟩ := h
  rw [gB_id zs]
  unfold evs
  rw [List.foldl_append]
  obtain ⟨a1, b1, c1⟩ := fold_I (s := s) (P := fun x => ¬ x = -1) (fl (rev p d) 0 (nt (p 0 4) - 0)) g gi (fun x hx => ev_r v hx)
  generalize List.foldl (pr s) g (fl (rev p d) 0 (nt (p 0 4) - 0)) = G1 at a1 b1 c1
  obtain ⟨a2, b2, c2⟩ := fold_I (s := s) (P := fun x => x = -1) (fl (lev p d) 0 (nt (p 0 11) - 0)) G1 a1 (fun x hx => ev_l hx)
  generalize List.foldl (pr s) G1 (fl (lev p d) 0 (nt (p 0 11) - 0)) = G2 at a2 b2 c2
  have b := b1.tr b2
  have zk : nt (g 31 s) = gK g := by rw [zs]; rfl
  have bN : gN (gB G2 (s + 1)) = gN G2 := gB_N
  have bK : gK (gB G2 (s + 1)) = gK G2 := gB_K
  have e31 : ∀ t, t ≤ s → gB G2 (s + 1) 31 t = g 31 t := by
    intro t ht
    unfold gB
    simp only [hp_at, if_true, upd]
    rw [if_neg (by omega), b.2.2.2]
  have e31s : gB G2 (s + 1) 31 (s + 1) = G2 0 40 := by unfold gB; simp [hp_at, upd]
  have n31s : nt (gB G2 (s + 1) 31 (s + 1)) = gK G2 := by rw [e31s]; rfl
  refine ⟨⟨⟨by rw [bN]; exact a2.1, by rw [bN, gB_0]; exact a2.2.1, by rw [bK]; exact a2.2.2.1, by rw [bK, gB_0]; exact a2.2.2.2.1, fun i hi => ?_⟩, by rw [e31 0 (by omega)]; exact z0, by rw [e31s, gB_0], fun t ht => ?_, fun t ht => ?_⟩, by rw [bN]; exact b.1⟩
  · have := a2.2.2.2.2 i (by rw [bK] at hi; exact hi)
    unfold MV at *
    rw [bN, gB_k (by decide), gB_k (by decide), gB_k (by decide), gB_k (by decide)]
    exact this
  · rw [bK]
    rcases (show t ≤ s ∨ t = s + 1 by omega) with z | z
    · rw [e31 t z]; exact ⟨(fm t z).1, Nat.le_trans (fm t z).2 b.2.1⟩
    · rw [z, n31s, e31s, a2.2.2.2.1]
      exact ⟨isn_i a2.2.2.1 (by decide), Nat.le_refl _⟩
  · rcases (show t < s ∨ t = s by omega) with z | z
    · rw [e31 t (by omega), e31 (t + 1) (by omega)]
      refine ⟨(od t z).1, fun i j h1 h2 h3 h4 => ?_⟩
      have lj := (fm (t + 1) (by omega)).2
      rw [gB_k (by decide)] at h4 ⊢
      rw [(b.2.2.1 i (by omega)).2.1] at h4
      rw [(b.2.2.1 j (by omega)).2.1]
      exact (od t z).2 i j h1 h2 h3 h4
    · rw [z, e31 s (by omega), n31s, zk]
      refine ⟨b.2.1, fun i j h1 h2 h3 h4 => ?_⟩
      rw [gB_k (by decide)] at h4 ⊢
      rcases (show i < gK G1 ∨ gK G1 ≤ i by omega) with y | y
      · rw [(b2.2.2.1 i y).2.1] at h4
        exact absurd h4 (c1 i h1 y)
      · exact c2 j (by omega) h3
theorem FS_0 {p : hp_H} : FS p (g0 p) 0 := by
  obtain ⟨n1, n2, n3, n4, n5, n6⟩ := g0_N (p := p)
  have e : g0 p 31 0 = nI 0 := by unfold g0; simp
  refine ⟨⟨by rw [n1]; decide, by rw [n1, n2], by rw [n3]; decide, by rw [n3, n4], fun i hi => by rw [n3] at hi; omega⟩, e, by rw [e, n4], fun t ht => ?_, fun t ht => by omega⟩
  rw [show t = 0 by omega, e, nt_nI (by decide)]
  exact ⟨isn_i (by decide) (by decide), by omega⟩
theorem sr_V {p : hp_H} (v : VP p) : ∀ (f s : Nat) (g : hp_H), 400 ≤ s + f → s ≤ gN g → FS p g s → sr p f s g 0 34 = 0 → FS p (sr p f s g) (gN (sr p f s g)) := by
  intro f
  induction f with
  | zero =>
    intro s g h1 h2 h3 h4
    have n4 := h3.1.1
    show FS p g (gN g)
    rw [show gN g = s by omega]; exact h3
  | succ f ih =>
    intro s g h1 h2 h3 h4
    by_cases c : s < gN g ∧ g 0 34 = 0
    · rw [sr_s c] at h4 ⊢
      obtain ⟨q1, q2⟩ := FS_s (d := dg g s) v h3
      exact ih (s + 1) _ (by omega) (by omega) q1 h4
    · rw [sr_0 c] at h4 ⊢
      have c' : ¬ s < gN g := fun z => c ⟨z, h4⟩
      rw [show gN g = s by omega]; exact h3
theorem srch_V {p : hp_H} (v : VP p) (h : srch p 0 34 = 0) : FS p (srch p) (gN (srch p)) := sr_V v 400 0 (g0 p) (by omega) (by omega) FS_0 h
