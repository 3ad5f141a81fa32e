/-! ===== what can be come to; knots; the walk, without a heap ===== -/
def RE (g : hp_H) (W : Nat → Prop) (s t : Nat) : Prop := ∀ S : Nat → Prop, S s → (∀ x y, S x → W y → mvT g x y → S y) → S t
def SC (g : hp_H) (W : Nat → Prop) (s t : Nat) : Prop := RE g W s t ∧ RE g W t s
section
variable {p g : hp_H} {W : Nat → Prop} {s t u x y : Nat}
theorem RE.rf : RE g W s s := fun _ h _ => h
theorem RE.tr (h : RE g W s t) (k : RE g W t u) : RE g W s u := fun S h1 h2 => k S (h S h1 h2) h2
theorem RE.st (h : RE g W s x) (w : W y) (e : mvT g x y) : RE g W s y := fun S h1 h2 => h2 x y (h S h1 h2) w e
theorem RE.one (w : W y) (e : mvT g x y) : RE g W x y := RE.rf.st w e
theorem RE.w (h : RE g W s t) (w : W s) : W t := h W w (fun _ _ _ q _ => q)
theorem SC.rf : SC g W s s := ⟨RE.rf, RE.rf⟩
theorem SC.sy (h : SC g W s t) : SC g W t s := ⟨h.2, h.1⟩
theorem SC.tr (h : SC g W s t) (k : SC g W t u) : SC g W s u := ⟨h.1.tr k.1, k.2.tr h.2⟩
end
def HM (g : hp_H) (W : Nat → Prop) (s : Nat) : Prop := ∃ u k, SC g W s u ∧ nt (g 31 u) ≤ k ∧ k < nt (g 31 (u + 1)) ∧ ¬ g 33 k = -1 ∧ SC g W s (nt (g 32 k))
def TN (g : hp_H) (W : Nat → Prop) (s r i : Nat) : Prop := ∃ u, SC g W s u ∧ ((∃ k, nt (g 31 u) ≤ k ∧ k < nt (g 31 (u + 1)) ∧ (g 33 k = nI r ∧ g 34 k = nI i) ∧ SC g W s (nt (g 32 k))) ∨ ∀ k, nt (g 31 u) ≤ k → k < nt (g 31 (u + 1)) → ¬ (g 33 k = nI r ∧ g 34 k = nI i))
def GD (p g : hp_H) (W : Nat → Prop) (fr : Int32) (s : Nat) : Prop := W s ∧ HM g W s ∧ (fr = 0 ∨ ∀ r i, r < nt (p 0 4) → i < nt (p 4 r) → TN g W s r i)
def LD (p g : hp_H) (W : Nat → Prop) (fr : Int32) (s : Nat) : Prop := ∃ t, RE g W s t ∧ GD p g W fr t
theorem GD_sc {p g : hp_H} {W : Nat → Prop} {fr : Int32} {s t : Nat} (c : SC g W s t) (h : GD p g W fr s) : GD p g W fr t := by
  obtain ⟨w, ⟨u, k, h1, h2, h3, h4, h5⟩, f⟩ := h
  refine ⟨c.1.w w, ⟨u, k, c.sy.tr h1, h2, h3, h4, c.sy.tr h5⟩, ?_⟩
  rcases f with f | f
  · exact Or.inl f
  · refine Or.inr (fun r i hr hi => ?_)
    obtain ⟨u, u1, u2⟩ := f r i hr hi
    refine ⟨u, c.sy.tr u1, ?_⟩
    rcases u2 with ⟨k, k1, k2, k3, k4⟩ | u2
    · exact Or.inl ⟨k, k1, k2, k3, c.sy.tr k4⟩
    · exact Or.inr u2
def TJ (g : hp_H) (W : Nat → Prop) (N : Nat) (en lw nm : Nat → Nat) (cl : Nat → Prop) (pa : Nat → Nat) (L : Nat) (op : Nat → Nat) (M cnt : Nat) : Prop :=
  (∀ s, ¬ en s = 0 → s < N ∧ W s ∧ en s ≤ cnt) ∧
  (∀ s t, ¬ en s = 0 → en s = en t → s = t) ∧
  (∀ v, v < cnt → ∃ s, en s = v + 1) ∧
  (∀ s, cl s → ¬ en s = 0) ∧
  (∀ j, j < M → ¬ en (op j) = 0 ∧ ¬ cl (op j)) ∧
  (∀ i j, i < j → j < M → en (op i) < en (op j)) ∧
  (∀ s, ¬ en s = 0 → ¬ cl s → ∃ j, j < M ∧ op j = s) ∧
  (∀ j, j < L → ¬ en (pa j) = 0 ∧ ¬ cl (pa j)) ∧
  (∀ i j, i < j → j < L → en (pa i) < en (pa j)) ∧
  (∀ i j, i ≤ j → j < L → RE g W (pa i) (pa j)) ∧
  (∀ s, ¬ en s = 0 → nt (g 31 s) ≤ nm s ∧ nm s ≤ nt (g 31 (s + 1)) ∧ ((¬ ∃ j, j < L ∧ pa j = s) → nm s = nt (g 31 (s + 1)))) ∧
  (∀ s i, ¬ en s = 0 → nt (g 31 s) ≤ i → i < nm s → W (nt (g 32 i)) → ¬ en (nt (g 32 i)) = 0) ∧
  (∀ s i, cl s → nt (g 31 s) ≤ i → i < nt (g 31 (s + 1)) → W (nt (g 32 i)) → cl (nt (g 32 i))) ∧
  (∀ s, ¬ en s = 0 → ¬ cl s → 1 ≤ lw s ∧ lw s ≤ en s ∧ ∃ u, en u = lw s ∧ ¬ cl u ∧ RE g W s u) ∧
  (∀ j u, j < L → ¬ en u = 0 → ¬ cl u → en (pa j) ≤ en u → (∀ j', j < j' → j' < L → en u < en (pa j')) → RE g W (pa j) u ∧ ∀ i, nt (g 31 u) ≤ i → i < nm u → W (nt (g 32 i)) → ¬ cl (nt (g 32 i)) → lw (pa j) ≤ en (nt (g 32 i))) ∧
  (∀ u, ¬ en u = 0 → ¬ cl u → (0 < L ∧ en (pa 0) ≤ en u) ∧ ∃ j, j < L ∧ en (pa j) ≤ en u ∧ RE g W u (pa j))
section
variable {g : hp_H} {W : Nat → Prop} {N : Nat} {en lw nm : Nat → Nat} {cl : Nat → Prop} {pa : Nat → Nat} {L : Nat} {op : Nat → Nat} {M cnt : Nat}
theorem TJ_lw {x v : Nat} (h : TJ g W N en lw nm cl pa L op M cnt) (hx : ¬ en x = 0) (hc : ¬ cl x) (v1 : 1 ≤ v) (v2 : v ≤ lw x) (hu : ∃ u, en u = v ∧ ¬ cl u ∧ RE g W x u) : TJ g W N en (va_up lw x v) nm cl pa L op M cnt := by
  obtain ⟨a1, a2, a3, a4, o1, o2, o3, p1, p2, p3, f, ge, ch, il, jk, kl⟩ := h
  have le : ∀ s, va_up lw x v s ≤ lw s := by
    intro s
    by_cases z : s = x
    · rw [z, va_e]; exact v2
    · rw [va_n _ _ z]; exact Nat.le_refl _
  refine ⟨a1, a2, a3, a4, o1, o2, o3, p1, p2, p3, f, ge, ch, fun s hs hc' => ?_, fun j u h1 h2 h3 h4 h5 => ⟨(jk j u h1 h2 h3 h4 h5).1, fun i k1 k2 k3 k4 => Nat.le_trans (le _) ((jk j u h1 h2 h3 h4 h5).2 i k1 k2 k3 k4)⟩, kl⟩
  by_cases z : s = x
  · rw [z, va_e]; exact ⟨v1, Nat.le_trans v2 (il x hx hc).2.1, hu⟩
  · rw [va_n _ _ z]; exact il s hs hc'
theorem TJ_nm {j0 : Nat} (h : TJ g W N en lw nm cl pa L op M cnt) (hj : j0 < L) (hi : nm (pa j0) < nt (g 31 (pa j0 + 1))) (h1 : W (nt (g 32 (nm (pa j0)))) → ¬ en (nt (g 32 (nm (pa j0)))) = 0) (h2 : W (nt (g 32 (nm (pa j0)))) → ¬ cl (nt (g 32 (nm (pa j0)))) → lw (pa j0) ≤ en (nt (g 32 (nm (pa j0))))) : TJ g W N en lw (va_up nm (pa j0) (nm (pa j0) + 1)) cl pa L op M cnt := by
  obtain ⟨a1, a2, a3, a4, o1, o2, o3, p1, p2, p3, f, ge, ch, il, jk, kl⟩ := h
  refine ⟨a1, a2, a3, a4, o1, o2, o3, p1, p2, p3, fun s hs => ?_, fun s i hs k1 k2 k3 => ?_, ch, il, fun j u q1 q2 q3 q4 q5 => ⟨(jk j u q1 q2 q3 q4 q5).1, fun i k1 k2 k3 k4 => ?_⟩, kl⟩
  · by_cases z : s = pa j0
    · rw [z, va_e]; have := f (pa j0) (p1 j0 hj).1; exact ⟨by omega, by omega, fun q => absurd ⟨j0, hj, rfl⟩ q⟩
    · rw [va_n _ _ z]; exact f s hs
  · by_cases z : s = pa j0
    · subst z
      rw [va_e] at k2
      rcases (show i < nm (pa j0) ∨ i = nm (pa j0) by omega) with y | y
      · exact ge _ i hs k1 y k3
      · rw [y] at k3 ⊢; exact h1 k3
    · rw [va_n _ _ z] at k2; exact ge s i hs k1 k2 k3
  · by_cases z : u = pa j0
    · subst z
      rw [va_e] at k2
      rcases (show i < nm (pa j0) ∨ i = nm (pa j0) by omega) with y | y
      · exact (jk j _ q1 q2 q3 q4 q5).2 i k1 y k3 k4
      · rw [y] at k3 k4 ⊢
        have : j = j0 := by
          rcases Nat.lt_trichotomy j j0 with w | w | w
          · have := q5 j0 w hj; omega
          · exact w
          · have := p2 j0 j w q1; omega
        rw [this]; exact h2 k3 k4
    · rw [va_n _ _ z] at k2; exact (jk j u q1 q2 q3 q4 q5).2 i k1 k2 k3 k4
theorem TJ_en {s : Nat} (h : TJ g W N en lw nm cl pa L op M cnt) (hW : W s) (hN : s < N) (h0 : en s = 0) (hl : nt (g 31 s) ≤ nt (g 31 (s + 1))) (ht : (L = 0 ∧ M = 0) ∨ ∃ L', L = L' + 1 ∧ mvT g (pa L') s) :
    TJ g W N (va_up en s (cnt + 1)) (va_up lw s (cnt + 1)) (va_up nm s (nt (g 31 s))) cl (va_up pa L s) (L + 1) (va_up op M s) (M + 1) (cnt + 1) := by
  obtain ⟨a1, a2, a3, a4, o1, o2, o3, p1, p2, p3, f, ge, ch, il, jk, kl⟩ := h
  have ns : ¬ cl s := fun z => a4 s z h0
  have ne : ∀ t, ¬ en t = 0 → t ≠ s := fun t ht z => ht (by rw [z]; exact h0)
  have eo : ∀ t, ¬ en t = 0 → va_up en s (cnt + 1) t = en t := fun t ht => va_n _ _ (ne t ht)
  have eq0 : ∀ t, ¬ va_up en s (cnt + 1) t = 0 → t = s ∨ ¬ en t = 0 := by
    intro t ht
    by_cases z : t = s
    · exact Or.inl z
    · rw [va_n _ _ z] at ht; exact Or.inr ht
  have en0 : ∀ t, ¬ en t = 0 → ¬ va_up en s (cnt + 1) t = 0 := fun t ht => by rw [eo t ht]; exact ht
  have es : va_up en s (cnt + 1) s = cnt + 1 := va_e _ _ _
  have paO : ∀ j, j < L → va_up pa L s j = pa j := fun j hj => va_n _ _ (by omega)
  have opO : ∀ j, j < M → va_up op M s j = op j := fun j hj => va_n _ _ (by omega)
  have paN : va_up pa L s L = s := va_e _ _ _
  have opN : va_up op M s M = s := va_e _ _ _
  refine ⟨fun t q => ?_, fun t u q e => ?_, fun v hv => ?_, fun t q => en0 t (a4 t q), fun j hj => ?_, fun i j h1 h2 => ?_, fun t q c => ?_, fun j hj => ?_, fun i j h1 h2 => ?_, fun i j h1 h2 => ?_, fun t q => ?_, fun t i q k1 k2 k3 => ?_, ch, fun t q c => ?_, fun j u q1 q2 q3 q4 q5 => ?_, fun u q c => ?_⟩
  · rcases eq0 t q with z | z
    · rw [z, es]; exact ⟨hN, hW, Nat.le_refl _⟩
    · rw [eo t z]; have := a1 t z; exact ⟨this.1, this.2.1, by omega⟩
  · rcases eq0 t q with z | z
    · subst z
      rw [es] at e
      by_cases y : u = t
      · exact y.symm
      · rw [va_n _ _ y] at e
        have := (a1 u (by omega)).2.2; omega
    · rw [eo t z] at e
      by_cases y : u = s
      · rw [y, es] at e; have := (a1 t z).2.2; omega
      · rw [va_n _ _ y] at e; exact a2 t u z e
  · rcases (show v < cnt ∨ v = cnt by omega) with z | z
    · obtain ⟨t, ht⟩ := a3 v z
      exact ⟨t, by rw [eo t (by omega)]; exact ht⟩
    · exact ⟨s, by rw [es, z]⟩
  · rcases (show j < M ∨ j = M by omega) with z | z
    · rw [opO j z]; exact ⟨en0 _ (o1 j z).1, (o1 j z).2⟩
    · rw [z, opN, es]; exact ⟨by omega, ns⟩
  · rcases (show j < M ∨ j = M by omega) with z | z
    · rw [opO j z, opO i (by omega), eo _ (o1 j z).1, eo _ (o1 i (by omega)).1]; exact o2 i j h1 z
    · rw [z, opN, es, opO i (by omega), eo _ (o1 i (by omega)).1]
      have := (a1 _ (o1 i (by omega)).1).2.2; omega
  · rcases eq0 t q with z | z
    · exact ⟨M, by omega, by rw [opN, z]⟩
    · obtain ⟨j, j1, j2⟩ := o3 t z c
      exact ⟨j, by omega, by rw [opO j j1]; exact j2⟩
  · rcases (show j < L ∨ j = L by omega) with z | z
    · rw [paO j z]; exact ⟨en0 _ (p1 j z).1, (p1 j z).2⟩
    · rw [z, paN, es]; exact ⟨by omega, ns⟩
  · rcases (show j < L ∨ j = L by omega) with z | z
    · rw [paO j z, paO i (by omega), eo _ (p1 j z).1, eo _ (p1 i (by omega)).1]; exact p2 i j h1 z
    · rw [z, paN, es, paO i (by omega), eo _ (p1 i (by omega)).1]
      have := (a1 _ (p1 i (by omega)).1).2.2; omega
  · rcases (show j < L ∨ j = L by omega) with z | z
    · rw [paO j z, paO i (by omega)]; exact p3 i j h1 z
    · rw [z, paN]
      rcases (show i < L ∨ i = L by omega) with y | y
      · rw [paO i y]
        rcases ht with ⟨w, _⟩ | ⟨L', w1, w2⟩
        · omega
        · exact (p3 i L' (by omega) (by omega)).st hW w2
      · rw [y, paN]; exact RE.rf
  · by_cases z : t = s
    · subst z
      rw [va_e]
      exact ⟨Nat.le_refl _, hl, fun y => absurd ⟨L, by omega, paN⟩ y⟩
    · rw [va_n _ _ z]
      have tt : ¬ en t = 0 := by rcases eq0 t q with y | y; exact absurd y z; exact y
      have := f t tt
      refine ⟨this.1, this.2.1, fun y => this.2.2 (fun ⟨j, j1, j2⟩ => y ⟨j, by omega, by rw [paO j j1]; exact j2⟩)⟩
  · by_cases z : t = s
    · subst z
      rw [va_e] at k2; omega
    · rw [va_n _ _ z] at k2
      have tt : ¬ en t = 0 := by rcases eq0 t q with y | y; exact absurd y z; exact y
      exact en0 _ (ge t i tt k1 k2 k3)
  · by_cases z : t = s
    · subst z
      rw [va_e, es]; exact ⟨by omega, Nat.le_refl _, t, es, ns, RE.rf⟩
    · rw [va_n _ _ z]
      have tt : ¬ en t = 0 := by rcases eq0 t q with y | y; exact absurd y z; exact y
      obtain ⟨i1, i2, u, u1, u2, u3⟩ := il t tt c
      exact ⟨i1, by rw [eo t tt]; exact i2, u, by rw [eo u (by omega)]; exact u1, u2, u3⟩
  · rcases (show j < L ∨ j = L by omega) with z | z
    · rw [paO j z] at q4 ⊢
      have pj := (p1 j z).1
      have un : u ≠ s := by
        intro y
        have := q5 L (by omega) (by omega)
        rw [paN, y] at this; omega
      have uu : ¬ en u = 0 := by rcases eq0 u q2 with y | y; exact absurd y un; exact y
      rw [eo _ pj, eo u uu] at q4
      have old := jk j u z uu q3 q4 (fun j' w1 w2 => by have := q5 j' w1 (by omega); rw [paO j' w2, eo _ (p1 j' w2).1, eo u uu] at this; exact this)
      refine ⟨old.1, fun i k1 k2 k3 k4 => ?_⟩
      rw [va_n _ _ un] at k2
      rw [va_n _ _ (ne _ pj), eo _ (ge u i uu k1 k2 k3)]
      exact old.2 i k1 k2 k3 k4
    · rw [z, paN] at q4 ⊢
      have : u = s := by
        rcases eq0 u q2 with y | y
        · exact y
        · rw [es, eo u y] at q4; have := (a1 u y).2.2; omega
      subst this
      exact ⟨RE.rf, fun i k1 k2 => by rw [va_e] at k2; omega⟩
  · rcases eq0 u q with z | z
    · subst z
      refine ⟨⟨by omega, ?_⟩, L, by omega, by rw [paN]; exact Nat.le_refl _, by rw [paN]; exact RE.rf⟩
      rw [es]
      rcases (show 0 < L ∨ L = 0 by omega) with y | y
      · rw [paO 0 y, eo _ (p1 0 y).1]; have := (a1 _ (p1 0 y).1).2.2; omega
      · have : va_up pa L u 0 = u := by rw [← y]; exact paN
        rw [this, es]; exact Nat.le_refl _
    · obtain ⟨⟨k1, k2⟩, j, j1, j2, j3⟩ := kl u z c
      exact ⟨⟨by omega, by rw [paO 0 k1, eo _ (p1 0 k1).1, eo u z]; exact k2⟩, j, by omega, by rw [paO j j1, eo _ (p1 j j1).1, eo u z]; exact j2, by rw [paO j j1]; exact j3⟩
theorem TJ_pop {L' : Nat} (h : TJ g W N en lw nm cl pa (L' + 1) op M cnt) (hn : nm (pa L') = nt (g 31 (pa L' + 1))) (hl : ¬ lw (pa L') = en (pa L')) (hb : ∀ L'', L' = L'' + 1 → lw (pa L'') ≤ lw (pa L')) : TJ g W N en lw nm cl pa L' op M cnt := by
  obtain ⟨a1, a2, a3, a4, o1, o2, o3, p1, p2, p3, f, ge, ch, il, jk, kl⟩ := h
  obtain ⟨x1, x2⟩ := p1 L' (by omega)
  obtain ⟨i1, i2, w, w1, w2, w3⟩ := il (pa L') x1 x2
  have wn : ¬ en w = 0 := by omega
  have Lp : 0 < L' := by
    rcases (show 0 < L' ∨ L' = 0 by omega) with z | z
    · exact z
    · have := (kl w wn w2).1.2
      subst z
      omega
  obtain ⟨K, rfl⟩ : ∃ K, L' = K + 1 := ⟨L' - 1, by omega⟩
  have lb := hb K rfl
  refine ⟨a1, a2, a3, a4, o1, o2, o3, fun j hj => p1 j (by omega), fun i j h1 h2 => p2 i j h1 (by omega), fun i j h1 h2 => p3 i j h1 (by omega), fun s hs => ?_, ge, ch, il, fun j u q1 q2 q3 q4 q5 => ?_, fun u q c => ?_⟩
  · obtain ⟨f1, f2, f3⟩ := f s hs
    refine ⟨f1, f2, fun y => ?_⟩
    by_cases z : s = pa (K + 1)
    · rw [z]; exact hn
    · refine f3 (fun ⟨j, j1, j2⟩ => ?_)
      rcases (show j < K + 1 ∨ j = K + 1 by omega) with v | v
      · exact y ⟨j, v, j2⟩
      · rw [v] at j2; exact z j2.symm
  · by_cases z : en (pa (K + 1)) ≤ en u
    · have jK : j = K := by
        rcases (show j < K ∨ j = K by omega) with v | v
        · have := q5 K v (by omega)
          have := p2 K (K + 1) (by omega) (by omega); omega
        · exact v
      subst jK
      have old := jk (j + 1) u (by omega) q2 q3 z (fun j' w1 w2 => by omega)
      exact ⟨(p3 j (j + 1) (by omega) (by omega)).tr old.1, fun i k1 k2 k3 k4 => Nat.le_trans lb (old.2 i k1 k2 k3 k4)⟩
    · exact jk j u (by omega) q2 q3 q4 (fun j' w1 w2 => by
        rcases (show j' < K + 1 ∨ j' = K + 1 by omega) with v | v
        · exact q5 j' w1 v
        · rw [v]; omega)
  · obtain ⟨⟨k1, k2⟩, j, j1, j2, j3⟩ := kl u q c
    refine ⟨⟨by omega, k2⟩, ?_⟩
    rcases (show j < K + 1 ∨ j = K + 1 by omega) with v | v
    · exact ⟨j, v, j2, j3⟩
    · subst v
      obtain ⟨_, j', b1, b2, b3⟩ := kl w wn w2
      refine ⟨j', ?_, by omega, j3.tr (w3.tr b3)⟩
      rcases (show j' < K + 1 ∨ j' = K + 1 by omega) with v | v
      · exact v
      · rw [v] at b2; omega
/-- the set that is closed -/
theorem TJ_set {L' : Nat} (h : TJ g W N en lw nm cl pa (L' + 1) op M cnt) (hn : nm (pa L') = nt (g 31 (pa L' + 1))) (hl : lw (pa L') = en (pa L')) :
    (∀ u i, ¬ en u = 0 → ¬ cl u → en (pa L') ≤ en u → nt (g 31 u) ≤ i → i < nt (g 31 (u + 1)) → W (nt (g 32 i)) → cl (nt (g 32 i)) ∨ (¬ en (nt (g 32 i)) = 0 ∧ ¬ cl (nt (g 32 i)) ∧ en (pa L') ≤ en (nt (g 32 i)))) ∧ ∀ u, (¬ en u = 0 ∧ ¬ cl u ∧ en (pa L') ≤ en u) ↔ SC g W (pa L') u := by
  obtain ⟨a1, a2, a3, a4, o1, o2, o3, p1, p2, p3, f, ge, ch, il, jk, kl⟩ := h
  obtain ⟨x1, x2⟩ := p1 L' (by omega)
  have full : ∀ u, ¬ en u = 0 → en (pa L') ≤ en u → nm u = nt (g 31 (u + 1)) := by
    intro u q1 q2
    by_cases z : u = pa L'
    · rw [z]; exact hn
    · refine (f u q1).2.2 (fun ⟨j, j1, j2⟩ => ?_)
      rcases (show j < L' ∨ j = L' by omega) with v | v
      · have := p2 j L' v (by omega); rw [j2] at this; omega
      · rw [v] at j2; exact z j2.symm
  have ed : ∀ u i, ¬ en u = 0 → ¬ cl u → en (pa L') ≤ en u → nt (g 31 u) ≤ i → i < nt (g 31 (u + 1)) → W (nt (g 32 i)) → cl (nt (g 32 i)) ∨ (¬ en (nt (g 32 i)) = 0 ∧ ¬ cl (nt (g 32 i)) ∧ en (pa L') ≤ en (nt (g 32 i))) := by
    intro u i q1 q2 q3 k1 k2 k3
    have fu := full u q1 q3
    by_cases z : cl (nt (g 32 i))
    · exact Or.inl z
    · refine Or.inr ⟨ge u i q1 k1 (by omega) k3, z, ?_⟩
      have := (jk L' u (by omega) q1 q2 q3 (fun j' w1 w2 => by omega)).2 i k1 (by omega) k3 z
      omega
  refine ⟨ed, fun u => ⟨fun ⟨q1, q2, q3⟩ => ?_, fun c => ?_⟩⟩
  · refine ⟨(jk L' u (by omega) q1 q2 q3 (fun j' w1 w2 => by omega)).1, ?_⟩
    obtain ⟨_, j, j1, j2, j3⟩ := kl u q1 q2
    have := j3 (fun t => cl t ∨ (¬ en t = 0 ∧ ¬ cl t ∧ en (pa L') ≤ en t)) (Or.inr ⟨q1, q2, q3⟩) (fun a b ha wb ⟨i, i1, i2, i3⟩ => by
      subst i3
      rcases ha with ha | ⟨ha, hb, hc⟩
      · exact Or.inl (ch a i ha i1 i2 wb)
      · exact ed a i ha hb hc i1 i2 wb)
    rcases this with z | ⟨_, _, z⟩
    · exact absurd z (p1 j j1).2
    · rcases (show j < L' ∨ j = L' by omega) with v | v
      · have := p2 j L' v (by omega); omega
      · rw [v] at j3; exact j3
  · have := c.1 (fun t => cl t ∨ (¬ en t = 0 ∧ ¬ cl t ∧ en (pa L') ≤ en t)) (Or.inr ⟨x1, x2, Nat.le_refl _⟩) (fun a b ha wb ⟨i, i1, i2, i3⟩ => by
      subst i3
      rcases ha with ha | ⟨ha, hb, hc⟩
      · exact Or.inl (ch a i ha i1 i2 wb)
      · exact ed a i ha hb hc i1 i2 wb)
    rcases this with z | z
    · have := c.2 cl z (fun a b ha wb ⟨i, i1, i2, i3⟩ => by subst i3; exact ch a i ha i1 i2 wb)
      exact absurd this x2
    · exact z
theorem TJ_cl {L' bo : Nat} (h : TJ g W N en lw nm cl pa (L' + 1) op M cnt) (hn : nm (pa L') = nt (g 31 (pa L' + 1))) (hl : lw (pa L') = en (pa L')) (hb : bo < M) (ho : op bo = pa L') : TJ g W N en lw nm (fun s => cl s ∨ (¬ en s = 0 ∧ ¬ cl s ∧ en (pa L') ≤ en s)) pa L' op bo cnt := by
  have st := (TJ_set h hn hl).1
  obtain ⟨a1, a2, a3, a4, o1, o2, o3, p1, p2, p3, f, ge, ch, il, jk, kl⟩ := h
  obtain ⟨x1, x2⟩ := p1 L' (by omega)
  have lt : ∀ s, ¬ en s = 0 → ¬ (cl s ∨ (¬ en s = 0 ∧ ¬ cl s ∧ en (pa L') ≤ en s)) → ¬ cl s ∧ en s < en (pa L') := by
    intro s q1 q2
    have c : ¬ cl s := fun z => q2 (Or.inl z)
    refine ⟨c, ?_⟩
    rcases Nat.lt_or_ge (en s) (en (pa L')) with z | z
    · exact z
    · exact absurd (Or.inr ⟨q1, c, z⟩) q2
  have keep : ∀ s, ¬ cl s → en s < en (pa L') → ¬ (cl s ∨ (¬ en s = 0 ∧ ¬ cl s ∧ en (pa L') ≤ en s)) := by
    rintro s q1 q2 (z | ⟨_, _, z⟩)
    · exact q1 z
    · omega
  have plt : ∀ j, j < L' → en (pa j) < en (pa L') := fun j hj => p2 j L' hj (by omega)
  refine ⟨a1, a2, a3, ?_, fun j hj => ?_, fun i j h1 h2 => o2 i j h1 (by omega), fun s q c => ?_, fun j hj => ⟨(p1 j (by omega)).1, keep _ (p1 j (by omega)).2 (plt j hj)⟩, fun i j h1 h2 => p2 i j h1 (by omega), fun i j h1 h2 => p3 i j h1 (by omega), fun s hs => ?_, ge, ?_, fun s q c => ?_, fun j u q1 q2 q3 q4 q5 => ?_, fun u q c => ?_⟩
  · rintro s (z | z)
    · exact a4 s z
    · exact z.1
  · have := o2 j bo hj hb
    rw [ho] at this
    exact ⟨(o1 j (by omega)).1, keep _ (o1 j (by omega)).2 this⟩
  · obtain ⟨c1, c2⟩ := lt s q c
    obtain ⟨j, j1, j2⟩ := o3 s q c1
    refine ⟨j, ?_, j2⟩
    rcases Nat.lt_trichotomy j bo with z | z | z
    · exact z
    · rw [z, ho] at j2; rw [← j2] at c2; omega
    · have := o2 bo j z j1; rw [ho, j2] at this; omega
  · obtain ⟨f1, f2, f3⟩ := f s hs
    refine ⟨f1, f2, fun y => ?_⟩
    by_cases z : s = pa L'
    · rw [z]; exact hn
    · refine f3 (fun ⟨j, j1, j2⟩ => ?_)
      rcases (show j < L' ∨ j = L' by omega) with v | v
      · exact y ⟨j, v, j2⟩
      · rw [v] at j2; exact z j2.symm
  · rintro s i (z | ⟨z1, z2, z3⟩) k1 k2 k3
    · exact Or.inl (ch s i z k1 k2 k3)
    · exact st s i z1 z2 z3 k1 k2 k3
  · obtain ⟨c1, c2⟩ := lt s q c
    obtain ⟨i1, i2, u, u1, u2, u3⟩ := il s q c1
    exact ⟨i1, i2, u, u1, keep u u2 (by omega), u3⟩
  · obtain ⟨c1, c2⟩ := lt u q2 q3
    have old := jk j u (by omega) q2 c1 q4 (fun j' w1 w2 => by
      rcases (show j' < L' ∨ j' = L' by omega) with v | v
      · exact q5 j' w1 v
      · rw [v]; exact c2)
    exact ⟨old.1, fun i k1 k2 k3 k4 => old.2 i k1 k2 k3 (fun z => k4 (Or.inl z))⟩
  · obtain ⟨c1, c2⟩ := lt u q c
    obtain ⟨⟨k1, k2⟩, j, j1, j2, j3⟩ := kl u q c1
    have jL : j < L' := by
      rcases (show j < L' ∨ j = L' by omega) with v | v
      · exact v
      · rw [v] at j2; omega
    exact ⟨⟨by omega, k2⟩, j, jL, j2, j3⟩
theorem TJ_bd {s : Nat} (h : TJ g W N en lw nm cl pa L op M cnt) (hs : s < N) (h0 : en s = 0) : L < N ∧ M < N ∧ cnt < N := by
  obtain ⟨a1, a2, a3, a4, o1, o2, o3, p1, p2, p3, f, ge, ch, il, jk, kl⟩ := h
  refine ⟨?_, ?_, ?_⟩
  · refine pigeon N (L + 1) (fun j => if j < L then pa j else s) (fun j hj => ?_) (fun i j hi hj e => ?_)
    · (try dsimp only); split
      · next z => exact (a1 _ (p1 j z).1).1
      · exact hs
    · try dsimp only at e
      by_cases z1 : i < L <;> by_cases z2 : j < L
      · rw [if_pos z1, if_pos z2] at e
        rcases Nat.lt_trichotomy i j with w | w | w
        · have := p2 i j w z2; rw [e] at this; omega
        · exact w
        · have := p2 j i w z1; rw [e] at this; omega
      · rw [if_pos z1, if_neg z2] at e; exact absurd (by rw [e]; exact h0) (p1 i z1).1
      · rw [if_neg z1, if_pos z2] at e; exact absurd (by rw [← e]; exact h0) (p1 j z2).1
      · omega
  · refine pigeon N (M + 1) (fun j => if j < M then op j else s) (fun j hj => ?_) (fun i j hi hj e => ?_)
    · (try dsimp only); split
      · next z => exact (a1 _ (o1 j z).1).1
      · exact hs
    · try dsimp only at e
      by_cases z1 : i < M <;> by_cases z2 : j < M
      · rw [if_pos z1, if_pos z2] at e
        rcases Nat.lt_trichotomy i j with w | w | w
        · have := o2 i j w z2; rw [e] at this; omega
        · exact w
        · have := o2 j i w z1; rw [e] at this; omega
      · rw [if_pos z1, if_neg z2] at e; exact absurd (by rw [e]; exact h0) (o1 i z1).1
      · rw [if_neg z1, if_pos z2] at e; exact absurd (by rw [← e]; exact h0) (o1 j z2).1
      · omega
  · have sp : ∀ v, v < cnt → en (Classical.epsilon (fun s => en s = v + 1)) = v + 1 := fun v hv => Classical.epsilon_spec (p := fun s => en s = v + 1) (a3 v hv)
    refine pigeon N (cnt + 1) (fun v => if v < cnt then Classical.epsilon (fun s => en s = v + 1) else s) (fun j hj => ?_) (fun i j hi hj e => ?_)
    · (try dsimp only); split
      · next z => exact (a1 _ (by rw [sp j z]; omega)).1
      · exact hs
    · try dsimp only at e
      by_cases z1 : i < cnt <;> by_cases z2 : j < cnt
      · rw [if_pos z1, if_pos z2] at e
        have q1 := sp i z1
        have q2 := sp j z2
        rw [e, q2] at q1; omega
      · rw [if_pos z1, if_neg z2] at e
        have q1 := sp i z1
        rw [e, h0] at q1; omega
      · rw [if_neg z1, if_pos z2] at e
        have q1 := sp j z2
        rw [← e, h0] at q1; omega
      · omega
end
