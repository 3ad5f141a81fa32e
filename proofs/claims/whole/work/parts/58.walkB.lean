/-! ===== the class's walk: cells ===== -/
def sm (f : Nat → Nat) : Nat → Nat
  | 0 => 0
  | n + 1 => sm f n + f n
theorem sm_up {f : Nat → Nat} {i v : Nat} : ∀ n, (i < n → sm (va_up f i v) n + f i = sm f n + v) ∧ (n ≤ i → sm (va_up f i v) n = sm f n) := by
  intro n
  induction n with
  | zero => exact ⟨fun h => by omega, fun _ => rfl⟩
  | succ n ih =>
    refine ⟨fun h => ?_, fun h => ?_⟩
    · show sm (va_up f i v) n + va_up f i v n + f i = sm f n + f n + v
      rcases (show i < n ∨ i = n by omega) with z | z
      · rw [va_n _ _ (by omega)]; have := ih.1 z; omega
      · subst z; rw [va_e]; have := ih.2 (Nat.le_refl _); omega
    · show sm (va_up f i v) n + va_up f i v n = sm f n + f n
      rw [va_n _ _ (by omega)]; have := ih.2 (by omega); omega
theorem sm_ge {f : Nat → Nat} {i : Nat} : ∀ n, i < n → f i ≤ sm f n := by
  intro n
  induction n with
  | zero => intro h; omega
  | succ n ih =>
    intro h
    show f i ≤ sm f n + f n
    rcases (show i < n ∨ i = n by omega) with z | z
    · have := ih z; omega
    · subst z; omega
theorem sm_le {f f' : Nat → Nat} : ∀ n, (∀ i, i < n → f i ≤ f' i) → sm f n ≤ sm f' n := by
  intro n
  induction n with
  | zero => intro _; exact Nat.le_refl _
  | succ n ih => intro h; have := ih (fun i hi => h i (by omega)); have := h n (by omega); show sm f n + f n ≤ sm f' n + f' n; omega
theorem sm_mv {p g : hp_H} {N : Nat} (f : FS p g N) : ∀ n, n ≤ N → sm (fun s => nt (g 31 (s + 1)) - nt (g 31 s) + 1) n ≤ nt (g 31 n) + n := by
  intro n
  induction n with
  | zero => intro _; exact Nat.zero_le _
  | succ n ih =>
    intro h
    have := ih (by omega)
    have := (f.r (show n < N by omega)).2.2.1
    show sm (fun s => nt (g 31 (s + 1)) - nt (g 31 s) + 1) n + (nt (g 31 (n + 1)) - nt (g 31 n) + 1) ≤ _
    omega
theorem TJ_b2 {g : hp_H} {W : Nat → Prop} {N : Nat} {en lw nm : Nat → Nat} {cl : Nat → Prop} {pa : Nat → Nat} {L : Nat} {op : Nat → Nat} {M cnt : Nat} (h : TJ g W N en lw nm cl pa L op M cnt) : L ≤ N ∧ M ≤ N ∧ cnt ≤ N := by
  obtain ⟨a1, a2, a3, a4, o1, o2, o3, p1, p2, -⟩ := h
  refine ⟨?_, ?_, ?_⟩
  · refine pigeon N L pa (fun j hj => (a1 _ (p1 j hj).1).1) (fun i j hi hj e => ?_)
    rcases Nat.lt_trichotomy i j with w | w | w
    · have := p2 i j w hj; rw [e] at this; omega
    · exact w
    · have := p2 j i w hi; rw [e] at this; omega
  · refine pigeon N M op (fun j hj => (a1 _ (o1 j hj).1).1) (fun i j hi hj e => ?_)
    rcases Nat.lt_trichotomy i j with w | w | w
    · have := o2 i j w hj; rw [e] at this; omega
    · exact w
    · have := o2 j i w hi; rw [e] at this; omega
  · have sp : ∀ v, v < cnt → en (Classical.epsilon (fun s => en s = v + 1)) = v + 1 := fun v hv => Classical.epsilon_spec (p := fun s => en s = v + 1) (a3 v hv)
    refine pigeon N cnt (fun v => Classical.epsilon (fun s => en s = v + 1)) (fun j hj => (a1 _ (by rw [sp j hj]; omega)).1) (fun i j hi hj e => ?_)
    have q1 := sp i hi
    have q2 := sp j hj
    try dsimp only at e
    rw [e, q2] at q1; omega
/-- the walk's cells -/
def KH (p : hp_H) (W : Nat → Prop) (fr ev : Int32) (b h : hp_H) (en lw nm : Nat → Nat) (cl : Nat → Prop) (pa : Nat → Nat) (L : Nat) (op : Nat → Nat) (M cnt : Nat) : Prop :=
  TJ (srch p) W (gN (srch p)) en lw nm cl pa L op M cnt ∧
  (∀ k, k ≠ 53 → (k < 56 ∨ 63 < k) → h k = b k) ∧
  (h 53 13 = nI L ∧ h 53 14 = nI M ∧ h 53 15 = nI cnt ∧ h 53 16 = ev ∧ h 53 19 = fr) ∧
  (∀ s, s < gN (srch p) → h 58 s = nI (en s) ∧ (¬ en s = 0 → h 59 s = nI (lw s) ∧ h 60 s = nI (nm s))) ∧
  (∀ s, s < gN (srch p) → (¬ cl s → h 61 s = -1) ∧ (cl s → ∃ r, h 61 s = nI r ∧ cl r ∧ r < gN (srch p))) ∧
  (∀ j, j < L → h 62 j = nI (pa j)) ∧ (∀ j, j < M → h 63 j = nI (op j)) ∧
  ∀ s, s < gN (srch p) → (cl s → (¬ h 56 s = 0 ↔ GD p (srch p) W fr s) ∧ (¬ h 57 s = 0 ↔ LD p (srch p) W fr s)) ∧ (¬ cl s → h 57 s = 0)
theorem s_enter {p h : hp_H} {s L M cnt : Nat} {Q : hp_H → Prop} (e13 : h 53 13 = nI L) (e14 : h 53 14 = nI M) (e15 : h 53 15 = nI cnt) (e36 : h 36 s = srch p 31 s) (hs : s < 400) (hL : L < 400) (hM : M < 400) (hc : cnt < 400)
    (hQ : ∀ h', (∀ k, k ≠ 53 → k ≠ 58 → k ≠ 59 → k ≠ 60 → k ≠ 62 → k ≠ 63 → h' k = h k) → h' 53 13 = nI (L + 1) → h' 53 14 = nI (M + 1) → h' 53 15 = nI (cnt + 1) → (∀ j, j ≠ 13 → j ≠ 14 → j ≠ 15 → h' 53 j = h 53 j) → (∀ i, h' 58 i = if i = s then nI (cnt + 1) else h 58 i) → (∀ i, h' 59 i = if i = s then nI (cnt + 1) else h 59 i) → (∀ i, h' 60 i = if i = s then srch p 31 s else h 60 i) → (∀ i, h' 62 i = if i = L then nI s else h 62 i) → (∀ i, h' 63 i = if i = M then nI s else h 63 i) → Q h') : q_X3_enter h (nI s) Q := by
  have i4 : vp_in (nI s) 400 := nu_in hs (by decide)
  have i41 : vp_in (nI s) 401 := nu_in (by omega) (by decide)
  unfold q_X3_enter
  rintro h1 rfl
  rw [e15, nI_add, nI_clamp (show s < 2 ^ 31 by omega)]
  refine ⟨i4, ?_⟩
  rintro h2 rfl
  refine ⟨i4, ?_⟩
  rintro h3 rfl
  refine ⟨i41, i4, ?_⟩
  rintro h4 rfl v5 rfl
  simp only [hp_at, Nat.reduceEqDiff, if_true, if_false, upd, e13, nI_add, e36]
  rintro h6 rfl
  rw [nI_clamp (show L < 2 ^ 31 by omega)]
  refine ⟨nu_in hL (by decide), ?_⟩
  rintro h7 rfl v8 rfl
  simp only [hp_at, Nat.reduceEqDiff, if_true, if_false, upd, e14, nI_add]
  rintro h9 rfl
  rw [nI_clamp (show M < 2 ^ 31 by omega)]
  refine ⟨nu_in hM (by decide), ?_⟩
  intro h10 e10
  refine hQ h10 (fun k h1 h2 h3 h4 h5 h6 => ?_) ?_ ?_ ?_ (fun j j1 j2 j3 => ?_) (fun i => ?_) (fun i => ?_) (fun i => ?_) (fun i => ?_) (fun i => ?_)
  · rw [e10]; simp [hp_at, h1, h2, h3, h4, h5, h6]
  · rw [e10]; simp [hp_at, upd]
  · rw [e10]; simp [hp_at, upd]
  · rw [e10]; simp [hp_at, upd]
  · rw [e10]; simp [hp_at, upd, j1, j2, j3]
  · rw [e10]; simp [hp_at, upd]
  · rw [e10]; simp [hp_at, upd]
  · rw [e10]; simp [hp_at, upd, e36]
  · rw [e10]; simp [hp_at, upd]
  · rw [e10]; simp [hp_at, upd]
/-- cells behind an enter -/
theorem KH_en {p b h h' : hp_H} {W : Nat → Prop} {fr ev : Int32} {en lw nm : Nat → Nat} {cl : Nat → Prop} {pa : Nat → Nat} {L : Nat} {op : Nat → Nat} {M cnt s : Nat} {nm' : Nat → Nat} (k : KH p W fr ev b h en lw nm cl pa L op M cnt) (fs : FS p (srch p) (gN (srch p))) (hs : s < gN (srch p)) (h0 : en s = 0)
    (tj : TJ (srch p) W (gN (srch p)) (va_up en s (cnt + 1)) (va_up lw s (cnt + 1)) nm' cl (va_up pa L s) (L + 1) (va_up op M s) (M + 1) (cnt + 1))
    (f : ∀ k, k ≠ 53 → k ≠ 58 → k ≠ 59 → k ≠ 60 → k ≠ 62 → k ≠ 63 → h' k = h k) (e13 : h' 53 13 = nI (L + 1)) (e14 : h' 53 14 = nI (M + 1)) (e15 : h' 53 15 = nI (cnt + 1)) (f53 : ∀ j, j ≠ 13 → j ≠ 14 → j ≠ 15 → h' 53 j = h 53 j) (x58 : ∀ i, h' 58 i = if i = s then nI (cnt + 1) else h 58 i) (x59 : ∀ i, h' 59 i = if i = s then nI (cnt + 1) else h 59 i) (x60 : ∀ i, i < gN (srch p) → ¬ va_up en s (cnt + 1) i = 0 → h' 60 i = nI (nm' i)) (x62 : ∀ i, h' 62 i = if i = L then nI s else h 62 i) (x63 : ∀ i, h' 63 i = if i = M then nI s else h 63 i) :
    KH p W fr ev b h' (va_up en s (cnt + 1)) (va_up lw s (cnt + 1)) nm' cl (va_up pa L s) (L + 1) (va_up op M s) (M + 1) (cnt + 1) := by
  obtain ⟨tj0, fr0, ⟨g13, g14, g15, g16, g19⟩, c58, c61, c62, c63, res⟩ := k
  refine ⟨tj, fun k k1 k2 => ?_, ⟨e13, e14, e15, by rw [f53 16 (by decide) (by decide) (by decide)]; exact g16, by rw [f53 19 (by decide) (by decide) (by decide)]; exact g19⟩, fun t ht => ?_, fun t ht => ?_, fun j hj => ?_, fun j hj => ?_, fun t ht => ?_⟩
  · rw [f k k1 (by omega) (by omega) (by omega) (by omega) (by omega)]; exact fr0 k k1 k2
  · by_cases z : t = s
    · rw [x58, x59, if_pos z, if_pos z]
      subst z
      rw [va_e, va_e]
      exact ⟨rfl, fun q => ⟨rfl, x60 t ht (by rw [va_e]; exact q)⟩⟩
    · rw [x58, x59, if_neg z, if_neg z, va_n _ _ z, va_n _ _ z]
      exact ⟨(c58 t ht).1, fun q => ⟨((c58 t ht).2 q).1, x60 t ht (by rw [va_n _ _ z]; exact q)⟩⟩
  · rw [f 61 (by decide) (by decide) (by decide) (by decide) (by decide) (by decide)]; exact c61 t ht
  · rw [x62]
    by_cases z : j = L
    · rw [if_pos z, z, va_e]
    · rw [if_neg z, va_n _ _ z]; exact c62 j (by omega)
  · rw [x63]
    by_cases z : j = M
    · rw [if_pos z, z, va_e]
    · rw [if_neg z, va_n _ _ z]; exact c63 j (by omega)
  · rw [f 56 (by decide) (by decide) (by decide) (by decide) (by decide) (by decide), f 57 (by decide) (by decide) (by decide) (by decide) (by decide) (by decide)]; exact res t ht
/-- how much of the walk is left -/
def RR (g : hp_H) (N : Nat) (en nm pa : Nat → Nat) (L : Nat) (r : Nat → Nat) : Prop := (∀ s, s < N → en s = 0 → r s = nt (g 31 (s + 1)) - nt (g 31 s) + 1) ∧ ∀ j, j < L → r (pa j) = nt (g 31 (pa j + 1)) - nm (pa j) + 1
set_option maxHeartbeats 1000000 in
theorem s_follow {p b h : hp_H} {W : Nat → Prop} {fr ev : Int32} {en lw nm : Nat → Nat} {cl : Nat → Prop} {pa : Nat → Nat} {K : Nat} {op : Nat → Nat} {M cnt : Nat} {r : Nat → Nat} {Q : hp_H → Prop} (bm : BM p b) (hW : ∀ s, s < gN (srch p) → (¬ b 54 s = 0 ↔ W s)) (k : KH p W fr ev b h en lw nm cl pa (K + 1) op M cnt) (hr : RR (srch p) (gN (srch p)) en nm pa (K + 1) r) (hi : nm (pa K) < nt (srch p 31 (pa K + 1)))
    (hQ : ∀ h' en' lw' nm' pa' L' op' M' cnt' r', KH p W fr ev b h' en' lw' nm' cl pa' L' op' M' cnt' → RR (srch p) (gN (srch p)) en' nm' pa' L' r' → sm r' (gN (srch p)) + 1 ≤ sm r (gN (srch p)) → (∀ t, ¬ en t = 0 → ¬ en' t = 0) → Q h') : q_X3_follow h (nI (pa K)) (nI (nt (srch p 32 (nm (pa K))))) Q := by
  have k0 := k
  obtain ⟨tj, fr0, ⟨g13, g14, g15, g16, g19⟩, c58, c61, c62, c63, res⟩ := k
  obtain ⟨⟨v, eq, n4, e35, -⟩, fs, f36, f37⟩ := bm
  obtain ⟨bL, bM, bC⟩ := TJ_b2 tj
  have tj' := tj
  obtain ⟨a1, a2, a3, a4, o1, o2, o3, p1, p2, p3, f, ge, ch, il, jk, kl⟩ := tj'
  obtain ⟨x1, x2⟩ := p1 K (by omega)
  obtain ⟨xN, xW, xC⟩ := a1 _ x1
  obtain ⟨l1, l2, l3, l4, l5⟩ := fs.r xN
  obtain ⟨fa, fb, fc⟩ := f _ x1
  obtain ⟨mv1, mv2, -⟩ := fs.1.2.2.2.2 (nm (pa K)) (by omega)
  generalize ex : pa K = x at *
  generalize et : nt (srch p 32 (nm x)) = t at *
  have ix : vp_in (nI x) 400 := nu_in (by omega) (by decide)
  have it : vp_in (nI t) 400 := nu_in (by omega) (by decide)
  have h60 : h 60 x = nI (nm x) := ((c58 x xN).2 x1).2
  have h54 : h 54 = b 54 := fr0 54 (by decide) (by decide)
  -- what is left
  have rx : r x = nt (srch p 31 (x + 1)) - nm x + 1 := by have := hr.2 K (by omega); rw [ex] at this; exact this
  have sml : sm (va_up r x (nt (srch p 31 (x + 1)) - (nm x + 1) + 1)) (gN (srch p)) + 1 ≤ sm r (gN (srch p)) := by
    have := (sm_up (f := r) (i := x) (v := nt (srch p 31 (x + 1)) - (nm x + 1) + 1) (gN (srch p))).1 xN
    omega
  have pne : ∀ j, j < K → pa j ≠ x := fun j hj z => by have := p2 j K hj (by omega); rw [ex, z] at this; omega
  have rrx : RR (srch p) (gN (srch p)) en (va_up nm x (nm x + 1)) pa (K + 1) (va_up r x (nt (srch p 31 (x + 1)) - (nm x + 1) + 1)) := by
    refine ⟨fun s hs h0 => ?_, fun j hj => ?_⟩
    · have : s ≠ x := fun z => x1 (by rw [← z]; exact h0)
      rw [va_n _ _ this]; exact hr.1 s hs h0
    · by_cases z : pa j = x
      · rw [z, va_e, va_e]
      · rw [va_n _ _ z, va_n _ _ z]; exact hr.2 j hj
  unfold q_X3_follow
  rw [nI_clamp (show x < 2 ^ 31 by omega), nI_clamp (show t < 2 ^ 31 by omega), h60, nI_add]
  refine ⟨ix, ix, ?_⟩
  intro h1 e1
  have o : ∀ k, k ≠ 60 → h1 k = h k := by intro k hk; rw [e1, hp_at, if_neg hk]
  have x60 : ∀ i, h1 60 i = if i = x then nI (nm x + 1) else h 60 i := by intro i; rw [e1]; simp [hp_at, upd]
  rw [o 54 (by decide), o 58 (by decide), o 59 (by decide), o 61 (by decide), h54]
  -- only the next move is another one
  have nmo : ∀ lw' h2, TJ (srch p) W (gN (srch p)) en lw' (va_up nm x (nm x + 1)) cl pa (K + 1) op M cnt → (∀ k, k ≠ 59 → h2 k = h1 k) → (∀ s, s < gN (srch p) → ¬ en s = 0 → h2 59 s = nI (lw' s)) → Q h2 := by
    intro lw' h2 tj2 f2 c59
    refine hQ h2 en lw' (va_up nm x (nm x + 1)) pa (K + 1) op M cnt _ ⟨tj2, fun k k1 k2 => by rw [f2 k (by omega), o k (by omega)]; exact fr0 k k1 k2, ?_, fun s hs => ?_, fun s hs => ?_, fun j hj => ?_, fun j hj => ?_, fun s hs => ?_⟩ rrx sml (fun _ z => z)
    · rw [f2 53 (by decide), o 53 (by decide)]; exact ⟨g13, g14, g15, g16, g19⟩
    · refine ⟨by rw [f2 58 (by decide), o 58 (by decide)]; exact (c58 s hs).1, fun q => ⟨c59 s hs q, ?_⟩⟩
      rw [f2 60 (by decide), x60]
      by_cases z : s = x
      · rw [if_pos z, z, va_e]
      · rw [if_neg z, va_n _ _ z]; exact ((c58 s hs).2 q).2
    · rw [f2 61 (by decide), o 61 (by decide)]; exact c61 s hs
    · rw [f2 62 (by decide), o 62 (by decide)]; exact c62 j hj
    · rw [f2 63 (by decide), o 63 (by decide)]; exact c63 j hj
    · rw [f2 56 (by decide), f2 57 (by decide), o 56 (by decide), o 57 (by decide)]; exact res s hs
  have mv : mvT (srch p) x t := ⟨nm x, fa, by omega, et⟩
  refine ⟨it, fun z => ?_, fun z => ⟨it, ?_⟩⟩
  · -- it leads out
    have nW : ¬ W t := fun y => (hW t mv2).mpr y z
    have tj2 := TJ_nm (j0 := K) tj (by omega) (by rw [ex]; omega) (fun y => by rw [ex, et] at y; exact absurd y nW) (fun y => by rw [ex, et] at y; exact absurd y nW)
    rw [ex] at tj2
    exact nmo lw h1 tj2 (fun k _ => rfl) (fun s hs q => by rw [o 59 (by decide)]; exact ((c58 s hs).2 q).1)
  have Wt : W t := (hW t mv2).mp z
  rw [(c58 t mv2).1]
  have et400 : en t ≤ cnt := by
    by_cases q : en t = 0
    · omega
    · exact (a1 t q).2.2
  have exl : en x ≤ cnt := xC
  obtain ⟨i1, i2, i3⟩ := il x x1 x2
  refine ⟨fun z2 => ?_, fun z2 => ⟨it, ?_⟩⟩
  · -- it is entered
    have t0 : en t = 0 := by rw [← nI_0, nI_eq (by omega) (by decide)] at z2; exact z2
    have xt : x ≠ t := fun y => x1 (by rw [y]; exact t0)
    obtain ⟨d1, d2, d3⟩ := TJ_bd tj mv2 t0
    have lt' := (fs.r mv2).2.2.1
    have tj2 := TJ_en tj Wt mv2 t0 lt' (Or.inr ⟨K, rfl, by rw [ex]; exact mv⟩)
    have pK : va_up pa (K + 1) t K = x := by rw [va_n _ _ (by omega)]; exact ex
    have nx : va_up nm t (nt (srch p 31 t)) x = nm x := va_n _ _ xt
    have tj3 := TJ_nm (j0 := K) tj2 (by omega) (by rw [pK, nx]; omega) (fun _ => by rw [pK, nx, et, va_e]; omega) (fun _ _ => by rw [pK, nx, et, va_e, va_n _ _ xt]; omega)
    rw [pK, nx] at tj3
    refine s_enter (p := p) (L := K + 1) (M := M) (cnt := cnt) (by rw [o 53 (by decide)]; exact g13) (by rw [o 53 (by decide)]; exact g14) (by rw [o 53 (by decide)]; exact g15) (by rw [o 36 (by decide), fr0 36 (by decide) (by decide)]; exact f36 t (by omega)) (by omega) (by omega) (by omega) (by omega) (fun h' f' e13 e14 e15 f53 y58 y59 y60 y62 y63 => ?_)
    refine hQ h' _ _ _ _ _ _ _ _ _ (KH_en k0 fs mv2 t0 tj3 (fun k h1 h2 h3 h4 h5 h6 => by rw [f' k h1 h2 h3 h4 h5 h6, o k (by omega)]) e13 e14 e15 (fun j j1 j2 j3 => by rw [f53 j j1 j2 j3, o 53 (by decide)]) (fun i => by rw [y58, o 58 (by decide)]) (fun i => by rw [y59, o 59 (by decide)]) (fun i hi' q => ?_) (fun i => by rw [y62, o 62 (by decide)]) (fun i => by rw [y63, o 63 (by decide)])) ?_ sml (fun u q => ?_)
    · rw [y60]
      by_cases y : i = t
      · rw [if_pos y, y, va_n _ _ (Ne.symm xt), va_e]; exact (fs.r mv2).1
      · rw [if_neg y, x60]
        rw [va_n _ _ y] at q
        by_cases y2 : i = x
        · rw [if_pos y2, y2, va_e]
        · rw [if_neg y2, va_n _ _ y2, va_n _ _ y]; exact ((c58 i hi').2 q).2
    · refine ⟨fun u hu h0 => ?_, fun j hj => ?_⟩
      · have ut : u ≠ t := fun y => by rw [y, va_e] at h0; omega
        rw [va_n _ _ ut] at h0
        exact rrx.1 u hu h0
      · rcases (show j < K + 1 ∨ j = K + 1 by omega) with y | y
        · rw [va_n pa _ (show j ≠ K + 1 by omega)]
          have jt : pa j ≠ t := fun w => (p1 j y).1 (by rw [w]; exact t0)
          have := rrx.2 j y
          by_cases y2 : pa j = x
          · rw [y2, va_e, va_e]
          · rw [va_n _ _ y2] at this ⊢; rw [va_n _ _ y2] at this ⊢; rw [va_n _ _ jt]; exact this
        · rw [y, va_e, va_n _ _ (Ne.symm xt), va_n _ _ (Ne.symm xt), va_e]
          exact hr.1 t mv2 t0
    · by_cases y : u = t
      · rw [y, va_e]; omega
      · rw [va_n _ _ y]; exact q
  have tn : ¬ en t = 0 := fun q => z2 (by rw [q]; rfl)
  by_cases c : cl t
  · obtain ⟨ro, r1, r2, r3⟩ := (c61 t mv2).2 c
    refine ⟨fun y => ?_, fun _ => ?_⟩
    · rw [r1] at y; exact absurd y (fun y => (nu_m1 (show ro < 2 ^ 31 by omega)).mp y)
    · have tj2 := TJ_nm (j0 := K) tj (by omega) (by rw [ex]; omega) (fun _ => by rw [ex, et]; exact tn) (fun _ y => by rw [ex, et] at y; exact absurd c y)
      rw [ex] at tj2
      exact nmo lw h1 tj2 (fun k _ => rfl) (fun s hs q => by rw [o 59 (by decide)]; exact ((c58 s hs).2 q).1)
  · refine ⟨fun _ => ⟨ix, it, ix, ?_⟩, fun y => absurd ((c61 t mv2).1 c) y⟩
    intro h5 e5
    obtain ⟨t1, t2, t3⟩ := il t tn c
    have et1 : 1 ≤ en t := by omega
    rw [((c58 x xN).2 x1).1] at e5
    have em : (if nI (en t) < nI (lw x) then nI (en t) else nI (lw x)) = nI (min (en t) (lw x)) := by
      by_cases q : en t < lw x
      · rw [if_pos ((nI_ltI (by omega) (by omega)).mpr q), Nat.min_eq_left (by omega)]
      · rw [if_neg (fun y => q ((nI_ltI (by omega) (by omega)).mp y)), Nat.min_eq_right (by omega)]
    rw [em] at e5
    have tj1 := TJ_lw (x := x) (v := min (en t) (lw x)) tj x1 x2 (by omega) (by omega) (by
      by_cases q : en t < lw x
      · exact ⟨t, by omega, c, RE.one Wt mv⟩
      · obtain ⟨u, u1, u2, u3⟩ := i3
        exact ⟨u, by omega, u2, u3⟩)
    have tj2 := TJ_nm (j0 := K) tj1 (by omega) (by rw [ex]; omega) (fun _ => by rw [ex, et]; exact tn) (fun _ _ => by rw [ex, et, va_e]; omega)
    rw [ex] at tj2
    refine nmo _ h5 tj2 (fun k hk => by rw [e5, hp_at, if_neg hk]) (fun s hs q => ?_)
    have x59 : ∀ i, h5 59 i = if i = x then nI (min (en t) (lw x)) else h1 59 i := by intro i; rw [e5]; simp [hp_at, upd]
    rw [x59]
    by_cases y : s = x
    · rw [if_pos y, y, va_e]
    · rw [if_neg y, va_n _ _ y, o 59 (by decide)]; exact ((c58 s hs).2 q).1
