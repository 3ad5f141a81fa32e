def FX (b b' : hp_H) : Prop := ∀ k, k ≠ 16 → k ≠ 48 → k ≠ 49 → (k < 35 ∨ 43 < k) → b' k = b k
theorem FX.rf {b : hp_H} : FX b b := fun _ _ _ _ _ => rfl
theorem FX.tr {a b c : hp_H} (h : FX a b) (k : FX b c) : FX a c := fun x h0 h1 h2 h3 => (k x h0 h1 h2 h3).trans (h x h0 h1 h2 h3)
theorem FW.x {a b : hp_H} (h : FW a b) : FX a b := fun x _ h1 h2 h3 => h x h1 h2 h3
/-- the bit of a role -/
def rb (r : Nat) : Int32 := hp_shl (nI 1) (nI r)
/-- what is used is marked -/
def US (p b : hp_H) : Prop := ∀ r, r < nt (p 0 4) → UC p b (rb r) ∧ (∀ e, e < nt (p 0 15) → ¬ (b 21 e &&& rb r) = 0 → nt (p 13 e) = 2 → nt (p 14 e) < nt (p 5 r)) ∧ ∀ s, s < nt (p 0 21) → nt (p 18 s) = r → (¬ p 21 s = -1 → ¬ (b 21 (nt (p 21 s)) &&& rb r) = 0) ∧ ∀ i, i < nt (p 22 s) → ¬ nt (p 23 (4 * s + i)) = 3 → ¬ (b 21 (nt (p 25 (4 * s + i))) &&& rb r) = 0
theorem US.fs {p b b' : hp_H} (h : b' 21 = b 21) (u : US p b) : US p b' := by unfold US UC at *; rw [h]; exact u
theorem AB.fs {p g b b' : hp_H} {q : Nat} (f : ∀ k, 35 ≤ k → k ≤ 43 → b' k = b k) (x : AB p g q b) : AB p g q b' := by
  unfold AB HS HP at x ⊢
  simp only [f 35 (by decide) (by decide), f 36 (by decide) (by decide), f 37 (by decide) (by decide), f 38 (by decide) (by decide), f 39 (by decide) (by decide), f 40 (by decide) (by decide), f 41 (by decide) (by decide), f 42 (by decide) (by decide), f 43 (by decide) (by decide)]
  exact x
theorem fold_N {p : hp_H} {s : Nat} : ∀ (l : List (Int32 × Int32 × Int32 × Option (Nat → Nat))) (g : hp_H), gN g ≤ 400 → (∀ x g', x ∈ l → gN g' ≤ 400 → gN (pr s g' x) ≤ 400) → gN g ≤ gN (List.foldl (pr s) g l) := by
  intro l
  induction l with
  | nil => intro g _ _; exact Nat.le_refl _
  | cons x l ih =>
    intro g h q
    rw [List.foldl_cons]
    exact Nat.le_trans (pr_N h) (ih _ (q x g (List.mem_cons_self ..) h) (fun y g' hy => q y g' (List.mem_cons_of_mem _ hy)))
theorem pr_4 {s : Nat} {g : hp_H} {x : Int32 × Int32 × Int32 × Option (Nat → Nat)} (h : gN g ≤ 400) : gN (pr s g x) ≤ 400 := by
  have up : gN (hp_up g 0 34 (nI 1)) = gN g := by unfold gN; simp [hp_at, upd]
  unfold pr
  by_cases z : g 0 34 = 0
  · rw [cif_t z]
    rcases x with ⟨r, m, t, _ | e⟩
    · show gN (flt g s r m t) ≤ 400
      unfold flt
      by_cases f : g 0 46 = 0
      · rw [cif_t f]; unfold gN at h ⊢; simp [hp_at, upd]; exact h
      · rw [cif_f f]; exact h
    · show gN (mvg g s r m t e) ≤ 400
      unfold mvg
      by_cases c1 : gK g = 6000
      · rw [cif_t c1, up]; exact h
      rw [cif_f c1]
      by_cases c2 : ∃ i, gE g e i
      · rw [cif_t c2, gM_N]; exact h
      rw [cif_f c2]
      by_cases c3 : gN g = 400
      · rw [cif_t c3, up]; exact h
      · rw [cif_f c3, gM_N, (gS_N h).1]; omega
  · rw [cif_f z]; exact h
theorem fold_le {s : Nat} {g : hp_H} (l : List (Int32 × Int32 × Int32 × Option (Nat → Nat))) (h : gN g ≤ 400) : gN g ≤ gN (List.foldl (pr s) g l) := fold_N (p := g) l g h (fun x g' _ hg => pr_4 hg)
set_option maxHeartbeats 2000000 in
theorem s_goMember {p g b : hp_H} {q st m r : Nat} {d : Nat → Nat} {Q : hp_H → Prop} (v : VP p) (eq : EQ b p) (us : US p b) (a : AB p g q b) (hst : st < gN g) (hq : st < q) (hd : DG p d) (h46 : rw_B b 46 d) (rr : r < nt (p 0 4)) (hm : m < nt (p 4 r))
    (hQ : ∀ b', FX b b' → AB p (List.foldl (pr st) g (mev p d r m)) q b' → Q b') : q_X8_goMember b (nI st) (nI r) (nI m) Q := by
  have v' := v
  obtain ⟨vs', vr, vc, vx, vt, v30⟩ := v'
  have r3 : r < 3 := by have := vr.1.2; omega
  have m3 : m < 3 := by have := (vr.2.2.1 r rr).1.2; omega
  have S24 := vt.1.2
  obtain ⟨e4, e5, e6, e13, e8, e9, e10, e11, e32, e33, e34, e17, e18, e19, e20, e22, e24, e25, e26, e27, e28, e29, e30, e31⟩ := eq.1
  have e23 : b 23 8 = nI (nt (p 0 21)) := by rw [eq.2.1.2.2.2.2.1]; exact vt.1.1
  generalize hF : List.foldl (pr st) g (mev p d r m) = FIN at hQ
  unfold mev at hF
  generalize hT : tb p d (nI r) (nI m) (nt (p 0 15)) = T at hF
  have Tv : ∀ e, e < nt (p 0 15) → T e = tv p d (nI r) (nI m) e := fun e he => by rw [← hT]; exact tb_v he
  unfold q_X8_goMember
  refine s_placeOf hd.D h46 r3 m3 ?_
  have d9 := hd.1 (6 + 4 * (3 * r + m))
  refine hp_lp2h_ind (fun x y h => ∃ j g', y = nI j ∧ j ≤ nt (p 0 21) ∧ FX b h ∧ AB p g' q h ∧ gN g ≤ gN g' ∧ (x = 0 ∨ (x = nI 1 ∧ ∀ e, e < nt (p 0 15) → ¬ (b 21 e &&& rb r) = 0 → h 16 e = tv p d (nI r) (nI m) e)) ∧ List.foldl (pr st) g' (fl (sev p d T r m) j (nt (p 0 21) - j)) = FIN) (fun x y h => 24 - nt y) ?_ ⟨0, g, rfl, by omega, FX.rf, a, Nat.le_refl _, Or.inl rfl, hF⟩
  rintro x y h ⟨j, g', rfl, hj, fx, ab, gle, hx, hf⟩
  have fk : ∀ k, k < 35 → k ≠ 16 → h k = b k := fun k h1 h2 => fx k h2 (by omega) (by omega) (by omega)
  have n4 := gN_le ab.1
  rw [fk 23 (by decide) (by decide), e23, nI_leI (by omega) (by omega), nI_clamp (show j < 2 ^ 31 by omega), fk 24 (by decide) (by decide), e24, fk 25 (by decide) (by decide), e25]
  refine ⟨fun c1 => hQ h fx ?_, fun c1 => ⟨fun c2 => ⟨nu_in (by omega) (by decide), ?_⟩, fun c2 => hQ h fx ?_⟩⟩
  · rw [fl_0 (by omega)] at hf; rw [← hf]; exact ab
  case refine_3 => rw [pr_sp (by rw [← ab.2.2.1]; exact c2)] at hf; rw [← hf]; exact ab
  have js : j < nt (p 0 21) := by omega
  obtain ⟨v1, v2, v3, v4, v5, v6, v7⟩ := vt.2.2.2 j js
  rw [fl_s js, List.foldl_append] at hf
  have er : p 18 j = nI r ↔ nt (p 18 j) = r := ⟨fun z => by rw [z]; exact nt_nI (by omega), fun z => by rw [v1.1, z]⟩
  have ef : p 19 j = nI (d (6 + 4 * (3 * r + m))) ↔ nt (p 19 j) = d (6 + 4 * (3 * r + m)) := ⟨fun z => by rw [z]; exact nt_nI (by omega), fun z => by rw [v3.1, z]⟩
  rw [er, ef]
  refine ⟨fun x' h' => ∃ g'', FX b h' ∧ AB p g'' q h' ∧ gN g ≤ gN g'' ∧ (x' = 0 ∨ (x' = nI 1 ∧ ∀ e, e < nt (p 0 15) → ¬ (b 21 e &&& rb r) = 0 → h' 16 e = tv p d (nI r) (nI m) e)) ∧ List.foldl (pr st) g'' (fl (sev p d T r m) (j + 1) (nt (p 0 21) - (j + 1))) = FIN, ⟨fun cr => ⟨nu_in (by omega) (by decide), fun cf => ?_, fun cf => ?_⟩, fun cr => ?_⟩, ?_⟩
  · refine ⟨fun x' h' => FX b h' ∧ AB p g' q h' ∧ x' = nI 1 ∧ ∀ e, e < nt (p 0 15) → ¬ (b 21 e &&& rb r) = 0 → h' 16 e = tv p d (nI r) (nI m) e, ⟨fun z => ?_, fun z => ?_⟩, ?_⟩
    · have uh : US p h := us.fs (fk 21 (by decide) (by decide))
      obtain ⟨u1, u2, u3⟩ := uh r rr
      refine s_reckon (ro := nI r) (me := nI m) v (EQ.fs (fun k hk => fk k (by omega) (by omega)) eq) hd.D (fun i hi => by rw [fx 46 (by decide) (by decide) (by decide) (by decide)]; exact h46 i hi) (by decide) u1 (fun e he hb => ⟨fun k2 => ⟨rfl, rfl, r, m, r3, m3, rfl, rfl, u2 e he hb k2⟩, fun k3 => ⟨rfl, fun y => (nu_m1 (by omega)).mp y⟩⟩) (fun h17 f17 v17 => ?_)
      refine ⟨fx.tr (fun k h1 _ _ _ => f17 k h1), ab.fs (fun k h1 h2 => f17 k (by omega)), rfl, fun e he hb => v17 e he ?_⟩
      rw [fk 21 (by decide) (by decide)]; exact hb
    · rcases hx with y | ⟨y1, y2⟩
      · exact absurd y z
      · exact ⟨fx, ab, y1, y2⟩
    · rintro x' h16 ⟨f16, a16, rfl, v16⟩
      have fk' : ∀ k, k < 35 → k ≠ 16 → h16 k = b k := fun k h1 h2 => f16 k h2 (by omega) (by omega) (by omega)
      have VSj : VS p h16 T j := by
        obtain ⟨u1, u2, u3⟩ := us r rr
        obtain ⟨w1, w2⟩ := u3 j js cr
        refine ⟨fun z => ?_, fun i hi hk => ?_⟩
        · have lt : nt (p 21 j) < nt (p 0 15) := v5.elim (fun y => absurd y z) (fun y => y.2)
          rw [Tv _ lt]; exact v16 _ lt (w1 z)
        · have w12 := (v6 i hi).1.2
          obtain ⟨o1, o2⟩ := (v6 i hi).2.2.2.2.1 (by omega)
          rw [Tv _ o2]; exact v16 _ o2 (w2 i hi hk)
      have eq16 : EQ h16 p := EQ.fs (fun k hk => fk' k (by omega) (by omega)) eq
      have h46' : rw_B h16 46 d := fun i hi => by rw [f16 46 (by decide) (by decide) (by decide) (by decide)]; exact h46 i hi
      refine s_canDo v eq16 hd h46' js VSj (fun cg ca => br1 ?_) (fun nc => br00 ?_)
      · refine s_goWays v eq16 a16 (by omega) hq hd h46' js cr hm VSj ca (fun h20 f20 a20 => ⟨_, f16.tr f20.x, a20, Nat.le_trans gle (fold_le _ n4), Or.inr ⟨rfl, fun e he hb => ?_⟩, ?_⟩)
        · rw [f20 16 (by decide) (by decide) (by decide)]; exact v16 e he hb
        · have : sev p d T r m j = (wl p d j 27 (fun _ => 0)).map (wev p d T r m j) := by unfold sev; rw [cif_t ⟨cr, cf, cg, ca⟩]
          rw [this] at hf; exact hf
      · refine ⟨g', f16, a16, gle, Or.inr ⟨rfl, v16⟩, ?_⟩
        have : sev p d T r m j = [] := by unfold sev; rw [cif_f (fun z => nc ⟨z.2.2.1, z.2.2.2⟩)]
        rw [this] at hf; exact hf
  · refine ⟨g', fx, ab, gle, hx, ?_⟩
    have : sev p d T r m j = [] := by unfold sev; rw [cif_f (fun z => cf z.2.1)]
    rw [this] at hf; exact hf
  · refine ⟨g', fx, ab, gle, hx, ?_⟩
    have : sev p d T r m j = [] := by unfold sev; rw [cif_f (fun z => cr z.1)]
    rw [this] at hf; exact hf
  · rintro x' h' ⟨g'', q1, q2, q3, q4, q5⟩ w rfl
    rw [nI_add]
    exact ⟨⟨j + 1, g'', rfl, by omega, q1, q2, q3, q4, q5⟩, by rw [nt_nI (by omega), nt_nI (by omega)]; omega⟩
theorem fl_skip {α : Type} {f : Nat → List α} {n : Nat} : ∀ (k a : Nat), a + k ≤ n → (∀ i, a ≤ i → i < a + k → f i = []) → fl f a (n - a) = fl f (a + k) (n - (a + k)) := by
  intro k
  induction k with
  | zero => intro a _ _; rfl
  | succ k ih =>
    intro a h1 h2
    rw [fl_s (show a < n by omega), h2 a (by omega) (by omega), List.nil_append, ih (a + 1) (by omega) (fun i h3 h4 => h2 i (by omega) (by omega)), show a + 1 + k = a + (k + 1) by omega]
theorem s_lose {p g b : hp_H} {q st c : Nat} {d : Nat → Nat} {Q : hp_H → Prop} (v : VP p) (a : AB p g q b) (hst : st < gN g) (hq : st < q) (hd : DG p d) (h46 : rw_B b 46 d) (hc : c < 3)
    (hQ : ∀ b', FX b b' → AB p (List.foldl (pr st) g (fl (le1 d c) 0 (d (42 + 4 * c) - 0))) q b' → Q b') : q_X8_lose b (nI st) (nI c) Q := by
  generalize hF : List.foldl (pr st) g (fl (le1 d c) 0 (d (42 + 4 * c) - 0)) = FIN at hQ
  have hl := (hd.2.1 c hc).1
  have em : ∀ {i : Nat}, ¬ rw_f d c i → le1 d c i = [] := fun h => by unfold le1; rw [cif_f h]
  -- where the next letter stands
  have nxl : ∀ {gg : hp_H} {f : Nat}, f ≤ 3 → (∀ i, f ≤ i → i < d (42 + 4 * c) → rw_f d c i → (∀ k, f ≤ k → k < i → ¬ rw_f d c k) → List.foldl (pr st) gg (fl (le1 d c) f (d (42 + 4 * c) - f)) = FIN → List.foldl (pr st) gg (fl (le1 d c) i (d (42 + 4 * c) - i)) = FIN) ∧ ((∀ k, f ≤ k → k < d (42 + 4 * c) → ¬ rw_f d c k) → List.foldl (pr st) gg (fl (le1 d c) f (d (42 + 4 * c) - f)) = FIN → gg = FIN) := by
    intro gg f hf
    refine ⟨fun i i1 i2 i3 i4 e => ?_, fun no e => ?_⟩
    · have := fl_skip (f := le1 d c) (n := d (42 + 4 * c)) (i - f) f (by omega) (fun k k1 k2 => em (i4 k k1 (by omega)))
      rw [show f + (i - f) = i by omega] at this
      rw [this] at e; exact e
    · by_cases z : f ≤ d (42 + 4 * c)
      · have := fl_skip (f := le1 d c) (n := d (42 + 4 * c)) (d (42 + 4 * c) - f) f (by omega) (fun k k1 k2 => em (no k k1 (by omega)))
        rw [show f + (d (42 + 4 * c) - f) = d (42 + 4 * c) by omega, fl_0 (Nat.le_refl _)] at this
        rw [this] at e; exact e
      · rw [fl_0 (by omega)] at e; exact e
  have body : ∀ x, (∃ g', AB p g' q b ∧ gN g ≤ gN g' ∧ ((x = -1 ∧ g' = FIN) ∨ ∃ i, x = nI i ∧ 0 ≤ i ∧ i < d (42 + 4 * c) ∧ rw_f d c i ∧ List.foldl (pr st) g' (fl (le1 d c) i (d (42 + 4 * c) - i)) = FIN)) → hp_lp2h (fun v3 v4 h5 B2 =>
    ((nI 3) ≤ v4 →
      Q h5) ∧ (¬ (nI 3) ≤ v4 →
      (v3 = (-1) →
        Q h5) ∧ (¬ v3 = (-1) →
        ((h5 35 1) = 0 →
          q_X7_copy 48 46 h5 (fun h9 =>
          q_X7_take 48 h9 (nI c) v3 (fun h10 =>
          q_X2_addMove h10 (nI st) (-1) (fun h11 =>
          q_X7_nextUnlike 46 h11 (nI c) v3 (fun r12 =>
          ∀ v13 : Int32, v13 = v4 + (nI 1) →
          B2 r12 v13 h11))))) ∧ (¬ (h5 35 1) = 0 →
          Q h5)))) x (nI 0) b := by
    rintro x ⟨g1, a1, gl1, hx⟩
    refine hp_lp2h_ind (fun x y h => ∃ w g', y = nI w ∧ w ≤ 3 ∧ FX b h ∧ AB p g' q h ∧ gN g ≤ gN g' ∧ ((x = -1 ∧ g' = FIN) ∨ ∃ i, x = nI i ∧ w ≤ i ∧ i < d (42 + 4 * c) ∧ rw_f d c i ∧ List.foldl (pr st) g' (fl (le1 d c) i (d (42 + 4 * c) - i)) = FIN)) (fun x y h => 3 - nt y) ?_ ⟨0, g1, rfl, by omega, FX.rf, a1, gl1, hx⟩
    rintro x y h ⟨w, g', rfl, hw, fx, ab, gle, hx⟩
    have n4 := gN_le ab.1
    rw [nI_leI (by decide) (by omega)]
    refine ⟨fun c1 => hQ h fx ?_, fun c1 => ⟨fun c2 => hQ h fx ?_, fun c2 => ⟨fun c3 => ?_, fun c3 => hQ h fx ?_⟩⟩⟩
    · rcases hx with ⟨-, z⟩ | ⟨i, -, z1, z2, -⟩
      · rw [← z]; exact ab
      · omega
    · rcases hx with ⟨-, z⟩ | ⟨i, z, z1, z2, -⟩
      · rw [← z]; exact ab
      · rw [z] at c2; exact absurd c2 (fun q => (nu_m1 (by omega)).mp q)
    case refine_4 =>
      rcases hx with ⟨-, z⟩ | ⟨i, -, -, -, -, z⟩
      · rw [← z]; exact ab
      · rw [pr_sp (by rw [← ab.2.2.1]; exact c3)] at z; rw [← z]; exact ab
    rcases hx with ⟨z, -⟩ | ⟨i, rfl, i1, i2, i3, hf⟩
    · exact absurd z c2
    have sp : g' 0 34 = 0 := by rw [← ab.2.2.1]; exact c3
    have h46' : rw_B h 46 d := fun j hj => by rw [fx 46 (by decide) (by decide) (by decide) (by decide)]; exact h46 j hj
    have le : le1 d c i = [(-1, -1, -1, some (rw_tk d c i))] := by unfold le1; rw [cif_t i3]
    rw [fl_s i2, le, List.foldl_append, List.foldl_cons, List.foldl_nil, pr_m sp] at hf
    refine s_copy h46' (fun h9 f9 r9 => ?_)
    refine s_take hd.D r9 hc (by omega) (by omega) (fun h10 f10 r10 => ?_)
    have mm : mvc (-1) (-1) (-1) = -1 := if_pos rfl
    rw [← mm]
    refine s_addMove v (ab.fs (fun k h1 h2 => by rw [f10 k (by omega), f9 k (by omega)])) (by omega) hq (DG_l v hd hc i2) r10 (fun h11 f11 a11 => ?_)
    have fx' : FX b h11 := fx.tr (fun k h0 h1 h2 h3 => by rw [f11 k h3, f10 k h1, f9 k h1])
    have gl' : gN g ≤ gN (mvg g' st (-1) (-1) (-1) (rw_tk d c i)) := by
      have := pr_N (s := st) (x := ((-1 : Int32), (-1 : Int32), (-1 : Int32), some (rw_tk d c i))) n4
      rw [pr_m sp] at this; omega
    refine s_nextUnlike (s := i + 1) hd.D (fun j hj => by rw [f11 46 (by decide), f10 46 (by decide), f9 46 (by decide)]; exact h46' j hj) hc hl (by rw [nI_add]) (by omega) (fun i' u1 u2 u3 u4 => ?_) (fun u => ?_)
    · rintro w' rfl
      rw [nI_add]
      exact ⟨⟨w + 1, _, rfl, by omega, fx', a11, gl', Or.inr ⟨i', rfl, by omega, u2, u3, (nxl (by omega)).1 i' u1 u2 u3 u4 hf⟩⟩, by rw [nt_nI (by omega), nt_nI (by omega)]; omega⟩
    · rintro w' rfl
      rw [nI_add]
      exact ⟨⟨w + 1, _, rfl, by omega, fx', a11, gl', Or.inl ⟨rfl, (nxl (by omega)).2 u hf⟩⟩, by rw [nt_nI (by omega), nt_nI (by omega)]; omega⟩
  unfold q_X8_lose
  refine s_nextUnlike (s := 0) hd.D h46 hc hl (by decide) (by omega) (fun i' u1 u2 u3 u4 => body _ ⟨g, a, Nat.le_refl _, Or.inr ⟨i', rfl, by omega, u2, u3, (nxl (by omega)).1 i' u1 u2 u3 u4 hF⟩⟩) (fun u => body _ ⟨g, a, Nat.le_refl _, Or.inl ⟨rfl, (nxl (by omega)).2 u hF⟩⟩)
