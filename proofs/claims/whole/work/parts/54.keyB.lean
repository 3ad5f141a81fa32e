/-! ===== by what the class divides ===== -/
/-- the found, on the side of the class, with moves -/
def BM (p b : hp_H) : Prop := BR p b ∧ FS p (srch p) (gN (srch p)) ∧ (∀ i, i ≤ gN (srch p) → b 36 i = srch p 31 i) ∧ ∀ i, i < gK (srch p) → b 37 i = srch p 32 i ∧ b 41 i = mvc (srch p 33 i) (srch p 34 i) (srch p 35 i)
theorem SRu.bm {p b m : hp_H} {q : Nat} (t : T0 b m) (s : SRu p q b m) : BM p b := by
  obtain ⟨f1, f2, f3⟩ := s.f
  exact ⟨s.br t, f1, fun i hi => (f2 i hi).1, fun i hi => ⟨(f3 i hi).1, (f3 i hi).2.1⟩⟩
theorem BM.fr {p b b' : hp_H} (h : BM p b) (f : ∀ k, k < 46 → k ≠ 16 → k ≠ 21 → b' k = b k) : BM p b' := by
  obtain ⟨a, b1, c, d⟩ := h
  exact ⟨a.fr (fun k h1 h2 h3 => f k (by omega) h2 h3) (f 35 (by decide) (by decide) (by decide)) (f 42 (by decide) (by decide) (by decide)), b1, fun i hi => by rw [f 36 (by decide) (by decide) (by decide)]; exact c i hi, fun i hi => by rw [f 37 (by decide) (by decide) (by decide), f 41 (by decide) (by decide) (by decide)]; exact d i hi⟩
theorem s_keyByObserved {p b m : hp_H} {Q : hp_H → Prop} (bm : BM p b) (t : T0 b m) (pv : PV p m)
    (hQ : ∀ b', (∀ k, k ≠ 16 → k ≠ 21 → k ≠ 52 → k ≠ 67 → b' k = b k) → (∀ s, s < gN (srch p) → ∀ k, k < nt (m 0 31) → b' 67 (13 * s + k) = vl p (srch p) s (nt (m 26 k))) → Q b') : q_X0_keyByObserved b Q := by
  have br := bm.1
  obtain ⟨v, eq, n4, e35, -⟩ := br
  obtain ⟨o1, o2⟩ := t.2.2.1
  have vo := t.2.2.2.1
  have o8 := vo.1.2
  obtain ⟨p15, p17⟩ := pv.e
  have e64 : b 64 0 = nI (nt (m 0 31)) := by rw [o2]; exact vo.1.1
  have ob : ∀ k, k < nt (m 0 31) → b 66 k = nI (nt (m 26 k)) ∧ nt (m 26 k) < nt (p 0 15) ∧ p 17 (nt (m 26 k)) = 0 ∧ nt (m 26 k) < 80 := by
    intro k hk
    obtain ⟨q1, q2, q3⟩ := vo.2 k hk
    exact ⟨by rw [o1]; exact q1.1, by rw [← p15]; exact q2, by rw [← p17]; exact q3, by have := q1.2; omega⟩
  have noX : ∀ j, j ≤ nt (m 0 31) → NO p (fun x => ∃ k, k < j ∧ x = nt (m 26 k)) := by
    rintro j hj x ⟨k, hk, rfl⟩
    obtain ⟨_, q2, q3, _⟩ := ob k (by omega)
    exact ⟨q2, q3⟩
  unfold q_X0_keyByObserved
  refine s_askNothing v eq (fun b1 f1 k1 => ?_)
  refine hp_lp1h_ind (fun x h => ∃ j, x = nI j ∧ j ≤ nt (m 0 31) ∧ (∀ k, k ≠ 21 → h k = b k) ∧ AK p h (fun x => ∃ k, k < j ∧ x = nt (m 26 k))) (fun x h => 8 - nt x) ?_ ⟨0, rfl, by omega, f1, fun e he => (k1 e he).trans ⟨fun r => r.mono (fun _ z => z.elim), fun r => r.mono (fun x hx => by obtain ⟨k, hk, _⟩ := hx; omega)⟩⟩
  clear k1 f1
  clear b1
  rintro x h ⟨j, rfl, hj, fr, ak⟩
  have e64' : h 64 0 = nI (nt (m 0 31)) := by rw [fr 64 (by decide)]; exact e64
  rw [e64', nI_leI (by omega) (by omega), nI_clamp (show j < 2 ^ 31 by omega)]
  refine ⟨fun c => ?_, fun c => ⟨nu_in (by omega) (by decide), ?_⟩⟩
  case refine_2 =>
    obtain ⟨q1, q2, q3, q4⟩ := ob j (by omega)
    rw [fr 66 (by decide), q1]
    refine s_askToo v (EQ.fs (fun k hk => fr k (by omega)) eq) ak (fun x hx => (noX j hj x hx).1) q2 (fun b2 f2 k2 => ?_)
    rintro w rfl
    rw [nI_add]
    refine ⟨⟨j + 1, rfl, by omega, fun k hk => (f2 k hk).trans (fr k hk), fun e he => (k2 e he).trans ⟨fun r => r.mono (fun x hx => ?_), fun r => r.mono (fun x hx => ?_)⟩⟩, by rw [nt_nI (by omega), nt_nI (by omega)]; omega⟩
    · rcases hx with ⟨k, hk, z⟩ | z
      · exact ⟨k, by omega, z⟩
      · exact ⟨j, by omega, z⟩
    · obtain ⟨k, hk, z⟩ := hx
      rcases (show k < j ∨ k = j by omega) with y | y
      · exact Or.inl ⟨k, y, z⟩
      · rw [y] at z; exact Or.inr z
  have jn : j = nt (m 0 31) := by omega
  subst jn
  refine hp_lp1h_ind (fun x h => ∃ s, x = nI s ∧ s ≤ gN (srch p) ∧ (∀ k, k ≠ 16 → k ≠ 21 → k ≠ 52 → k ≠ 67 → h k = b k) ∧ AK p h (fun x => ∃ k, k < nt (m 0 31) ∧ x = nt (m 26 k)) ∧ ∀ s', s' < s → ∀ k, k < nt (m 0 31) → h 67 (13 * s' + k) = vl p (srch p) s' (nt (m 26 k))) (fun x h => 400 - nt x) ?_ ⟨0, rfl, by omega, fun k _ k1 _ _ => fr k k1, ak, fun s' hs => by omega⟩
  clear ak fr e64' c hj
  clear h
  rintro x h ⟨s, rfl, hs, fr, ak, ky⟩
  have e35' : h 35 2 = nI (gN (srch p)) := by rw [fr 35 (by decide) (by decide) (by decide) (by decide)]; exact e35
  rw [e35', nI_leI (by omega) (by omega)]
  refine ⟨fun c => hQ h fr (fun s' h1 k h2 => ky s' (by omega) k h2), fun c => ?_⟩
  have brh : BR p h := bm.1.fr (fun k h1 h2 h3 => fr k h2 h3 (by omega) (by omega)) (fr 35 (by decide) (by decide) (by decide) (by decide)) (fr 42 (by decide) (by decide) (by decide) (by decide))
  refine s_lookAt brh ak (noX _ (Nat.le_refl _)) (by omega) (fun b2 f2 v2 => ?_)
  refine hp_lp1h_ind (fun x h => ∃ j, x = nI j ∧ j ≤ nt (m 0 31) ∧ (∀ k, k ≠ 67 → h k = b2 k) ∧ (∀ s', s' < s → ∀ k, k < nt (m 0 31) → h 67 (13 * s' + k) = vl p (srch p) s' (nt (m 26 k))) ∧ ∀ k, k < j → h 67 (13 * s + k) = vl p (srch p) s (nt (m 26 k))) (fun x h => 8 - nt x) ?_ ⟨0, rfl, by omega, fun k _ => rfl, fun s' h1 k h2 => by rw [f2 67 (by decide) (by decide)]; exact ky s' h1 k h2, fun k hk => by omega⟩
  rintro x h' ⟨j, rfl, hj, fr', ky1, ky2⟩
  have fb : ∀ k, k ≠ 16 → k ≠ 21 → k ≠ 52 → k ≠ 67 → h' k = b k := fun k h1 h2 h3 h4 => by rw [fr' k h4, f2 k h1 h3, fr k h1 h2 h3 h4]
  have e64' : h' 64 0 = nI (nt (m 0 31)) := by rw [fb 64 (by decide) (by decide) (by decide) (by decide)]; exact e64
  rw [e64', nI_leI (by omega) (by omega), nI_clamp (show j < 2 ^ 31 by omega)]
  refine ⟨fun c2 => ?_, fun c2 => ⟨nu_in (by omega) (by decide), ?_⟩⟩
  · rintro w rfl
    rw [nI_add]
    refine ⟨⟨s + 1, rfl, by omega, fb, ak.fs (by rw [fr' 21 (by decide), f2 21 (by decide) (by decide)]), fun s' h1 k h2 => ?_⟩, by rw [nt_nI (by omega), nt_nI (by omega)]; omega⟩
    rcases (show s' < s ∨ s' = s by omega) with y | y
    · exact ky1 s' y k h2
    · rw [y]; exact ky2 k (by omega)
  · obtain ⟨q1, q2, q3, q4⟩ := ob j (by omega)
    rw [fb 66 (by decide) (by decide) (by decide) (by decide), q1]
    unfold q_X5_answer
    rw [nI_clamp (show nt (m 26 j) < 2 ^ 31 by omega), fr' 16 (by decide), v2 (nt (m 26 j)) ⟨j, by omega, rfl⟩, pk_mul, nI_add, show s * 13 + j = 13 * s + j by omega, nI_clamp (show 13 * s + j < 2 ^ 31 by omega)]
    refine ⟨nu_in q4 (by decide), nu_in (by omega) (by decide), ?_⟩
    rintro h17 e17 w rfl
    rw [nI_add]
    have x67 : ∀ i, h17 67 i = if i = 13 * s + j then vl p (srch p) s (nt (m 26 j)) else h' 67 i := by intro i; rw [e17]; simp [hp_at, upd]
    refine ⟨⟨j + 1, rfl, by omega, fun k hk => by rw [e17, hp_at, if_neg hk]; exact fr' k hk, fun s' h1 k h2 => ?_, fun k hk => ?_⟩, by rw [nt_nI (by omega), nt_nI (by omega)]; omega⟩
    · rw [x67, if_neg (by omega)]; exact ky1 s' h1 k h2
    · rw [x67]
      by_cases y : k = j
      · rw [if_pos (by omega), y]
      · rw [if_neg (by omega)]; exact ky2 k (by omega)
theorem s_fillR {x n lo hi : Nat} {b : hp_H} {a : Int32} {Q : hp_H → Prop} (hn : n < 2 ^ 30) (h1 : lo ≤ hi) (h2 : hi ≤ n) (hQ : ∀ b', (∀ k, k ≠ x → b' k = b k) → (∀ i, i < lo ∨ hi ≤ i → b' x i = b x i) → (∀ i, lo ≤ i → i < hi → b' x i = a) → Q b') : q_J7_fill_fda19 x n b (nI lo) (nI hi) a Q := by
  unfold q_J7_fill_fda19 q_J7_rangeCheck_23922
  rw [nI_leI (by omega) (by omega), nI_leI (show hi < 2 ^ 31 by omega) (by omega)]
  refine ⟨fun _ => ⟨fun _ => ⟨fun _ => ?_, fun z => absurd h2 z⟩, fun z => absurd (nI_pos' (by omega)) z⟩, fun z => absurd h1 z⟩
  refine hp_lp1h_ind (fun v h => ∃ j, v = nI j ∧ lo ≤ j ∧ j ≤ hi ∧ (∀ k, k ≠ x → h k = b k) ∧ (∀ i, i < lo ∨ hi ≤ i → h x i = b x i) ∧ ∀ i, lo ≤ i → i < j → h x i = a) (fun v h => hi - nt v) ?_ ⟨lo, rfl, Nat.le_refl _, h1, fun k _ => rfl, fun i _ => rfl, fun i k1 k2 => by omega⟩
  rintro v h ⟨j, rfl, j1, j2, fr, f2, f3⟩
  rw [nI_leI (by omega) (by omega), nI_clamp (show j < 2 ^ 31 by omega)]
  refine ⟨fun c => hQ h fr f2 (fun i k1 k2 => f3 i k1 (by omega)), fun c => ⟨nu_in (by omega) (by omega), ?_⟩⟩
  rintro h5 e5 w rfl
  rw [nI_add]
  have xx : ∀ i, h5 x i = if i = j then a else h x i := by intro i; rw [e5]; simp [hp_at, upd]
  refine ⟨⟨j + 1, rfl, by omega, by omega, fun k hk => by rw [e5, hp_at, if_neg hk]; exact fr k hk, fun i hi' => ?_, fun i k1 k2 => ?_⟩, by rw [nt_nI (by omega), nt_nI (by omega)]; omega⟩
  · rw [xx, if_neg (by omega)]; exact f2 i hi'
  · rw [xx]
    by_cases y : i = j
    · rw [if_pos y]
    · rw [if_neg y]; exact f3 i k1 (by omega)
/-- to which parts a state leads, up to some move -/
def lds (g : hp_H) (c : Nat → Nat) (s k x : Nat) : Prop := ∃ i, nt (g 31 s) ≤ i ∧ i < k ∧ c (nt (g 32 i)) = x
theorem s_keyByMoves {p b : hp_H} {c : Nat → Nat} {P P' n kw : Nat} {Q : hp_H → Prop} (bm : BM p b) (pw : PW P P') (eP : 65 + (b hp_V 0).toNatClampNeg = P) (hc : ∀ s, s < gN (srch p) → b P s = nI (c s) ∧ c s < n) (hn : n ≤ 32 * kw) (hk : kw ≤ 13)
    (hQ : ∀ b', (∀ k, k ≠ 67 → b' k = b k) → (∀ s, s < gN (srch p) → ∀ w j, w < kw → j < 32 → (bt (b' 67 (13 * s + w)) j ↔ lds (srch p) c s (nt (srch p 31 (s + 1))) (32 * w + j))) → Q b') : q_X0_keyByMoves b (nI kw) Q := by
  obtain ⟨⟨v, eq, n4, e35, -⟩, fs, f36, f37⟩ := bm
  obtain ⟨o1, o2, o3⟩ := pw.o
  have P67 : P ≠ 67 := by omega
  unfold q_X0_keyByMoves
  refine hp_lp1h_ind (fun x h => ∃ s, x = nI s ∧ s ≤ gN (srch p) ∧ (∀ k, k ≠ 67 → h k = b k) ∧ ∀ s', s' < s → ∀ w j, w < kw → j < 32 → (bt (h 67 (13 * s' + w)) j ↔ lds (srch p) c s' (nt (srch p 31 (s' + 1))) (32 * w + j))) (fun x h => 400 - nt x) ?_ ⟨0, rfl, by omega, fun k _ => rfl, fun s' hs => by omega⟩
  rintro x h ⟨s, rfl, hs, fr, ky⟩
  have e35' : h 35 2 = nI (gN (srch p)) := by rw [fr 35 (by decide)]; exact e35
  rw [e35', nI_leI (by omega) (by omega)]
  refine ⟨fun c => hQ h fr (fun s' h1 => ky s' (by omega)), fun c4 => ?_⟩
  have sN : s < gN (srch p) := by omega
  obtain ⟨l1, l2, l3, l4, l5⟩ := fs.r sN
  rintro v5 rfl
  rw [pk_mul, nI_add, show s * 13 = 13 * s by omega]
  refine s_fillR (by decide) (by omega) (by omega) (fun h6 f6 g6 z6 => ⟨nu_in (by omega) (by decide), ?_⟩)
  rintro v7 rfl
  rw [nI_clamp (show s < 2 ^ 31 by omega), f6 36 (by decide), fr 36 (by decide), f36 s (by omega)]
  refine hp_lp1h_ind (fun x h => ∃ k, x = nI k ∧ nt (srch p 31 s) ≤ k ∧ k ≤ nt (srch p 31 (s + 1)) ∧ (∀ k, k ≠ 67 → h k = b k) ∧ (∀ s', s' < s → ∀ w j, w < kw → j < 32 → (bt (h 67 (13 * s' + w)) j ↔ lds (srch p) c s' (nt (srch p 31 (s' + 1))) (32 * w + j))) ∧ ∀ w j, w < kw → j < 32 → (bt (h 67 (13 * s + w)) j ↔ lds (srch p) c s k (32 * w + j))) (fun x h => 6000 - nt x) ?_ ⟨nt (srch p 31 s), l1, Nat.le_refl _, l3, fun k hk => (f6 k hk).trans (fr k hk), fun s' h1 w j h2 h3 => ?_, fun w j h2 h3 => ?_⟩
  case refine_2 => rw [g6 _ (by omega)]; exact ky s' h1 w j h2 h3
  case refine_3 =>
    rw [z6 _ (by omega) (by omega)]
    exact ⟨fun z => absurd z bt_0, fun ⟨i, i1, i2, _⟩ => by omega⟩
  clear z6 g6 f6 ky fr e35'
  clear h h6
  rintro x h ⟨k, rfl, k1, k2, fr, ky1, ky2⟩
  rw [nI_add, nI_clamp (show s + 1 < 2 ^ 31 by omega), fr 36 (by decide), f36 (s + 1) (by omega)]
  have el : (srch p 31 (s + 1) ≤ nI k) ↔ nt (srch p 31 (s + 1)) ≤ k := isn_leR (b := 6000) ⟨l2, by omega⟩ (by decide) (by omega)
  rw [el]
  refine ⟨nu_in (by omega) (by decide), fun c5 => ?_, fun c5 => ?_⟩
  · rintro w rfl
    have kn : k = nt (srch p 31 (s + 1)) := by omega
    subst kn
    refine ⟨⟨s + 1, rfl, by omega, fr, fun s' h1 => ?_⟩, by rw [nt_nI (by omega), nt_nI (by omega)]; omega⟩
    rcases (show s' < s ∨ s' = s by omega) with y | y
    · exact ky1 s' y
    · rw [y]; exact ky2
  · rintro w13 rfl
    obtain ⟨mv1, mv2, -⟩ := fs.1.2.2.2.2 k (by omega)
    have mv3 := mv1.2
    rw [fr hp_V (by decide), eP]
    refine ⟨o1, nu_in (by omega) (by decide), ?_⟩
    rw [nI_clamp (show k < 2 ^ 31 by omega), fr 37 (by decide), (f37 k (by omega)).1, mv1.1, nI_clamp (show nt (srch p 32 k) < 2 ^ 31 by omega), fr P P67, (hc _ mv2).1]
    have cl := (hc _ mv2).2
    refine ⟨nu_in (by omega) (by decide), ?_⟩
    rintro v14 rfl
    generalize eC : c (nt (srch p 32 k)) = C at cl
    rw [nu_div (show C < 2 ^ 31 by omega) (by decide) (by decide), nu_rem (show C < 2 ^ 31 by omega) (by decide) (by decide), nI_add, nI_clamp (show 13 * s + C / 32 < 2 ^ 31 by omega)]
    refine ⟨nu_in (by omega) (by decide), nu_in (by omega) (by decide), ?_⟩
    rintro h15 e15 w rfl
    rw [nI_add]
    have x67 : ∀ i, h15 67 i = if i = 13 * s + C / 32 then h 67 (13 * s + C / 32) ||| hp_shl (nI 1) (nI (C % 32)) else h 67 i := by intro i; rw [e15]; simp [hp_at, upd]
    refine ⟨⟨k + 1, rfl, by omega, by omega, fun i hi => by rw [e15, hp_at, if_neg hi]; exact fr i hi, fun s' h1 w j h2 h3 => ?_, fun w j h2 h3 => ?_⟩, by rw [nt_nI (by omega), nt_nI (by omega)]; omega⟩
    · rw [x67, if_neg (by omega)]; exact ky1 s' h1 w j h2 h3
    · rw [x67]
      have step : lds (srch p) c s (k + 1) (32 * w + j) ↔ lds (srch p) c s k (32 * w + j) ∨ C = 32 * w + j := by
        constructor
        · rintro ⟨i, i1, i2, i3⟩
          rcases (show i < k ∨ i = k by omega) with y | y
          · exact Or.inl ⟨i, i1, y, i3⟩
          · rw [y, eC] at i3; exact Or.inr i3
        · rintro (⟨i, i1, i2, i3⟩ | y)
          · exact ⟨i, i1, by omega, i3⟩
          · exact ⟨k, k1, by omega, by rw [eC]; exact y⟩
      rw [step]
      by_cases y : w = C / 32
      · subst y
        rw [if_pos rfl, bt_o, ky2 _ j h2 h3, bt_1 (by omega) h3]
        constructor
        · rintro (z | z)
          · exact Or.inl z
          · exact Or.inr (by omega)
        · rintro (z | z)
          · exact Or.inl z
          · exact Or.inr (by omega)
      · rw [if_neg (by omega), ky2 w j h2 h3]
        constructor
        · exact Or.inl
        · rintro (z | z)
          · exact z
          · omega
