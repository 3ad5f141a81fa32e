/-! ===== the class closes a set ===== -/
theorem bt_n {x : Int32} {j : Nat} (hj : j < 32) : bt (x ^^^ (-1)) j ↔ ¬ bt x j := by
  unfold bt
  have e : (-1 : Int32).toBitVec = BitVec.allOnes 32 := by decide
  rw [Int32.toBitVec_xor, BitVec.getLsbD_xor, e, BitVec.getLsbD_allOnes]
  simp [hj]
theorem bt_p {a j : Nat} (ha : a < 32) (hj : j < 32) : bt (nI (2 ^ a)) j ↔ j = a := by
  have := nu_shl (n := 1) (k := a) ha (by rw [Nat.one_mul]; exact Nat.pow_lt_pow_right (by decide) (by omega))
  rw [Nat.one_mul] at this
  rw [← this]; exact bt_1 ha hj
theorem ev_b' : ∀ r, r < 3 → ∀ m, m < 4 → ∀ j, j < 32 → (hp_shl ((hp_shl (nI 1) (nI m)) - (nI 1)) (nI (r * 3))).toBitVec.getLsbD j = decide (3 * r ≤ j ∧ j < 3 * r + m) := by decide +kernel
def EVB (p : hp_H) (ev : Int32) : Prop := ∀ j, j < 32 → (bt ev j ↔ ∃ r i, r < nt (p 0 4) ∧ i < nt (p 4 r) ∧ j = 3 * r + i)
theorem s_everyone {p b : hp_H} {Q : Int32 → Prop} (v : VP p) (eq : EQ b p) (hQ : ∀ ev, EVB p ev → Q ev) : q_X6_everyoneBits b Q := by
  have vr := v.2.1
  have R3 := vr.1.2
  have e12 : b 12 1 = nI (nt (p 0 4)) := by rw [eq.2.1.2.1]; exact vr.1.1
  unfold q_X6_everyoneBits
  refine hp_lp2_ind (fun x y => ∃ n, y = nI n ∧ n ≤ nt (p 0 4) ∧ ∀ j, j < 32 → (bt x j ↔ ∃ r i, r < n ∧ i < nt (p 4 r) ∧ j = 3 * r + i)) (fun x y => 3 - nt y) ?_ ⟨0, rfl, by omega, fun j hj => ⟨fun z => absurd z bt_0, fun ⟨r, i, h, _⟩ => by omega⟩⟩
  rintro x y ⟨n, rfl, hn, hb⟩
  rw [e12, nI_leI (by omega) (by omega)]
  refine ⟨fun c => hQ x (fun j hj => by rw [hb j hj, show n = nt (p 0 4) by omega]), fun c => ⟨nu_in (by omega) (by decide), ?_⟩⟩
  have m4 := (vr.2.2.1 n (by omega)).1
  have m42 := m4.2
  have e13 : b 13 n = nI (nt (p 4 n)) := by rw [eq.1.2.2.2.1]; exact m4.1
  rintro v5 rfl v6 rfl
  rw [nI_clamp (show n < 2 ^ 31 by omega), e13, pk_mul, nI_add]
  refine ⟨⟨n + 1, rfl, by omega, fun j hj => ?_⟩, by rw [nt_nI (by omega), nt_nI (by omega)]; omega⟩
  rw [bt_o, hb j hj]
  have eb : bt (hp_shl ((hp_shl (nI 1) (nI (nt (p 4 n)))) - (nI 1)) (nI (n * 3))) j ↔ 3 * n ≤ j ∧ j < 3 * n + nt (p 4 n) := by
    unfold bt
    rw [ev_b' n (by omega) (nt (p 4 n)) (by omega) j hj, decide_eq_true_eq]
  rw [eb]
  constructor
  · rintro (⟨r, i, h1, h2, h3⟩ | ⟨h1, h2⟩)
    · exact ⟨r, i, by omega, h2, h3⟩
    · exact ⟨n, j - 3 * n, by omega, by omega, by omega⟩
  · rintro ⟨r, i, h1, h2, h3⟩
    rcases (show r < n ∨ r = n by omega) with z | z
    · exact Or.inl ⟨r, i, z, h2, h3⟩
    · subst z; exact Or.inr ⟨by omega, by omega⟩
/-- the member that moves, as a bit -/
def mvB (g : hp_H) (k j : Nat) : Prop := ∃ r i, r < 3 ∧ i < 3 ∧ g 33 k = nI r ∧ g 34 k = nI i ∧ j = 3 * r + i
theorem mvB_e {g : hp_H} {k r i : Nat} (h1 : g 33 k = nI r) (h2 : g 34 k = nI i) (hr : r < 3) (hi : i < 3) (j : Nat) : mvB g k j ↔ j = 3 * r + i := by
  refine ⟨fun ⟨r', i', a, b, c, d, e⟩ => ?_, fun e => ⟨r, i, hr, hi, h1, h2, e⟩⟩
  have q1 : r = r' := (nI_eq (by omega) (by omega)).mp (h1.symm.trans c)
  have q2 : i = i' := (nI_eq (by omega) (by omega)).mp (h2.symm.trans d)
  omega
theorem mvB_n {g : hp_H} {k : Nat} (h : g 33 k = -1) (j : Nat) : ¬ mvB g k j := by
  rintro ⟨r, i, a, b, c, d, e⟩
  rw [h] at c
  exact (nu_m1 (show r < 2 ^ 31 by omega)).mp c.symm
theorem s_weigh {p b h : hp_H} {W : Nat → Prop} {ev : Int32} {u x : Nat} {Q : Int32 → hp_H → Prop} (bm : BM p b) (fr0 : ∀ k, k ≠ 53 → (k < 56 ∨ 63 < k) → h k = b k) (hu : u < gN (srch p)) (hx : x < gN (srch p)) (cb : ∀ t, t < gN (srch p) → (h 61 t = nI x ↔ SC (srch p) W x t)) (e16 : h 53 16 = ev)
    (hQ : ∀ y h', (∀ k, k ≠ 53 → h' k = h k) → (∀ j, j ≠ 17 → j ≠ 18 → h' 53 j = h 53 j) → ((y = nI 1 ∧ ∃ k, nt (srch p 31 u) ≤ k ∧ k < nt (srch p 31 (u + 1)) ∧ ¬ SC (srch p) W x (nt (srch p 32 k)) ∧ ¬ h 57 (nt (srch p 32 k)) = 0) ∨ (y = nI 0 ∧ ¬ ∃ k, nt (srch p 31 u) ≤ k ∧ k < nt (srch p 31 (u + 1)) ∧ ¬ SC (srch p) W x (nt (srch p 32 k)) ∧ ¬ h 57 (nt (srch p 32 k)) = 0)) →
      (∀ j, j < 32 → (bt (h' 53 17) j ↔ bt (h 53 17) j ∨ ∃ k, nt (srch p 31 u) ≤ k ∧ k < nt (srch p 31 (u + 1)) ∧ mvB (srch p) k j ∧ SC (srch p) W x (nt (srch p 32 k)))) → (∀ j, j < 32 → (bt (h' 53 18) j ↔ bt (h 53 18) j ∨ (bt ev j ∧ ¬ ∃ k, nt (srch p 31 u) ≤ k ∧ k < nt (srch p 31 (u + 1)) ∧ mvB (srch p) k j))) → Q y h') : q_X3_weigh h (nI u) (nI x) Q := by
  obtain ⟨⟨v, eq, n4, e35, -⟩, fs, f36, f37⟩ := bm
  obtain ⟨l1, l2, l3, l4, l5⟩ := fs.r hu
  unfold q_X3_weigh
  refine ⟨nu_in (by omega) (by decide), ?_⟩
  rintro v1 rfl
  rw [nI_clamp (show u < 2 ^ 31 by omega), fr0 36 (by decide) (by decide), f36 u (by omega)]
  refine hp_lp3h_ind (fun a y z h' => ∃ k, z = nI k ∧ nt (srch p 31 u) ≤ k ∧ k ≤ nt (srch p 31 (u + 1)) ∧ (∀ k, k ≠ 53 → h' k = h k) ∧ (∀ j, j ≠ 17 → h' 53 j = h 53 j) ∧ (∀ j, j < 32 → (bt a j ↔ ∃ k', nt (srch p 31 u) ≤ k' ∧ k' < k ∧ mvB (srch p) k' j)) ∧ ((y = nI 1 ∧ ∃ k', nt (srch p 31 u) ≤ k' ∧ k' < k ∧ ¬ SC (srch p) W x (nt (srch p 32 k')) ∧ ¬ h 57 (nt (srch p 32 k')) = 0) ∨ (y = nI 0 ∧ ¬ ∃ k', nt (srch p 31 u) ≤ k' ∧ k' < k ∧ ¬ SC (srch p) W x (nt (srch p 32 k')) ∧ ¬ h 57 (nt (srch p 32 k')) = 0)) ∧
      (∀ j, j < 32 → (bt (h' 53 17) j ↔ bt (h 53 17) j ∨ ∃ k', nt (srch p 31 u) ≤ k' ∧ k' < k ∧ mvB (srch p) k' j ∧ SC (srch p) W x (nt (srch p 32 k'))))) (fun a y z h' => 6000 - nt z) ?_ ⟨nt (srch p 31 u), l1, Nat.le_refl _, l3, fun _ _ => rfl, fun _ _ => rfl, fun j hj => ⟨fun z => absurd z bt_0, fun ⟨k', q1, q2, _⟩ => by omega⟩, Or.inr ⟨rfl, fun ⟨k', q1, q2, _⟩ => by omega⟩, fun j hj => ⟨Or.inl, fun z => z.elim id (fun ⟨k', q1, q2, _⟩ => by omega)⟩⟩
  rintro a y z h' ⟨k, rfl, k1, k2, fr', f53, ab, hy, mb⟩
  rw [nI_add, nI_clamp (show u + 1 < 2 ^ 31 by omega), fr' 36 (by decide), fr0 36 (by decide) (by decide), f36 (u + 1) (by omega)]
  have el : (srch p 31 (u + 1) ≤ nI k) ↔ nt (srch p 31 (u + 1)) ≤ k := isn_leR (b := 6000) ⟨l2, by omega⟩ (by decide) (by omega)
  rw [el]
  refine ⟨nu_in (by omega) (by decide), fun c => ?_, fun c => ?_⟩
  · intro h8 e8
    have kn : k = nt (srch p 31 (u + 1)) := by omega
    subst kn
    have x53 : ∀ j, h8 53 j = if j = 18 then (h' 53 18 ||| (h' 53 16 &&& (a ^^^ (-1)))) else h' 53 j := by intro j; rw [e8]; simp [hp_at, upd]
    refine ⟨?_, hQ y h8 (fun k hk => by rw [e8, hp_at, if_neg hk]; exact fr' k hk) (fun j j1 j2 => by rw [x53, if_neg j2]; exact f53 j j1) hy (fun j hj => by rw [x53, if_neg (by decide)]; exact mb j hj) (fun j hj => ?_)⟩
    · rcases hy with ⟨q, _⟩ | ⟨q, _⟩ <;> rw [q]
      · exact bz1
      · exact bz0
    · rw [x53, if_pos rfl, bt_o, bt_a, bt_n hj, ab j hj, f53 18 (by decide), f53 16 (by decide), e16]
  · obtain ⟨mv1, mv2, mv3⟩ := fs.1.2.2.2.2 k (by omega)
    have mv4 := mv1.2
    have e41 : h' 41 k = mvc (srch p 33 k) (srch p 34 k) (srch p 35 k) := by rw [fr' 41 (by decide), fr0 41 (by decide) (by decide)]; exact (f37 k (by omega)).2
    -- what a bit does
    have go : ∀ r9 : Int32, (∀ j, j < 32 → (bt r9 j ↔ mvB (srch p) k j)) → vp_in (nI k) 6000 ∧ ∀ v10 : Int32, v10 = h' 37 (nI k).toNatClampNeg → ∀ v11 : Int32, v11 = (a ||| r9) → vp_in v10 400 ∧ hp_jn1h (fun K13 => ((h' 61 v10.toNatClampNeg) = nI x → ∀ h17 : hp_H, h17 = hp_up h' 53 17 ((h' 53 17) ||| r9) → K13 y h17) ∧ (¬ (h' 61 v10.toNatClampNeg) = nI x → vp_in v10 400 ∧ ((h' 57 v10.toNatClampNeg) = 0 → K13 y h') ∧ (¬ (h' 57 v10.toNatClampNeg) = 0 → K13 (nI 1) h'))) (fun v14 h15 => ∀ v18 : Int32, v18 = nI k + (nI 1) → (∃ k, v18 = nI k ∧ nt (srch p 31 u) ≤ k ∧ k ≤ nt (srch p 31 (u + 1)) ∧ (∀ k, k ≠ 53 → h15 k = h k) ∧ (∀ j, j ≠ 17 → h15 53 j = h 53 j) ∧ (∀ j, j < 32 → (bt v11 j ↔ ∃ k', nt (srch p 31 u) ≤ k' ∧ k' < k ∧ mvB (srch p) k' j)) ∧ ((v14 = nI 1 ∧ ∃ k', nt (srch p 31 u) ≤ k' ∧ k' < k ∧ ¬ SC (srch p) W x (nt (srch p 32 k')) ∧ ¬ h 57 (nt (srch p 32 k')) = 0) ∨ (v14 = nI 0 ∧ ¬ ∃ k', nt (srch p 31 u) ≤ k' ∧ k' < k ∧ ¬ SC (srch p) W x (nt (srch p 32 k')) ∧ ¬ h 57 (nt (srch p 32 k')) = 0)) ∧ (∀ j, j < 32 → (bt (h15 53 17) j ↔ bt (h 53 17) j ∨ ∃ k', nt (srch p 31 u) ≤ k' ∧ k' < k ∧ mvB (srch p) k' j ∧ SC (srch p) W x (nt (srch p 32 k'))))) ∧ 6000 - nt v18 < 6000 - nt (nI k)) := by
      intro r9 hr9
      refine ⟨nu_in (by omega) (by decide), ?_⟩
      rintro v10 rfl v11 rfl
      rw [nI_clamp (show k < 2 ^ 31 by omega), fr' 37 (by decide), fr0 37 (by decide) (by decide), (f37 k (by omega)).1, mv1.1]
      have it : vp_in (nI (nt (srch p 32 k))) 400 := nu_in (by omega) (by decide)
      rw [nI_clamp (show nt (srch p 32 k) < 2 ^ 31 by omega), fr' 61 (by decide), fr' 57 (by decide), cb _ mv2]
      have abn : ∀ j, j < 32 → (bt (a ||| r9) j ↔ ∃ k', nt (srch p 31 u) ≤ k' ∧ k' < k + 1 ∧ mvB (srch p) k' j) := by
        intro j hj
        rw [bt_o, ab j hj, hr9 j hj]
        constructor
        · rintro (⟨k', q1, q2, q3⟩ | q)
          · exact ⟨k', q1, by omega, q3⟩
          · exact ⟨k, k1, by omega, q⟩
        · rintro ⟨k', q1, q2, q3⟩
          rcases (show k' < k ∨ k' = k by omega) with w | w
          · exact Or.inl ⟨k', q1, w, q3⟩
          · subst w; exact Or.inr q3
      have meas : 6000 - nt (nI (k + 1)) < 6000 - nt (nI k) := by rw [nt_nI (by omega), nt_nI (by omega)]; omega
      have same : SC (srch p) W x (nt (srch p 32 k)) ∨ h 57 (nt (srch p 32 k)) = 0 → ((y = nI 1 ∧ ∃ k', nt (srch p 31 u) ≤ k' ∧ k' < k + 1 ∧ ¬ SC (srch p) W x (nt (srch p 32 k')) ∧ ¬ h 57 (nt (srch p 32 k')) = 0) ∨ (y = nI 0 ∧ ¬ ∃ k', nt (srch p 31 u) ≤ k' ∧ k' < k + 1 ∧ ¬ SC (srch p) W x (nt (srch p 32 k')) ∧ ¬ h 57 (nt (srch p 32 k')) = 0)) := by
        intro cc
        rcases hy with ⟨q, k', w1, w2, w3⟩ | ⟨q, w⟩
        · exact Or.inl ⟨q, k', w1, by omega, w3⟩
        · refine Or.inr ⟨q, fun ⟨k', w1, w2, w3, w4⟩ => ?_⟩
          rcases (show k' < k ∨ k' = k by omega) with ww | ww
          · exact w ⟨k', w1, ww, w3, w4⟩
          · rw [ww] at w3 w4; exact cc.elim w3 w4
      refine ⟨it, hp_jn1h_i ⟨fun c2 => ?_, fun c2 => ⟨it, fun c3 => ?_, fun c3 => ?_⟩⟩⟩
      · rintro h17 e17 w rfl
        rw [nI_add]
        have x53 : ∀ j, h17 53 j = if j = 17 then (h' 53 17 ||| r9) else h' 53 j := by intro j; rw [e17]; simp [hp_at, upd]
        refine ⟨⟨k + 1, rfl, by omega, by omega, fun k hk => by rw [e17, hp_at, if_neg hk]; exact fr' k hk, fun j hj => by rw [x53, if_neg hj]; exact f53 j hj, abn, same (Or.inl c2), fun j hj => ?_⟩, meas⟩
        rw [x53, if_pos rfl, bt_o, mb j hj, hr9 j hj]
        constructor
        · rintro ((q | ⟨k', q1, q2, q3⟩) | q)
          · exact Or.inl q
          · exact Or.inr ⟨k', q1, by omega, q3⟩
          · exact Or.inr ⟨k, k1, by omega, q, c2⟩
        · rintro (q | ⟨k', q1, q2, q3, q4⟩)
          · exact Or.inl (Or.inl q)
          · rcases (show k' < k ∨ k' = k by omega) with w | w
            · exact Or.inl (Or.inr ⟨k', q1, w, q3, q4⟩)
            · subst w; exact Or.inr q3
      all_goals
        rintro w rfl
        rw [nI_add]
        refine ⟨⟨k + 1, rfl, by omega, by omega, fr', f53, abn, ?_, fun j hj => ?_⟩, meas⟩
      · exact same (Or.inr c3)
      · rw [mb j hj]
        refine ⟨fun q => q.elim Or.inl (fun ⟨k', q1, q2, q3⟩ => Or.inr ⟨k', q1, by omega, q3⟩), fun q => q.elim Or.inl (fun ⟨k', q1, q2, q3, q4⟩ => ?_)⟩
        rcases (show k' < k ∨ k' = k by omega) with w | w
        · exact Or.inr ⟨k', q1, w, q3, q4⟩
        · rw [w] at q4; exact absurd q4 c2
      · exact Or.inl ⟨rfl, k, k1, by omega, c2, c3⟩
      · rw [mb j hj]
        refine ⟨fun q => q.elim Or.inl (fun ⟨k', q1, q2, q3⟩ => Or.inr ⟨k', q1, by omega, q3⟩), fun q => q.elim Or.inl (fun ⟨k', q1, q2, q3, q4⟩ => ?_)⟩
        rcases (show k' < k ∨ k' = k by omega) with w | w
        · exact Or.inr ⟨k', q1, w, q3, q4⟩
        · rw [w] at q4; exact absurd q4 c2
    refine s_moverBit v mv3 e41 (by omega) (fun q => go _ (fun j hj => ⟨fun w => absurd w bt_0, fun w => absurd w (mvB_n q j)⟩)) (fun r i _ _ r3 i3 q1 q2 => go _ (fun j hj => ?_))
    rw [bt_p (by omega) hj, mvB_e q1 q2 r3 i3 j]
