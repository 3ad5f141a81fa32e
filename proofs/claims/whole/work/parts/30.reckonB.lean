/-! ===== the class reckons expressions ===== -/
theorem s_howManyAt {w : Nat} {h : hp_H} {d : Nat → Nat} {r n pl : Nat} {Q : Int32 → Prop} (hd : rw_D d) (hr : rw_B h w d) (h1 : r < 3) (hn : n ≤ 3) (hpl : pl ≤ 9) (hq : Q (nI (hm d r pl n))) : q_X7_howManyAt w h (nI r) (nI n) (nI pl) Q := by
  unfold q_X7_howManyAt
  rintro v1 rfl
  rw [pk_mul, nI_add, nI_add]
  have hml : ∀ j, hm d r pl j ≤ j := by
    intro j
    induction j with
    | zero => exact Nat.le_refl _
    | succ j ih => show hm d r pl j + _ ≤ j + 1; split <;> omega
  refine hp_lp2_ind (fun x v => ∃ j, v = nI (1 + r * 3 + j) ∧ j ≤ n ∧ x = nI (hm d r pl j)) (fun x v => 20 - nt v) ?_ ⟨0, rfl, by omega, rfl⟩
  rintro x v ⟨j, rfl, hj, rfl⟩
  rw [nI_leI (by omega) (by omega), nI_clamp (show 1 + r * 3 + j < 2 ^ 31 by omega)]
  refine ⟨fun c => ?_, fun c => ⟨nu_in (by omega) (by decide), ?_⟩⟩
  · rw [show j = n by omega]; exact hq
  · have pj : hp_ushr (h w (1 + r * 3 + j)) (nI 12) = nI (d (6 + 4 * (3 * r + j))) := by
      rw [show 1 + r * 3 + j = 1 + (3 * r + j) by omega, hr _ (by omega)]
      exact rw_place hd (by omega)
    have := hd (6 + 4 * (3 * r + j))
    rw [pj, nI_eq (by omega) (by omega)]
    have hl := hml j
    refine ⟨fun v8 => v8 = nI (hm d r pl (j + 1)), ⟨fun c2 => ?_, fun c2 => ?_⟩, ?_⟩
    · rintro v9 rfl
      show _ = nI (hm d r pl j + _)
      rw [if_pos c2, nI_add]
    · show _ = nI (hm d r pl j + _)
      rw [if_neg c2]; rfl
    · rintro v8 rfl v10 rfl
      rw [nI_add]
      exact ⟨⟨j + 1, by congr 1, by omega, rfl⟩, by rw [nt_nI (by omega), nt_nI (by omega)]; omega⟩
section
variable {p : hp_H} {d : Nat → Nat} {ro me : Int32} {t : Nat → Int32} {e : Nat}
theorem ev1_0 (c : nt (p 13 e) = 0) : ev1 p d ro me t e = p 14 e := by unfold ev1; rw [c]; rfl
theorem ev1_1 (c : nt (p 13 e) = 1) : ev1 p d ro me t e = nI (d (nt (p 14 e))) := by unfold ev1; rw [c]; rfl
theorem ev1_2 (c : nt (p 13 e) = 2) : ev1 p d ro me t e = cif (ro = -1 ∨ ¬ p 14 e < p 5 (nt ro)) (nI 0) (nI (d (7 + 4 * (3 * nt ro + nt me) + nt (p 14 e)))) := by unfold ev1; rw [c]; rfl
theorem ev1_3 (c : nt (p 13 e) = 3) : ev1 p d ro me t e = cif (ro = -1) (nI 0) me := by unfold ev1; rw [c]; rfl
theorem ev1_4 (c : nt (p 13 e) = 4) : ev1 p d ro me t e = nI (hm d (nt (p 14 e)) (nt (p 15 e)) (nt (p 4 (nt (p 14 e))))) := by unfold ev1; rw [c]; rfl
theorem ev1_5 (c : nt (p 13 e) = 5) : ev1 p d ro me t e = nI (d (42 + 4 * nt (p 14 e))) := by unfold ev1; rw [c]; rfl
theorem ev1_6 (c : nt (p 13 e) = 6) : ev1 p d ro me t e = nI (d (7 + 4 * (3 * nt (p 14 e) + nt (p 15 e)) + nt (p 16 e))) := by unfold ev1; rw [c]; rfl
theorem ev1_7 (c : nt (p 13 e) = 7) : ev1 p d ro me t e = t (nt (p 14 e)) + t (nt (p 15 e)) := by unfold ev1; rw [c]; rfl
theorem ev1_8 (c : nt (p 13 e) = 8) : ev1 p d ro me t e = t (nt (p 14 e)) - t (nt (p 15 e)) := by unfold ev1; rw [c]; rfl
theorem ev1_9 (c : nt (p 13 e) = 9) : ev1 p d ro me t e = t (nt (p 14 e)) * t (nt (p 15 e)) := by unfold ev1; rw [c]; rfl
theorem ev1_10 (c : nt (p 13 e) = 10) : ev1 p d ro me t e = bi (t (nt (p 14 e)) = t (nt (p 15 e))) := by unfold ev1; rw [c]; rfl
theorem ev1_11 (c : nt (p 13 e) = 11) : ev1 p d ro me t e = bi (¬ t (nt (p 15 e)) ≤ t (nt (p 14 e))) := by unfold ev1; rw [c]; rfl
theorem ev1_12 (c : nt (p 13 e) = 12) : ev1 p d ro me t e = bi (¬ t (nt (p 14 e)) = 0 ∧ ¬ t (nt (p 15 e)) = 0) := by unfold ev1; rw [c]; rfl
theorem ev1_13 (c : nt (p 13 e) = 13) : ev1 p d ro me t e = bi (¬ (t (nt (p 14 e)) = 0 ∧ t (nt (p 15 e)) = 0)) := by unfold ev1; rw [c]; rfl
theorem ev1_14 (c : nt (p 13 e) = 14) : ev1 p d ro me t e = bi (t (nt (p 14 e)) = 0) := by unfold ev1; rw [c]; rfl
end
/-- what the class must know of an expression's own parts -/
def OK2 (p : hp_H) (ro me a2 a3 : Int32) (e : Nat) : Prop := (nt (p 13 e) = 2 → a2 = ro ∧ a3 = me ∧ ∃ r m, r < 3 ∧ m < 3 ∧ ro = nI r ∧ me = nI m ∧ nt (p 14 e) < nt (p 5 r)) ∧ (nt (p 13 e) = 3 → a3 = me ∧ ¬ ro = -1)
set_option maxHeartbeats 1000000 in
theorem s_ofRow {p b : hp_H} {w e : Nat} {d : Nat → Nat} {ro me a2 a3 : Int32} {t : Nat → Int32} {Q : Int32 → Prop} (v : VP p) (ep : EQp b p) (hd : rw_D d) (hr : rw_B b w d) (he : e < nt (p 0 15)) (k6 : nt (p 13 e) < 7) (ok : OK2 p ro me a2 a3 e) (hq : Q (ev1 p d ro me t e)) : q_X1_ofRow w b (nI e) a2 a3 Q := by
  obtain ⟨vs, vr, vc, vx, vt, v30⟩ := v
  obtain ⟨e4, e5, e6, e13, e8, e9, e10, e11, e32, e33, e34, e17, e18, e19, e20, e22, e24, e25, e26, e27, e28, e29, e30, e31⟩ := ep
  have e80 : e < 80 := by have := vx.1.2; omega
  obtain ⟨x1, x2, x3, x4, x5, x6, x7, x8, x9, x10⟩ := vx.2 e he
  have i80 : vp_in (nI e) 80 := nu_in e80 (by decide)
  unfold q_X1_ofRow
  refine ⟨i80, ?_⟩
  rw [nI_clamp (show e < 2 ^ 31 by omega), e17, e18, e19, e20, e13]
  rintro v1 rfl
  have kk : ∀ j, j < 15 → (p 13 e = nI j ↔ nt (p 13 e) = j) := by
    intro j hj
    constructor
    · intro z; rw [z]; exact nt_nI (by omega)
    · intro z; rw [x1.1, z]
  rw [kk 0 (by decide), kk 1 (by decide), kk 2 (by decide), kk 3 (by decide), kk 4 (by decide), kk 5 (by decide)]
  refine ⟨fun c => ⟨i80, ?_⟩, fun c => ⟨i80, ?_⟩, fun c => ⟨i80, ?_⟩, fun c => ?_, fun c => ⟨i80, i80, ?_, i80, ?_⟩, fun c => ⟨i80, ?_⟩, fun c => ⟨i80, i80, i80, ?_⟩⟩
  · rw [ev1_0 c] at hq; exact hq
  · obtain ⟨y1, y2⟩ := x3 c
    rw [ev1_1 c] at hq
    rw [y1.1]
    exact s_sharedValue hd hr (by have := y1.2; omega) hq
  · obtain ⟨o1, o2, r, m, hr3, hm3, o3, o4, o5⟩ := ok.1 c
    have y1 := x4 c
    rw [ev1_2 c] at hq
    have q5 := vr.2.1 r hr3
    rw [o3, o4, nt_nI (by omega), nt_nI (by omega), cif_f (by
      rintro (z | z)
      · exact (nu_m1 (by omega)).mp z
      · refine z ?_
        have := y1.2; have := q5.2
        rw [y1.1, q5.1, nI_ltI (by omega) (by omega)]; exact o5)] at hq
    rw [o1, o2, o3, o4, y1.1]
    have y12 := y1.2
    exact s_ownValue hd hr hr3 hm3 (by omega) hq
  · obtain ⟨o1, o2⟩ := ok.2 c
    rw [ev1_3 c] at hq
    rw [cif_f o2] at hq
    rw [o1]; exact hq
  · obtain ⟨y1, y2, y3⟩ := x5 c
    rw [y1.1]; exact nu_in (by have := y1.2; omega) (by decide)
  · obtain ⟨y1, y2, y3⟩ := x5 c
    have y12 := y1.2
    have q4 := (vr.2.2.1 _ y2).1
    rw [ev1_4 c] at hq
    have e1 : p 14 e = nI (nt (p 14 e)) := y1.1
    have e2 : p 15 e = nI (nt (p 15 e)) := y3.1
    have e3 : p 4 (nt (p 14 e)) = nI (nt (p 4 (nt (p 14 e)))) := q4.1
    rw [nt_def, e3, e2]
    conv => arg 3; rw [e1]
    exact s_howManyAt hd hr (by omega) q4.2 y3.2 hq
  · obtain ⟨y1, y2⟩ := x6 c
    rw [ev1_5 c] at hq
    rw [y1.1]
    have y12 := y1.2
    exact s_held hd hr (by omega) hq
  · have c6 : nt (p 13 e) = 6 := by omega
    obtain ⟨y1, y2, y3, y4, y5, y6⟩ := x7 c6
    rw [ev1_6 c6] at hq
    have y12 := y1.2; have y32 := y3.2; have y52 := y5.2
    rw [y1.1, y3.1, y5.1]
    exact s_ownValue hd hr (by omega) (by omega) (by omega) hq
theorem s_ofParts {p : hp_H} {d : Nat → Nat} {ro me : Int32} {t : Nat → Int32} {e : Nat} {y : Int32} {Q : Int32 → Prop} (x1 : isn (p 13 e) 14) (k7 : 7 ≤ nt (p 13 e)) (hy : nt (p 13 e) < 14 → y = t (nt (p 15 e))) (hq : Q (ev1 p d ro me t e)) : q_X1_ofParts (p 13 e) (t (nt (p 14 e))) y Q := by
  have kk : ∀ j, j < 15 → (p 13 e = nI j ↔ nt (p 13 e) = j) := by
    intro j hj
    constructor
    · intro z; rw [z]; exact nt_nI (by omega)
    · intro z; rw [x1.1, z]
  unfold q_X1_ofParts
  rw [kk 7 (by decide), kk 8 (by decide), kk 9 (by decide), kk 10 (by decide), kk 11 (by decide), kk 12 (by decide), kk 13 (by decide)]
  have x14 := x1.2
  refine ⟨fun c => ?_, fun c => ?_, fun c => ?_, fun c => ?_, fun c => ?_, fun c => ?_, fun c => ?_, fun c => ?_⟩
  · rw [hy (by omega)]; rw [ev1_7 c] at hq; exact hq
  · rw [hy (by omega)]; rw [ev1_8 c] at hq; exact hq
  · rw [hy (by omega)]; rw [ev1_9 c] at hq; exact hq
  · rw [hy (by omega)]; rw [ev1_10 c] at hq
    exact ⟨fun z => by rw [bi_t z] at hq; exact hq, fun z => by rw [bi_f z] at hq; exact hq⟩
  · rw [hy (by omega)]; rw [ev1_11 c] at hq
    exact ⟨fun z => by rw [bi_f (fun q => q z)] at hq; exact hq, fun z => by rw [bi_t z] at hq; exact hq⟩
  · rw [hy (by omega)]; rw [ev1_12 c] at hq
    exact ⟨fun z => by rw [bi_f (fun q => q.1 z)] at hq; exact hq, fun z => ⟨fun z2 => by rw [bi_f (fun q => q.2 z2)] at hq; exact hq, fun z2 => by rw [bi_t ⟨z, z2⟩] at hq; exact hq⟩⟩
  · rw [hy (by omega)]; rw [ev1_13 c] at hq
    exact ⟨fun z => ⟨fun z2 => by rw [bi_f (fun q => q ⟨z, z2⟩)] at hq; exact hq, fun z2 => by rw [bi_t (show ¬ (t (nt (p 14 e)) = 0 ∧ t (nt (p 15 e)) = 0) from fun q => z2 q.2)] at hq; exact hq⟩, fun z => by rw [bi_t (show ¬ (t (nt (p 14 e)) = 0 ∧ t (nt (p 15 e)) = 0) from fun q => z q.1)] at hq; exact hq⟩
  · have c14 : nt (p 13 e) = 14 := by omega
    rw [ev1_14 c14] at hq
    exact ⟨fun z => by rw [bi_t z] at hq; exact hq, fun z => by rw [bi_f z] at hq; exact hq⟩
/-- an expression's value -/
noncomputable def tv (p : hp_H) (d : Nat → Nat) (ro me : Int32) (e : Nat) : Int32 := tb p d ro me (e + 1) e
theorem tb_v {p : hp_H} {d : Nat → Nat} {ro me : Int32} {n i : Nat} (h : i < n) : tb p d ro me n i = tv p d ro me i := tb_e h
/-- which expressions are used, closed under parts -/
def UC (p b : hp_H) (us : Int32) : Prop := ∀ e, e < nt (p 0 15) → ¬ (b 21 e &&& us) = 0 → (7 ≤ nt (p 13 e) → ¬ (b 21 (nt (p 14 e)) &&& us) = 0) ∧ (7 ≤ nt (p 13 e) → nt (p 13 e) < 14 → ¬ (b 21 (nt (p 15 e)) &&& us) = 0)
set_option maxHeartbeats 1000000 in
theorem s_reckon {p b : hp_H} {w : Nat} {d : Nat → Nat} {ro me a2 a3 us : Int32} {Q : hp_H → Prop} (v : VP p) (eq : EQ b p) (hd : rw_D d) (hr : rw_B b w d) (w16 : w ≠ 16) (uc : UC p b us) (ok : ∀ e, e < nt (p 0 15) → ¬ (b 21 e &&& us) = 0 → OK2 p ro me a2 a3 e)
    (hQ : ∀ b', (∀ k, k ≠ 16 → b' k = b k) → (∀ e, e < nt (p 0 15) → ¬ (b 21 e &&& us) = 0 → b' 16 e = tv p d ro me e) → Q b') : q_X1_reckon w b a2 a3 us Q := by
  have vx := v.2.2.2.1
  have E8 := vx.1.2
  have e15 : b 15 1 = nI (nt (p 0 15)) := by rw [eq.2.1.2.2.2.1]; exact vx.1.1
  have ep := eq.1
  unfold q_X1_reckon
  refine hp_lp1h_ind (fun x h => ∃ n, x = nI n ∧ n ≤ nt (p 0 15) ∧ (∀ k, k ≠ 16 → h k = b k) ∧ ∀ e, e < n → ¬ (b 21 e &&& us) = 0 → h 16 e = tv p d ro me e) (fun x h => 80 - nt x) ?_ ⟨0, rfl, by omega, fun k _ => rfl, fun e he => by omega⟩
  rintro x h ⟨n, rfl, hn, fr, hv⟩
  rw [fr 15 (by decide), e15, nI_leI (by omega) (by omega), nI_clamp (show n < 2 ^ 31 by omega), fr 21 (by decide), fr 17 (by decide), fr 18 (by decide), fr 19 (by decide)]
  refine ⟨fun c => hQ h fr (fun e he => hv e (by omega)), fun c => ⟨nu_in (by omega) (by decide), ?_⟩⟩
  have i80 : vp_in (nI n) 80 := nu_in (by omega) (by decide)
  have nE : n < nt (p 0 15) := by omega
  refine ⟨fun h' => (∀ k, k ≠ 16 → h' k = b k) ∧ ∀ e, e < n + 1 → ¬ (b 21 e &&& us) = 0 → h' 16 e = tv p d ro me e, ?_, ?_⟩
  · refine ⟨fun c2 => ⟨fr, fun e he hu => ?_⟩, fun c2 => ⟨i80, ?_⟩⟩
    · rcases (show e < n ∨ e = n by omega) with z | z
      · exact hv e z hu
      · subst z; exact absurd c2 hu
    · obtain ⟨x1, x2, x3, x4, x5, x6, x7, x8, x9, x10⟩ := vx.2 n nE
      have e17 : b 17 = p 13 := ep.2.2.2.2.2.2.2.2.2.2.2.1
      have e18 : b 18 = p 14 := ep.2.2.2.2.2.2.2.2.2.2.2.2.1
      have e19 : b 19 = p 15 := ep.2.2.2.2.2.2.2.2.2.2.2.2.2.1
      have fin : ∀ r10, r10 = tv p d ro me n → ∀ h11 : hp_H, h11 = hp_up h 16 n r10 → (∀ k, k ≠ 16 → h11 k = b k) ∧ ∀ e, e < n + 1 → ¬ (b 21 e &&& us) = 0 → h11 16 e = tv p d ro me e := by
        rintro r10 rfl h11 rfl
        refine ⟨fun k hk => by rw [hp_at, if_neg hk]; exact fr k hk, fun e he hu => ?_⟩
        simp only [hp_at, if_true, upd]
        by_cases z : e = n
        · rw [if_pos z, z]
        · rw [if_neg z]; exact hv e (by omega) hu
      have tn : ev1 p d ro me (tb p d ro me n) n = tv p d ro me n := tb_n.symm
      unfold q_X1_isMade q_X1_isMadeOfTwo
      rw [e17, e18, e19]
      have l7 : p 13 n < nI 7 ↔ nt (p 13 n) < 7 := by
        conv => lhs; rw [x1.1]
        exact nI_ltI (by have := x1.2; omega) (by decide)
      have l14 : nI 14 ≤ p 13 n ↔ 14 ≤ nt (p 13 n) := by
        conv => lhs; rw [x1.1]
        exact nI_leI (by decide) (by have := x1.2; omega)
      rw [l7, l14]
      refine ⟨fun c3 => br00 ?_, fun c3 => br1 ⟨i80, i80, ?_, i80, ?_⟩⟩
      · have eph : EQp h p := by
          obtain ⟨y⟩ := ep
          unfold EQp
          simp only [fr 4 (by decide), fr 5 (by decide), fr 6 (by decide), fr 13 (by decide), fr 8 (by decide), fr 9 (by decide), fr 10 (by decide), fr 11 (by decide), fr 32 (by decide), fr 33 (by decide), fr 34 (by decide), fr 17 (by decide), fr 18 (by decide), fr 19 (by decide), fr 20 (by decide), fr 22 (by decide), fr 24 (by decide), fr 25 (by decide), fr 26 (by decide), fr 27 (by decide), fr 28 (by decide), fr 29 (by decide), fr 30 (by decide), fr 31 (by decide)]
          exact eq.1
        refine s_ofRow v eph hd (fun j hj => by rw [fr w w16]; exact hr j hj) nE c3 (ok n nE c2) ?_ (t := tb p d ro me n)
        exact ⟨i80, fun h11 e11 => fin _ tn h11 e11⟩
      · obtain ⟨y1, y2⟩ := x8 (by omega)
        rw [y1.1]; exact nu_in (by have := y1.2; omega) (by decide)
      · obtain ⟨u1, u2⟩ := uc n nE c2
        obtain ⟨y1, y2⟩ := x8 (by omega)
        have va : h 16 (nt (p 14 n)) = tb p d ro me n (nt (p 14 n)) := by rw [tb_v y2]; exact hv _ y2 (u1 (by omega))
        have ends : ∀ y, (nt (p 13 n) < 14 → y = tb p d ro me n (nt (p 15 n))) → q_X1_ofParts (p 13 n) (h 16 (p 14 n).toNatClampNeg) y (fun r16 => vp_in (nI n) 80 ∧ ∀ h17 : hp_H, h17 = hp_up h 16 n r16 → (∀ k, k ≠ 16 → h17 k = b k) ∧ ∀ e, e < n + 1 → ¬ (b 21 e &&& us) = 0 → h17 16 e = tv p d ro me e) := by
          intro y hy
          rw [nt_def, va]
          exact s_ofParts (d := d) (ro := ro) (me := me) x1 (by omega) hy ⟨i80, fun h17 e17 => fin _ tn h17 e17⟩
        refine ⟨fun d1 => absurd d1 c3, fun d1 => ⟨fun d2 => hp_jn1_i (br00 (ends _ (fun z => by omega))), fun d2 => hp_jn1_i (br1 ⟨i80, ?_, ends _ (fun z => ?_)⟩)⟩⟩
        · obtain ⟨z1, z2⟩ := x9 (by omega) (by omega)
          rw [z1.1]; exact nu_in (by have := z1.2; omega) (by decide)
        · obtain ⟨z1, z2⟩ := x9 (by omega) (by omega)
          rw [nt_def, tb_v z2]; exact hv _ z2 (u2 (by omega) z)
  · rintro h' ⟨f', v'⟩ v18 rfl
    rw [nI_add]
    exact ⟨⟨n + 1, rfl, by omega, f', v'⟩, by rw [nt_nI (by omega), nt_nI (by omega)]; omega⟩
