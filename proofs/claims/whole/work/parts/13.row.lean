/-! ===== a row of digits in thirteen words ===== -/
def rw_w (d : Nat → Nat) (j : Nat) : Nat :=
  if j = 0 then d 0 + 16 * d 1 + 256 * d 2 + 4096 * d 3 + 65536 * d 4 + 1048576 * d 5
  else if j < 10 then 4096 * d (6 + 4 * (j - 1)) + 256 * d (7 + 4 * (j - 1)) + 16 * d (8 + 4 * (j - 1)) + d (9 + 4 * (j - 1))
  else 4096 * d (42 + 4 * (j - 10)) + d (43 + 4 * (j - 10)) + 16 * d (44 + 4 * (j - 10)) + 256 * d (45 + 4 * (j - 10))
def rw_D (d : Nat → Nat) : Prop := ∀ k, d k < 16
def rw_B (h : hp_H) (w : Nat) (d : Nat → Nat) : Prop := ∀ j, j < 13 → h w j = nI (rw_w d j)
theorem rw_0 (d : Nat → Nat) : rw_w d 0 = d 0 + 16 * d 1 + 256 * d 2 + 4096 * d 3 + 65536 * d 4 + 1048576 * d 5 := rfl
theorem rw_m (d : Nat → Nat) {i : Nat} (h : i < 9) : rw_w d (1 + i) = 4096 * d (6 + 4 * i) + 256 * d (7 + 4 * i) + 16 * d (8 + 4 * i) + d (9 + 4 * i) := by
  unfold rw_w
  rw [if_neg (by omega), if_pos (by omega), show 1 + i - 1 = i by omega]
theorem rw_c (d : Nat → Nat) {c : Nat} (h : c < 3) : rw_w d (10 + c) = 4096 * d (42 + 4 * c) + d (43 + 4 * c) + 16 * d (44 + 4 * c) + 256 * d (45 + 4 * c) := by
  unfold rw_w
  rw [if_neg (by omega), if_neg (by omega), show 10 + c - 10 = c by omega]
theorem rw_lt {d : Nat → Nat} (hd : rw_D d) (j : Nat) : rw_w d j < 16777216 := by
  have a := hd
  unfold rw_w
  split
  · have := a 0; have := a 1; have := a 2; have := a 3; have := a 4; have := a 5
    omega
  · split
    · have := a (6 + 4 * (j - 1)); have := a (7 + 4 * (j - 1)); have := a (8 + 4 * (j - 1)); have := a (9 + 4 * (j - 1))
      omega
    · have := a (42 + 4 * (j - 10)); have := a (43 + 4 * (j - 10)); have := a (44 + 4 * (j - 10)); have := a (45 + 4 * (j - 10))
      omega
/-- equal words, equal digits -/
theorem rw_inj {d e : Nat → Nat} (hd : rw_D d) (he : rw_D e) (h : ∀ j, j < 13 → rw_w d j = rw_w e j) : ∀ k, k < 54 → d k = e k := by
  intro k hk
  rcases (show k < 6 ∨ (6 ≤ k ∧ k < 42) ∨ (42 ≤ k ∧ k < 54) by omega) with q | q | q
  · have := h 0 (by omega)
    rw [rw_0, rw_0] at this
    have := hd 0; have := hd 1; have := hd 2; have := hd 3; have := hd 4; have := hd 5
    have := he 0; have := he 1; have := he 2; have := he 3; have := he 4; have := he 5
    rcases (show k = 0 ∨ k = 1 ∨ k = 2 ∨ k = 3 ∨ k = 4 ∨ k = 5 by omega) with rfl | rfl | rfl | rfl | rfl | rfl <;> omega
  · obtain ⟨i, hi, r, hr, e1⟩ : ∃ i, i < 9 ∧ ∃ r, r < 4 ∧ k = 6 + 4 * i + r := ⟨(k - 6) / 4, by omega, (k - 6) % 4, by omega, by omega⟩
    have q1 := h (1 + i) (by omega)
    rw [rw_m d hi, rw_m e hi] at q1
    have := hd (6 + 4 * i); have := hd (7 + 4 * i); have := hd (8 + 4 * i); have := hd (9 + 4 * i)
    have := he (6 + 4 * i); have := he (7 + 4 * i); have := he (8 + 4 * i); have := he (9 + 4 * i)
    subst e1
    rcases (show r = 0 ∨ r = 1 ∨ r = 2 ∨ r = 3 by omega) with rfl | rfl | rfl | rfl
    · show d (6 + 4 * i) = e (6 + 4 * i); omega
    · rw [show 6 + 4 * i + 1 = 7 + 4 * i by omega]; omega
    · rw [show 6 + 4 * i + 2 = 8 + 4 * i by omega]; omega
    · rw [show 6 + 4 * i + 3 = 9 + 4 * i by omega]; omega
  · obtain ⟨i, hi, r, hr, e1⟩ : ∃ i, i < 3 ∧ ∃ r, r < 4 ∧ k = 42 + 4 * i + r := ⟨(k - 42) / 4, by omega, (k - 42) % 4, by omega, by omega⟩
    have q1 := h (10 + i) (by omega)
    rw [rw_c d hi, rw_c e hi] at q1
    have := hd (42 + 4 * i); have := hd (43 + 4 * i); have := hd (44 + 4 * i); have := hd (45 + 4 * i)
    have := he (42 + 4 * i); have := he (43 + 4 * i); have := he (44 + 4 * i); have := he (45 + 4 * i)
    subst e1
    rcases (show r = 0 ∨ r = 1 ∨ r = 2 ∨ r = 3 by omega) with rfl | rfl | rfl | rfl
    · show d (42 + 4 * i) = e (42 + 4 * i); omega
    · rw [show 42 + 4 * i + 1 = 43 + 4 * i by omega]; omega
    · rw [show 42 + 4 * i + 2 = 44 + 4 * i by omega]; omega
    · rw [show 42 + 4 * i + 3 = 45 + 4 * i by omega]; omega
theorem rw_cong {d e : Nat → Nat} (h : ∀ k, k < 54 → d k = e k) : ∀ j, j < 13 → rw_w d j = rw_w e j := by
  intro j hj
  unfold rw_w
  split
  · simp only [h 0 (by omega), h 1 (by omega), h 2 (by omega), h 3 (by omega), h 4 (by omega), h 5 (by omega)]
  · split
    · simp only [h (6 + 4 * (j - 1)) (by omega), h (7 + 4 * (j - 1)) (by omega), h (8 + 4 * (j - 1)) (by omega), h (9 + 4 * (j - 1)) (by omega)]
    · simp only [h (42 + 4 * (j - 10)) (by omega), h (43 + 4 * (j - 10)) (by omega), h (44 + 4 * (j - 10)) (by omega), h (45 + 4 * (j - 10)) (by omega)]
section
variable {w : Nat} {h : hp_H} {d : Nat → Nat}
theorem s_sharedValue {i : Nat} {Q : Int32 → Prop} (hd : rw_D d) (hr : rw_B h w d) (hi : i < 6) (hq : Q (nI (d i))) : q_X7_sharedValue w h (nI i) Q := by
  unfold q_X7_sharedValue
  refine ⟨nu_in (by decide) (by decide), ?_⟩
  have hl := rw_lt hd 0
  rw [nI_clamp (by decide), hr 0 (by decide), pk_mul, nu_ushr (by omega) (by omega), nu_and15 (Nat.lt_of_le_of_lt (Nat.div_le_self _ _) (by omega))]
  have e : rw_w d 0 / 2 ^ (4 * i) % 16 = d i := by
    rw [rw_0]
    have := hd 0; have := hd 1; have := hd 2; have := hd 3; have := hd 4; have := hd 5
    rcases (show i = 0 ∨ i = 1 ∨ i = 2 ∨ i = 3 ∨ i = 4 ∨ i = 5 by omega) with rfl | rfl | rfl | rfl | rfl | rfl <;> simp only [Nat.reduceMul, Nat.reducePow] <;> omega
  rw [e]
  exact hq
theorem rw_ix {r m : Nat} : ((nI 1) + (nI r * (nI 3))) + nI m = nI (1 + (3 * r + m)) := by
  rw [pk_mul, nI_add, nI_add]
  congr 1
  omega
theorem s_ownValue {r m v : Nat} {Q : Int32 → Prop} (hd : rw_D d) (hr : rw_B h w d) (h1 : r < 3) (h2 : m < 3) (h3 : v < 3) (hq : Q (nI (d (7 + 4 * (3 * r + m) + v)))) : q_X7_ownValue w h (nI r) (nI m) (nI v) Q := by
  unfold q_X7_ownValue
  rintro v1 rfl
  have hl := rw_lt hd (1 + (3 * r + m))
  rw [rw_ix, pk_mul, pk_sub (by omega)]
  refine ⟨nu_in (by omega) (by decide), ?_⟩
  rw [nI_clamp (by omega), hr _ (by omega), nu_ushr (by omega) (by omega), nu_and15 (Nat.lt_of_le_of_lt (Nat.div_le_self _ _) (by omega))]
  have e : rw_w d (1 + (3 * r + m)) / 2 ^ (8 - 4 * v) % 16 = d (7 + 4 * (3 * r + m) + v) := by
    rw [rw_m d (by omega)]
    have := hd (6 + 4 * (3 * r + m)); have := hd (7 + 4 * (3 * r + m)); have := hd (8 + 4 * (3 * r + m)); have := hd (9 + 4 * (3 * r + m))
    rcases (show v = 0 ∨ v = 1 ∨ v = 2 by omega) with rfl | rfl | rfl
    · simp only [Nat.reduceMul, Nat.reduceSub, Nat.reducePow, Nat.add_zero]; omega
    · simp only [Nat.reduceMul, Nat.reduceSub, Nat.reducePow]; rw [show 7 + 4 * (3 * r + m) + 1 = 8 + 4 * (3 * r + m) by omega]; omega
    · simp only [Nat.reduceMul, Nat.reduceSub, Nat.reducePow]; rw [show 7 + 4 * (3 * r + m) + 2 = 9 + 4 * (3 * r + m) by omega]; omega
  rw [e]
  exact hq
theorem rw_place (hd : rw_D d) {i : Nat} (hi : i < 9) : hp_ushr (nI (rw_w d (1 + i))) (nI 12) = nI (d (6 + 4 * i)) := by
  have hl := rw_lt hd (1 + i)
  rw [nu_ushr (by omega) (by omega), rw_m d hi]
  have := hd (6 + 4 * i); have := hd (7 + 4 * i); have := hd (8 + 4 * i); have := hd (9 + 4 * i)
  congr 1
  simp only [Nat.reducePow]
  omega
theorem s_placeOf {r m : Nat} {Q : Int32 → Prop} (hd : rw_D d) (hr : rw_B h w d) (h1 : r < 3) (h2 : m < 3) (hq : Q (nI (d (6 + 4 * (3 * r + m))))) : q_X7_placeOf w h (nI r) (nI m) Q := by
  unfold q_X7_placeOf
  rw [rw_ix]
  refine ⟨nu_in (by omega) (by decide), ?_⟩
  rw [nI_clamp (by omega), hr _ (by omega), rw_place hd (by omega)]
  exact hq
theorem rw_held (hd : rw_D d) {c : Nat} (hc : c < 3) : hp_ushr (nI (rw_w d (10 + c))) (nI 12) = nI (d (42 + 4 * c)) := by
  have hl := rw_lt hd (10 + c)
  rw [nu_ushr (by omega) (by omega), rw_c d hc]
  have := hd (42 + 4 * c); have := hd (43 + 4 * c); have := hd (44 + 4 * c); have := hd (45 + 4 * c)
  congr 1
  simp only [Nat.reducePow]
  omega
theorem rw_let (hd : rw_D d) {c i : Nat} (hc : c < 3) (hi : i < 3) : hp_ushr (nI (rw_w d (10 + c))) ((nI 4) * nI i) &&& (nI 15) = nI (d (43 + 4 * c + i)) := by
  have hl := rw_lt hd (10 + c)
  rw [pk_mul, nu_ushr (by omega) (by omega), nu_and15 (Nat.lt_of_le_of_lt (Nat.div_le_self _ _) (by omega)), rw_c d hc]
  have := hd (42 + 4 * c); have := hd (43 + 4 * c); have := hd (44 + 4 * c); have := hd (45 + 4 * c)
  congr 1
  rcases (show i = 0 ∨ i = 1 ∨ i = 2 by omega) with rfl | rfl | rfl
  · simp only [Nat.reduceMul, Nat.reducePow, Nat.add_zero]; omega
  · simp only [Nat.reduceMul, Nat.reducePow]; rw [show 43 + 4 * c + 1 = 44 + 4 * c by omega]; omega
  · simp only [Nat.reduceMul, Nat.reducePow]; rw [show 43 + 4 * c + 2 = 45 + 4 * c by omega]; omega
theorem s_held {c : Nat} {Q : Int32 → Prop} (hd : rw_D d) (hr : rw_B h w d) (hc : c < 3) (hq : Q (nI (d (42 + 4 * c)))) : q_X7_held w h (nI c) Q := by
  unfold q_X7_held
  rw [nI_add]
  refine ⟨nu_in (by omega) (by decide), ?_⟩
  rw [nI_clamp (by omega), hr _ (by omega), rw_held hd hc]
  exact hq
theorem s_letterAt {c i : Nat} {Q : Int32 → Prop} (hd : rw_D d) (hr : rw_B h w d) (hc : c < 3) (hi : i < 3) (hq : Q (nI (d (43 + 4 * c + i)))) : q_X7_letterAt w h (nI c) (nI i) Q := by
  unfold q_X7_letterAt
  rw [nI_add]
  refine ⟨nu_in (by omega) (by decide), ?_⟩
  rw [nI_clamp (by omega), hr _ (by omega), rw_let hd hc hi]
  exact hq
theorem s_isFirstOfLike {c i : Nat} {Q : Int32 → Prop} (hd : rw_D d) (hr : rw_B h w d) (hc : c < 3) (hi : i < 3) (h1 : (∀ j, j < i → d (43 + 4 * c + j) ≠ d (43 + 4 * c + i)) → Q (nI 1)) (h0 : (∃ j, j < i ∧ d (43 + 4 * c + j) = d (43 + 4 * c + i)) → Q (nI 0)) : q_X7_isFirstOfLike w h (nI c) (nI i) Q := by
  unfold q_X7_isFirstOfLike
  rw [nI_add]
  refine ⟨nu_in (by omega) (by decide), ?_⟩
  rintro v1 rfl
  rw [nI_clamp (by omega), hr _ (by omega)]
  refine hp_lp1_ind (fun v => ∃ j, v = nI j ∧ j ≤ i ∧ ∀ k, k < j → d (43 + 4 * c + k) ≠ d (43 + 4 * c + i)) (fun v => i - v.toNatClampNeg) ?_ ⟨0, rfl, by omega, fun k hk => by omega⟩
  rintro v ⟨j, rfl, hj, hk⟩
  have b16 := hd (43 + 4 * c + j)
  have b17 := hd (43 + 4 * c + i)
  rw [nI_leI (by omega) (by omega)]
  refine ⟨fun q => h1 (fun k hk2 => hk k (by omega)), fun q => ?_⟩
  rw [rw_let hd hc (by omega), rw_let hd hc hi, nI_eq (by omega) (by omega)]
  refine ⟨fun q2 => h0 ⟨j, by omega, q2⟩, fun q2 => ?_⟩
  rintro v6 rfl
  rw [nI_add]
  refine ⟨⟨j + 1, rfl, by omega, fun k hk2 => ?_⟩, by rw [nI_clamp (by omega), nI_clamp (by omega)]; omega⟩
  rcases (show k < j ∨ k = j by omega) with z | z
  · exact hk k z
  · subst z; exact q2
end
