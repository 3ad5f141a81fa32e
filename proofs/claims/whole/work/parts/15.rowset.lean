/-! ===== rows: what changes them ===== -/
def rw_f (d : Nat → Nat) (c i : Nat) : Prop := ∀ j, j < i → d (43 + 4 * c + j) ≠ d (43 + 4 * c + i)
/-- behind the last letter stands 0 -/
def rw_T (d : Nat → Nat) : Prop := ∀ c, c < 3 → d (42 + 4 * c) ≤ 3 ∧ ∀ i, i < 3 → d (42 + 4 * c) ≤ i → d (43 + 4 * c + i) = 0
theorem rw_D_up {d : Nat → Nat} {k v : Nat} (hd : rw_D d) (hv : v < 16) : rw_D (va_up d k v) := by
  intro j
  unfold va_up
  split
  · exact hv
  · exact hd j
section
variable {w : Nat} {h : hp_H} {d : Nat → Nat}
theorem s_nextUnlike {c s : Nat} {a2 : Int32} {Q : Int32 → Prop} (hd : rw_D d) (hr : rw_B h w d) (hc : c < 3) (hl : d (42 + 4 * c) ≤ 3) (ha : a2 + nI 1 = nI s) (hs4 : s ≤ 4)
    (h1 : ∀ i, s ≤ i → i < d (42 + 4 * c) → rw_f d c i → (∀ k, s ≤ k → k < i → ¬ rw_f d c k) → Q (nI i)) (h0 : (∀ k, s ≤ k → k < d (42 + 4 * c) → ¬ rw_f d c k) → Q (-1)) : q_X7_nextUnlike w h (nI c) a2 Q := by
  unfold q_X7_nextUnlike
  rintro v1 rfl
  rw [ha]
  refine hp_lp1_ind (fun v => ∃ j, v = nI j ∧ s ≤ j ∧ j ≤ 4 ∧ ∀ k, s ≤ k → k < j → ¬ rw_f d c k) (fun v => 4 - v.toNatClampNeg) ?_ ⟨s, rfl, by omega, hs4, fun k hk => by omega⟩
  rintro v ⟨j, rfl, hj, hj3, hk⟩
  refine s_held hd hr hc ?_
  rw [nI_leI (by omega) (by omega)]
  refine ⟨fun q => h0 (fun k h2 h3 => hk k h2 (by omega)), fun q => ?_⟩
  refine s_isFirstOfLike hd hr hc (by omega) (fun z => ?_) (fun z => ?_)
  · rw [nu_0 (by decide)]
    exact ⟨fun z2 => absurd z2 (by decide), fun _ => h1 j hj (by omega) z hk⟩
  · rw [nu_0 (by decide)]
    refine ⟨fun _ => ?_, fun z2 => absurd rfl z2⟩
    rintro v8 rfl
    rw [nI_add]
    refine ⟨⟨j + 1, rfl, by omega, by omega, fun k h2 h3 => ?_⟩, by rw [nI_clamp (by omega), nI_clamp (by omega)]; omega⟩
    rcases (show k < j ∨ k = j by omega) with y | y
    · exact hk k h2 y
    · subst y
      obtain ⟨j2, y1, y2⟩ := z
      exact fun y3 => y3 j2 y1 y2
theorem rw_B_up {h' : hp_H} {j0 : Nat} {d' : Nat → Nat} (hr : rw_B h w d) (h1 : h' = hp_up h w j0 (nI (rw_w d' j0))) (ho : ∀ j, j < 13 → j ≠ j0 → rw_w d' j = rw_w d j) : rw_B h' w d' := by
  intro j hj
  subst h1
  by_cases e : j = j0
  · subst e; exact hp_up_same _ _ _ _
  · rw [hp_up_slot e, hr j hj, ho j hj e]
theorem rw_oth {k v j : Nat} (h : (j = 0 ∧ 6 ≤ k) ∨ (1 ≤ j ∧ j < 10 ∧ (k < 2 + 4 * j ∨ 6 + 4 * j ≤ k)) ∨ (10 ≤ j ∧ (k < 2 + 4 * j ∨ 6 + 4 * j ≤ k))) : rw_w (va_up d k v) j = rw_w d j := by
  unfold rw_w va_up
  rcases h with ⟨rfl, q⟩ | ⟨q1, q2, q⟩ | ⟨q1, q⟩
  · simp only [if_pos]
    rw [if_neg (by omega), if_neg (by omega), if_neg (by omega), if_neg (by omega), if_neg (by omega), if_neg (by omega)]
  · rw [if_neg (by omega), if_pos q2, if_neg (by omega), if_pos q2, if_neg (by omega), if_neg (by omega), if_neg (by omega), if_neg (by omega)]
  · rw [if_neg (by omega), if_neg (by omega), if_neg (by omega), if_neg (by omega), if_neg (by omega), if_neg (by omega), if_neg (by omega), if_neg (by omega)]
theorem rw_sh_set (hd : rw_D d) {i v : Nat} (hi : i < 6) (hv : v < 16) : (nI (rw_w d 0) &&& ((hp_shl (nI 15) (nI (4 * i))) ^^^ (-1))) ||| (hp_shl (nI v) (nI (4 * i))) = nI (rw_w (va_up d i v) 0) := by
  have b0 := hd 0; have b1 := hd 1; have b2 := hd 2; have b3 := hd 3; have b4 := hd 4; have b5 := hd 5
  rw [rw_0, rw_0]
  rcases (show i = 0 ∨ i = 1 ∨ i = 2 ∨ i = 3 ∨ i = 4 ∨ i = 5 by omega) with rfl | rfl | rfl | rfl | rfl | rfl
  · have z := nu_set (hi := d 1 + 16 * d 2 + 256 * d 3 + 4096 * d 4 + 65536 * d 5) (x := d 0) (lo := 0) (v := v) (k := 0) (by omega) (by decide) b0 hv (by simp only [Nat.reduceMul, Nat.reduceSub, Nat.reducePow]; omega)
    simp only [Nat.reduceMul, Nat.reduceAdd, Nat.reducePow] at z ⊢
    simp only [va_up, Nat.reduceEqDiff, if_true, if_false]
    rw [show 16 * (d 1 + 16 * d 2 + 256 * d 3 + 4096 * d 4 + 65536 * d 5) + (1 * d 0 + 0) = d 0 + 16 * d 1 + 256 * d 2 + 4096 * d 3 + 65536 * d 4 + 1048576 * d 5 by omega] at z
    rw [z]; congr 1; omega
  · have z := nu_set (hi := d 2 + 16 * d 3 + 256 * d 4 + 4096 * d 5) (x := d 1) (lo := d 0) (v := v) (k := 1) (by omega) (by simp only [Nat.reduceMul, Nat.reducePow]; omega) b1 hv (by simp only [Nat.reduceMul, Nat.reduceSub, Nat.reducePow]; omega)
    simp only [Nat.reduceMul, Nat.reduceAdd, Nat.reducePow] at z ⊢
    simp only [va_up, Nat.reduceEqDiff, if_true, if_false]
    rw [show 256 * (d 2 + 16 * d 3 + 256 * d 4 + 4096 * d 5) + (16 * d 1 + d 0) = d 0 + 16 * d 1 + 256 * d 2 + 4096 * d 3 + 65536 * d 4 + 1048576 * d 5 by omega] at z
    rw [z]; congr 1; omega
  · have z := nu_set (hi := d 3 + 16 * d 4 + 256 * d 5) (x := d 2) (lo := d 0 + 16 * d 1) (v := v) (k := 2) (by omega) (by simp only [Nat.reduceMul, Nat.reducePow]; omega) b2 hv (by simp only [Nat.reduceMul, Nat.reduceSub, Nat.reducePow]; omega)
    simp only [Nat.reduceMul, Nat.reduceAdd, Nat.reducePow] at z ⊢
    simp only [va_up, Nat.reduceEqDiff, if_true, if_false]
    rw [show 4096 * (d 3 + 16 * d 4 + 256 * d 5) + (256 * d 2 + (d 0 + 16 * d 1)) = d 0 + 16 * d 1 + 256 * d 2 + 4096 * d 3 + 65536 * d 4 + 1048576 * d 5 by omega] at z
    rw [z]; congr 1; omega
  · have z := nu_set (hi := d 4 + 16 * d 5) (x := d 3) (lo := d 0 + 16 * d 1 + 256 * d 2) (v := v) (k := 3) (by omega) (by simp only [Nat.reduceMul, Nat.reducePow]; omega) b3 hv (by simp only [Nat.reduceMul, Nat.reduceSub, Nat.reducePow]; omega)
    simp only [Nat.reduceMul, Nat.reduceAdd, Nat.reducePow] at z ⊢
    simp only [va_up, Nat.reduceEqDiff, if_true, if_false]
    rw [show 65536 * (d 4 + 16 * d 5) + (4096 * d 3 + (d 0 + 16 * d 1 + 256 * d 2)) = d 0 + 16 * d 1 + 256 * d 2 + 4096 * d 3 + 65536 * d 4 + 1048576 * d 5 by omega] at z
    rw [z]; congr 1; omega
  · have z := nu_set (hi := d 5) (x := d 4) (lo := d 0 + 16 * d 1 + 256 * d 2 + 4096 * d 3) (v := v) (k := 4) (by omega) (by simp only [Nat.reduceMul, Nat.reducePow]; omega) b4 hv (by simp only [Nat.reduceMul, Nat.reduceSub, Nat.reducePow]; omega)
    simp only [Nat.reduceMul, Nat.reduceAdd, Nat.reducePow] at z ⊢
    simp only [va_up, Nat.reduceEqDiff, if_true, if_false]
    rw [show 1048576 * d 5 + (65536 * d 4 + (d 0 + 16 * d 1 + 256 * d 2 + 4096 * d 3)) = d 0 + 16 * d 1 + 256 * d 2 + 4096 * d 3 + 65536 * d 4 + 1048576 * d 5 by omega] at z
    rw [z]; congr 1; omega
  · have z := nu_set (hi := 0) (x := d 5) (lo := d 0 + 16 * d 1 + 256 * d 2 + 4096 * d 3 + 65536 * d 4) (v := v) (k := 5) (by omega) (by simp only [Nat.reduceMul, Nat.reducePow]; omega) b5 hv (by decide)
    simp only [Nat.reduceMul, Nat.reduceAdd, Nat.reducePow] at z ⊢
    simp only [va_up, Nat.reduceEqDiff, if_true, if_false]
    rw [show 0 + (1048576 * d 5 + (d 0 + 16 * d 1 + 256 * d 2 + 4096 * d 3 + 65536 * d 4)) = d 0 + 16 * d 1 + 256 * d 2 + 4096 * d 3 + 65536 * d 4 + 1048576 * d 5 by omega] at z
    rw [z]; congr 1; omega
theorem s_setShared {i v : Nat} {Q : hp_H → Prop} (hd : rw_D d) (hr : rw_B h w d) (hi : i < 6) (hv : v < 16) (hq : ∀ h', (∀ k, k ≠ w → h' k = h k) → rw_B h' w (va_up d i v) → Q h') : q_X7_setShared w h (nI i) (nI v) Q := by
  unfold q_X7_setShared
  refine ⟨nu_in (by decide) (by decide), nu_in (by decide) (by decide), ?_⟩
  intro h1 e1
  rw [nI_clamp (by decide), hr 0 (by decide), pk_mul, rw_sh_set hd hi hv] at e1
  refine hq h1 (fun k hk => by rw [e1]; exact hp_up_row hk) (rw_B_up hr e1 (fun j hj hj0 => rw_oth ?_))
  omega
theorem rw_mb_set (hd : rw_D d) {i x v : Nat} (hi : i < 9) (hx : x < 4) (hv : v < 16) : (nI (rw_w d (1 + i)) &&& ((hp_shl (nI 15) (nI (4 * x))) ^^^ (-1))) ||| (hp_shl (nI v) (nI (4 * x))) = nI (rw_w (va_up d (9 + 4 * i - x) v) (1 + i)) := by
  have b0 := hd (6 + 4 * i); have b1 := hd (7 + 4 * i); have b2 := hd (8 + 4 * i); have b3 := hd (9 + 4 * i)
  rw [rw_m d hi, rw_m _ hi]
  generalize ea : d (6 + 4 * i) = A at *
  generalize eb : d (7 + 4 * i) = B at *
  generalize ec : d (8 + 4 * i) = C at *
  generalize ee : d (9 + 4 * i) = E at *
  rcases (show x = 0 ∨ x = 1 ∨ x = 2 ∨ x = 3 by omega) with rfl | rfl | rfl | rfl
  · have z := nu_set (hi := C + 16 * B + 256 * A) (x := E) (lo := 0) (v := v) (k := 0) (by omega) (by decide) b3 hv (by simp only [Nat.reduceMul, Nat.reduceSub, Nat.reducePow]; omega)
    simp only [Nat.reduceMul, Nat.reduceAdd, Nat.reducePow] at z ⊢
    rw [show 9 + 4 * i - 0 = 9 + 4 * i by omega]
    unfold va_up
    rw [if_neg (by omega), if_neg (by omega), if_neg (by omega), if_pos rfl, ea, eb, ec]
    rw [show 16 * (C + 16 * B + 256 * A) + (1 * E + 0) = 4096 * A + 256 * B + 16 * C + E by omega] at z
    rw [z]; congr 1; omega
  · have z := nu_set (hi := B + 16 * A) (x := C) (lo := E) (v := v) (k := 1) (by omega) (by simp only [Nat.reduceMul, Nat.reducePow]; omega) b2 hv (by simp only [Nat.reduceMul, Nat.reduceSub, Nat.reducePow]; omega)
    simp only [Nat.reduceMul, Nat.reduceAdd, Nat.reducePow] at z ⊢
    rw [show 9 + 4 * i - 1 = 8 + 4 * i by omega]
    unfold va_up
    rw [if_neg (by omega), if_neg (by omega), if_pos rfl, if_neg (by omega), ea, eb, ee]
    rw [show 256 * (B + 16 * A) + (16 * C + E) = 4096 * A + 256 * B + 16 * C + E by omega] at z
    rw [z]; congr 1; omega
  · have z := nu_set (hi := A) (x := B) (lo := 16 * C + E) (v := v) (k := 2) (by omega) (by simp only [Nat.reduceMul, Nat.reducePow]; omega) b1 hv (by simp only [Nat.reduceMul, Nat.reduceSub, Nat.reducePow]; omega)
    simp only [Nat.reduceMul, Nat.reduceAdd, Nat.reducePow] at z ⊢
    rw [show 9 + 4 * i - 2 = 7 + 4 * i by omega]
    unfold va_up
    rw [if_neg (by omega), if_pos rfl, if_neg (by omega), if_neg (by omega), ea, ec, ee]
    rw [show 4096 * A + (256 * B + (16 * C + E)) = 4096 * A + 256 * B + 16 * C + E by omega] at z
    rw [z]; congr 1; omega
  · have z := nu_set (hi := 0) (x := A) (lo := 256 * B + 16 * C + E) (v := v) (k := 3) (by omega) (by simp only [Nat.reduceMul, Nat.reducePow]; omega) b0 hv (by decide)
    simp only [Nat.reduceMul, Nat.reduceAdd, Nat.reducePow] at z ⊢
    rw [show 9 + 4 * i - 3 = 6 + 4 * i by omega]
    unfold va_up
    rw [if_pos rfl, if_neg (by omega), if_neg (by omega), if_neg (by omega), eb, ec, ee]
    rw [show 0 + (4096 * A + (256 * B + 16 * C + E)) = 4096 * A + 256 * B + 16 * C + E by omega] at z
    rw [z]; congr 1; omega
theorem s_setOwn {r m v x : Nat} {Q : hp_H → Prop} (hd : rw_D d) (hr : rw_B h w d) (h1 : r < 3) (h2 : m < 3) (h3 : v < 3) (hx : x < 16) (hq : ∀ h', (∀ k, k ≠ w → h' k = h k) → rw_B h' w (va_up d (7 + 4 * (3 * r + m) + v) x) → Q h') : q_X7_setOwn w h (nI r) (nI m) (nI v) (nI x) Q := by
  unfold q_X7_setOwn
  rintro v1 rfl v2 rfl
  rw [rw_ix, pk_mul, pk_sub (by omega)]
  refine ⟨nu_in (by omega) (by decide), nu_in (by omega) (by decide), ?_⟩
  intro h3' e1
  have e2 := rw_mb_set hd (i := 3 * r + m) (x := 2 - v) (v := x) (by omega) (by omega) hx
  rw [nI_clamp (by omega), hr _ (by omega), show 8 - 4 * v = 4 * (2 - v) by omega, e2, show 9 + 4 * (3 * r + m) - (2 - v) = 7 + 4 * (3 * r + m) + v by omega] at e1
  refine hq h3' (fun k hk => by rw [e1]; exact hp_up_row hk) (rw_B_up hr e1 (fun j hj hj0 => rw_oth ?_))
  omega
theorem s_setPlace {r m x : Nat} {Q : hp_H → Prop} (hd : rw_D d) (hr : rw_B h w d) (h1 : r < 3) (h2 : m < 3) (hx : x < 16) (hq : ∀ h', (∀ k, k ≠ w → h' k = h k) → rw_B h' w (va_up d (6 + 4 * (3 * r + m)) x) → Q h') : q_X7_setPlace w h (nI r) (nI m) (nI x) Q := by
  unfold q_X7_setPlace
  rintro v1 rfl
  rw [rw_ix]
  refine ⟨nu_in (by omega) (by decide), nu_in (by omega) (by decide), ?_⟩
  intro h3' e1
  have e2 := rw_mb_set hd (i := 3 * r + m) (x := 3) (v := x) (by omega) (by omega) hx
  rw [show hp_shl (nI 15) (nI (4 * 3)) ^^^ (-1) = -61441 by decide, show 4 * 3 = 12 by rfl, show 9 + 4 * (3 * r + m) - 3 = 6 + 4 * (3 * r + m) by omega] at e2
  rw [nI_clamp (by omega), hr _ (by omega), e2] at e1
  refine hq h3' (fun k hk => by rw [e1]; exact hp_up_row hk) (rw_B_up hr e1 (fun j hj hj0 => rw_oth ?_))
  omega
theorem s_copy {w1 : Nat} {Q : hp_H → Prop} (hr : rw_B h w1 d) (hq : ∀ h', (∀ k, k ≠ w → h' k = h k) → rw_B h' w d → Q h') : q_X7_copy w w1 h Q := by
  unfold q_X7_copy
  refine ⟨⟨by decide, by decide, by decide, by decide, by decide⟩, ?_⟩
  intro h1 e1
  refine hq h1 (fun k hk => ?_) (fun j hj => ?_)
  · rw [e1]; funext b; simp [hp_cp, hk]
  · rw [e1]
    simp only [hp_cp, if_true]
    rw [nI_clamp (by decide), nI_clamp (by decide), pk_cpy_in (by omega) (by omega), show 0 + (j - 0) = j by omega]
    exact hr j hj
theorem s_load {s : Nat} {Q : hp_H → Prop} (hs : s < 400) (hr : ∀ j, j < 13 → h 42 (13 * s + j) = nI (rw_w d j)) (hw : w ≠ 42) (hq : ∀ h', (∀ k, k ≠ w → h' k = h k) → rw_B h' w d → Q h') : q_X2_load w h (nI s) Q := by
  unfold q_X2_load
  rw [pk_mul, nI_clamp (by omega), nI_clamp (by decide), nI_clamp (by decide)]
  refine ⟨⟨nI_pos (by omega), by decide, by decide, by omega, by omega⟩, ?_⟩
  intro h1 e1
  refine hq h1 (fun k hk => ?_) (fun j hj => ?_)
  · rw [e1]; funext b; simp [hp_cp, hk]
  · rw [e1]
    simp only [hp_cp, if_true]
    rw [pk_cpy_in (by omega) (by omega), show s * 13 + (j - 0) = 13 * s + j by omega]
    exact hr j hj
end
