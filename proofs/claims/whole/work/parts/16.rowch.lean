/-! ===== rows: letters, the order of members ===== -/
theorem nu_ol {a b k : Nat} (hb : b < 2 ^ k) (h : a * 2 ^ k + b < 2 ^ 32) : nI b ||| nI (a * 2 ^ k) = nI (a * 2 ^ k + b) := by
  rw [nu_or (by omega) (by omega), Nat.or_comm, Nat.mul_comm a, ← Nat.two_pow_add_eq_or_of_lt hb]
theorem nu_low {n k : Nat} (hn : n < 2 ^ 32) (hk : k < 32) : nI n &&& nI (2 ^ k - 1) = nI (n % 2 ^ k) := by
  refine pk_andN hn k ?_
  rw [pk_tn]
  have : 2 ^ k < 2 ^ 32 := Nat.pow_lt_pow_right (by decide) hk
  omega
/-- letter i of channel c goes -/
def rw_tk (d : Nat → Nat) (c i : Nat) : Nat → Nat := fun k => if k = 42 + 4 * c then d k - 1 else if 43 + 4 * c + i ≤ k ∧ k < 45 + 4 * c then d (k + 1) else if k = 45 + 4 * c then 0 else d k
/-- letter v comes to channel c -/
def rw_pt (d : Nat → Nat) (c v : Nat) : Nat → Nat := va_up (va_up d (43 + 4 * c + d (42 + 4 * c)) v) (42 + 4 * c) (d (42 + 4 * c) + 1)
theorem rw_tk_D {d : Nat → Nat} (hd : rw_D d) (c i : Nat) : rw_D (rw_tk d c i) := by
  intro k
  unfold rw_tk
  have := hd k
  have := hd (k + 1)
  split
  · omega
  · split
    · assumption
    · split <;> omega
theorem rw_pt_D {d : Nat → Nat} (hd : rw_D d) {c v : Nat} (hv : v < 16) (hl : d (42 + 4 * c) < 15) : rw_D (rw_pt d c v) := rw_D_up (rw_D_up hd hv) (by omega)
theorem rw_cs (d : Nat → Nat) {c : Nat} (hd : rw_D d) : d (43 + 4 * c) + 16 * d (44 + 4 * c) + 256 * d (45 + 4 * c) < 4096 := by
  have := hd (43 + 4 * c); have := hd (44 + 4 * c); have := hd (45 + 4 * c)
  omega
section
variable {w : Nat} {h : hp_H} {d : Nat → Nat}
theorem s_put {c v : Nat} {Q : hp_H → Prop} (hd : rw_D d) (ht : rw_T d) (hr : rw_B h w d) (hc : c < 3) (hl : d (42 + 4 * c) < 3) (hv : v < 16) (hq : ∀ h', (∀ k, k ≠ w → h' k = h k) → rw_B h' w (rw_pt d c v) → Q h') : q_X7_put w h (nI c) (nI v) Q := by
  unfold q_X7_put
  rw [nI_add]
  refine ⟨nu_in (by omega) (by decide), ?_⟩
  rintro v1 rfl v2 rfl
  refine ⟨nu_in (by omega) (by decide), ?_⟩
  intro h3 e1
  have hW := rw_lt hd (10 + c)
  rw [nI_clamp (by omega), hr _ (by omega), rw_held hd hc, pk_mul, nI_add] at e1
  have key : ((nI (rw_w d (10 + c)) &&& (nI 4095)) ||| (hp_shl (nI v) (nI (4 * d (42 + 4 * c))))) ||| (hp_shl (nI (d (42 + 4 * c) + 1)) (nI 12)) = nI (rw_w (rw_pt d c v) (10 + c)) := by
    have b1 := hd (43 + 4 * c); have b2 := hd (44 + 4 * c); have b3 := hd (45 + 4 * c)
    have t0 := (ht c hc).2 0 (by omega); have t1 := (ht c hc).2 1 (by omega); have t2 := (ht c hc).2 2 (by omega)
    simp only [Nat.add_zero] at t0
    rw [show 43 + 4 * c + 1 = 44 + 4 * c by omega] at t1
    rw [show 43 + 4 * c + 2 = 45 + 4 * c by omega] at t2
    have lo := nu_low (n := rw_w d (10 + c)) (k := 12) (by omega) (by decide)
    rw [show (2 : Nat) ^ 12 - 1 = 4095 by rfl] at lo
    have p0 : rw_pt d c v (42 + 4 * c) = d (42 + 4 * c) + 1 := by
      unfold rw_pt
      simp [va_up]
    have p1 : rw_pt d c v (43 + 4 * c) = if d (42 + 4 * c) = 0 then v else d (43 + 4 * c) := by
      simp only [rw_pt, va_up]
      repeat' split
      all_goals omega
    have p2 : rw_pt d c v (44 + 4 * c) = if d (42 + 4 * c) = 1 then v else d (44 + 4 * c) := by
      simp only [rw_pt, va_up]
      repeat' split
      all_goals omega
    have p3 : rw_pt d c v (45 + 4 * c) = if d (42 + 4 * c) = 2 then v else d (45 + 4 * c) := by
      simp only [rw_pt, va_up]
      repeat' split
      all_goals omega
    rw [lo, rw_c d hc, rw_c _ hc, p0, p1, p2, p3]
    clear p0 p1 p2 p3
    generalize eA : d (42 + 4 * c) = A at *
    generalize eB : d (43 + 4 * c) = B at *
    generalize eC : d (44 + 4 * c) = C at *
    generalize eE : d (45 + 4 * c) = E at *
    rw [show (4096 * A + B + 16 * C + 256 * E) % 2 ^ 12 = B + 16 * C + 256 * E by simp only [Nat.reducePow]; omega]
    rcases (show A = 0 ∨ A = 1 ∨ A = 2 by omega) with rfl | rfl | rfl
    · have z0 := t0 (by omega); have z1 := t1 (by omega); have z2 := t2 (by omega)
      subst z0; subst z1; subst z2
      rw [nu_shl (by decide) (by simp only [Nat.reduceMul, Nat.reducePow]; omega), nu_ol (k := 4 * 0) (by decide) (by simp only [Nat.reduceMul, Nat.reducePow]; omega), nu_shl (by decide) (by decide), nu_ol (k := 12) (by simp only [Nat.reduceMul, Nat.reducePow]; omega) (by simp only [Nat.reduceMul, Nat.reducePow]; omega)]
      congr 1
      simp only [Nat.reduceMul, Nat.reducePow, Nat.reduceEqDiff, if_true, if_false]
      omega
    · have z1 := t1 (by omega); have z2 := t2 (by omega)
      subst z1; subst z2
      rw [nu_shl (by decide) (by simp only [Nat.reduceMul, Nat.reducePow]; omega), nu_ol (k := 4 * 1) (by simp only [Nat.reduceMul, Nat.reducePow]; omega) (by simp only [Nat.reduceMul, Nat.reducePow]; omega), nu_shl (by decide) (by decide), nu_ol (k := 12) (by simp only [Nat.reduceMul, Nat.reducePow]; omega) (by simp only [Nat.reduceMul, Nat.reducePow]; omega)]
      congr 1
      simp only [Nat.reduceMul, Nat.reducePow, Nat.reduceEqDiff, if_true, if_false]
      omega
    · have z2 := t2 (by omega)
      subst z2
      rw [nu_shl (by decide) (by simp only [Nat.reduceMul, Nat.reducePow]; omega), nu_ol (k := 4 * 2) (by simp only [Nat.reduceMul, Nat.reducePow]; omega) (by simp only [Nat.reduceMul, Nat.reducePow]; omega), nu_shl (by decide) (by decide), nu_ol (k := 12) (by simp only [Nat.reduceMul, Nat.reducePow]; omega) (by simp only [Nat.reduceMul, Nat.reducePow]; omega)]
      congr 1
      simp only [Nat.reduceMul, Nat.reducePow, Nat.reduceEqDiff, if_true, if_false]
      omega
  rw [key] at e1
  refine hq h3 (fun k hk => by rw [e1]; exact hp_up_row hk) (rw_B_up hr e1 (fun j hj hj0 => ?_))
  unfold rw_pt
  rw [rw_oth (by omega), rw_oth (by omega)]
theorem s_take {c i : Nat} {Q : hp_H → Prop} (hd : rw_D d) (hr : rw_B h w d) (hc : c < 3) (h0 : 0 < d (42 + 4 * c)) (hi : i < 3) (hq : ∀ h', (∀ k, k ≠ w → h' k = h k) → rw_B h' w (rw_tk d c i) → Q h') : q_X7_take w h (nI c) (nI i) Q := by
  unfold q_X7_take
  rw [nI_add]
  refine ⟨nu_in (by omega) (by decide), ?_⟩
  rintro v1 rfl v2 rfl v3 rfl v4 rfl
  refine ⟨nu_in (by omega) (by decide), ?_⟩
  intro h5 e1
  have hW := rw_lt hd (10 + c)
  have lo := nu_low (n := rw_w d (10 + c)) (k := 12) (by omega) (by decide)
  rw [show (2 : Nat) ^ 12 - 1 = 4095 by rfl] at lo
  have lo2 : rw_w d (10 + c) % 2 ^ 12 = d (43 + 4 * c) + 16 * d (44 + 4 * c) + 256 * d (45 + 4 * c) := by
    have := rw_cs d (c := c) hd
    rw [rw_c d hc]
    simp only [Nat.reducePow]
    omega
  have b1 := hd (43 + 4 * c); have b2 := hd (44 + 4 * c); have b3 := hd (45 + 4 * c); have b4 := hd (42 + 4 * c)
  rw [nI_clamp (by omega), hr _ (by omega), rw_held hd hc, lo, lo2, nI_add, pk_mul, pk_mul, pk_sub (by omega)] at e1
  rw [nu_shl (by omega) (by rcases (show i = 0 ∨ i = 1 ∨ i = 2 by omega) with rfl | rfl | rfl <;> decide)] at e1
  rw [pk_sub (by have := Nat.two_pow_pos (4 * i); omega), Nat.one_mul, nu_low (by omega) (by omega), nu_ushr (by omega) (by omega)] at e1
  have key : nI ((d (43 + 4 * c) + 16 * d (44 + 4 * c) + 256 * d (45 + 4 * c)) % 2 ^ (4 * i)) ||| hp_shl (nI ((d (43 + 4 * c) + 16 * d (44 + 4 * c) + 256 * d (45 + 4 * c)) / 2 ^ (4 * (i + 1)))) (nI (4 * i)) ||| hp_shl (nI (d (42 + 4 * c) - 1)) (nI 12) = nI (rw_w (rw_tk d c i) (10 + c)) := by
    have p0 : rw_tk d c i (42 + 4 * c) = d (42 + 4 * c) - 1 := by
      unfold rw_tk
      rw [if_pos rfl]
    have p1 : rw_tk d c i (43 + 4 * c) = if i = 0 then d (44 + 4 * c) else d (43 + 4 * c) := by
      simp only [rw_tk, show 43 + 4 * c + 1 = 44 + 4 * c by omega]
      repeat' split
      all_goals omega
    have p2 : rw_tk d c i (44 + 4 * c) = if i ≤ 1 then d (45 + 4 * c) else d (44 + 4 * c) := by
      simp only [rw_tk, show 44 + 4 * c + 1 = 45 + 4 * c by omega]
      repeat' split
      all_goals omega
    have p3 : rw_tk d c i (45 + 4 * c) = 0 := by
      unfold rw_tk
      rw [if_neg (by omega), if_neg (by omega), if_pos rfl]
    rw [rw_c _ hc, p0, p1, p2, p3]
    clear p0 p1 p2 p3 lo lo2 e1
    generalize eA : d (42 + 4 * c) = A at *
    generalize eB : d (43 + 4 * c) = B at *
    generalize eC : d (44 + 4 * c) = C at *
    generalize eE : d (45 + 4 * c) = E at *
    rcases (show i = 0 ∨ i = 1 ∨ i = 2 by omega) with rfl | rfl | rfl
    · rw [nu_shl (k := 4 * 0) (by decide) (by simp only [Nat.reduceMul, Nat.reduceAdd, Nat.reducePow]; omega), nu_ol (k := 4 * 0) (by simp only [Nat.reduceMul, Nat.reduceAdd, Nat.reducePow]; omega) (by simp only [Nat.reduceMul, Nat.reduceAdd, Nat.reducePow]; omega), nu_shl (k := 12) (by decide) (by simp only [Nat.reduceMul, Nat.reducePow]; omega), nu_ol (k := 12) (by simp only [Nat.reduceMul, Nat.reduceAdd, Nat.reducePow]; omega) (by simp only [Nat.reduceMul, Nat.reduceAdd, Nat.reducePow]; omega)]
      congr 1
      simp only [Nat.reduceMul, Nat.reduceAdd, Nat.reducePow, Nat.reduceEqDiff, Nat.reduceLeDiff, if_true, if_false]
      omega
    · rw [nu_shl (k := 4 * 1) (by decide) (by simp only [Nat.reduceMul, Nat.reduceAdd, Nat.reducePow]; omega), nu_ol (k := 4 * 1) (by simp only [Nat.reduceMul, Nat.reduceAdd, Nat.reducePow]; omega) (by simp only [Nat.reduceMul, Nat.reduceAdd, Nat.reducePow]; omega), nu_shl (k := 12) (by decide) (by simp only [Nat.reduceMul, Nat.reducePow]; omega), nu_ol (k := 12) (by simp only [Nat.reduceMul, Nat.reduceAdd, Nat.reducePow]; omega) (by simp only [Nat.reduceMul, Nat.reduceAdd, Nat.reducePow]; omega)]
      congr 1
      simp only [Nat.reduceMul, Nat.reduceAdd, Nat.reducePow, Nat.reduceEqDiff, Nat.reduceLeDiff, if_true, if_false]
      omega
    · rw [nu_shl (k := 4 * 2) (by decide) (by simp only [Nat.reduceMul, Nat.reduceAdd, Nat.reducePow]; omega), nu_ol (k := 4 * 2) (by simp only [Nat.reduceMul, Nat.reduceAdd, Nat.reducePow]; omega) (by simp only [Nat.reduceMul, Nat.reduceAdd, Nat.reducePow]; omega), nu_shl (k := 12) (by decide) (by simp only [Nat.reduceMul, Nat.reducePow]; omega), nu_ol (k := 12) (by simp only [Nat.reduceMul, Nat.reduceAdd, Nat.reducePow]; omega) (by simp only [Nat.reduceMul, Nat.reduceAdd, Nat.reducePow]; omega)]
      congr 1
      simp only [Nat.reduceMul, Nat.reduceAdd, Nat.reducePow, Nat.reduceEqDiff, Nat.reduceLeDiff, if_true, if_false]
      omega
  rw [key] at e1
  refine hq h5 (fun k hk => by rw [e1]; exact hp_up_row hk) (rw_B_up hr e1 (fun j hj hj0 => ?_))
  have ho : ∀ k, (k < 42 + 4 * c ∨ 46 + 4 * c ≤ k) → rw_tk d c i k = d k := by
    intro k hk
    simp only [rw_tk]
    repeat' split
    all_goals omega
  unfold rw_w
  by_cases z0 : j = 0
  · rw [if_pos z0, if_pos z0, ho 0 (by omega), ho 1 (by omega), ho 2 (by omega), ho 3 (by omega), ho 4 (by omega), ho 5 (by omega)]
  · by_cases z1 : j < 10
    · rw [if_neg z0, if_pos z1, if_neg z0, if_pos z1, ho _ (by omega), ho _ (by omega), ho _ (by omega), ho _ (by omega)]
    · rw [if_neg z0, if_neg z1, if_neg z0, if_neg z1, ho _ (by omega), ho _ (by omega), ho _ (by omega), ho _ (by omega)]
/-- two members beside each other change places -/
def rw_sw (d : Nat → Nat) (i : Nat) : Nat → Nat := fun k => if 6 + 4 * i ≤ k ∧ k < 10 + 4 * i then d (k + 4) else if 10 + 4 * i ≤ k ∧ k < 14 + 4 * i then d (k - 4) else d k
def rw_cw (d : Nat → Nat) (i : Nat) : Nat → Nat := if rw_w d (1 + i) ≤ rw_w d (2 + i) then d else rw_sw d i
/-- the members of role r, of whom there are n, in their order -/
def rw_ar (d : Nat → Nat) (r n : Nat) : Nat → Nat := if n = 3 then rw_cw (rw_cw (rw_cw d (3 * r)) (3 * r + 1)) (3 * r) else if n = 2 then rw_cw d (3 * r) else d
theorem rw_sw_D (hd : rw_D d) (i : Nat) : rw_D (rw_sw d i) := by
  intro k
  unfold rw_sw
  split
  · exact hd _
  · split <;> exact hd _
theorem rw_cw_D (hd : rw_D d) (i : Nat) : rw_D (rw_cw d i) := by
  unfold rw_cw
  split
  · exact hd
  · exact rw_sw_D hd i
theorem rw_ar_D (hd : rw_D d) (r n : Nat) : rw_D (rw_ar d r n) := by
  unfold rw_ar
  split
  · exact rw_cw_D (rw_cw_D (rw_cw_D hd _) _) _
  · split
    · exact rw_cw_D hd _
    · exact hd
theorem rw_sw1 {i : Nat} (hi : i < 8) : rw_w (rw_sw d i) (1 + i) = rw_w d (2 + i) := by
  rw [rw_m _ (by omega), show 2 + i = 1 + (i + 1) by omega, rw_m _ (by omega)]
  unfold rw_sw
  rw [if_pos (by omega), if_pos (by omega), if_pos (by omega), if_pos (by omega), show 6 + 4 * i + 4 = 6 + 4 * (i + 1) by omega, show 7 + 4 * i + 4 = 7 + 4 * (i + 1) by omega, show 8 + 4 * i + 4 = 8 + 4 * (i + 1) by omega, show 9 + 4 * i + 4 = 9 + 4 * (i + 1) by omega]
theorem rw_sw2 {i : Nat} (hi : i < 8) : rw_w (rw_sw d i) (2 + i) = rw_w d (1 + i) := by
  rw [rw_m d (by omega), show 2 + i = 1 + (i + 1) by omega, rw_m _ (by omega)]
  unfold rw_sw
  rw [if_neg (by omega), if_pos (by omega), if_neg (by omega), if_pos (by omega), if_neg (by omega), if_pos (by omega), if_neg (by omega), if_pos (by omega), show 6 + 4 * (i + 1) - 4 = 6 + 4 * i by omega, show 7 + 4 * (i + 1) - 4 = 7 + 4 * i by omega, show 8 + 4 * (i + 1) - 4 = 8 + 4 * i by omega, show 9 + 4 * (i + 1) - 4 = 9 + 4 * i by omega]
theorem rw_sw0 {i j : Nat} (hi : i < 8) (h1 : j ≠ 1 + i) (h2 : j ≠ 2 + i) : rw_w (rw_sw d i) j = rw_w d j := by
  have ho : ∀ k, (k < 6 + 4 * i ∨ 14 + 4 * i ≤ k) → rw_sw d i k = d k := by
    intro k hk
    unfold rw_sw
    rw [if_neg (by omega), if_neg (by omega)]
  unfold rw_w
  by_cases z0 : j = 0
  · rw [if_pos z0, if_pos z0, ho 0 (by omega), ho 1 (by omega), ho 2 (by omega), ho 3 (by omega), ho 4 (by omega), ho 5 (by omega)]
  · by_cases z1 : j < 10
    · rw [if_neg z0, if_pos z1, if_neg z0, if_pos z1, ho _ (by omega), ho _ (by omega), ho _ (by omega), ho _ (by omega)]
    · rw [if_neg z0, if_neg z1, if_neg z0, if_neg z1, ho _ (by omega), ho _ (by omega), ho _ (by omega), ho _ (by omega)]
/-- one comparison of 'arrange' -/
theorem s_ar1 {i : Nat} {K : hp_H → Prop} (hd : rw_D d) (hr : rw_B h w d) (hi : i < 8) (hq : ∀ h', (∀ k, k ≠ w → h' k = h k) → rw_B h' w (rw_cw d i) → K h') :
    ((h w (nI (1 + i)).toNatClampNeg) ≤ (h w ((nI (1 + i)) + (nI 1)).toNatClampNeg) → K h) ∧ (¬ (h w (nI (1 + i)).toNatClampNeg) ≤ (h w ((nI (1 + i)) + (nI 1)).toNatClampNeg) →
      vp_in (nI (1 + i)) 13 ∧ ∀ v15 : Int32, v15 = (h w (nI (1 + i)).toNatClampNeg) → vp_in ((nI (1 + i)) + (nI 1)) 13 ∧ vp_in (nI (1 + i)) 13 ∧ ∀ h16 : hp_H, h16 = hp_up h w (nI (1 + i)).toNatClampNeg (h w ((nI (1 + i)) + (nI 1)).toNatClampNeg) → vp_in ((nI (1 + i)) + (nI 1)) 13 ∧ ∀ h17 : hp_H, h17 = hp_up h16 w ((nI (1 + i)) + (nI 1)).toNatClampNeg v15 → K h17) := by
  have l1 := rw_lt hd (1 + i)
  have l2 := rw_lt hd (2 + i)
  rw [nI_add, show 1 + i + 1 = 2 + i by omega, nI_clamp (by omega), nI_clamp (by omega), hr _ (by omega), hr _ (by omega), nI_leI (by omega) (by omega)]
  refine ⟨fun q => hq h (fun _ _ => rfl) (by unfold rw_cw; rw [if_pos q]; exact hr), fun q => ⟨nu_in (by omega) (by decide), ?_⟩⟩
  rintro v15 rfl
  refine ⟨nu_in (by omega) (by decide), nu_in (by omega) (by decide), ?_⟩
  rintro h16 rfl
  refine ⟨nu_in (by omega) (by decide), ?_⟩
  rintro h17 rfl
  refine hq _ (fun k hk => by rw [hp_up_row hk, hp_up_row hk]) ?_
  unfold rw_cw
  rw [if_neg q]
  intro j hj
  by_cases e1 : j = 1 + i
  · subst e1
    rw [hp_up_slot (by omega), hp_up_same, rw_sw1 hi]
  · by_cases e2 : j = 2 + i
    · subst e2
      rw [hp_up_same, rw_sw2 hi]
    · rw [hp_up_slot e2, hp_up_slot e1, hr j hj, rw_sw0 hi e1 e2]
theorem s_arrange {r n : Nat} {Q : hp_H → Prop} (hd : rw_D d) (hr : rw_B h w d) (h1 : r < 3) (hn : 1 ≤ n) (hn3 : n ≤ 3) (hq : ∀ h', (∀ k, k ≠ w → h' k = h k) → rw_B h' w (rw_ar d r n) → Q h') : q_X7_arrange w h (nI r) (nI n) Q := by
  unfold q_X7_arrange
  rintro v1 rfl v2 rfl
  rw [pk_mul, nI_add, nI_add, pk_sub (by omega), show r * 3 = 3 * r by omega]
  have step : ∀ (hh : hp_H) (dd : Nat → Nat) (i : Nat) (R : hp_H → Prop), rw_D dd → rw_B hh w dd → i < 8 → (∀ h', (∀ k, k ≠ w → h' k = hh k) → rw_B h' w (rw_cw dd i) → R h') →
      vp_in (nI (1 + i)) 13 ∧ vp_in ((nI (1 + i)) + (nI 1)) 13 ∧ hp_jn0h (fun K13 => ((hh w (nI (1 + i)).toNatClampNeg) ≤ (hh w ((nI (1 + i)) + (nI 1)).toNatClampNeg) → K13 hh) ∧ (¬ (hh w (nI (1 + i)).toNatClampNeg) ≤ (hh w ((nI (1 + i)) + (nI 1)).toNatClampNeg) →
        vp_in (nI (1 + i)) 13 ∧ ∀ v15 : Int32, v15 = (hh w (nI (1 + i)).toNatClampNeg) → vp_in ((nI (1 + i)) + (nI 1)) 13 ∧ vp_in (nI (1 + i)) 13 ∧ ∀ h16 : hp_H, h16 = hp_up hh w (nI (1 + i)).toNatClampNeg (hh w ((nI (1 + i)) + (nI 1)).toNatClampNeg) → vp_in ((nI (1 + i)) + (nI 1)) 13 ∧ ∀ h17 : hp_H, h17 = hp_up h16 w ((nI (1 + i)) + (nI 1)).toNatClampNeg v15 → K13 h17)) R := by
    intro hh dd i R q1 q2 q3 q4
    refine ⟨nu_in (by omega) (by decide), by rw [nI_add]; exact nu_in (by omega) (by decide), ?_⟩
    exact hp_jn0h_i (s_ar1 q1 q2 q3 q4)
  rcases (show n = 1 ∨ n = 2 ∨ n = 3 by omega) with rfl | rfl | rfl
  · refine hp_lp1h_f ⟨fun _ => hq h (fun _ _ => rfl) (by unfold rw_ar; rw [if_neg (by decide), if_neg (by decide)]; exact hr), fun q => absurd (nI_le (by omega) (by omega)) q⟩
  · refine hp_lp1h_f ⟨fun q => absurd q (nI_ge (by omega) (by omega)), fun _ => ?_⟩
    refine hp_lp1h_f ⟨fun q => absurd q (nI_ge (by omega) (by omega)), fun _ => ?_⟩
    refine step h d (3 * r) _ hd hr (by omega) (fun h2 f2 r2 => ?_)
    rintro v18 rfl
    rw [nI_add]
    refine hp_lp1h_f ⟨fun _ => ?_, fun q => absurd (nI_le (by omega) (by omega)) q⟩
    rintro v11 rfl
    rw [show 1 + 3 * r + 2 - 1 = (3 * r + 1) + 1 by omega, pk_m1]
    refine hp_lp1h_f ⟨fun _ => ?_, fun q => absurd (nI_le (by omega) (by omega)) q⟩
    exact hq h2 f2 (by unfold rw_ar; rw [if_neg (by decide), if_pos rfl]; exact r2)
  · refine hp_lp1h_f ⟨fun q => absurd q (nI_ge (by omega) (by omega)), fun _ => ?_⟩
    refine hp_lp1h_f ⟨fun q => absurd q (nI_ge (by omega) (by omega)), fun _ => ?_⟩
    refine step h d (3 * r) _ hd hr (by omega) (fun h2 f2 r2 => ?_)
    rintro v18 rfl
    rw [nI_add, show 1 + 3 * r + 1 = 1 + (3 * r + 1) by omega]
    refine hp_lp1h_f ⟨fun q => absurd q (nI_ge (by omega) (by omega)), fun _ => ?_⟩
    refine step h2 (rw_cw d (3 * r)) (3 * r + 1) _ (rw_cw_D hd _) r2 (by omega) (fun h3 f3 r3 => ?_)
    rintro v18 rfl
    rw [nI_add]
    refine hp_lp1h_f ⟨fun _ => ?_, fun q => absurd (nI_le (by omega) (by omega)) q⟩
    rintro v11 rfl
    rw [show 1 + 3 * r + 3 - 1 = (3 * r + 2) + 1 by omega, pk_m1]
    refine hp_lp1h_f ⟨fun q => absurd q (nI_ge (by omega) (by omega)), fun _ => ?_⟩
    refine hp_lp1h_f ⟨fun q => absurd q (nI_ge (by omega) (by omega)), fun _ => ?_⟩
    refine step h3 _ (3 * r) _ (rw_cw_D (rw_cw_D hd _) _) r3 (by omega) (fun h4 f4 r4 => ?_)
    rintro v18 rfl
    rw [nI_add]
    refine hp_lp1h_f ⟨fun _ => ?_, fun q => absurd (nI_le (by omega) (by omega)) q⟩
    rintro v11 rfl
    rw [show 3 * r + 2 = (3 * r + 1) + 1 by omega, pk_m1]
    refine hp_lp1h_f ⟨fun _ => ?_, fun q => absurd (nI_le (by omega) (by omega)) q⟩
    exact hq h4 (fun k hk => by rw [f4 k hk, f3 k hk, f2 k hk]) (by unfold rw_ar; rw [if_pos rfl]; exact r4)
end
