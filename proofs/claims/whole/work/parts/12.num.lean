/-! ===== numbers: small whole numbers as Int32, digits of four bits ===== -/
theorem nu_0 {n : Nat} (h : n < 2 ^ 31) : (nI n = 0) ↔ n = 0 := by rw [← nI_0, nI_eq h (by decide)]
theorem nu_lt0 {n : Nat} (h : n < 2 ^ 31) : (nI n < 0) ↔ False := ⟨fun q => nI_pos h q, False.elim⟩
theorem nu_le0 {n : Nat} (h : n < 2 ^ 31) : (0 ≤ nI n) ↔ True := ⟨fun _ => trivial, fun _ => nI_pos' h⟩
theorem nu_m1 {n : Nat} (h : n < 2 ^ 31) : (nI n = -1) ↔ False := by
  refine ⟨fun q => ?_, False.elim⟩
  have := nI_pos h
  rw [q] at this
  exact this (by decide)
theorem nu_in {i n : Nat} (h : i < n) (hn : n < 2 ^ 31) : vp_in (nI i) n := vp_in_nI h hn
theorem nu_b (x : Int32) : ∃ n, n < 2 ^ 32 ∧ x = nI n := ⟨x.toBitVec.toNat, x.toBitVec.isLt, Int32.toBitVec_inj.mp (by show _ = BitVec.ofNat 32 _; simp)⟩
theorem nu_bv (n : Nat) : (nI n).toBitVec = BitVec.ofNat 32 n := rfl
theorem nu_and {a b : Nat} (ha : a < 2 ^ 32) (hb : b < 2 ^ 32) : nI a &&& nI b = nI (a &&& b) := by
  apply Int32.toBitVec_inj.mp
  rw [Int32.toBitVec_and, nu_bv, nu_bv, nu_bv]
  apply BitVec.eq_of_toNat_eq
  rw [BitVec.toNat_and, BitVec.toNat_ofNat, BitVec.toNat_ofNat, BitVec.toNat_ofNat, Nat.mod_eq_of_lt ha, Nat.mod_eq_of_lt hb, Nat.mod_eq_of_lt (Nat.lt_of_le_of_lt Nat.and_le_left ha)]
theorem nu_or {a b : Nat} (ha : a < 2 ^ 32) (hb : b < 2 ^ 32) : nI a ||| nI b = nI (a ||| b) := by
  apply Int32.toBitVec_inj.mp
  rw [Int32.toBitVec_or, nu_bv, nu_bv, nu_bv]
  apply BitVec.eq_of_toNat_eq
  rw [BitVec.toNat_or, BitVec.toNat_ofNat, BitVec.toNat_ofNat, BitVec.toNat_ofNat, Nat.mod_eq_of_lt ha, Nat.mod_eq_of_lt hb, Nat.mod_eq_of_lt (Nat.or_lt_two_pow ha hb)]
theorem nu_sl : ∀ n, n < 32 → ((nI n &&& 31).toBitVec.smod 32).toNat = n := by decide +kernel
theorem nu_su : ∀ n, n < 32 → (((nI n).toUInt32 &&& Int32.toUInt32 31).toBitVec % 32).toNat = n := by decide +kernel
theorem nu_ushr {n k : Nat} (hn : n < 2 ^ 32) (hk : k < 32) : hp_ushr (nI n) (nI k) = nI (n / 2 ^ k) := pk_ushrN hn _ k (nu_su k hk)
theorem nu_shl {n k : Nat} (hk : k < 32) (h : n * 2 ^ k < 2 ^ 32) : hp_shl (nI n) (nI k) = nI (n * 2 ^ k) := pk_shlN _ k (nu_sl k hk) h
theorem nu_and15 {n : Nat} (hn : n < 2 ^ 32) : nI n &&& nI 15 = nI (n % 16) := pk_andN hn 4 (by decide)
theorem nu_div {a d : Nat} (ha : a < 2 ^ 31) (h0 : 0 < d) (hd : d < 2 ^ 31) : nI a / nI d = nI (a / d) := pk_div ha h0 hd
theorem nu_rem {a d : Nat} (ha : a < 2 ^ 31) (h0 : 0 < d) (hd : d < 2 ^ 31) : hp_rem (nI a) (nI d) = nI (a % d) := pk_rem ha h0 hd
theorem nu_mask : ∀ k, k < 7 → hp_shl (nI 15) (nI (4 * k)) ^^^ (-1) = nI (2 ^ (4 * k + 4) * (2 ^ (28 - 4 * k) - 1) + (2 ^ (4 * k) - 1)) := by decide +kernel
/-- one digit of four bits is set -/
theorem nu_dig {hi x lo v k : Nat} (hk : k < 7) (hlo : lo < 2 ^ (4 * k)) (hx : x < 16) (hv : v < 16) (hhi : hi < 2 ^ (28 - 4 * k)) :
    ((2 ^ (4 * k + 4) * hi + (2 ^ (4 * k) * x + lo)) &&& (2 ^ (4 * k + 4) * (2 ^ (28 - 4 * k) - 1) + (2 ^ (4 * k) - 1))) ||| (v * 2 ^ (4 * k)) = 2 ^ (4 * k + 4) * hi + (2 ^ (4 * k) * v + lo) := by
  have p1 : 2 ^ (4 * k + 4) = 2 ^ (4 * k) * 16 := by rw [Nat.pow_add]
  have b1 : 2 ^ (4 * k) * x + lo < 2 ^ (4 * k + 4) := by
    rw [p1]
    calc 2 ^ (4 * k) * x + lo < 2 ^ (4 * k) * x + 2 ^ (4 * k) := by omega
      _ = 2 ^ (4 * k) * (x + 1) := by rw [Nat.mul_add, Nat.mul_one]
      _ ≤ 2 ^ (4 * k) * 16 := Nat.mul_le_mul_left _ (by omega)
  have b2 : 2 ^ (4 * k) * v + lo < 2 ^ (4 * k + 4) := by
    rw [p1]
    calc 2 ^ (4 * k) * v + lo < 2 ^ (4 * k) * v + 2 ^ (4 * k) := by omega
      _ = 2 ^ (4 * k) * (v + 1) := by rw [Nat.mul_add, Nat.mul_one]
      _ ≤ 2 ^ (4 * k) * 16 := Nat.mul_le_mul_left _ (by omega)
  have pp : 0 < 2 ^ (4 * k) := Nat.two_pow_pos _
  have b3 : 2 ^ (4 * k) - 1 < 2 ^ (4 * k + 4) := by rw [p1]; omega
  have v4 : v < 2 ^ 4 := hv
  apply Nat.eq_of_testBit_eq
  intro i
  rw [Nat.testBit_or, Nat.testBit_and, Nat.testBit_two_pow_mul_add _ b1, Nat.testBit_two_pow_mul_add _ b3, Nat.testBit_two_pow_mul_add _ b2, Nat.testBit_two_pow_mul_add _ hlo, Nat.testBit_two_pow_mul_add _ hlo, Nat.mul_comm v, Nat.testBit_two_pow_mul]
  simp only [Nat.testBit_two_pow_sub_one]
  by_cases h1 : i < 4 * k
  · have h2 : i < 4 * k + 4 := by omega
    have h3 : ¬ 4 * k ≤ i := by omega
    simp [h1, h2, h3]
  · by_cases h2 : i < 4 * k + 4
    · have h3 : 4 * k ≤ i := by omega
      simp [h1, h2, h3]
    · have h3 : 4 * k ≤ i := by omega
      have h4 : v.testBit (i - 4 * k) = false := Nat.testBit_lt_two_pow (Nat.lt_of_lt_of_le v4 (Nat.pow_le_pow_right (by decide) (by omega)))
      have h5 : hi.testBit (i - (4 * k + 4)) = true → i - (4 * k + 4) < 28 - 4 * k := by
        intro q
        rcases Nat.lt_or_ge (i - (4 * k + 4)) (28 - 4 * k) with z | z
        · exact z
        · have := Nat.testBit_lt_two_pow (Nat.lt_of_lt_of_le hhi (Nat.pow_le_pow_right (by decide) z))
          rw [this] at q
          cases q
      simp [h1, h2, h3, h4]
      exact h5
theorem nu_set {hi x lo v k : Nat} (hk : k < 7) (hlo : lo < 2 ^ (4 * k)) (hx : x < 16) (hv : v < 16) (hhi : hi < 2 ^ (28 - 4 * k)) :
    (nI (2 ^ (4 * k + 4) * hi + (2 ^ (4 * k) * x + lo)) &&& (hp_shl (nI 15) (nI (4 * k)) ^^^ (-1))) ||| hp_shl (nI v) (nI (4 * k)) = nI (2 ^ (4 * k + 4) * hi + (2 ^ (4 * k) * v + lo)) := by
  have p1 : 2 ^ (4 * k + 4) = 2 ^ (4 * k) * 16 := by rw [Nat.pow_add]
  have pp : 0 < 2 ^ (4 * k) := Nat.two_pow_pos _
  have p2 : 2 ^ (4 * k + 4) * 2 ^ (28 - 4 * k) = 2 ^ 32 := by rw [← Nat.pow_add]; congr 1; omega
  have q0 : 0 < 2 ^ (28 - 4 * k) := Nat.two_pow_pos _
  have big : ∀ z, z < 16 → 2 ^ (4 * k + 4) * hi + (2 ^ (4 * k) * z + lo) < 2 ^ 32 := by
    intro z hz
    have : 2 ^ (4 * k) * z + lo < 2 ^ (4 * k + 4) := by
      rw [p1]
      calc 2 ^ (4 * k) * z + lo < 2 ^ (4 * k) * z + 2 ^ (4 * k) := by omega
        _ = 2 ^ (4 * k) * (z + 1) := by rw [Nat.mul_add, Nat.mul_one]
        _ ≤ 2 ^ (4 * k) * 16 := Nat.mul_le_mul_left _ (by omega)
    calc 2 ^ (4 * k + 4) * hi + (2 ^ (4 * k) * z + lo) < 2 ^ (4 * k + 4) * hi + 2 ^ (4 * k + 4) := by omega
      _ = 2 ^ (4 * k + 4) * (hi + 1) := by rw [Nat.mul_add, Nat.mul_one]
      _ ≤ 2 ^ (4 * k + 4) * 2 ^ (28 - 4 * k) := Nat.mul_le_mul_left _ (by omega)
      _ = 2 ^ 32 := p2
  have m1 : 2 ^ (4 * k + 4) * (2 ^ (28 - 4 * k) - 1) + (2 ^ (4 * k) - 1) < 2 ^ 32 := by
    rw [Nat.mul_sub, p2, Nat.mul_one]
    have : 2 ^ (4 * k + 4) ≤ 2 ^ 32 := Nat.pow_le_pow_right (by decide) (by omega)
    omega
  have v1 : v * 2 ^ (4 * k) < 2 ^ 32 := by
    have := big v hv
    rw [Nat.mul_comm]
    omega
  rw [nu_mask k hk, nu_shl (by omega) v1, nu_and (big x hx) m1, nu_or (Nat.lt_of_le_of_lt Nat.and_le_left (big x hx)) v1, nu_dig hk hlo hx hv hhi]
