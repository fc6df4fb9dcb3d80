theorem wb_tb (n : Nat) : (lN n).toBitVec = BitVec.ofNat 64 n := rfl
theorem wb_inj {a b : Int64} (h : a.toBitVec = b.toBitVec) : a = b := Int64.toBitVec_inj.mp h
theorem wb_tn {n : Nat} (h : n < 2 ^ 64) : (lN n).toBitVec.toNat = n := by rw [wb_tb, BitVec.toNat_ofNat, Nat.mod_eq_of_lt h]
theorem wb_of (x : Int64) : ∃ n, n < 2 ^ 64 ∧ x = lN n := ⟨x.toBitVec.toNat, x.toBitVec.isLt, wb_inj (by rw [wb_tb]; simp)⟩
theorem wb_of32 (x : Int32) : ∃ n, n < 2 ^ 32 ∧ x = nI n := ⟨x.toBitVec.toNat, x.toBitVec.isLt, Int32.toBitVec_inj.mp (by show _ = BitVec.ofNat 32 _; simp)⟩
theorem wb_c : ∀ k, k < 64 → ((nI k).toInt64 &&& 63) = lN k := by decide +kernel
theorem wb_cu : ∀ k, k < 64 → ((nI k).toInt64.toUInt64 &&& Int64.toUInt64 63) = UInt64.ofNat k := by decide +kernel
theorem wb_sm : ∀ k, k < 64 → (BitVec.ofNat 64 k).smod 64 = BitVec.ofNat 64 k := by decide +kernel
theorem wb_pw {a b : Nat} (h : a ≤ b) : 2 ^ b = 2 ^ a * 2 ^ (b - a) := by rw [← Nat.pow_add]; congr 1; omega
theorem wb_lt2 {a b : Nat} (h : a < b) : 2 ^ a < 2 ^ b := Nat.pow_lt_pow_right (by decide) h
theorem wb_mod (n : Nat) : lN n = lN (n % 2 ^ 64) := wb_inj (by rw [wb_tb, wb_tb]; apply BitVec.eq_of_toNat_eq; rw [BitVec.toNat_ofNat, BitVec.toNat_ofNat, Nat.mod_mod])
theorem wb_shr {n k : Nat} (hn : n < 2 ^ 64) (hk : k < 64) : ((lN n).toUInt64 >>> ((nI k).toInt64.toUInt64 &&& Int64.toUInt64 63)).toInt64 = lN (n / 2 ^ k) := by
  rw [wb_cu k hk]
  apply wb_inj
  apply BitVec.eq_of_toNat_eq
  show ((lN n).toUInt64 >>> UInt64.ofNat k).toNat = (BitVec.ofNat 64 _).toNat
  have h1 : (UInt64.ofNat k).toNat = k := by
    show (BitVec.ofNat 64 k).toNat = k
    rw [BitVec.toNat_ofNat, Nat.mod_eq_of_lt (by omega)]
  have h2 : (lN n).toUInt64.toNat = n := wb_tn hn
  rw [UInt64.toNat_shiftRight, h1, h2, Nat.mod_eq_of_lt hk, Nat.shiftRight_eq_div_pow, BitVec.toNat_ofNat, Nat.mod_eq_of_lt (Nat.lt_of_le_of_lt (Nat.div_le_self _ _) hn)]
theorem wb_shl (n : Nat) {k : Nat} (hk : k < 64) : lN n <<< ((nI k).toInt64 &&& 63) = lN (n * 2 ^ k) := by
  rw [wb_c k hk]
  apply wb_inj
  rw [Int64.toBitVec_shiftLeft, wb_tb, wb_tb, wb_tb, wb_sm k hk]
  apply BitVec.eq_of_toNat_eq
  rw [BitVec.shiftLeft_eq', BitVec.toNat_shiftLeft, BitVec.toNat_ofNat, BitVec.toNat_ofNat, BitVec.toNat_ofNat, Nat.mod_eq_of_lt (show k < 2 ^ 64 by omega), Nat.shiftLeft_eq, Nat.mul_mod, Nat.mod_mod, ← Nat.mul_mod]
theorem wb_and {a b : Nat} (ha : a < 2 ^ 64) (hb : b < 2 ^ 64) : lN a &&& lN b = lN (a &&& b) := by
  apply wb_inj
  rw [Int64.toBitVec_and, wb_tb, wb_tb, wb_tb]
  apply BitVec.eq_of_toNat_eq
  rw [BitVec.toNat_and, BitVec.toNat_ofNat, BitVec.toNat_ofNat, BitVec.toNat_ofNat, Nat.mod_eq_of_lt ha, Nat.mod_eq_of_lt hb, Nat.mod_eq_of_lt (Nat.and_lt_two_pow _ hb)]
theorem wb_or {a b : Nat} (ha : a < 2 ^ 64) (hb : b < 2 ^ 64) : lN a ||| lN b = lN (a ||| b) := by
  apply wb_inj
  rw [Int64.toBitVec_or, wb_tb, wb_tb, wb_tb]
  apply BitVec.eq_of_toNat_eq
  rw [BitVec.toNat_or, BitVec.toNat_ofNat, BitVec.toNat_ofNat, BitVec.toNat_ofNat, Nat.mod_eq_of_lt ha, Nat.mod_eq_of_lt hb, Nat.mod_eq_of_lt (Nat.or_lt_two_pow ha hb)]
theorem wb_mask {n k : Nat} (hn : n < 2 ^ 64) (hk : k < 64) : lN n &&& lN (2 ^ k - 1) = lN (n % 2 ^ k) := by
  rw [wb_and hn (by have := wb_lt2 hk; omega), Nat.and_two_pow_sub_one_eq_mod]
theorem wb_a1 {n : Nat} (hn : n < 2 ^ 64) : lN n &&& 1 = lN (n % 2) := wb_mask (k := 1) hn (by decide)
theorem wb_bit {n k : Nat} (hn : n < 2 ^ 64) (hk : k < 64) : ((lN n).toUInt64 >>> ((nI k).toInt64.toUInt64 &&& Int64.toUInt64 63)).toInt64 &&& 1 = lN (n / 2 ^ k % 2) := by
  rw [wb_shr hn hk, wb_a1 (Nat.lt_of_le_of_lt (Nat.div_le_self _ _) hn)]
theorem wb_xor {q k : Nat} (hk : k < 63) (h : 2 ^ k ≤ q) (h2 : q < 2 ^ (k + 1)) : lN q ^^^ lN (2 ^ k) = lN (q - 2 ^ k) := by
  obtain ⟨r, rfl⟩ : ∃ r, q = 2 ^ k + r := ⟨q - 2 ^ k, by omega⟩
  have hr : r < 2 ^ k := by rw [Nat.pow_succ] at h2; omega
  have hx : (2 ^ k + r) ^^^ 2 ^ k = r := by
    apply Nat.eq_of_testBit_eq
    intro i
    rw [Nat.testBit_xor, Nat.testBit_two_pow]
    rcases Nat.lt_trichotomy i k with h | h | h
    · rw [Nat.testBit_two_pow_add_gt h]
      simp [show ¬ k = i by omega]
    · subst h
      rw [Nat.testBit_two_pow_add_eq]
      simp
    · have a1 : 2 ^ (k + 1) ≤ 2 ^ i := Nat.pow_le_pow_right (by decide) h
      rw [Nat.testBit_lt_two_pow (show 2 ^ k + r < 2 ^ i by omega), Nat.testBit_lt_two_pow (show r < 2 ^ i by omega)]
      simp [show ¬ k = i by omega]
  have b1 := wb_lt2 (show k + 1 < 64 by omega)
  have b2 := wb_lt2 (show k < 64 by omega)
  apply wb_inj
  rw [Int64.toBitVec_xor, wb_tb, wb_tb, wb_tb]
  apply BitVec.eq_of_toNat_eq
  rw [BitVec.toNat_xor, BitVec.toNat_ofNat, BitVec.toNat_ofNat, BitVec.toNat_ofNat, Nat.mod_eq_of_lt (by omega : 2 ^ k + r < 2 ^ 64), Nat.mod_eq_of_lt b2, hx, Nat.add_sub_cancel_left, Nat.mod_eq_of_lt (by omega)]
theorem u_tn {n : Nat} (h : n < 2 ^ 64) : (UInt64.ofNat n).toNat = n := Nat.mod_eq_of_lt h
theorem g_or {k p a b : Nat} (hp : 2 ^ k = p) (ha : a < p) (h : b * p + a < 2 ^ 64) : lN (b * p) ||| lN a = lN (b * p + a) := by
  subst hp
  have h1 : b * 2 ^ k ||| a = b * 2 ^ k + a := by rw [← Nat.shiftLeft_eq, Nat.shiftLeft_add_eq_or_of_lt ha]
  have h3 : UInt64.ofNat (b * 2 ^ k) ||| UInt64.ofNat a = UInt64.ofNat (b * 2 ^ k + a) := UInt64.toNat_inj.mp (by rw [UInt64.toNat_or, u_tn (by omega), u_tn (by omega), u_tn h, h1])
  have h2 := congrArg UInt64.toInt64 h3
  exact h2
def uN (x : Int64) : Nat := x.toUInt64.toNat
theorem uN_lt (x : Int64) : uN x < 18446744073709551616 := x.toUInt64.toNat_lt
theorem uN_inj {x y : Int64} (h : uN x = uN y) : x = y := congrArg UInt64.toInt64 (UInt64.toNat_inj.mp h)
theorem uN_add (x y : Int64) : uN (x + y) = (uN x + uN y) % 18446744073709551616 := by
  show (x.toUInt64 + y.toUInt64).toNat = _
  exact UInt64.toNat_add _ _
theorem uN_mul (x y : Int64) : uN (x * y) = (uN x * uN y) % 18446744073709551616 := by
  show (x.toUInt64 * y.toUInt64).toNat = _
  exact UInt64.toNat_mul _ _
theorem uN_shl (x : Int64) : uN (x <<< ((1 : Int32).toInt64 &&& 63)) = (2 * uN x) % 18446744073709551616 := by
  have h : (((1 : Int32).toInt64 &&& 63).toBitVec.smod 64).toNat = 1 := by decide
  show (x.toBitVec <<< (((1 : Int32).toInt64 &&& 63).toBitVec.smod 64).toNat).toNat = _
  rw [h, BitVec.toNat_shiftLeft, Nat.shiftLeft_eq, Nat.mul_comm]
  rfl
theorem uN_shr (x : Int64) (s : UInt64) : uN (x.toUInt64 >>> s).toInt64 = uN x / 2 ^ (s.toNat % 64) := by
  show (x.toUInt64 >>> s).toNat = _
  rw [UInt64.toNat_shiftRight, Nat.shiftRight_eq_div_pow]
  rfl
theorem uN_s32 (x : Int64) : uN (x.toUInt64 >>> ((32 : Int32).toInt64.toUInt64 &&& Int64.toUInt64 63)).toInt64 = uN x / 4294967296 := by
  have h : ((32 : Int32).toInt64.toUInt64 &&& Int64.toUInt64 63).toNat % 64 = 32 := by decide
  rw [uN_shr, h]
theorem uN_s63 (x : Int64) : uN (x.toUInt64 >>> ((63 : Int32).toInt64.toUInt64 &&& Int64.toUInt64 63)).toInt64 = uN x / 9223372036854775808 := by
  have h : ((63 : Int32).toInt64.toUInt64 &&& Int64.toUInt64 63).toNat % 64 = 63 := by decide
  rw [uN_shr, h]
theorem uN_lo (x : Int64) : uN (x &&& 4294967295) = uN x % 4294967296 := by
  show (x.toUInt64 &&& Int64.toUInt64 4294967295).toNat = _
  rw [UInt64.toNat_and]
  exact Nat.and_two_pow_sub_one_eq_mod _ 32
theorem uN_bit (x : Int64) : (x &&& 1) = 0 ↔ uN x % 2 = 0 := by
  have h : uN (x &&& 1) = uN x % 2 := by
    show (x.toUInt64 &&& Int64.toUInt64 1).toNat = _
    rw [UInt64.toNat_and]
    exact Nat.and_two_pow_sub_one_eq_mod _ 1
  rw [← h]
  exact ⟨fun z => by rw [z]; rfl, fun z => uN_inj (z.trans rfl)⟩
theorem uN_or {x y : Int64} (hy : uN y < 2) : uN ((x <<< ((1 : Int32).toInt64 &&& 63)) ||| y) = (2 * uN x) % 18446744073709551616 + uN y := by
  have h1 : uN ((x <<< ((1 : Int32).toInt64 &&& 63)) ||| y) = uN (x <<< ((1 : Int32).toInt64 &&& 63)) ||| uN y := UInt64.toNat_or _ _
  have h2 : (2 * uN x) % 18446744073709551616 = 2 ^ 1 * (uN x % 9223372036854775808) := by omega
  rw [h1, uN_shl, h2]
  exact (Nat.two_pow_add_eq_or_of_lt (i := 1) hy _).symm
theorem nat_xor {a : Nat} (h : a < 18446744073709551616) : a ^^^ 2 ^ 63 = (a + 9223372036854775808) % 18446744073709551616 := by
  have h1 : (a ^^^ 2 ^ 63) % 2 ^ 63 = a % 2 ^ 63 := by rw [Nat.xor_mod_two_pow, Nat.mod_self, Nat.xor_zero]
  have h2 : (a ^^^ 2 ^ 63) / 2 ^ 63 = (a / 2 ^ 63) ^^^ 1 := by rw [Nat.xor_div_two_pow, Nat.div_self (Nat.two_pow_pos 63)]
  have h3 : a / 2 ^ 63 = 0 ∨ a / 2 ^ 63 = 1 := by omega
  generalize a ^^^ 2 ^ 63 = t at h1 h2
  rcases h3 with h3 | h3
  · rw [h3] at h2
    have h2 : t / 2 ^ 63 = 1 := h2
    omega
  · rw [h3] at h2
    have h2 : t / 2 ^ 63 = 0 := h2
    omega
theorem uN_xor (x : Int64) : uN (x ^^^ (-9223372036854775808)) = (uN x + 9223372036854775808) % 18446744073709551616 := by
  rw [← nat_xor (uN_lt x)]
  exact UInt64.toNat_xor _ _
theorem uN_int (x : Int64) : x.toInt = if 2 * uN x < 18446744073709551616 then (uN x : Int) else (uN x : Int) - 18446744073709551616 := BitVec.toInt_eq_toNat_cond _
theorem uN_le (x y : Int64) : (x ^^^ (-9223372036854775808)) ≤ (y ^^^ (-9223372036854775808)) ↔ uN x ≤ uN y := by
  have hx := uN_lt x
  have hy := uN_lt y
  rw [Int64.le_iff_toInt_le, uN_int, uN_int, uN_xor, uN_xor]
  omega
theorem uN_sk (x : Int64) {k : Nat} (hk : k < 64) : uN (x.toUInt64 >>> ((nI k).toInt64.toUInt64 &&& Int64.toUInt64 63)).toInt64 = uN x / 2 ^ k := by
  have h : ((nI k).toInt64.toUInt64 &&& Int64.toUInt64 63).toNat % 64 = k := by
    rw [nI_l (by omega), UInt64.toNat_and]
    have e : (lN k).toUInt64.toNat = k % 2 ^ 64 := rfl
    have e2 : (Int64.toUInt64 63).toNat = 2 ^ 6 - 1 := by decide
    rw [e, e2, Nat.and_two_pow_sub_one_eq_mod]
    omega
  rw [uN_shr, h]
theorem uN_of {k : Nat} (h : k < 18446744073709551616) : uN (lN k) = k := wb_tn (n := k) h
theorem uN_l (x : Int64) : x = lN (uN x) := by
  obtain ⟨k, hk, rfl⟩ := wb_of x
  rw [uN_of hk]
theorem uN_pos {x : Int64} (h : ¬ x = 0) : 0 < uN x := by
  rcases Nat.eq_zero_or_pos (uN x) with z | z
  · exact absurd ((uN_l x).trans (by rw [z]; rfl)) h
  · exact z
theorem uN_neg (x : Int64) : x < 0 ↔ 9223372036854775808 ≤ uN x := by
  have h := uN_lt x
  rw [Int64.lt_iff_toInt_lt, uN_int]
  have : (0 : Int64).toInt = 0 := rfl
  rw [this]
  split <;> omega
theorem uN_sub (x y : Int64) : uN (x - y) = (uN x + (18446744073709551616 - uN y)) % 18446744073709551616 := by
  show (x.toUInt64 - y.toUInt64).toNat = _
  rw [UInt64.toNat_sub]
  have := uN_lt y
  show (2 ^ 64 - uN y + uN x) % 2 ^ 64 = _
  rw [Nat.add_comm]
theorem y_uns_l {post : Int64 → Prop} {x y : Int64} (hy : 0 < uN y) (h : post (lN (uN x / uN y))) : ∀ k l (r q : Int64), k ≤ 64 → k < l → uN r = uN x / 2 ^ k % uN y → q = lN (uN x / 2 ^ k / uN y * 2 ^ k) → wY_unsigned_10 post x y l r q (nI k - 1) := by
  intro k
  induction k with
  | zero =>
    intro l r q _ hl hr hq
    obtain ⟨l, rfl⟩ : ∃ j, l = j + 1 := ⟨l - 1, by omega⟩
    refine br_t (by decide) ?_
    rw [hq, Nat.pow_zero, Nat.div_one, Nat.mul_one]
    exact h
  | succ k ih =>
    intro l r q hk hl hr hq
    obtain ⟨l, rfl⟩ : ∃ j, l = j + 1 := ⟨l - 1, by omega⟩
    have hx := uN_lt x
    have hy2 := uN_lt y
    have e : nI (k + 1) - 1 = nI k := pk_sub (a := k + 1) (b := 1) (by omega)
    have em : nI k + (-1) = nI k - 1 := by rw [Int32.sub_eq_add_neg]
    rw [e]
    have hrlt : uN r < uN y := by rw [hr]; exact Nat.mod_lt _ hy
    have e2 : uN x / 2 ^ k = 2 * (uN x / 2 ^ (k + 1)) + uN x / 2 ^ k % 2 := by
      rw [Nat.pow_succ, ← Nat.div_div_eq_div_mul]; omega
    have hb : uN (((x.toUInt64 >>> ((nI k).toInt64.toUInt64 &&& Int64.toUInt64 63)).toInt64) &&& 1) = uN x / 2 ^ k % 2 := by
      have : ∀ z : Int64, uN (z &&& 1) = uN z % 2 := by
        intro z
        show (z.toUInt64 &&& Int64.toUInt64 1).toNat = _
        rw [UInt64.toNat_and]
        exact Nat.and_two_pow_sub_one_eq_mod _ 1
      rw [this, uN_sk x (by omega)]
    have hr2 : uN ((r <<< ((1 : Int32).toInt64 &&& 63)) ||| (((x.toUInt64 >>> ((nI k).toInt64.toUInt64 &&& Int64.toUInt64 63)).toInt64) &&& 1)) = (2 * uN r) % 18446744073709551616 + uN x / 2 ^ k % 2 := by
      rw [uN_or (by rw [hb]; omega), hb]
    generalize hr3 : (r <<< ((1 : Int32).toInt64 &&& 63)) ||| (((x.toUInt64 >>> ((nI k).toInt64.toUInt64 &&& Int64.toUInt64 63)).toInt64) &&& 1) = r2 at hr2
    generalize hA : uN x / 2 ^ (k + 1) = A at *
    generalize hBt : uN x / 2 ^ k % 2 = bt at *
    have hbt : bt < 2 := by rw [← hBt]; omega
    have hA2 : A = uN y * (A / uN y) + uN r := by rw [hr]; exact (Nat.div_add_mod A (uN y)).symm
    generalize hD : A / uN y = D at *
    have hX : uN x / 2 ^ k = uN y * (2 * D) + (2 * uN r + bt) := by
      rw [e2]
      have : uN y * (2 * D) = 2 * (uN y * D) := by rw [← Nat.mul_assoc, Nat.mul_comm (uN y) 2, Nat.mul_assoc]
      omega
    have hp2 : 0 < 2 ^ k := Nat.two_pow_pos k
    have hpk : 2 ^ (k + 1) = 2 * 2 ^ k := by rw [Nat.pow_succ, Nat.mul_comm]
    have hxle : uN x / 2 ^ k * 2 ^ k ≤ uN x := Nat.div_mul_le_self _ _
    have sub : uN y ≤ 2 * uN r + bt → wY_unsigned_62 post (wY_unsigned_10 post x y l) x y r2 q (nI k) := by
      intro hge
      have d1 : uN x / 2 ^ k / uN y = 2 * D + 1 := by
        rw [hX]
        have : uN y * (2 * D) + (2 * uN r + bt) = (2 * uN r + bt - uN y) + uN y * (2 * D + 1) := by
          rw [Nat.mul_add, Nat.mul_one]; omega
        rw [this, Nat.add_mul_div_left _ _ hy, Nat.div_eq_of_lt (by omega)]
        omega
      have d2 : uN x / 2 ^ k % uN y = 2 * uN r + bt - uN y := by
        rw [hX]
        have : uN y * (2 * D) + (2 * uN r + bt) = (2 * uN r + bt - uN y) + uN y * (2 * D + 1) := by
          rw [Nat.mul_add, Nat.mul_one]; omega
        rw [this, Nat.add_mul_mod_self_left, Nat.mod_eq_of_lt (by omega)]
      have hle2 : (2 * D + 1) * 2 ^ k ≤ uN x := by
        have : (2 * D + 1) ≤ uN x / 2 ^ k := by rw [← d1]; exact Nat.div_le_self _ _
        exact Nat.le_trans (Nat.mul_le_mul_right _ this) hxle
      have hq2 : q ||| ((1 : Int64) <<< ((nI k).toInt64 &&& 63)) = lN ((2 * D + 1) * 2 ^ k) := by
        rw [hq, show (1 : Int64) = lN 1 from rfl, wb_shl 1 (by omega), Nat.one_mul]
        rw [g_or (k := k + 1) (p := 2 ^ (k + 1)) rfl (by omega) ?_]
        · congr 1
          rw [hpk, Nat.add_mul, Nat.one_mul, Nat.mul_comm 2 D, Nat.mul_assoc]
        · rw [hpk]
          have : D * (2 * 2 ^ k) + 2 ^ k = (2 * D + 1) * 2 ^ k := by rw [Nat.add_mul, Nat.one_mul, Nat.mul_comm 2 D, Nat.mul_assoc]
          omega
      refine nm_r rfl (nm_r hq2 (nm_r em ?_))
      refine ih l _ _ (by omega) (by omega) ?_ ?_
      · rw [d2, uN_sub, hr2]
        omega
      · rw [d1]
    have keep : 2 * uN r + bt < uN y → wY_unsigned_10 post x y l r2 q (nI k - 1) := by
      intro hlt
      refine ih l _ _ (by omega) (by omega) ?_ ?_
      · rw [hX, Nat.mul_add_mod, Nat.mod_eq_of_lt hlt, hr2]
        omega
      · rw [hq, hX, Nat.mul_add_div hy, Nat.div_eq_of_lt hlt, Nat.add_zero, hpk]
        congr 1
        simp only [Nat.add_zero]
        rw [Nat.mul_comm 2 D, Nat.mul_assoc]
    refine br_f (fun z => ?_) (br_c (fun z => nm_r hr3 (br_t rfl (br_c (fun w => ?_) (fun w => ?_)))) (fun z => nm_r hr3 (br_f (by decide) (sub ?_))))
    · rw [show (0 : Int32) = nI 0 from rfl, nI_ltI (by omega) (by omega)] at z
      omega
    · refine nm_r em (keep ?_)
      have z2 : ¬ 9223372036854775808 ≤ uN r := fun q => Int64.not_lt.mpr z ((uN_neg r).mpr q)
      have w2 : ¬ uN y ≤ uN r2 := fun q => Int64.not_le.mpr w ((uN_le y r2).mpr q)
      rw [hr2] at w2
      omega
    · refine sub ?_
      have z2 : ¬ 9223372036854775808 ≤ uN r := fun q => Int64.not_lt.mpr z ((uN_neg r).mpr q)
      have w2 : uN y ≤ uN r2 := (uN_le y r2).mp (Int64.not_lt.mp w)
      rw [hr2] at w2
      omega
    · have z2 := (uN_neg r).mp (Int64.not_le.mp z)
      omega
theorem y_uns {post : Int64 → Prop} {x y : Int64} (hy : ¬ y = 0) (h : post (lN (uN x / uN y))) : wpY_unsigned post x y := by
  refine ⟨65, y_uns_l (uN_pos hy) h 64 65 0 0 (by omega) (by omega) ?_ ?_⟩
  · have := uN_lt x
    rw [Nat.div_eq_of_lt this, Nat.zero_mod]; rfl
  · have := uN_lt x
    rw [Nat.div_eq_of_lt this, Nat.zero_div, Nat.zero_mul]; rfl
theorem x_du {post : Int64 → Prop} {x y : Int64} (hy : ¬ y = 0) (h : post (lN (uN x / uN y))) : wpX_divideUnsigned post x y := by
  have hx := uN_lt x
  have hy2 := uN_lt y
  have hp := uN_pos hy
  refine br_f hy (br_c (fun z => br_c (fun z2 => ⟨hy, ?_⟩) (fun z2 => ⟨hy, ?_⟩)) (fun z => ?_))
  · have y0 : uN y < 9223372036854775808 := by
      rcases Nat.lt_or_ge (uN y) 9223372036854775808 with q | q
      · exact q
      · exact absurd ((uN_neg y).mpr q) (Int64.not_lt.mpr z)
    have x0 := (uN_neg x).mp z2
    have e1 : (x.toUInt64 >>> ((1 : Int32).toInt64.toUInt64 &&& Int64.toUInt64 63)).toInt64 = lN (uN x / 2) := by
      refine uN_inj ?_
      have := uN_sk x (k := 1) (by omega)
      rw [uN_of (by omega)]
      exact this
    have e2 : (((x.toUInt64 >>> ((1 : Int32).toInt64.toUInt64 &&& Int64.toUInt64 63)).toInt64) / y) <<< ((1 : Int32).toInt64 &&& 63) = lN (2 * (uN x / 2 / uN y)) := by
      have hle : uN x / 2 / uN y ≤ uN x / 2 := Nat.div_le_self _ _
      have e3 : lN (uN x / 2) / y = lN (uN x / 2 / uN y) := by
        have := pk_lDiv (a := uN x / 2) (b := uN y) (by omega) hp (by omega)
        rw [← uN_l y] at this
        exact this
      rw [e1, e3]
      refine uN_inj ?_
      rw [uN_shl, uN_of (by omega), uN_of (by omega)]
      omega
    refine nm_r e2 (nm_r rfl ?_)
    have hdm := Nat.div_add_mod (uN x / 2) (uN y)
    have hml := Nat.mod_lt (uN x / 2) hp
    generalize hD : uN x / 2 / uN y = D at *
    generalize hM : uN x / 2 % uN y = r1 at *
    have hX : uN x = uN y * (2 * D) + (2 * r1 + uN x % 2) := by
      have : uN y * (2 * D) = 2 * (uN y * D) := by rw [← Nat.mul_assoc, Nat.mul_comm (uN y) 2, Nat.mul_assoc]
      omega
    have hDb : 2 * D < 18446744073709551616 := by
      have : D ≤ uN x / 2 := by rw [← hD]; exact Nat.div_le_self _ _
      omega
    have er : uN (x - lN (2 * D) * y) = 2 * r1 + uN x % 2 := by
      rw [uN_sub, uN_mul, uN_of hDb]
      have : 2 * D * uN y = uN y * (2 * D) := Nat.mul_comm _ _
      rw [this, Nat.mod_eq_of_lt (show uN y * (2 * D) < 18446744073709551616 by omega)]
      omega
    have q1 : 2 * r1 + uN x % 2 < uN y → uN x / uN y = 2 * D := by
      intro q
      rw [hX, Nat.mul_add_div hp]
      rw [Nat.div_eq_of_lt q, Nat.add_zero]
    have q2 : uN y ≤ 2 * r1 + uN x % 2 → uN x / uN y = 2 * D + 1 := by
      intro q
      have e4 : uN x = (2 * r1 + uN x % 2 - uN y) + uN y * (2 * D + 1) := by rw [Nat.mul_add, Nat.mul_one]; omega
      have : uN x / uN y = ((2 * r1 + uN x % 2 - uN y) + uN y * (2 * D + 1)) / uN y := by rw [← e4]
      rw [this, Nat.add_mul_div_left _ _ hp, Nat.div_eq_of_lt (by omega), Nat.zero_add]
    refine br_c (fun w => br_t rfl ?_) (fun w => br_f (by decide) ?_)
    · have w2 := (uN_le _ _).mp w
      rw [er] at w2
      rw [q2 w2] at h
      have : lN (2 * D) + 1 = lN (2 * D + 1) := by
        refine uN_inj ?_
        have hle : 2 * D + 1 ≤ uN x := by rw [← q2 w2]; exact Nat.div_le_self _ _
        rw [uN_add, uN_of hDb, uN_of (by omega), show uN (1 : Int64) = 1 from rfl]
        omega
      rw [this]; exact h
    · have w2 : ¬ uN y ≤ uN (x - lN (2 * D) * y) := fun q => w ((uN_le _ _).mpr q)
      rw [er] at w2
      rw [q1 (by omega)] at h
      exact h
  · have y0 : uN y < 9223372036854775808 := by
      rcases Nat.lt_or_ge (uN y) 9223372036854775808 with q | q
      · exact q
      · exact absurd ((uN_neg y).mpr q) (Int64.not_lt.mpr z)
    have x0 : uN x < 9223372036854775808 := by
      rcases Nat.lt_or_ge (uN x) 9223372036854775808 with q | q
      · exact q
      · exact absurd ((uN_neg x).mpr q) z2
    have := pk_lDiv (a := uN x) (b := uN y) (by omega) hp (by omega)
    rw [← uN_l x, ← uN_l y] at this
    rw [this]; exact h
  · have y0 := (uN_neg y).mp (Int64.not_le.mp z)
    refine br_c (fun w => br_t rfl ?_) (fun w => br_f (by decide) ?_)
    · have w2 := (uN_le _ _).mp w
      have : uN x / uN y = 1 := Nat.div_eq_of_lt_le (by omega) (by omega)
      rw [this] at h; exact h
    · have w2 : ¬ uN y ≤ uN x := fun q => w ((uN_le _ _).mpr q)
      rw [Nat.div_eq_of_lt (by omega)] at h; exact h
theorem nI_mod (k : Nat) : nI k = nI (k % 4294967296) := Int32.toBitVec_inj.mp (BitVec.eq_of_toNat_eq (show k % 4294967296 = k % 4294967296 % 4294967296 by omega))
theorem sx_lo {y : Int64} (h : sx64 y) (h0 : ¬ y = 0) : ¬ (y &&& 4294967295) = 0 := by
  intro z
  refine h0 ?_
  have e : uN y % 4294967296 = 0 := by rw [← uN_lo, z]; rfl
  unfold sx64 at h
  rw [uN_l y, lN_i, nI_mod, e] at h
  rw [uN_l y, ← h]; rfl
