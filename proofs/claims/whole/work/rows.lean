section
/-! 01: rows pasted from kit/rows/PURE-ROWS (pk_us to pk_loopD), then getters and setters of the two states, printed by wip/whole/gen.py -/
theorem pk_us {f : Nat → Int32} {k : Nat} {x : Int32} : upd f k x k = x := if_pos rfl
theorem pk_un {f : Nat → Int32} {k j : Nat} {x : Int32} (h : j ≠ k) : upd f k x j = f j := if_neg h
theorem pk_uLs {f : Nat → Int64} {k : Nat} {x : Int64} : vp_updL f k x k = x := if_pos rfl
theorem pk_uLn {f : Nat → Int64} {k j : Nat} {x : Int64} (h : j ≠ k) : vp_updL f k x j = f j := if_neg h
theorem pk_sub {a b : Nat} (h : b ≤ a) : nI a - nI b = nI (a - b) := by
  obtain ⟨c, rfl⟩ : ∃ c, a = c + b := ⟨a - b, by omega⟩
  rw [← nI_add, Int32.add_sub_cancel, Nat.add_sub_cancel]
theorem pk_m1 (n : Nat) : nI (n + 1) + (-1) = nI n := by
  rw [← nI_1, Int32.add_assoc, show (1 : Int32) + (-1) = 0 from rfl, Int32.add_zero]
theorem pk_mul (a b : Nat) : nI a * nI b = nI (a * b) := (Int32.ofNat_mul a b).symm
theorem pk_div {a d : Nat} (ha : a < 2 ^ 31) (h0 : 0 < d) (hd : d < 2 ^ 31) : nI a / nI d = nI (a / d) := by
  apply Int32.toInt_inj.mp
  rw [lg_idiv_nonneg (by rw [nI_toInt ha]; omega) (by rw [nI_toInt hd]; omega), nI_toInt ha, nI_toInt hd, nI_toInt (Nat.lt_of_le_of_lt (Nat.div_le_self a d) ha)]
  first | rfl | exact (Int.natCast_ediv _ _).symm
theorem pk_rem {a d : Nat} (ha : a < 2 ^ 31) (h0 : 0 < d) (hd : d < 2 ^ 31) : nI a - nI a / nI d * nI d = nI (a % d) := by
  rw [pk_div ha h0 hd, pk_mul, pk_sub (Nat.div_mul_le_self a d)]
  exact congrArg nI (by have := Nat.div_add_mod' a d; omega)
theorem pk_sub_toInt {a b : Nat} (ha : a < 2 ^ 30) (hb : b < 2 ^ 30) : (nI a - nI b).toInt = (a : Int) - b := by
  rw [Int32.toInt_sub, nI_toInt (by omega), nI_toInt (by omega)]
  exact Int.bmod_eq_of_le (by omega) (by omega)
theorem pk_sneg {a b : Nat} (hb : b < 2 ^ 30) (h : a < b) : nI a - nI b < 0 := by
  rw [Int32.lt_iff_toInt_lt, pk_sub_toInt (by omega) hb, show (0 : Int32).toInt = 0 from by decide]
  omega
theorem pk_ix (x : Int32) {n : Nat} (hn : n < 2 ^ 31) : x < 0 ∨ nI n ≤ x ∨ ∃ j : Nat, j < n ∧ x = nI j := by
  by_cases h : x < 0
  · exact Or.inl h
  · obtain ⟨j, hj, rfl⟩ := nI_of h
    by_cases h2 : j < n
    · exact Or.inr (Or.inr ⟨j, h2, rfl⟩)
    · exact Or.inr (Or.inl (nI_le (by omega) hj))
theorem pk_le {x y : Int32} {A B : Prop} (a b : Nat) (f : a ≤ b → A) (g : b < a → B) (hx : x = nI a := by rfl) (hy : y = nI b := by rfl) (ha : a < 2 ^ 31 := by omega) (hb : b < 2 ^ 31 := by omega) : (x ≤ y → A) ∧ (¬ x ≤ y → B) := by
  subst hx hy
  rw [nI_leI ha hb]
  exact ⟨f, fun z => g (by omega)⟩
theorem pk_lt {x y : Int32} {A B : Prop} (a b : Nat) (f : a < b → A) (g : b ≤ a → B) (hx : x = nI a := by rfl) (hy : y = nI b := by rfl) (ha : a < 2 ^ 31 := by omega) (hb : b < 2 ^ 31 := by omega) : (x < y → A) ∧ (¬ x < y → B) := by
  subst hx hy
  rw [nI_ltI ha hb]
  exact ⟨f, fun z => g (by omega)⟩
theorem pk_eq {x y : Int32} {A B : Prop} (a b : Nat) (f : a = b → A) (g : a ≠ b → B) (hx : x = nI a := by rfl) (hy : y = nI b := by rfl) (ha : a < 2 ^ 31 := by omega) (hb : b < 2 ^ 31 := by omega) : (x = y → A) ∧ (¬ x = y → B) := by
  subst hx hy
  rw [nI_eq ha hb]
  exact ⟨f, g⟩
theorem pk_in {x : Int32} (n N : Nat) (h : n < N) (hx : x = nI n := by rfl) (hN : N < 2 ^ 31 := by omega) : vp_in x N := by
  subst hx
  exact vp_in_nI h hN
theorem pk_cl {x : Int32} (n : Nat) (hx : x = nI n := by rfl) (h : n < 2 ^ 31 := by omega) : x.toNatClampNeg = n := by
  subst hx
  exact nI_clamp h
theorem pk_tn {n : Nat} (h : n < 2 ^ 32) : (nI n).toBitVec.toNat = n := Nat.mod_eq_of_lt h
theorem pk_and (x : Int32) {m : Int32} (k : Nat) (hm : m.toBitVec.toNat = 2 ^ k - 1) : x &&& m = nI (x.toBitVec.toNat % 2 ^ k) := by
  apply Int32.toBitVec_inj.mp
  apply BitVec.eq_of_toNat_eq
  rw [Int32.toBitVec_and, BitVec.toNat_and, hm, Nat.and_two_pow_sub_one_eq_mod]
  show _ = (BitVec.ofNat 32 _).toNat
  rw [BitVec.toNat_ofNat]
  exact (Nat.mod_eq_of_lt (Nat.lt_of_le_of_lt (Nat.mod_le _ _) x.toBitVec.isLt)).symm
theorem pk_andN {n : Nat} (h : n < 2 ^ 32) {m : Int32} (k : Nat) (hm : m.toBitVec.toNat = 2 ^ k - 1) : nI n &&& m = nI (n % 2 ^ k) := by
  rw [pk_and _ k hm, pk_tn h]
theorem pk_andE (x : Int32) {m : Int32} (k : Nat) (hm : m.toBitVec.toNat = 2 ^ k - 1) : ∃ j : Nat, j < 2 ^ k ∧ x &&& m = nI j := ⟨_, Nat.mod_lt _ (Nat.two_pow_pos k), pk_and x k hm⟩
theorem pk_andIn (x : Int32) {m : Int32} (k : Nat) (hm : m.toBitVec.toNat = 2 ^ k - 1) (hk : k ≤ 30) : vp_in (x &&& m) (2 ^ k) := by
  obtain ⟨j, hj, e⟩ := pk_andE x k hm
  rw [e]
  exact vp_in_nI hj (Nat.lt_of_le_of_lt (Nat.pow_le_pow_right (by decide) hk) (by decide))
theorem pk_shl (a s : Int32) (k : Nat) (hs : (s.toBitVec.smod 32).toNat = k) : (a <<< s).toBitVec.toNat = a.toBitVec.toNat * 2 ^ k % 2 ^ 32 := by
  show (a.toBitVec <<< (s.toBitVec.smod 32).toNat).toNat = _
  rw [hs, BitVec.toNat_shiftLeft, Nat.shiftLeft_eq]
theorem pk_shlN {n : Nat} (s : Int32) (k : Nat) (hs : (s.toBitVec.smod 32).toNat = k) (h : n * 2 ^ k < 2 ^ 32) : nI n <<< s = nI (n * 2 ^ k) := by
  apply Int32.toBitVec_inj.mp
  apply BitVec.eq_of_toNat_eq
  have hn : n < 2 ^ 32 := Nat.lt_of_le_of_lt (Nat.le_mul_of_pos_right n (Nat.two_pow_pos k)) h
  rw [pk_shl _ _ k hs, pk_tn hn, pk_tn h, Nat.mod_eq_of_lt h]
theorem pk_shr (a s : Int32) (k : Nat) (hs : (s.toBitVec.smod 32).toNat = k) : (a >>> s).toInt = a.toInt >>> k := by
  show (a.toBitVec.sshiftRight (s.toBitVec.smod 32).toNat).toInt = _
  rw [hs, BitVec.toInt_sshiftRight]
  rfl
theorem pk_shrN {n : Nat} (h : n < 2 ^ 31) (s : Int32) (k : Nat) (hs : (s.toBitVec.smod 32).toNat = k) : nI n >>> s = nI (n / 2 ^ k) := by
  apply Int32.toInt_inj.mp
  have h2 : n / 2 ^ k ≤ n := Nat.div_le_self _ _
  rw [pk_shr _ _ k hs, nI_toInt h, nI_toInt (by omega), Int.shiftRight_eq_div_pow]
  rfl
theorem pk_ushr (x s : Int32) (k : Nat) (hs : ((s.toUInt32 &&& Int32.toUInt32 31).toBitVec % 32).toNat = k) : (x.toUInt32 >>> (s.toUInt32 &&& Int32.toUInt32 31)).toInt32.toBitVec.toNat = x.toBitVec.toNat / 2 ^ k := by
  have e : (x.toUInt32 >>> (s.toUInt32 &&& Int32.toUInt32 31)).toInt32.toBitVec = x.toBitVec >>> k := by
    rw [← hs]
    exact UInt32.toBitVec_shiftRight _ _
  rw [e, BitVec.toNat_ushiftRight, Nat.shiftRight_eq_div_pow]
theorem pk_ushrN {n : Nat} (hn : n < 2 ^ 32) (s : Int32) (k : Nat) (hs : ((s.toUInt32 &&& Int32.toUInt32 31).toBitVec % 32).toNat = k) : ((nI n).toUInt32 >>> (s.toUInt32 &&& Int32.toUInt32 31)).toInt32 = nI (n / 2 ^ k) := by
  apply Int32.toBitVec_inj.mp
  apply BitVec.eq_of_toNat_eq
  rw [pk_ushr _ s k hs, pk_tn hn, pk_tn (Nat.lt_of_le_of_lt (Nat.div_le_self _ _) hn)]
theorem pk_nb (z : Int32) : narrow .byte (.int z.toInt8.toInt32) = .int z.toInt8.toInt32 := congrArg Value.int (by simp)
theorem pk_ns (z : Int32) : narrow .short (.int z.toInt16.toInt32) = .int z.toInt16.toInt32 := congrArg Value.int (by simp)
theorem pk_fb (r : Int32) : fits .byte (.int r.toInt8.toInt32) = true := by
  have ⟨a, b⟩ := lg_i2b_range r
  have h1 : (-128 : Int32).toInt = -128 := by decide
  have h2 : (127 : Int32).toInt = 127 := by decide
  simp only [fits, Bool.and_eq_true, decide_eq_true_eq, Int32.le_iff_toInt_le, h1, h2]
  omega
theorem pk_fs (r : Int32) : fits .short (.int r.toInt16.toInt32) = true := by
  have ⟨a, b⟩ := lg_i2s_range r
  have h1 : (-32768 : Int32).toInt = -32768 := by decide
  have h2 : (32767 : Int32).toInt = 32767 := by decide
  simp only [fits, Bool.and_eq_true, decide_eq_true_eq, Int32.le_iff_toInt_le, h1, h2]
  omega
theorem pk_charN {q : Nat} (hq : q < 65536) : narrow .char (.int (nI q)) = .int (nI q) ∧ fits .char (.int (nI q)) = true := by
  constructor
  · have e : (nI q).toUInt32.toUInt16.toUInt32.toInt32 = nI q := by
      apply Int32.toBitVec_inj.mp
      apply BitVec.eq_of_toNat_eq
      show (nI q).toUInt32.toUInt16.toUInt32.toNat = q % 2 ^ 32
      rw [UInt16.toNat_toUInt32, UInt32.toNat_toUInt16, show (nI q).toUInt32.toNat = q % 2 ^ 32 from rfl]
      omega
    exact congrArg Value.int e
  · have a : (0 : Int32) ≤ nI q := nI_pos' (by omega)
    have b : nI q ≤ 65535 := nI_le (b := 65535) (by omega) (by decide)
    show (decide ((0 : Int32) ≤ nI q) && decide (nI q ≤ 65535)) = true
    rw [decide_eq_true a, decide_eq_true b]
    rfl
theorem pk_char (x : Int32) : (x.toUInt32 % 65536).toInt32 = nI (x.toBitVec.toNat % 65536) := by
  apply Int32.toBitVec_inj.mp
  apply BitVec.eq_of_toNat_eq
  rw [pk_tn (by omega)]
  show (x.toUInt32 % 65536).toNat = _
  rw [UInt32.toNat_mod]
  rfl
theorem pk_nc (x : Int32) : narrow .char (.int (x.toUInt32 % 65536).toInt32) = .int (x.toUInt32 % 65536).toInt32 := by
  rw [pk_char]
  exact (pk_charN (Nat.mod_lt _ (by decide))).1
theorem pk_fc (x : Int32) : fits .char (.int (x.toUInt32 % 65536).toInt32) = true := by
  rw [pk_char]
  exact (pk_charN (Nat.mod_lt _ (by decide))).2
theorem pk_vb (z : Int32) : vp_nar .byte z.toInt8.toInt32 = z.toInt8.toInt32 := by rw [vp_nar_byte]; simp
theorem pk_vs (z : Int32) : vp_nar .short z.toInt16.toInt32 = z.toInt16.toInt32 := by rw [vp_nar_short]; simp
theorem pk_vc (z : Int32) : vp_nar .char (z.toUInt32 % 65536).toInt32 = (z.toUInt32 % 65536).toInt32 := Value.int.inj (pk_nc z)
theorem pk_lT {n : Nat} (h : n < 2 ^ 63) : (lN n).toInt = (n : Int) := lg_ofNat_toInt h
theorem pk_lLT {a b : Nat} (ha : a < 2 ^ 63) (hb : b < 2 ^ 63) : lN a < lN b ↔ a < b := by
  rw [Int64.lt_iff_toInt_lt, pk_lT ha, pk_lT hb]; omega
theorem pk_lLE {a b : Nat} (ha : a < 2 ^ 63) (hb : b < 2 ^ 63) : lN a ≤ lN b ↔ a ≤ b := by
  rw [Int64.le_iff_toInt_le, pk_lT ha, pk_lT hb]; omega
theorem pk_lEQ {a b : Nat} (ha : a < 2 ^ 63) (hb : b < 2 ^ 63) : lN a = lN b ↔ a = b := by
  rw [← Int64.toInt_inj, pk_lT ha, pk_lT hb]; omega
theorem pk_lOf {x : Int64} (h : ¬ x < 0) : ∃ k : Nat, k < 2 ^ 63 ∧ x = lN k := by
  rw [Int64.lt_iff_toInt_lt] at h
  have h0 : (0 : Int64).toInt = 0 := by decide
  have hx := Int64.toInt_lt x
  refine ⟨x.toInt.toNat, by omega, Int64.toInt_inj.mp ?_⟩
  rw [pk_lT (by omega)]
  omega
theorem pk_lDiv {a b : Nat} (ha : a < 2 ^ 63) (h0 : 0 < b) (hb : b < 2 ^ 63) : lN a / lN b = lN (a / b) := by
  apply Int64.toInt_inj.mp
  rw [lg_ldiv_nonneg (by rw [pk_lT ha]; omega) (by rw [pk_lT hb]; omega), pk_lT ha, pk_lT hb, pk_lT (Nat.lt_of_le_of_lt (Nat.div_le_self a b) ha)]
  rfl
theorem pk_lRem {a b : Nat} (ha : a < 2 ^ 63) (h0 : 0 < b) (hb : b < 2 ^ 63) : lN a - lN a / lN b * lN b = lN (a % b) := by
  rw [pk_lDiv ha h0 hb, lN_mul, lN_sub (Nat.div_mul_le_self a b)]
  exact congrArg lN (by have := Nat.div_add_mod' a b; omega)
theorem pk_loop {σ : Type} (W : Nat → Nat → σ → Prop) (I : Nat → σ → Prop) (e i0 : Nat) (s : σ) (hi : i0 ≤ e) (h0 : I i0 s) (hx : ∀ n s, I e s → W (n + 1) e s)
    (hs : ∀ n i s, i < e → I i s → (∀ s', I (i + 1) s' → W n (i + 1) s') → W (n + 1) i s) : ∃ n, W n i0 s :=
  ⟨e + 1, loop_i W I e hx hs (e + 1) i0 s hi (by omega) h0⟩
theorem pk_loopD {σ : Type} (W : Nat → Nat → σ → Prop) (I : Nat → σ → Prop) (hx : ∀ n s, I 0 s → W (n + 1) 0 s)
    (hs : ∀ n i s, I (i + 1) s → (∀ s', I i s' → W n i s') → W (n + 1) (i + 1) s) : ∀ (e : Nat) (s : σ), I e s → W (e + 1) e s := by
  intro e
  induction e with
  | zero => exact fun s h => hx 0 s h
  | succ e ih => exact fun s h => hs (e + 1) e s h (fun s' h' => ih s' h')
def gx_byteCount (u : SX) : Int32 := u.1
def gx_wrongPlace (u : SX) : Int32 := u.2.1
def gx_at (u : SX) : Int32 := u.2.2.1
def gx_frameCount (u : SX) : Int32 := u.2.2.2.1
def gx_kindCount (u : SX) : Int32 := u.2.2.2.2.1
def gx_valueCount (u : SX) : Int32 := u.2.2.2.2.2.1
def gx_activeCount (u : SX) : Int32 := u.2.2.2.2.2.2.1
def gx_goesOn (u : SX) : Int32 := u.2.2.2.2.2.2.2.1
def gx_outcome (u : SX) : Int32 := u.2.2.2.2.2.2.2.2.1
def gx_resultValue (u : SX) : Int64 := u.2.2.2.2.2.2.2.2.2.1
def gx_trapPlace (u : SX) : Int32 := u.2.2.2.2.2.2.2.2.2.2.1
def gx_fuelUsed (u : SX) : Int32 := u.2.2.2.2.2.2.2.2.2.2.2.1
def gx_firstWaiting (u : SX) : Int32 := u.2.2.2.2.2.2.2.2.2.2.2.2.1
def gx_waitingCount (u : SX) : Int32 := u.2.2.2.2.2.2.2.2.2.2.2.2.2.1
def gx_printCount (u : SX) : Int32 := u.2.2.2.2.2.2.2.2.2.2.2.2.2.2.1
def gx_code (u : SX) : Nat → Int32 := u.2.2.2.2.2.2.2.2.2.2.2.2.2.2.2.1
def gx_facts (u : SX) : Nat → Int32 := u.2.2.2.2.2.2.2.2.2.2.2.2.2.2.2.2.1
def gx_partner (u : SX) : Nat → Int32 := u.2.2.2.2.2.2.2.2.2.2.2.2.2.2.2.2.2.1
def gx_loaded (u : SX) : Nat → Int32 := u.2.2.2.2.2.2.2.2.2.2.2.2.2.2.2.2.2.2.1
def gx_globals (u : SX) : Nat → Int64 := u.2.2.2.2.2.2.2.2.2.2.2.2.2.2.2.2.2.2.2.1
def gx_memories (u : SX) : Nat → Int32 := u.2.2.2.2.2.2.2.2.2.2.2.2.2.2.2.2.2.2.2.2.1
def gx_frameAt (u : SX) : Nat → Int32 := u.2.2.2.2.2.2.2.2.2.2.2.2.2.2.2.2.2.2.2.2.2.1
def gx_frameHeight (u : SX) : Nat → Int32 := u.2.2.2.2.2.2.2.2.2.2.2.2.2.2.2.2.2.2.2.2.2.2.1
def gx_frameResult (u : SX) : Nat → Int32 := u.2.2.2.2.2.2.2.2.2.2.2.2.2.2.2.2.2.2.2.2.2.2.2.1
def gx_frameDead (u : SX) : Nat → Int32 := u.2.2.2.2.2.2.2.2.2.2.2.2.2.2.2.2.2.2.2.2.2.2.2.2.1
def gx_kinds (u : SX) : Nat → Int32 := u.2.2.2.2.2.2.2.2.2.2.2.2.2.2.2.2.2.2.2.2.2.2.2.2.2.1
def gx_values (u : SX) : Nat → Int64 := u.2.2.2.2.2.2.2.2.2.2.2.2.2.2.2.2.2.2.2.2.2.2.2.2.2.2.1
def gx_variables (u : SX) : Nat → Int64 := u.2.2.2.2.2.2.2.2.2.2.2.2.2.2.2.2.2.2.2.2.2.2.2.2.2.2.2.1
def gx_activeSlot (u : SX) : Nat → Int32 := u.2.2.2.2.2.2.2.2.2.2.2.2.2.2.2.2.2.2.2.2.2.2.2.2.2.2.2.2.1
def gx_activeGives (u : SX) : Nat → Int32 := u.2.2.2.2.2.2.2.2.2.2.2.2.2.2.2.2.2.2.2.2.2.2.2.2.2.2.2.2.2.1
def gx_activeFrame (u : SX) : Nat → Int32 := u.2.2.2.2.2.2.2.2.2.2.2.2.2.2.2.2.2.2.2.2.2.2.2.2.2.2.2.2.2.2.1
def gx_activeResume (u : SX) : Nat → Int32 := u.2.2.2.2.2.2.2.2.2.2.2.2.2.2.2.2.2.2.2.2.2.2.2.2.2.2.2.2.2.2.2.1
def gx_waiting (u : SX) : Nat → Int32 := u.2.2.2.2.2.2.2.2.2.2.2.2.2.2.2.2.2.2.2.2.2.2.2.2.2.2.2.2.2.2.2.2.1
def gx_prints (u : SX) : Nat → Int32 := u.2.2.2.2.2.2.2.2.2.2.2.2.2.2.2.2.2.2.2.2.2.2.2.2.2.2.2.2.2.2.2.2.2
def sx_byteCount (u : SX) (z : Int32) : SX := (z, gx_wrongPlace u, gx_at u, gx_frameCount u, gx_kindCount u, gx_valueCount u, gx_activeCount u, gx_goesOn u, gx_outcome u, gx_resultValue u, gx_trapPlace u, gx_fuelUsed u, gx_firstWaiting u, gx_waitingCount u, gx_printCount u, gx_code u, gx_facts u, gx_partner u, gx_loaded u, gx_globals u, gx_memories u, gx_frameAt u, gx_frameHeight u, gx_frameResult u, gx_frameDead u, gx_kinds u, gx_values u, gx_variables u, gx_activeSlot u, gx_activeGives u, gx_activeFrame u, gx_activeResume u, gx_waiting u, gx_prints u)
def sx_wrongPlace (u : SX) (z : Int32) : SX := (gx_byteCount u, z, gx_at u, gx_frameCount u, gx_kindCount u, gx_valueCount u, gx_activeCount u, gx_goesOn u, gx_outcome u, gx_resultValue u, gx_trapPlace u, gx_fuelUsed u, gx_firstWaiting u, gx_waitingCount u, gx_printCount u, gx_code u, gx_facts u, gx_partner u, gx_loaded u, gx_globals u, gx_memories u, gx_frameAt u, gx_frameHeight u, gx_frameResult u, gx_frameDead u, gx_kinds u, gx_values u, gx_variables u, gx_activeSlot u, gx_activeGives u, gx_activeFrame u, gx_activeResume u, gx_waiting u, gx_prints u)
def sx_at (u : SX) (z : Int32) : SX := (gx_byteCount u, gx_wrongPlace u, z, gx_frameCount u, gx_kindCount u, gx_valueCount u, gx_activeCount u, gx_goesOn u, gx_outcome u, gx_resultValue u, gx_trapPlace u, gx_fuelUsed u, gx_firstWaiting u, gx_waitingCount u, gx_printCount u, gx_code u, gx_facts u, gx_partner u, gx_loaded u, gx_globals u, gx_memories u, gx_frameAt u, gx_frameHeight u, gx_frameResult u, gx_frameDead u, gx_kinds u, gx_values u, gx_variables u, gx_activeSlot u, gx_activeGives u, gx_activeFrame u, gx_activeResume u, gx_waiting u, gx_prints u)
def sx_frameCount (u : SX) (z : Int32) : SX := (gx_byteCount u, gx_wrongPlace u, gx_at u, z, gx_kindCount u, gx_valueCount u, gx_activeCount u, gx_goesOn u, gx_outcome u, gx_resultValue u, gx_trapPlace u, gx_fuelUsed u, gx_firstWaiting u, gx_waitingCount u, gx_printCount u, gx_code u, gx_facts u, gx_partner u, gx_loaded u, gx_globals u, gx_memories u, gx_frameAt u, gx_frameHeight u, gx_frameResult u, gx_frameDead u, gx_kinds u, gx_values u, gx_variables u, gx_activeSlot u, gx_activeGives u, gx_activeFrame u, gx_activeResume u, gx_waiting u, gx_prints u)
def sx_kindCount (u : SX) (z : Int32) : SX := (gx_byteCount u, gx_wrongPlace u, gx_at u, gx_frameCount u, z, gx_valueCount u, gx_activeCount u, gx_goesOn u, gx_outcome u, gx_resultValue u, gx_trapPlace u, gx_fuelUsed u, gx_firstWaiting u, gx_waitingCount u, gx_printCount u, gx_code u, gx_facts u, gx_partner u, gx_loaded u, gx_globals u, gx_memories u, gx_frameAt u, gx_frameHeight u, gx_frameResult u, gx_frameDead u, gx_kinds u, gx_values u, gx_variables u, gx_activeSlot u, gx_activeGives u, gx_activeFrame u, gx_activeResume u, gx_waiting u, gx_prints u)
def sx_valueCount (u : SX) (z : Int32) : SX := (gx_byteCount u, gx_wrongPlace u, gx_at u, gx_frameCount u, gx_kindCount u, z, gx_activeCount u, gx_goesOn u, gx_outcome u, gx_resultValue u, gx_trapPlace u, gx_fuelUsed u, gx_firstWaiting u, gx_waitingCount u, gx_printCount u, gx_code u, gx_facts u, gx_partner u, gx_loaded u, gx_globals u, gx_memories u, gx_frameAt u, gx_frameHeight u, gx_frameResult u, gx_frameDead u, gx_kinds u, gx_values u, gx_variables u, gx_activeSlot u, gx_activeGives u, gx_activeFrame u, gx_activeResume u, gx_waiting u, gx_prints u)
def sx_activeCount (u : SX) (z : Int32) : SX := (gx_byteCount u, gx_wrongPlace u, gx_at u, gx_frameCount u, gx_kindCount u, gx_valueCount u, z, gx_goesOn u, gx_outcome u, gx_resultValue u, gx_trapPlace u, gx_fuelUsed u, gx_firstWaiting u, gx_waitingCount u, gx_printCount u, gx_code u, gx_facts u, gx_partner u, gx_loaded u, gx_globals u, gx_memories u, gx_frameAt u, gx_frameHeight u, gx_frameResult u, gx_frameDead u, gx_kinds u, gx_values u, gx_variables u, gx_activeSlot u, gx_activeGives u, gx_activeFrame u, gx_activeResume u, gx_waiting u, gx_prints u)
def sx_goesOn (u : SX) (z : Int32) : SX := (gx_byteCount u, gx_wrongPlace u, gx_at u, gx_frameCount u, gx_kindCount u, gx_valueCount u, gx_activeCount u, z, gx_outcome u, gx_resultValue u, gx_trapPlace u, gx_fuelUsed u, gx_firstWaiting u, gx_waitingCount u, gx_printCount u, gx_code u, gx_facts u, gx_partner u, gx_loaded u, gx_globals u, gx_memories u, gx_frameAt u, gx_frameHeight u, gx_frameResult u, gx_frameDead u, gx_kinds u, gx_values u, gx_variables u, gx_activeSlot u, gx_activeGives u, gx_activeFrame u, gx_activeResume u, gx_waiting u, gx_prints u)
def sx_outcome (u : SX) (z : Int32) : SX := (gx_byteCount u, gx_wrongPlace u, gx_at u, gx_frameCount u, gx_kindCount u, gx_valueCount u, gx_activeCount u, gx_goesOn u, z, gx_resultValue u, gx_trapPlace u, gx_fuelUsed u, gx_firstWaiting u, gx_waitingCount u, gx_printCount u, gx_code u, gx_facts u, gx_partner u, gx_loaded u, gx_globals u, gx_memories u, gx_frameAt u, gx_frameHeight u, gx_frameResult u, gx_frameDead u, gx_kinds u, gx_values u, gx_variables u, gx_activeSlot u, gx_activeGives u, gx_activeFrame u, gx_activeResume u, gx_waiting u, gx_prints u)
def sx_resultValue (u : SX) (z : Int64) : SX := (gx_byteCount u, gx_wrongPlace u, gx_at u, gx_frameCount u, gx_kindCount u, gx_valueCount u, gx_activeCount u, gx_goesOn u, gx_outcome u, z, gx_trapPlace u, gx_fuelUsed u, gx_firstWaiting u, gx_waitingCount u, gx_printCount u, gx_code u, gx_facts u, gx_partner u, gx_loaded u, gx_globals u, gx_memories u, gx_frameAt u, gx_frameHeight u, gx_frameResult u, gx_frameDead u, gx_kinds u, gx_values u, gx_variables u, gx_activeSlot u, gx_activeGives u, gx_activeFrame u, gx_activeResume u, gx_waiting u, gx_prints u)
def sx_trapPlace (u : SX) (z : Int32) : SX := (gx_byteCount u, gx_wrongPlace u, gx_at u, gx_frameCount u, gx_kindCount u, gx_valueCount u, gx_activeCount u, gx_goesOn u, gx_outcome u, gx_resultValue u, z, gx_fuelUsed u, gx_firstWaiting u, gx_waitingCount u, gx_printCount u, gx_code u, gx_facts u, gx_partner u, gx_loaded u, gx_globals u, gx_memories u, gx_frameAt u, gx_frameHeight u, gx_frameResult u, gx_frameDead u, gx_kinds u, gx_values u, gx_variables u, gx_activeSlot u, gx_activeGives u, gx_activeFrame u, gx_activeResume u, gx_waiting u, gx_prints u)
def sx_fuelUsed (u : SX) (z : Int32) : SX := (gx_byteCount u, gx_wrongPlace u, gx_at u, gx_frameCount u, gx_kindCount u, gx_valueCount u, gx_activeCount u, gx_goesOn u, gx_outcome u, gx_resultValue u, gx_trapPlace u, z, gx_firstWaiting u, gx_waitingCount u, gx_printCount u, gx_code u, gx_facts u, gx_partner u, gx_loaded u, gx_globals u, gx_memories u, gx_frameAt u, gx_frameHeight u, gx_frameResult u, gx_frameDead u, gx_kinds u, gx_values u, gx_variables u, gx_activeSlot u, gx_activeGives u, gx_activeFrame u, gx_activeResume u, gx_waiting u, gx_prints u)
def sx_firstWaiting (u : SX) (z : Int32) : SX := (gx_byteCount u, gx_wrongPlace u, gx_at u, gx_frameCount u, gx_kindCount u, gx_valueCount u, gx_activeCount u, gx_goesOn u, gx_outcome u, gx_resultValue u, gx_trapPlace u, gx_fuelUsed u, z, gx_waitingCount u, gx_printCount u, gx_code u, gx_facts u, gx_partner u, gx_loaded u, gx_globals u, gx_memories u, gx_frameAt u, gx_frameHeight u, gx_frameResult u, gx_frameDead u, gx_kinds u, gx_values u, gx_variables u, gx_activeSlot u, gx_activeGives u, gx_activeFrame u, gx_activeResume u, gx_waiting u, gx_prints u)
def sx_waitingCount (u : SX) (z : Int32) : SX := (gx_byteCount u, gx_wrongPlace u, gx_at u, gx_frameCount u, gx_kindCount u, gx_valueCount u, gx_activeCount u, gx_goesOn u, gx_outcome u, gx_resultValue u, gx_trapPlace u, gx_fuelUsed u, gx_firstWaiting u, z, gx_printCount u, gx_code u, gx_facts u, gx_partner u, gx_loaded u, gx_globals u, gx_memories u, gx_frameAt u, gx_frameHeight u, gx_frameResult u, gx_frameDead u, gx_kinds u, gx_values u, gx_variables u, gx_activeSlot u, gx_activeGives u, gx_activeFrame u, gx_activeResume u, gx_waiting u, gx_prints u)
def sx_printCount (u : SX) (z : Int32) : SX := (gx_byteCount u, gx_wrongPlace u, gx_at u, gx_frameCount u, gx_kindCount u, gx_valueCount u, gx_activeCount u, gx_goesOn u, gx_outcome u, gx_resultValue u, gx_trapPlace u, gx_fuelUsed u, gx_firstWaiting u, gx_waitingCount u, z, gx_code u, gx_facts u, gx_partner u, gx_loaded u, gx_globals u, gx_memories u, gx_frameAt u, gx_frameHeight u, gx_frameResult u, gx_frameDead u, gx_kinds u, gx_values u, gx_variables u, gx_activeSlot u, gx_activeGives u, gx_activeFrame u, gx_activeResume u, gx_waiting u, gx_prints u)
def sx_code (u : SX) (z : Nat → Int32) : SX := (gx_byteCount u, gx_wrongPlace u, gx_at u, gx_frameCount u, gx_kindCount u, gx_valueCount u, gx_activeCount u, gx_goesOn u, gx_outcome u, gx_resultValue u, gx_trapPlace u, gx_fuelUsed u, gx_firstWaiting u, gx_waitingCount u, gx_printCount u, z, gx_facts u, gx_partner u, gx_loaded u, gx_globals u, gx_memories u, gx_frameAt u, gx_frameHeight u, gx_frameResult u, gx_frameDead u, gx_kinds u, gx_values u, gx_variables u, gx_activeSlot u, gx_activeGives u, gx_activeFrame u, gx_activeResume u, gx_waiting u, gx_prints u)
def sx_facts (u : SX) (z : Nat → Int32) : SX := (gx_byteCount u, gx_wrongPlace u, gx_at u, gx_frameCount u, gx_kindCount u, gx_valueCount u, gx_activeCount u, gx_goesOn u, gx_outcome u, gx_resultValue u, gx_trapPlace u, gx_fuelUsed u, gx_firstWaiting u, gx_waitingCount u, gx_printCount u, gx_code u, z, gx_partner u, gx_loaded u, gx_globals u, gx_memories u, gx_frameAt u, gx_frameHeight u, gx_frameResult u, gx_frameDead u, gx_kinds u, gx_values u, gx_variables u, gx_activeSlot u, gx_activeGives u, gx_activeFrame u, gx_activeResume u, gx_waiting u, gx_prints u)
def sx_partner (u : SX) (z : Nat → Int32) : SX := (gx_byteCount u, gx_wrongPlace u, gx_at u, gx_frameCount u, gx_kindCount u, gx_valueCount u, gx_activeCount u, gx_goesOn u, gx_outcome u, gx_resultValue u, gx_trapPlace u, gx_fuelUsed u, gx_firstWaiting u, gx_waitingCount u, gx_printCount u, gx_code u, gx_facts u, z, gx_loaded u, gx_globals u, gx_memories u, gx_frameAt u, gx_frameHeight u, gx_frameResult u, gx_frameDead u, gx_kinds u, gx_values u, gx_variables u, gx_activeSlot u, gx_activeGives u, gx_activeFrame u, gx_activeResume u, gx_waiting u, gx_prints u)
def sx_loaded (u : SX) (z : Nat → Int32) : SX := (gx_byteCount u, gx_wrongPlace u, gx_at u, gx_frameCount u, gx_kindCount u, gx_valueCount u, gx_activeCount u, gx_goesOn u, gx_outcome u, gx_resultValue u, gx_trapPlace u, gx_fuelUsed u, gx_firstWaiting u, gx_waitingCount u, gx_printCount u, gx_code u, gx_facts u, gx_partner u, z, gx_globals u, gx_memories u, gx_frameAt u, gx_frameHeight u, gx_frameResult u, gx_frameDead u, gx_kinds u, gx_values u, gx_variables u, gx_activeSlot u, gx_activeGives u, gx_activeFrame u, gx_activeResume u, gx_waiting u, gx_prints u)
def sx_globals (u : SX) (z : Nat → Int64) : SX := (gx_byteCount u, gx_wrongPlace u, gx_at u, gx_frameCount u, gx_kindCount u, gx_valueCount u, gx_activeCount u, gx_goesOn u, gx_outcome u, gx_resultValue u, gx_trapPlace u, gx_fuelUsed u, gx_firstWaiting u, gx_waitingCount u, gx_printCount u, gx_code u, gx_facts u, gx_partner u, gx_loaded u, z, gx_memories u, gx_frameAt u, gx_frameHeight u, gx_frameResult u, gx_frameDead u, gx_kinds u, gx_values u, gx_variables u, gx_activeSlot u, gx_activeGives u, gx_activeFrame u, gx_activeResume u, gx_waiting u, gx_prints u)
def sx_memories (u : SX) (z : Nat → Int32) : SX := (gx_byteCount u, gx_wrongPlace u, gx_at u, gx_frameCount u, gx_kindCount u, gx_valueCount u, gx_activeCount u, gx_goesOn u, gx_outcome u, gx_resultValue u, gx_trapPlace u, gx_fuelUsed u, gx_firstWaiting u, gx_waitingCount u, gx_printCount u, gx_code u, gx_facts u, gx_partner u, gx_loaded u, gx_globals u, z, gx_frameAt u, gx_frameHeight u, gx_frameResult u, gx_frameDead u, gx_kinds u, gx_values u, gx_variables u, gx_activeSlot u, gx_activeGives u, gx_activeFrame u, gx_activeResume u, gx_waiting u, gx_prints u)
def sx_frameAt (u : SX) (z : Nat → Int32) : SX := (gx_byteCount u, gx_wrongPlace u, gx_at u, gx_frameCount u, gx_kindCount u, gx_valueCount u, gx_activeCount u, gx_goesOn u, gx_outcome u, gx_resultValue u, gx_trapPlace u, gx_fuelUsed u, gx_firstWaiting u, gx_waitingCount u, gx_printCount u, gx_code u, gx_facts u, gx_partner u, gx_loaded u, gx_globals u, gx_memories u, z, gx_frameHeight u, gx_frameResult u, gx_frameDead u, gx_kinds u, gx_values u, gx_variables u, gx_activeSlot u, gx_activeGives u, gx_activeFrame u, gx_activeResume u, gx_waiting u, gx_prints u)
def sx_frameHeight (u : SX) (z : Nat → Int32) : SX := (gx_byteCount u, gx_wrongPlace u, gx_at u, gx_frameCount u, gx_kindCount u, gx_valueCount u, gx_activeCount u, gx_goesOn u, gx_outcome u, gx_resultValue u, gx_trapPlace u, gx_fuelUsed u, gx_firstWaiting u, gx_waitingCount u, gx_printCount u, gx_code u, gx_facts u, gx_partner u, gx_loaded u, gx_globals u, gx_memories u, gx_frameAt u, z, gx_frameResult u, gx_frameDead u, gx_kinds u, gx_values u, gx_variables u, gx_activeSlot u, gx_activeGives u, gx_activeFrame u, gx_activeResume u, gx_waiting u, gx_prints u)
def sx_frameResult (u : SX) (z : Nat → Int32) : SX := (gx_byteCount u, gx_wrongPlace u, gx_at u, gx_frameCount u, gx_kindCount u, gx_valueCount u, gx_activeCount u, gx_goesOn u, gx_outcome u, gx_resultValue u, gx_trapPlace u, gx_fuelUsed u, gx_firstWaiting u, gx_waitingCount u, gx_printCount u, gx_code u, gx_facts u, gx_partner u, gx_loaded u, gx_globals u, gx_memories u, gx_frameAt u, gx_frameHeight u, z, gx_frameDead u, gx_kinds u, gx_values u, gx_variables u, gx_activeSlot u, gx_activeGives u, gx_activeFrame u, gx_activeResume u, gx_waiting u, gx_prints u)
def sx_frameDead (u : SX) (z : Nat → Int32) : SX := (gx_byteCount u, gx_wrongPlace u, gx_at u, gx_frameCount u, gx_kindCount u, gx_valueCount u, gx_activeCount u, gx_goesOn u, gx_outcome u, gx_resultValue u, gx_trapPlace u, gx_fuelUsed u, gx_firstWaiting u, gx_waitingCount u, gx_printCount u, gx_code u, gx_facts u, gx_partner u, gx_loaded u, gx_globals u, gx_memories u, gx_frameAt u, gx_frameHeight u, gx_frameResult u, z, gx_kinds u, gx_values u, gx_variables u, gx_activeSlot u, gx_activeGives u, gx_activeFrame u, gx_activeResume u, gx_waiting u, gx_prints u)
def sx_kinds (u : SX) (z : Nat → Int32) : SX := (gx_byteCount u, gx_wrongPlace u, gx_at u, gx_frameCount u, gx_kindCount u, gx_valueCount u, gx_activeCount u, gx_goesOn u, gx_outcome u, gx_resultValue u, gx_trapPlace u, gx_fuelUsed u, gx_firstWaiting u, gx_waitingCount u, gx_printCount u, gx_code u, gx_facts u, gx_partner u, gx_loaded u, gx_globals u, gx_memories u, gx_frameAt u, gx_frameHeight u, gx_frameResult u, gx_frameDead u, z, gx_values u, gx_variables u, gx_activeSlot u, gx_activeGives u, gx_activeFrame u, gx_activeResume u, gx_waiting u, gx_prints u)
def sx_values (u : SX) (z : Nat → Int64) : SX := (gx_byteCount u, gx_wrongPlace u, gx_at u, gx_frameCount u, gx_kindCount u, gx_valueCount u, gx_activeCount u, gx_goesOn u, gx_outcome u, gx_resultValue u, gx_trapPlace u, gx_fuelUsed u, gx_firstWaiting u, gx_waitingCount u, gx_printCount u, gx_code u, gx_facts u, gx_partner u, gx_loaded u, gx_globals u, gx_memories u, gx_frameAt u, gx_frameHeight u, gx_frameResult u, gx_frameDead u, gx_kinds u, z, gx_variables u, gx_activeSlot u, gx_activeGives u, gx_activeFrame u, gx_activeResume u, gx_waiting u, gx_prints u)
def sx_variables (u : SX) (z : Nat → Int64) : SX := (gx_byteCount u, gx_wrongPlace u, gx_at u, gx_frameCount u, gx_kindCount u, gx_valueCount u, gx_activeCount u, gx_goesOn u, gx_outcome u, gx_resultValue u, gx_trapPlace u, gx_fuelUsed u, gx_firstWaiting u, gx_waitingCount u, gx_printCount u, gx_code u, gx_facts u, gx_partner u, gx_loaded u, gx_globals u, gx_memories u, gx_frameAt u, gx_frameHeight u, gx_frameResult u, gx_frameDead u, gx_kinds u, gx_values u, z, gx_activeSlot u, gx_activeGives u, gx_activeFrame u, gx_activeResume u, gx_waiting u, gx_prints u)
def sx_activeSlot (u : SX) (z : Nat → Int32) : SX := (gx_byteCount u, gx_wrongPlace u, gx_at u, gx_frameCount u, gx_kindCount u, gx_valueCount u, gx_activeCount u, gx_goesOn u, gx_outcome u, gx_resultValue u, gx_trapPlace u, gx_fuelUsed u, gx_firstWaiting u, gx_waitingCount u, gx_printCount u, gx_code u, gx_facts u, gx_partner u, gx_loaded u, gx_globals u, gx_memories u, gx_frameAt u, gx_frameHeight u, gx_frameResult u, gx_frameDead u, gx_kinds u, gx_values u, gx_variables u, z, gx_activeGives u, gx_activeFrame u, gx_activeResume u, gx_waiting u, gx_prints u)
def sx_activeGives (u : SX) (z : Nat → Int32) : SX := (gx_byteCount u, gx_wrongPlace u, gx_at u, gx_frameCount u, gx_kindCount u, gx_valueCount u, gx_activeCount u, gx_goesOn u, gx_outcome u, gx_resultValue u, gx_trapPlace u, gx_fuelUsed u, gx_firstWaiting u, gx_waitingCount u, gx_printCount u, gx_code u, gx_facts u, gx_partner u, gx_loaded u, gx_globals u, gx_memories u, gx_frameAt u, gx_frameHeight u, gx_frameResult u, gx_frameDead u, gx_kinds u, gx_values u, gx_variables u, gx_activeSlot u, z, gx_activeFrame u, gx_activeResume u, gx_waiting u, gx_prints u)
def sx_activeFrame (u : SX) (z : Nat → Int32) : SX := (gx_byteCount u, gx_wrongPlace u, gx_at u, gx_frameCount u, gx_kindCount u, gx_valueCount u, gx_activeCount u, gx_goesOn u, gx_outcome u, gx_resultValue u, gx_trapPlace u, gx_fuelUsed u, gx_firstWaiting u, gx_waitingCount u, gx_printCount u, gx_code u, gx_facts u, gx_partner u, gx_loaded u, gx_globals u, gx_memories u, gx_frameAt u, gx_frameHeight u, gx_frameResult u, gx_frameDead u, gx_kinds u, gx_values u, gx_variables u, gx_activeSlot u, gx_activeGives u, z, gx_activeResume u, gx_waiting u, gx_prints u)
def sx_activeResume (u : SX) (z : Nat → Int32) : SX := (gx_byteCount u, gx_wrongPlace u, gx_at u, gx_frameCount u, gx_kindCount u, gx_valueCount u, gx_activeCount u, gx_goesOn u, gx_outcome u, gx_resultValue u, gx_trapPlace u, gx_fuelUsed u, gx_firstWaiting u, gx_waitingCount u, gx_printCount u, gx_code u, gx_facts u, gx_partner u, gx_loaded u, gx_globals u, gx_memories u, gx_frameAt u, gx_frameHeight u, gx_frameResult u, gx_frameDead u, gx_kinds u, gx_values u, gx_variables u, gx_activeSlot u, gx_activeGives u, gx_activeFrame u, z, gx_waiting u, gx_prints u)
def sx_waiting (u : SX) (z : Nat → Int32) : SX := (gx_byteCount u, gx_wrongPlace u, gx_at u, gx_frameCount u, gx_kindCount u, gx_valueCount u, gx_activeCount u, gx_goesOn u, gx_outcome u, gx_resultValue u, gx_trapPlace u, gx_fuelUsed u, gx_firstWaiting u, gx_waitingCount u, gx_printCount u, gx_code u, gx_facts u, gx_partner u, gx_loaded u, gx_globals u, gx_memories u, gx_frameAt u, gx_frameHeight u, gx_frameResult u, gx_frameDead u, gx_kinds u, gx_values u, gx_variables u, gx_activeSlot u, gx_activeGives u, gx_activeFrame u, gx_activeResume u, z, gx_prints u)
def sx_prints (u : SX) (z : Nat → Int32) : SX := (gx_byteCount u, gx_wrongPlace u, gx_at u, gx_frameCount u, gx_kindCount u, gx_valueCount u, gx_activeCount u, gx_goesOn u, gx_outcome u, gx_resultValue u, gx_trapPlace u, gx_fuelUsed u, gx_firstWaiting u, gx_waitingCount u, gx_printCount u, gx_code u, gx_facts u, gx_partner u, gx_loaded u, gx_globals u, gx_memories u, gx_frameAt u, gx_frameHeight u, gx_frameResult u, gx_frameDead u, gx_kinds u, gx_values u, gx_variables u, gx_activeSlot u, gx_activeGives u, gx_activeFrame u, gx_activeResume u, gx_waiting u, z)
def gy_count (u : SY) : Int32 := u.1
def gy_place (u : SY) : Int32 := u.2.1
def gy_m (u : SY) : Int32 := u.2.2.1
def gy_pos (u : SY) : Int32 := u.2.2.2.1
def gy_wrong (u : SY) : Int32 := u.2.2.2.2.1
def gy_constant (u : SY) : Int64 := u.2.2.2.2.2.1
def gy_least (u : SY) : Int32 := u.2.2.2.2.2.2.1
def gy_top (u : SY) : Int32 := u.2.2.2.2.2.2.2.1
def gy_frames (u : SY) : Int32 := u.2.2.2.2.2.2.2.2.1
def gy_invalid (u : SY) : Int32 := u.2.2.2.2.2.2.2.2.2.1
def gy_sp (u : SY) : Int32 := u.2.2.2.2.2.2.2.2.2.2.1
def gy_labels (u : SY) : Int32 := u.2.2.2.2.2.2.2.2.2.2.2.1
def gy_active (u : SY) : Int32 := u.2.2.2.2.2.2.2.2.2.2.2.2.1
def gy_fuel (u : SY) : Int32 := u.2.2.2.2.2.2.2.2.2.2.2.2.2.1
def gy_outcome (u : SY) : Int32 := u.2.2.2.2.2.2.2.2.2.2.2.2.2.2.1
def gy_trappedAt (u : SY) : Int32 := u.2.2.2.2.2.2.2.2.2.2.2.2.2.2.2.1
def gy_result (u : SY) : Int64 := u.2.2.2.2.2.2.2.2.2.2.2.2.2.2.2.2.1
def gy_used (u : SY) : Int32 := u.2.2.2.2.2.2.2.2.2.2.2.2.2.2.2.2.2.1
def gy_waits (u : SY) : Int32 := u.2.2.2.2.2.2.2.2.2.2.2.2.2.2.2.2.2.2.1
def gy_printed (u : SY) : Int32 := u.2.2.2.2.2.2.2.2.2.2.2.2.2.2.2.2.2.2.2.1
def gy_bytes (u : SY) : Nat → Int32 := u.2.2.2.2.2.2.2.2.2.2.2.2.2.2.2.2.2.2.2.2.1
def gy_there (u : SY) : Nat → Int32 := u.2.2.2.2.2.2.2.2.2.2.2.2.2.2.2.2.2.2.2.2.2.1
def gy_types (u : SY) : Nat → Int32 := u.2.2.2.2.2.2.2.2.2.2.2.2.2.2.2.2.2.2.2.2.2.2.1
def gy_typeSig (u : SY) : Nat → Int32 := u.2.2.2.2.2.2.2.2.2.2.2.2.2.2.2.2.2.2.2.2.2.2.2.1
def gy_imports (u : SY) : Nat → Int32 := u.2.2.2.2.2.2.2.2.2.2.2.2.2.2.2.2.2.2.2.2.2.2.2.2.1
def gy_functions (u : SY) : Nat → Int32 := u.2.2.2.2.2.2.2.2.2.2.2.2.2.2.2.2.2.2.2.2.2.2.2.2.2.1
def gy_sig (u : SY) : Nat → Int32 := u.2.2.2.2.2.2.2.2.2.2.2.2.2.2.2.2.2.2.2.2.2.2.2.2.2.2.1
def gy_what (u : SY) : Nat → Int32 := u.2.2.2.2.2.2.2.2.2.2.2.2.2.2.2.2.2.2.2.2.2.2.2.2.2.2.2.1
def gy_typeAt (u : SY) : Nat → Int32 := u.2.2.2.2.2.2.2.2.2.2.2.2.2.2.2.2.2.2.2.2.2.2.2.2.2.2.2.2.1
def gy_localsAt (u : SY) : Nat → Int32 := u.2.2.2.2.2.2.2.2.2.2.2.2.2.2.2.2.2.2.2.2.2.2.2.2.2.2.2.2.2.1
def gy_globals (u : SY) : Nat → Int32 := u.2.2.2.2.2.2.2.2.2.2.2.2.2.2.2.2.2.2.2.2.2.2.2.2.2.2.2.2.2.2.1
def gy_globalKind (u : SY) : Nat → Int32 := u.2.2.2.2.2.2.2.2.2.2.2.2.2.2.2.2.2.2.2.2.2.2.2.2.2.2.2.2.2.2.2.1
def gy_globalFree (u : SY) : Nat → Int32 := u.2.2.2.2.2.2.2.2.2.2.2.2.2.2.2.2.2.2.2.2.2.2.2.2.2.2.2.2.2.2.2.2.1
def gy_globalValue (u : SY) : Nat → Int64 := u.2.2.2.2.2.2.2.2.2.2.2.2.2.2.2.2.2.2.2.2.2.2.2.2.2.2.2.2.2.2.2.2.2.1
def gy_entries (u : SY) : Nat → Int32 := u.2.2.2.2.2.2.2.2.2.2.2.2.2.2.2.2.2.2.2.2.2.2.2.2.2.2.2.2.2.2.2.2.2.2.1
def gy_entriesAt (u : SY) : Nat → Int32 := u.2.2.2.2.2.2.2.2.2.2.2.2.2.2.2.2.2.2.2.2.2.2.2.2.2.2.2.2.2.2.2.2.2.2.2.1
def gy_hasMemory (u : SY) : Nat → Int32 := u.2.2.2.2.2.2.2.2.2.2.2.2.2.2.2.2.2.2.2.2.2.2.2.2.2.2.2.2.2.2.2.2.2.2.2.2.1
def gy_memory (u : SY) : Nat → Int32 := u.2.2.2.2.2.2.2.2.2.2.2.2.2.2.2.2.2.2.2.2.2.2.2.2.2.2.2.2.2.2.2.2.2.2.2.2.2.1
def gy_nest (u : SY) : Nat → Int32 := u.2.2.2.2.2.2.2.2.2.2.2.2.2.2.2.2.2.2.2.2.2.2.2.2.2.2.2.2.2.2.2.2.2.2.2.2.2.2.1
def gy_kinds (u : SY) : Nat → Int32 := u.2.2.2.2.2.2.2.2.2.2.2.2.2.2.2.2.2.2.2.2.2.2.2.2.2.2.2.2.2.2.2.2.2.2.2.2.2.2.2.1
def gy_shape (u : SY) : Nat → Int32 := u.2.2.2.2.2.2.2.2.2.2.2.2.2.2.2.2.2.2.2.2.2.2.2.2.2.2.2.2.2.2.2.2.2.2.2.2.2.2.2.2.1
def gy_gives (u : SY) : Nat → Int32 := u.2.2.2.2.2.2.2.2.2.2.2.2.2.2.2.2.2.2.2.2.2.2.2.2.2.2.2.2.2.2.2.2.2.2.2.2.2.2.2.2.2.1
def gy_height (u : SY) : Nat → Int32 := u.2.2.2.2.2.2.2.2.2.2.2.2.2.2.2.2.2.2.2.2.2.2.2.2.2.2.2.2.2.2.2.2.2.2.2.2.2.2.2.2.2.2.1
def gy_dead (u : SY) : Nat → Int32 := u.2.2.2.2.2.2.2.2.2.2.2.2.2.2.2.2.2.2.2.2.2.2.2.2.2.2.2.2.2.2.2.2.2.2.2.2.2.2.2.2.2.2.2.1
def gy_stack (u : SY) : Nat → Int64 := u.2.2.2.2.2.2.2.2.2.2.2.2.2.2.2.2.2.2.2.2.2.2.2.2.2.2.2.2.2.2.2.2.2.2.2.2.2.2.2.2.2.2.2.2.1
def gy_labelAt (u : SY) : Nat → Int32 := u.2.2.2.2.2.2.2.2.2.2.2.2.2.2.2.2.2.2.2.2.2.2.2.2.2.2.2.2.2.2.2.2.2.2.2.2.2.2.2.2.2.2.2.2.2.1
def gy_labelHeight (u : SY) : Nat → Int32 := u.2.2.2.2.2.2.2.2.2.2.2.2.2.2.2.2.2.2.2.2.2.2.2.2.2.2.2.2.2.2.2.2.2.2.2.2.2.2.2.2.2.2.2.2.2.2.1
def gy_labelGives (u : SY) : Nat → Int32 := u.2.2.2.2.2.2.2.2.2.2.2.2.2.2.2.2.2.2.2.2.2.2.2.2.2.2.2.2.2.2.2.2.2.2.2.2.2.2.2.2.2.2.2.2.2.2.2.1
def gy_callModule (u : SY) : Nat → Int32 := u.2.2.2.2.2.2.2.2.2.2.2.2.2.2.2.2.2.2.2.2.2.2.2.2.2.2.2.2.2.2.2.2.2.2.2.2.2.2.2.2.2.2.2.2.2.2.2.2.1
def gy_callFunction (u : SY) : Nat → Int32 := u.2.2.2.2.2.2.2.2.2.2.2.2.2.2.2.2.2.2.2.2.2.2.2.2.2.2.2.2.2.2.2.2.2.2.2.2.2.2.2.2.2.2.2.2.2.2.2.2.2.1
def gy_callBack (u : SY) : Nat → Int32 := u.2.2.2.2.2.2.2.2.2.2.2.2.2.2.2.2.2.2.2.2.2.2.2.2.2.2.2.2.2.2.2.2.2.2.2.2.2.2.2.2.2.2.2.2.2.2.2.2.2.2.1
def gy_callBase (u : SY) : Nat → Int32 := u.2.2.2.2.2.2.2.2.2.2.2.2.2.2.2.2.2.2.2.2.2.2.2.2.2.2.2.2.2.2.2.2.2.2.2.2.2.2.2.2.2.2.2.2.2.2.2.2.2.2.2.1
def gy_callLabels (u : SY) : Nat → Int32 := u.2.2.2.2.2.2.2.2.2.2.2.2.2.2.2.2.2.2.2.2.2.2.2.2.2.2.2.2.2.2.2.2.2.2.2.2.2.2.2.2.2.2.2.2.2.2.2.2.2.2.2.2.1
def gy_waiting (u : SY) : Nat → Int32 := u.2.2.2.2.2.2.2.2.2.2.2.2.2.2.2.2.2.2.2.2.2.2.2.2.2.2.2.2.2.2.2.2.2.2.2.2.2.2.2.2.2.2.2.2.2.2.2.2.2.2.2.2.2.1
def gy_prints (u : SY) : Nat → Int32 := u.2.2.2.2.2.2.2.2.2.2.2.2.2.2.2.2.2.2.2.2.2.2.2.2.2.2.2.2.2.2.2.2.2.2.2.2.2.2.2.2.2.2.2.2.2.2.2.2.2.2.2.2.2.2
def sy_count (u : SY) (z : Int32) : SY := (z, gy_place u, gy_m u, gy_pos u, gy_wrong u, gy_constant u, gy_least u, gy_top u, gy_frames u, gy_invalid u, gy_sp u, gy_labels u, gy_active u, gy_fuel u, gy_outcome u, gy_trappedAt u, gy_result u, gy_used u, gy_waits u, gy_printed u, gy_bytes u, gy_there u, gy_types u, gy_typeSig u, gy_imports u, gy_functions u, gy_sig u, gy_what u, gy_typeAt u, gy_localsAt u, gy_globals u, gy_globalKind u, gy_globalFree u, gy_globalValue u, gy_entries u, gy_entriesAt u, gy_hasMemory u, gy_memory u, gy_nest u, gy_kinds u, gy_shape u, gy_gives u, gy_height u, gy_dead u, gy_stack u, gy_labelAt u, gy_labelHeight u, gy_labelGives u, gy_callModule u, gy_callFunction u, gy_callBack u, gy_callBase u, gy_callLabels u, gy_waiting u, gy_prints u)
def sy_place (u : SY) (z : Int32) : SY := (gy_count u, z, gy_m u, gy_pos u, gy_wrong u, gy_constant u, gy_least u, gy_top u, gy_frames u, gy_invalid u, gy_sp u, gy_labels u, gy_active u, gy_fuel u, gy_outcome u, gy_trappedAt u, gy_result u, gy_used u, gy_waits u, gy_printed u, gy_bytes u, gy_there u, gy_types u, gy_typeSig u, gy_imports u, gy_functions u, gy_sig u, gy_what u, gy_typeAt u, gy_localsAt u, gy_globals u, gy_globalKind u, gy_globalFree u, gy_globalValue u, gy_entries u, gy_entriesAt u, gy_hasMemory u, gy_memory u, gy_nest u, gy_kinds u, gy_shape u, gy_gives u, gy_height u, gy_dead u, gy_stack u, gy_labelAt u, gy_labelHeight u, gy_labelGives u, gy_callModule u, gy_callFunction u, gy_callBack u, gy_callBase u, gy_callLabels u, gy_waiting u, gy_prints u)
def sy_m (u : SY) (z : Int32) : SY := (gy_count u, gy_place u, z, gy_pos u, gy_wrong u, gy_constant u, gy_least u, gy_top u, gy_frames u, gy_invalid u, gy_sp u, gy_labels u, gy_active u, gy_fuel u, gy_outcome u, gy_trappedAt u, gy_result u, gy_used u, gy_waits u, gy_printed u, gy_bytes u, gy_there u, gy_types u, gy_typeSig u, gy_imports u, gy_functions u, gy_sig u, gy_what u, gy_typeAt u, gy_localsAt u, gy_globals u, gy_globalKind u, gy_globalFree u, gy_globalValue u, gy_entries u, gy_entriesAt u, gy_hasMemory u, gy_memory u, gy_nest u, gy_kinds u, gy_shape u, gy_gives u, gy_height u, gy_dead u, gy_stack u, gy_labelAt u, gy_labelHeight u, gy_labelGives u, gy_callModule u, gy_callFunction u, gy_callBack u, gy_callBase u, gy_callLabels u, gy_waiting u, gy_prints u)
def sy_pos (u : SY) (z : Int32) : SY := (gy_count u, gy_place u, gy_m u, z, gy_wrong u, gy_constant u, gy_least u, gy_top u, gy_frames u, gy_invalid u, gy_sp u, gy_labels u, gy_active u, gy_fuel u, gy_outcome u, gy_trappedAt u, gy_result u, gy_used u, gy_waits u, gy_printed u, gy_bytes u, gy_there u, gy_types u, gy_typeSig u, gy_imports u, gy_functions u, gy_sig u, gy_what u, gy_typeAt u, gy_localsAt u, gy_globals u, gy_globalKind u, gy_globalFree u, gy_globalValue u, gy_entries u, gy_entriesAt u, gy_hasMemory u, gy_memory u, gy_nest u, gy_kinds u, gy_shape u, gy_gives u, gy_height u, gy_dead u, gy_stack u, gy_labelAt u, gy_labelHeight u, gy_labelGives u, gy_callModule u, gy_callFunction u, gy_callBack u, gy_callBase u, gy_callLabels u, gy_waiting u, gy_prints u)
def sy_wrong (u : SY) (z : Int32) : SY := (gy_count u, gy_place u, gy_m u, gy_pos u, z, gy_constant u, gy_least u, gy_top u, gy_frames u, gy_invalid u, gy_sp u, gy_labels u, gy_active u, gy_fuel u, gy_outcome u, gy_trappedAt u, gy_result u, gy_used u, gy_waits u, gy_printed u, gy_bytes u, gy_there u, gy_types u, gy_typeSig u, gy_imports u, gy_functions u, gy_sig u, gy_what u, gy_typeAt u, gy_localsAt u, gy_globals u, gy_globalKind u, gy_globalFree u, gy_globalValue u, gy_entries u, gy_entriesAt u, gy_hasMemory u, gy_memory u, gy_nest u, gy_kinds u, gy_shape u, gy_gives u, gy_height u, gy_dead u, gy_stack u, gy_labelAt u, gy_labelHeight u, gy_labelGives u, gy_callModule u, gy_callFunction u, gy_callBack u, gy_callBase u, gy_callLabels u, gy_waiting u, gy_prints u)
def sy_constant (u : SY) (z : Int64) : SY := (gy_count u, gy_place u, gy_m u, gy_pos u, gy_wrong u, z, gy_least u, gy_top u, gy_frames u, gy_invalid u, gy_sp u, gy_labels u, gy_active u, gy_fuel u, gy_outcome u, gy_trappedAt u, gy_result u, gy_used u, gy_waits u, gy_printed u, gy_bytes u, gy_there u, gy_types u, gy_typeSig u, gy_imports u, gy_functions u, gy_sig u, gy_what u, gy_typeAt u, gy_localsAt u, gy_globals u, gy_globalKind u, gy_globalFree u, gy_globalValue u, gy_entries u, gy_entriesAt u, gy_hasMemory u, gy_memory u, gy_nest u, gy_kinds u, gy_shape u, gy_gives u, gy_height u, gy_dead u, gy_stack u, gy_labelAt u, gy_labelHeight u, gy_labelGives u, gy_callModule u, gy_callFunction u, gy_callBack u, gy_callBase u, gy_callLabels u, gy_waiting u, gy_prints u)
def sy_least (u : SY) (z : Int32) : SY := (gy_count u, gy_place u, gy_m u, gy_pos u, gy_wrong u, gy_constant u, z, gy_top u, gy_frames u, gy_invalid u, gy_sp u, gy_labels u, gy_active u, gy_fuel u, gy_outcome u, gy_trappedAt u, gy_result u, gy_used u, gy_waits u, gy_printed u, gy_bytes u, gy_there u, gy_types u, gy_typeSig u, gy_imports u, gy_functions u, gy_sig u, gy_what u, gy_typeAt u, gy_localsAt u, gy_globals u, gy_globalKind u, gy_globalFree u, gy_globalValue u, gy_entries u, gy_entriesAt u, gy_hasMemory u, gy_memory u, gy_nest u, gy_kinds u, gy_shape u, gy_gives u, gy_height u, gy_dead u, gy_stack u, gy_labelAt u, gy_labelHeight u, gy_labelGives u, gy_callModule u, gy_callFunction u, gy_callBack u, gy_callBase u, gy_callLabels u, gy_waiting u, gy_prints u)
def sy_top (u : SY) (z : Int32) : SY := (gy_count u, gy_place u, gy_m u, gy_pos u, gy_wrong u, gy_constant u, gy_least u, z, gy_frames u, gy_invalid u, gy_sp u, gy_labels u, gy_active u, gy_fuel u, gy_outcome u, gy_trappedAt u, gy_result u, gy_used u, gy_waits u, gy_printed u, gy_bytes u, gy_there u, gy_types u, gy_typeSig u, gy_imports u, gy_functions u, gy_sig u, gy_what u, gy_typeAt u, gy_localsAt u, gy_globals u, gy_globalKind u, gy_globalFree u, gy_globalValue u, gy_entries u, gy_entriesAt u, gy_hasMemory u, gy_memory u, gy_nest u, gy_kinds u, gy_shape u, gy_gives u, gy_height u, gy_dead u, gy_stack u, gy_labelAt u, gy_labelHeight u, gy_labelGives u, gy_callModule u, gy_callFunction u, gy_callBack u, gy_callBase u, gy_callLabels u, gy_waiting u, gy_prints u)
def sy_frames (u : SY) (z : Int32) : SY := (gy_count u, gy_place u, gy_m u, gy_pos u, gy_wrong u, gy_constant u, gy_least u, gy_top u, z, gy_invalid u, gy_sp u, gy_labels u, gy_active u, gy_fuel u, gy_outcome u, gy_trappedAt u, gy_result u, gy_used u, gy_waits u, gy_printed u, gy_bytes u, gy_there u, gy_types u, gy_typeSig u, gy_imports u, gy_functions u, gy_sig u, gy_what u, gy_typeAt u, gy_localsAt u, gy_globals u, gy_globalKind u, gy_globalFree u, gy_globalValue u, gy_entries u, gy_entriesAt u, gy_hasMemory u, gy_memory u, gy_nest u, gy_kinds u, gy_shape u, gy_gives u, gy_height u, gy_dead u, gy_stack u, gy_labelAt u, gy_labelHeight u, gy_labelGives u, gy_callModule u, gy_callFunction u, gy_callBack u, gy_callBase u, gy_callLabels u, gy_waiting u, gy_prints u)
def sy_invalid (u : SY) (z : Int32) : SY := (gy_count u, gy_place u, gy_m u, gy_pos u, gy_wrong u, gy_constant u, gy_least u, gy_top u, gy_frames u, z, gy_sp u, gy_labels u, gy_active u, gy_fuel u, gy_outcome u, gy_trappedAt u, gy_result u, gy_used u, gy_waits u, gy_printed u, gy_bytes u, gy_there u, gy_types u, gy_typeSig u, gy_imports u, gy_functions u, gy_sig u, gy_what u, gy_typeAt u, gy_localsAt u, gy_globals u, gy_globalKind u, gy_globalFree u, gy_globalValue u, gy_entries u, gy_entriesAt u, gy_hasMemory u, gy_memory u, gy_nest u, gy_kinds u, gy_shape u, gy_gives u, gy_height u, gy_dead u, gy_stack u, gy_labelAt u, gy_labelHeight u, gy_labelGives u, gy_callModule u, gy_callFunction u, gy_callBack u, gy_callBase u, gy_callLabels u, gy_waiting u, gy_prints u)
def sy_sp (u : SY) (z : Int32) : SY := (gy_count u, gy_place u, gy_m u, gy_pos u, gy_wrong u, gy_constant u, gy_least u, gy_top u, gy_frames u, gy_invalid u, z, gy_labels u, gy_active u, gy_fuel u, gy_outcome u, gy_trappedAt u, gy_result u, gy_used u, gy_waits u, gy_printed u, gy_bytes u, gy_there u, gy_types u, gy_typeSig u, gy_imports u, gy_functions u, gy_sig u, gy_what u, gy_typeAt u, gy_localsAt u, gy_globals u, gy_globalKind u, gy_globalFree u, gy_globalValue u, gy_entries u, gy_entriesAt u, gy_hasMemory u, gy_memory u, gy_nest u, gy_kinds u, gy_shape u, gy_gives u, gy_height u, gy_dead u, gy_stack u, gy_labelAt u, gy_labelHeight u, gy_labelGives u, gy_callModule u, gy_callFunction u, gy_callBack u, gy_callBase u, gy_callLabels u, gy_waiting u, gy_prints u)
def sy_labels (u : SY) (z : Int32) : SY := (gy_count u, gy_place u, gy_m u, gy_pos u, gy_wrong u, gy_constant u, gy_least u, gy_top u, gy_frames u, gy_invalid u, gy_sp u, z, gy_active u, gy_fuel u, gy_outcome u, gy_trappedAt u, gy_result u, gy_used u, gy_waits u, gy_printed u, gy_bytes u, gy_there u, gy_types u, gy_typeSig u, gy_imports u, gy_functions u, gy_sig u, gy_what u, gy_typeAt u, gy_localsAt u, gy_globals u, gy_globalKind u, gy_globalFree u, gy_globalValue u, gy_entries u, gy_entriesAt u, gy_hasMemory u, gy_memory u, gy_nest u, gy_kinds u, gy_shape u, gy_gives u, gy_height u, gy_dead u, gy_stack u, gy_labelAt u, gy_labelHeight u, gy_labelGives u, gy_callModule u, gy_callFunction u, gy_callBack u, gy_callBase u, gy_callLabels u, gy_waiting u, gy_prints u)
def sy_active (u : SY) (z : Int32) : SY := (gy_count u, gy_place u, gy_m u, gy_pos u, gy_wrong u, gy_constant u, gy_least u, gy_top u, gy_frames u, gy_invalid u, gy_sp u, gy_labels u, z, gy_fuel u, gy_outcome u, gy_trappedAt u, gy_result u, gy_used u, gy_waits u, gy_printed u, gy_bytes u, gy_there u, gy_types u, gy_typeSig u, gy_imports u, gy_functions u, gy_sig u, gy_what u, gy_typeAt u, gy_localsAt u, gy_globals u, gy_globalKind u, gy_globalFree u, gy_globalValue u, gy_entries u, gy_entriesAt u, gy_hasMemory u, gy_memory u, gy_nest u, gy_kinds u, gy_shape u, gy_gives u, gy_height u, gy_dead u, gy_stack u, gy_labelAt u, gy_labelHeight u, gy_labelGives u, gy_callModule u, gy_callFunction u, gy_callBack u, gy_callBase u, gy_callLabels u, gy_waiting u, gy_prints u)
def sy_fuel (u : SY) (z : Int32) : SY := (gy_count u, gy_place u, gy_m u, gy_pos u, gy_wrong u, gy_constant u, gy_least u, gy_top u, gy_frames u, gy_invalid u, gy_sp u, gy_labels u, gy_active u, z, gy_outcome u, gy_trappedAt u, gy_result u, gy_used u, gy_waits u, gy_printed u, gy_bytes u, gy_there u, gy_types u, gy_typeSig u, gy_imports u, gy_functions u, gy_sig u, gy_what u, gy_typeAt u, gy_localsAt u, gy_globals u, gy_globalKind u, gy_globalFree u, gy_globalValue u, gy_entries u, gy_entriesAt u, gy_hasMemory u, gy_memory u, gy_nest u, gy_kinds u, gy_shape u, gy_gives u, gy_height u, gy_dead u, gy_stack u, gy_labelAt u, gy_labelHeight u, gy_labelGives u, gy_callModule u, gy_callFunction u, gy_callBack u, gy_callBase u, gy_callLabels u, gy_waiting u, gy_prints u)
def sy_outcome (u : SY) (z : Int32) : SY := (gy_count u, gy_place u, gy_m u, gy_pos u, gy_wrong u, gy_constant u, gy_least u, gy_top u, gy_frames u, gy_invalid u, gy_sp u, gy_labels u, gy_active u, gy_fuel u, z, gy_trappedAt u, gy_result u, gy_used u, gy_waits u, gy_printed u, gy_bytes u, gy_there u, gy_types u, gy_typeSig u, gy_imports u, gy_functions u, gy_sig u, gy_what u, gy_typeAt u, gy_localsAt u, gy_globals u, gy_globalKind u, gy_globalFree u, gy_globalValue u, gy_entries u, gy_entriesAt u, gy_hasMemory u, gy_memory u, gy_nest u, gy_kinds u, gy_shape u, gy_gives u, gy_height u, gy_dead u, gy_stack u, gy_labelAt u, gy_labelHeight u, gy_labelGives u, gy_callModule u, gy_callFunction u, gy_callBack u, gy_callBase u, gy_callLabels u, gy_waiting u, gy_prints u)
def sy_trappedAt (u : SY) (z : Int32) : SY := (gy_count u, gy_place u, gy_m u, gy_pos u, gy_wrong u, gy_constant u, gy_least u, gy_top u, gy_frames u, gy_invalid u, gy_sp u, gy_labels u, gy_active u, gy_fuel u, gy_outcome u, z, gy_result u, gy_used u, gy_waits u, gy_printed u, gy_bytes u, gy_there u, gy_types u, gy_typeSig u, gy_imports u, gy_functions u, gy_sig u, gy_what u, gy_typeAt u, gy_localsAt u, gy_globals u, gy_globalKind u, gy_globalFree u, gy_globalValue u, gy_entries u, gy_entriesAt u, gy_hasMemory u, gy_memory u, gy_nest u, gy_kinds u, gy_shape u, gy_gives u, gy_height u, gy_dead u, gy_stack u, gy_labelAt u, gy_labelHeight u, gy_labelGives u, gy_callModule u, gy_callFunction u, gy_callBack u, gy_callBase u, gy_callLabels u, gy_waiting u, gy_prints u)
def sy_result (u : SY) (z : Int64) : SY := (gy_count u, gy_place u, gy_m u, gy_pos u, gy_wrong u, gy_constant u, gy_least u, gy_top u, gy_frames u, gy_invalid u, gy_sp u, gy_labels u, gy_active u, gy_fuel u, gy_outcome u, gy_trappedAt u, z, gy_used u, gy_waits u, gy_printed u, gy_bytes u, gy_there u, gy_types u, gy_typeSig u, gy_imports u, gy_functions u, gy_sig u, gy_what u, gy_typeAt u, gy_localsAt u, gy_globals u, gy_globalKind u, gy_globalFree u, gy_globalValue u, gy_entries u, gy_entriesAt u, gy_hasMemory u, gy_memory u, gy_nest u, gy_kinds u, gy_shape u, gy_gives u, gy_height u, gy_dead u, gy_stack u, gy_labelAt u, gy_labelHeight u, gy_labelGives u, gy_callModule u, gy_callFunction u, gy_callBack u, gy_callBase u, gy_callLabels u, gy_waiting u, gy_prints u)
def sy_used (u : SY) (z : Int32) : SY := (gy_count u, gy_place u, gy_m u, gy_pos u, gy_wrong u, gy_constant u, gy_least u, gy_top u, gy_frames u, gy_invalid u, gy_sp u, gy_labels u, gy_active u, gy_fuel u, gy_outcome u, gy_trappedAt u, gy_result u, z, gy_waits u, gy_printed u, gy_bytes u, gy_there u, gy_types u, gy_typeSig u, gy_imports u, gy_functions u, gy_sig u, gy_what u, gy_typeAt u, gy_localsAt u, gy_globals u, gy_globalKind u, gy_globalFree u, gy_globalValue u, gy_entries u, gy_entriesAt u, gy_hasMemory u, gy_memory u, gy_nest u, gy_kinds u, gy_shape u, gy_gives u, gy_height u, gy_dead u, gy_stack u, gy_labelAt u, gy_labelHeight u, gy_labelGives u, gy_callModule u, gy_callFunction u, gy_callBack u, gy_callBase u, gy_callLabels u, gy_waiting u, gy_prints u)
def sy_waits (u : SY) (z : Int32) : SY := (gy_count u, gy_place u, gy_m u, gy_pos u, gy_wrong u, gy_constant u, gy_least u, gy_top u, gy_frames u, gy_invalid u, gy_sp u, gy_labels u, gy_active u, gy_fuel u, gy_outcome u, gy_trappedAt u, gy_result u, gy_used u, z, gy_printed u, gy_bytes u, gy_there u, gy_types u, gy_typeSig u, gy_imports u, gy_functions u, gy_sig u, gy_what u, gy_typeAt u, gy_localsAt u, gy_globals u, gy_globalKind u, gy_globalFree u, gy_globalValue u, gy_entries u, gy_entriesAt u, gy_hasMemory u, gy_memory u, gy_nest u, gy_kinds u, gy_shape u, gy_gives u, gy_height u, gy_dead u, gy_stack u, gy_labelAt u, gy_labelHeight u, gy_labelGives u, gy_callModule u, gy_callFunction u, gy_callBack u, gy_callBase u, gy_callLabels u, gy_waiting u, gy_prints u)
def sy_printed (u : SY) (z : Int32) : SY := (gy_count u, gy_place u, gy_m u, gy_pos u, gy_wrong u, gy_constant u, gy_least u, gy_top u, gy_frames u, gy_invalid u, gy_sp u, gy_labels u, gy_active u, gy_fuel u, gy_outcome u, gy_trappedAt u, gy_result u, gy_used u, gy_waits u, z, gy_bytes u, gy_there u, gy_types u, gy_typeSig u, gy_imports u, gy_functions u, gy_sig u, gy_what u, gy_typeAt u, gy_localsAt u, gy_globals u, gy_globalKind u, gy_globalFree u, gy_globalValue u, gy_entries u, gy_entriesAt u, gy_hasMemory u, gy_memory u, gy_nest u, gy_kinds u, gy_shape u, gy_gives u, gy_height u, gy_dead u, gy_stack u, gy_labelAt u, gy_labelHeight u, gy_labelGives u, gy_callModule u, gy_callFunction u, gy_callBack u, gy_callBase u, gy_callLabels u, gy_waiting u, gy_prints u)
def sy_bytes (u : SY) (z : Nat → Int32) : SY := (gy_count u, gy_place u, gy_m u, gy_pos u, gy_wrong u, gy_constant u, gy_least u, gy_top u, gy_frames u, gy_invalid u, gy_sp u, gy_labels u, gy_active u, gy_fuel u, gy_outcome u, gy_trappedAt u, gy_result u, gy_used u, gy_waits u, gy_printed u, z, gy_there u, gy_types u, gy_typeSig u, gy_imports u, gy_functions u, gy_sig u, gy_what u, gy_typeAt u, gy_localsAt u, gy_globals u, gy_globalKind u, gy_globalFree u, gy_globalValue u, gy_entries u, gy_entriesAt u, gy_hasMemory u, gy_memory u, gy_nest u, gy_kinds u, gy_shape u, gy_gives u, gy_height u, gy_dead u, gy_stack u, gy_labelAt u, gy_labelHeight u, gy_labelGives u, gy_callModule u, gy_callFunction u, gy_callBack u, gy_callBase u, gy_callLabels u, gy_waiting u, gy_prints u)
def sy_there (u : SY) (z : Nat → Int32) : SY := (gy_count u, gy_place u, gy_m u, gy_pos u, gy_wrong u, gy_constant u, gy_least u, gy_top u, gy_frames u, gy_invalid u, gy_sp u, gy_labels u, gy_active u, gy_fuel u, gy_outcome u, gy_trappedAt u, gy_result u, gy_used u, gy_waits u, gy_printed u, gy_bytes u, z, gy_types u, gy_typeSig u, gy_imports u, gy_functions u, gy_sig u, gy_what u, gy_typeAt u, gy_localsAt u, gy_globals u, gy_globalKind u, gy_globalFree u, gy_globalValue u, gy_entries u, gy_entriesAt u, gy_hasMemory u, gy_memory u, gy_nest u, gy_kinds u, gy_shape u, gy_gives u, gy_height u, gy_dead u, gy_stack u, gy_labelAt u, gy_labelHeight u, gy_labelGives u, gy_callModule u, gy_callFunction u, gy_callBack u, gy_callBase u, gy_callLabels u, gy_waiting u, gy_prints u)
def sy_types (u : SY) (z : Nat → Int32) : SY := (gy_count u, gy_place u, gy_m u, gy_pos u, gy_wrong u, gy_constant u, gy_least u, gy_top u, gy_frames u, gy_invalid u, gy_sp u, gy_labels u, gy_active u, gy_fuel u, gy_outcome u, gy_trappedAt u, gy_result u, gy_used u, gy_waits u, gy_printed u, gy_bytes u, gy_there u, z, gy_typeSig u, gy_imports u, gy_functions u, gy_sig u, gy_what u, gy_typeAt u, gy_localsAt u, gy_globals u, gy_globalKind u, gy_globalFree u, gy_globalValue u, gy_entries u, gy_entriesAt u, gy_hasMemory u, gy_memory u, gy_nest u, gy_kinds u, gy_shape u, gy_gives u, gy_height u, gy_dead u, gy_stack u, gy_labelAt u, gy_labelHeight u, gy_labelGives u, gy_callModule u, gy_callFunction u, gy_callBack u, gy_callBase u, gy_callLabels u, gy_waiting u, gy_prints u)
def sy_typeSig (u : SY) (z : Nat → Int32) : SY := (gy_count u, gy_place u, gy_m u, gy_pos u, gy_wrong u, gy_constant u, gy_least u, gy_top u, gy_frames u, gy_invalid u, gy_sp u, gy_labels u, gy_active u, gy_fuel u, gy_outcome u, gy_trappedAt u, gy_result u, gy_used u, gy_waits u, gy_printed u, gy_bytes u, gy_there u, gy_types u, z, gy_imports u, gy_functions u, gy_sig u, gy_what u, gy_typeAt u, gy_localsAt u, gy_globals u, gy_globalKind u, gy_globalFree u, gy_globalValue u, gy_entries u, gy_entriesAt u, gy_hasMemory u, gy_memory u, gy_nest u, gy_kinds u, gy_shape u, gy_gives u, gy_height u, gy_dead u, gy_stack u, gy_labelAt u, gy_labelHeight u, gy_labelGives u, gy_callModule u, gy_callFunction u, gy_callBack u, gy_callBase u, gy_callLabels u, gy_waiting u, gy_prints u)
def sy_imports (u : SY) (z : Nat → Int32) : SY := (gy_count u, gy_place u, gy_m u, gy_pos u, gy_wrong u, gy_constant u, gy_least u, gy_top u, gy_frames u, gy_invalid u, gy_sp u, gy_labels u, gy_active u, gy_fuel u, gy_outcome u, gy_trappedAt u, gy_result u, gy_used u, gy_waits u, gy_printed u, gy_bytes u, gy_there u, gy_types u, gy_typeSig u, z, gy_functions u, gy_sig u, gy_what u, gy_typeAt u, gy_localsAt u, gy_globals u, gy_globalKind u, gy_globalFree u, gy_globalValue u, gy_entries u, gy_entriesAt u, gy_hasMemory u, gy_memory u, gy_nest u, gy_kinds u, gy_shape u, gy_gives u, gy_height u, gy_dead u, gy_stack u, gy_labelAt u, gy_labelHeight u, gy_labelGives u, gy_callModule u, gy_callFunction u, gy_callBack u, gy_callBase u, gy_callLabels u, gy_waiting u, gy_prints u)
def sy_functions (u : SY) (z : Nat → Int32) : SY := (gy_count u, gy_place u, gy_m u, gy_pos u, gy_wrong u, gy_constant u, gy_least u, gy_top u, gy_frames u, gy_invalid u, gy_sp u, gy_labels u, gy_active u, gy_fuel u, gy_outcome u, gy_trappedAt u, gy_result u, gy_used u, gy_waits u, gy_printed u, gy_bytes u, gy_there u, gy_types u, gy_typeSig u, gy_imports u, z, gy_sig u, gy_what u, gy_typeAt u, gy_localsAt u, gy_globals u, gy_globalKind u, gy_globalFree u, gy_globalValue u, gy_entries u, gy_entriesAt u, gy_hasMemory u, gy_memory u, gy_nest u, gy_kinds u, gy_shape u, gy_gives u, gy_height u, gy_dead u, gy_stack u, gy_labelAt u, gy_labelHeight u, gy_labelGives u, gy_callModule u, gy_callFunction u, gy_callBack u, gy_callBase u, gy_callLabels u, gy_waiting u, gy_prints u)
def sy_sig (u : SY) (z : Nat → Int32) : SY := (gy_count u, gy_place u, gy_m u, gy_pos u, gy_wrong u, gy_constant u, gy_least u, gy_top u, gy_frames u, gy_invalid u, gy_sp u, gy_labels u, gy_active u, gy_fuel u, gy_outcome u, gy_trappedAt u, gy_result u, gy_used u, gy_waits u, gy_printed u, gy_bytes u, gy_there u, gy_types u, gy_typeSig u, gy_imports u, gy_functions u, z, gy_what u, gy_typeAt u, gy_localsAt u, gy_globals u, gy_globalKind u, gy_globalFree u, gy_globalValue u, gy_entries u, gy_entriesAt u, gy_hasMemory u, gy_memory u, gy_nest u, gy_kinds u, gy_shape u, gy_gives u, gy_height u, gy_dead u, gy_stack u, gy_labelAt u, gy_labelHeight u, gy_labelGives u, gy_callModule u, gy_callFunction u, gy_callBack u, gy_callBase u, gy_callLabels u, gy_waiting u, gy_prints u)
def sy_what (u : SY) (z : Nat → Int32) : SY := (gy_count u, gy_place u, gy_m u, gy_pos u, gy_wrong u, gy_constant u, gy_least u, gy_top u, gy_frames u, gy_invalid u, gy_sp u, gy_labels u, gy_active u, gy_fuel u, gy_outcome u, gy_trappedAt u, gy_result u, gy_used u, gy_waits u, gy_printed u, gy_bytes u, gy_there u, gy_types u, gy_typeSig u, gy_imports u, gy_functions u, gy_sig u, z, gy_typeAt u, gy_localsAt u, gy_globals u, gy_globalKind u, gy_globalFree u, gy_globalValue u, gy_entries u, gy_entriesAt u, gy_hasMemory u, gy_memory u, gy_nest u, gy_kinds u, gy_shape u, gy_gives u, gy_height u, gy_dead u, gy_stack u, gy_labelAt u, gy_labelHeight u, gy_labelGives u, gy_callModule u, gy_callFunction u, gy_callBack u, gy_callBase u, gy_callLabels u, gy_waiting u, gy_prints u)
def sy_typeAt (u : SY) (z : Nat → Int32) : SY := (gy_count u, gy_place u, gy_m u, gy_pos u, gy_wrong u, gy_constant u, gy_least u, gy_top u, gy_frames u, gy_invalid u, gy_sp u, gy_labels u, gy_active u, gy_fuel u, gy_outcome u, gy_trappedAt u, gy_result u, gy_used u, gy_waits u, gy_printed u, gy_bytes u, gy_there u, gy_types u, gy_typeSig u, gy_imports u, gy_functions u, gy_sig u, gy_what u, z, gy_localsAt u, gy_globals u, gy_globalKind u, gy_globalFree u, gy_globalValue u, gy_entries u, gy_entriesAt u, gy_hasMemory u, gy_memory u, gy_nest u, gy_kinds u, gy_shape u, gy_gives u, gy_height u, gy_dead u, gy_stack u, gy_labelAt u, gy_labelHeight u, gy_labelGives u, gy_callModule u, gy_callFunction u, gy_callBack u, gy_callBase u, gy_callLabels u, gy_waiting u, gy_prints u)
def sy_localsAt (u : SY) (z : Nat → Int32) : SY := (gy_count u, gy_place u, gy_m u, gy_pos u, gy_wrong u, gy_constant u, gy_least u, gy_top u, gy_frames u, gy_invalid u, gy_sp u, gy_labels u, gy_active u, gy_fuel u, gy_outcome u, gy_trappedAt u, gy_result u, gy_used u, gy_waits u, gy_printed u, gy_bytes u, gy_there u, gy_types u, gy_typeSig u, gy_imports u, gy_functions u, gy_sig u, gy_what u, gy_typeAt u, z, gy_globals u, gy_globalKind u, gy_globalFree u, gy_globalValue u, gy_entries u, gy_entriesAt u, gy_hasMemory u, gy_memory u, gy_nest u, gy_kinds u, gy_shape u, gy_gives u, gy_height u, gy_dead u, gy_stack u, gy_labelAt u, gy_labelHeight u, gy_labelGives u, gy_callModule u, gy_callFunction u, gy_callBack u, gy_callBase u, gy_callLabels u, gy_waiting u, gy_prints u)
def sy_globals (u : SY) (z : Nat → Int32) : SY := (gy_count u, gy_place u, gy_m u, gy_pos u, gy_wrong u, gy_constant u, gy_least u, gy_top u, gy_frames u, gy_invalid u, gy_sp u, gy_labels u, gy_active u, gy_fuel u, gy_outcome u, gy_trappedAt u, gy_result u, gy_used u, gy_waits u, gy_printed u, gy_bytes u, gy_there u, gy_types u, gy_typeSig u, gy_imports u, gy_functions u, gy_sig u, gy_what u, gy_typeAt u, gy_localsAt u, z, gy_globalKind u, gy_globalFree u, gy_globalValue u, gy_entries u, gy_entriesAt u, gy_hasMemory u, gy_memory u, gy_nest u, gy_kinds u, gy_shape u, gy_gives u, gy_height u, gy_dead u, gy_stack u, gy_labelAt u, gy_labelHeight u, gy_labelGives u, gy_callModule u, gy_callFunction u, gy_callBack u, gy_callBase u, gy_callLabels u, gy_waiting u, gy_prints u)
def sy_globalKind (u : SY) (z : Nat → Int32) : SY := (gy_count u, gy_place u, gy_m u, gy_pos u, gy_wrong u, gy_constant u, gy_least u, gy_top u, gy_frames u, gy_invalid u, gy_sp u, gy_labels u, gy_active u, gy_fuel u, gy_outcome u, gy_trappedAt u, gy_result u, gy_used u, gy_waits u, gy_printed u, gy_bytes u, gy_there u, gy_types u, gy_typeSig u, gy_imports u, gy_functions u, gy_sig u, gy_what u, gy_typeAt u, gy_localsAt u, gy_globals u, z, gy_globalFree u, gy_globalValue u, gy_entries u, gy_entriesAt u, gy_hasMemory u, gy_memory u, gy_nest u, gy_kinds u, gy_shape u, gy_gives u, gy_height u, gy_dead u, gy_stack u, gy_labelAt u, gy_labelHeight u, gy_labelGives u, gy_callModule u, gy_callFunction u, gy_callBack u, gy_callBase u, gy_callLabels u, gy_waiting u, gy_prints u)
def sy_globalFree (u : SY) (z : Nat → Int32) : SY := (gy_count u, gy_place u, gy_m u, gy_pos u, gy_wrong u, gy_constant u, gy_least u, gy_top u, gy_frames u, gy_invalid u, gy_sp u, gy_labels u, gy_active u, gy_fuel u, gy_outcome u, gy_trappedAt u, gy_result u, gy_used u, gy_waits u, gy_printed u, gy_bytes u, gy_there u, gy_types u, gy_typeSig u, gy_imports u, gy_functions u, gy_sig u, gy_what u, gy_typeAt u, gy_localsAt u, gy_globals u, gy_globalKind u, z, gy_globalValue u, gy_entries u, gy_entriesAt u, gy_hasMemory u, gy_memory u, gy_nest u, gy_kinds u, gy_shape u, gy_gives u, gy_height u, gy_dead u, gy_stack u, gy_labelAt u, gy_labelHeight u, gy_labelGives u, gy_callModule u, gy_callFunction u, gy_callBack u, gy_callBase u, gy_callLabels u, gy_waiting u, gy_prints u)
def sy_globalValue (u : SY) (z : Nat → Int64) : SY := (gy_count u, gy_place u, gy_m u, gy_pos u, gy_wrong u, gy_constant u, gy_least u, gy_top u, gy_frames u, gy_invalid u, gy_sp u, gy_labels u, gy_active u, gy_fuel u, gy_outcome u, gy_trappedAt u, gy_result u, gy_used u, gy_waits u, gy_printed u, gy_bytes u, gy_there u, gy_types u, gy_typeSig u, gy_imports u, gy_functions u, gy_sig u, gy_what u, gy_typeAt u, gy_localsAt u, gy_globals u, gy_globalKind u, gy_globalFree u, z, gy_entries u, gy_entriesAt u, gy_hasMemory u, gy_memory u, gy_nest u, gy_kinds u, gy_shape u, gy_gives u, gy_height u, gy_dead u, gy_stack u, gy_labelAt u, gy_labelHeight u, gy_labelGives u, gy_callModule u, gy_callFunction u, gy_callBack u, gy_callBase u, gy_callLabels u, gy_waiting u, gy_prints u)
def sy_entries (u : SY) (z : Nat → Int32) : SY := (gy_count u, gy_place u, gy_m u, gy_pos u, gy_wrong u, gy_constant u, gy_least u, gy_top u, gy_frames u, gy_invalid u, gy_sp u, gy_labels u, gy_active u, gy_fuel u, gy_outcome u, gy_trappedAt u, gy_result u, gy_used u, gy_waits u, gy_printed u, gy_bytes u, gy_there u, gy_types u, gy_typeSig u, gy_imports u, gy_functions u, gy_sig u, gy_what u, gy_typeAt u, gy_localsAt u, gy_globals u, gy_globalKind u, gy_globalFree u, gy_globalValue u, z, gy_entriesAt u, gy_hasMemory u, gy_memory u, gy_nest u, gy_kinds u, gy_shape u, gy_gives u, gy_height u, gy_dead u, gy_stack u, gy_labelAt u, gy_labelHeight u, gy_labelGives u, gy_callModule u, gy_callFunction u, gy_callBack u, gy_callBase u, gy_callLabels u, gy_waiting u, gy_prints u)
def sy_entriesAt (u : SY) (z : Nat → Int32) : SY := (gy_count u, gy_place u, gy_m u, gy_pos u, gy_wrong u, gy_constant u, gy_least u, gy_top u, gy_frames u, gy_invalid u, gy_sp u, gy_labels u, gy_active u, gy_fuel u, gy_outcome u, gy_trappedAt u, gy_result u, gy_used u, gy_waits u, gy_printed u, gy_bytes u, gy_there u, gy_types u, gy_typeSig u, gy_imports u, gy_functions u, gy_sig u, gy_what u, gy_typeAt u, gy_localsAt u, gy_globals u, gy_globalKind u, gy_globalFree u, gy_globalValue u, gy_entries u, z, gy_hasMemory u, gy_memory u, gy_nest u, gy_kinds u, gy_shape u, gy_gives u, gy_height u, gy_dead u, gy_stack u, gy_labelAt u, gy_labelHeight u, gy_labelGives u, gy_callModule u, gy_callFunction u, gy_callBack u, gy_callBase u, gy_callLabels u, gy_waiting u, gy_prints u)
def sy_hasMemory (u : SY) (z : Nat → Int32) : SY := (gy_count u, gy_place u, gy_m u, gy_pos u, gy_wrong u, gy_constant u, gy_least u, gy_top u, gy_frames u, gy_invalid u, gy_sp u, gy_labels u, gy_active u, gy_fuel u, gy_outcome u, gy_trappedAt u, gy_result u, gy_used u, gy_waits u, gy_printed u, gy_bytes u, gy_there u, gy_types u, gy_typeSig u, gy_imports u, gy_functions u, gy_sig u, gy_what u, gy_typeAt u, gy_localsAt u, gy_globals u, gy_globalKind u, gy_globalFree u, gy_globalValue u, gy_entries u, gy_entriesAt u, z, gy_memory u, gy_nest u, gy_kinds u, gy_shape u, gy_gives u, gy_height u, gy_dead u, gy_stack u, gy_labelAt u, gy_labelHeight u, gy_labelGives u, gy_callModule u, gy_callFunction u, gy_callBack u, gy_callBase u, gy_callLabels u, gy_waiting u, gy_prints u)
def sy_memory (u : SY) (z : Nat → Int32) : SY := (gy_count u, gy_place u, gy_m u, gy_pos u, gy_wrong u, gy_constant u, gy_least u, gy_top u, gy_frames u, gy_invalid u, gy_sp u, gy_labels u, gy_active u, gy_fuel u, gy_outcome u, gy_trappedAt u, gy_result u, gy_used u, gy_waits u, gy_printed u, gy_bytes u, gy_there u, gy_types u, gy_typeSig u, gy_imports u, gy_functions u, gy_sig u, gy_what u, gy_typeAt u, gy_localsAt u, gy_globals u, gy_globalKind u, gy_globalFree u, gy_globalValue u, gy_entries u, gy_entriesAt u, gy_hasMemory u, z, gy_nest u, gy_kinds u, gy_shape u, gy_gives u, gy_height u, gy_dead u, gy_stack u, gy_labelAt u, gy_labelHeight u, gy_labelGives u, gy_callModule u, gy_callFunction u, gy_callBack u, gy_callBase u, gy_callLabels u, gy_waiting u, gy_prints u)
def sy_nest (u : SY) (z : Nat → Int32) : SY := (gy_count u, gy_place u, gy_m u, gy_pos u, gy_wrong u, gy_constant u, gy_least u, gy_top u, gy_frames u, gy_invalid u, gy_sp u, gy_labels u, gy_active u, gy_fuel u, gy_outcome u, gy_trappedAt u, gy_result u, gy_used u, gy_waits u, gy_printed u, gy_bytes u, gy_there u, gy_types u, gy_typeSig u, gy_imports u, gy_functions u, gy_sig u, gy_what u, gy_typeAt u, gy_localsAt u, gy_globals u, gy_globalKind u, gy_globalFree u, gy_globalValue u, gy_entries u, gy_entriesAt u, gy_hasMemory u, gy_memory u, z, gy_kinds u, gy_shape u, gy_gives u, gy_height u, gy_dead u, gy_stack u, gy_labelAt u, gy_labelHeight u, gy_labelGives u, gy_callModule u, gy_callFunction u, gy_callBack u, gy_callBase u, gy_callLabels u, gy_waiting u, gy_prints u)
def sy_kinds (u : SY) (z : Nat → Int32) : SY := (gy_count u, gy_place u, gy_m u, gy_pos u, gy_wrong u, gy_constant u, gy_least u, gy_top u, gy_frames u, gy_invalid u, gy_sp u, gy_labels u, gy_active u, gy_fuel u, gy_outcome u, gy_trappedAt u, gy_result u, gy_used u, gy_waits u, gy_printed u, gy_bytes u, gy_there u, gy_types u, gy_typeSig u, gy_imports u, gy_functions u, gy_sig u, gy_what u, gy_typeAt u, gy_localsAt u, gy_globals u, gy_globalKind u, gy_globalFree u, gy_globalValue u, gy_entries u, gy_entriesAt u, gy_hasMemory u, gy_memory u, gy_nest u, z, gy_shape u, gy_gives u, gy_height u, gy_dead u, gy_stack u, gy_labelAt u, gy_labelHeight u, gy_labelGives u, gy_callModule u, gy_callFunction u, gy_callBack u, gy_callBase u, gy_callLabels u, gy_waiting u, gy_prints u)
def sy_shape (u : SY) (z : Nat → Int32) : SY := (gy_count u, gy_place u, gy_m u, gy_pos u, gy_wrong u, gy_constant u, gy_least u, gy_top u, gy_frames u, gy_invalid u, gy_sp u, gy_labels u, gy_active u, gy_fuel u, gy_outcome u, gy_trappedAt u, gy_result u, gy_used u, gy_waits u, gy_printed u, gy_bytes u, gy_there u, gy_types u, gy_typeSig u, gy_imports u, gy_functions u, gy_sig u, gy_what u, gy_typeAt u, gy_localsAt u, gy_globals u, gy_globalKind u, gy_globalFree u, gy_globalValue u, gy_entries u, gy_entriesAt u, gy_hasMemory u, gy_memory u, gy_nest u, gy_kinds u, z, gy_gives u, gy_height u, gy_dead u, gy_stack u, gy_labelAt u, gy_labelHeight u, gy_labelGives u, gy_callModule u, gy_callFunction u, gy_callBack u, gy_callBase u, gy_callLabels u, gy_waiting u, gy_prints u)
def sy_gives (u : SY) (z : Nat → Int32) : SY := (gy_count u, gy_place u, gy_m u, gy_pos u, gy_wrong u, gy_constant u, gy_least u, gy_top u, gy_frames u, gy_invalid u, gy_sp u, gy_labels u, gy_active u, gy_fuel u, gy_outcome u, gy_trappedAt u, gy_result u, gy_used u, gy_waits u, gy_printed u, gy_bytes u, gy_there u, gy_types u, gy_typeSig u, gy_imports u, gy_functions u, gy_sig u, gy_what u, gy_typeAt u, gy_localsAt u, gy_globals u, gy_globalKind u, gy_globalFree u, gy_globalValue u, gy_entries u, gy_entriesAt u, gy_hasMemory u, gy_memory u, gy_nest u, gy_kinds u, gy_shape u, z, gy_height u, gy_dead u, gy_stack u, gy_labelAt u, gy_labelHeight u, gy_labelGives u, gy_callModule u, gy_callFunction u, gy_callBack u, gy_callBase u, gy_callLabels u, gy_waiting u, gy_prints u)
def sy_height (u : SY) (z : Nat → Int32) : SY := (gy_count u, gy_place u, gy_m u, gy_pos u, gy_wrong u, gy_constant u, gy_least u, gy_top u, gy_frames u, gy_invalid u, gy_sp u, gy_labels u, gy_active u, gy_fuel u, gy_outcome u, gy_trappedAt u, gy_result u, gy_used u, gy_waits u, gy_printed u, gy_bytes u, gy_there u, gy_types u, gy_typeSig u, gy_imports u, gy_functions u, gy_sig u, gy_what u, gy_typeAt u, gy_localsAt u, gy_globals u, gy_globalKind u, gy_globalFree u, gy_globalValue u, gy_entries u, gy_entriesAt u, gy_hasMemory u, gy_memory u, gy_nest u, gy_kinds u, gy_shape u, gy_gives u, z, gy_dead u, gy_stack u, gy_labelAt u, gy_labelHeight u, gy_labelGives u, gy_callModule u, gy_callFunction u, gy_callBack u, gy_callBase u, gy_callLabels u, gy_waiting u, gy_prints u)
def sy_dead (u : SY) (z : Nat → Int32) : SY := (gy_count u, gy_place u, gy_m u, gy_pos u, gy_wrong u, gy_constant u, gy_least u, gy_top u, gy_frames u, gy_invalid u, gy_sp u, gy_labels u, gy_active u, gy_fuel u, gy_outcome u, gy_trappedAt u, gy_result u, gy_used u, gy_waits u, gy_printed u, gy_bytes u, gy_there u, gy_types u, gy_typeSig u, gy_imports u, gy_functions u, gy_sig u, gy_what u, gy_typeAt u, gy_localsAt u, gy_globals u, gy_globalKind u, gy_globalFree u, gy_globalValue u, gy_entries u, gy_entriesAt u, gy_hasMemory u, gy_memory u, gy_nest u, gy_kinds u, gy_shape u, gy_gives u, gy_height u, z, gy_stack u, gy_labelAt u, gy_labelHeight u, gy_labelGives u, gy_callModule u, gy_callFunction u, gy_callBack u, gy_callBase u, gy_callLabels u, gy_waiting u, gy_prints u)
def sy_stack (u : SY) (z : Nat → Int64) : SY := (gy_count u, gy_place u, gy_m u, gy_pos u, gy_wrong u, gy_constant u, gy_least u, gy_top u, gy_frames u, gy_invalid u, gy_sp u, gy_labels u, gy_active u, gy_fuel u, gy_outcome u, gy_trappedAt u, gy_result u, gy_used u, gy_waits u, gy_printed u, gy_bytes u, gy_there u, gy_types u, gy_typeSig u, gy_imports u, gy_functions u, gy_sig u, gy_what u, gy_typeAt u, gy_localsAt u, gy_globals u, gy_globalKind u, gy_globalFree u, gy_globalValue u, gy_entries u, gy_entriesAt u, gy_hasMemory u, gy_memory u, gy_nest u, gy_kinds u, gy_shape u, gy_gives u, gy_height u, gy_dead u, z, gy_labelAt u, gy_labelHeight u, gy_labelGives u, gy_callModule u, gy_callFunction u, gy_callBack u, gy_callBase u, gy_callLabels u, gy_waiting u, gy_prints u)
def sy_labelAt (u : SY) (z : Nat → Int32) : SY := (gy_count u, gy_place u, gy_m u, gy_pos u, gy_wrong u, gy_constant u, gy_least u, gy_top u, gy_frames u, gy_invalid u, gy_sp u, gy_labels u, gy_active u, gy_fuel u, gy_outcome u, gy_trappedAt u, gy_result u, gy_used u, gy_waits u, gy_printed u, gy_bytes u, gy_there u, gy_types u, gy_typeSig u, gy_imports u, gy_functions u, gy_sig u, gy_what u, gy_typeAt u, gy_localsAt u, gy_globals u, gy_globalKind u, gy_globalFree u, gy_globalValue u, gy_entries u, gy_entriesAt u, gy_hasMemory u, gy_memory u, gy_nest u, gy_kinds u, gy_shape u, gy_gives u, gy_height u, gy_dead u, gy_stack u, z, gy_labelHeight u, gy_labelGives u, gy_callModule u, gy_callFunction u, gy_callBack u, gy_callBase u, gy_callLabels u, gy_waiting u, gy_prints u)
def sy_labelHeight (u : SY) (z : Nat → Int32) : SY := (gy_count u, gy_place u, gy_m u, gy_pos u, gy_wrong u, gy_constant u, gy_least u, gy_top u, gy_frames u, gy_invalid u, gy_sp u, gy_labels u, gy_active u, gy_fuel u, gy_outcome u, gy_trappedAt u, gy_result u, gy_used u, gy_waits u, gy_printed u, gy_bytes u, gy_there u, gy_types u, gy_typeSig u, gy_imports u, gy_functions u, gy_sig u, gy_what u, gy_typeAt u, gy_localsAt u, gy_globals u, gy_globalKind u, gy_globalFree u, gy_globalValue u, gy_entries u, gy_entriesAt u, gy_hasMemory u, gy_memory u, gy_nest u, gy_kinds u, gy_shape u, gy_gives u, gy_height u, gy_dead u, gy_stack u, gy_labelAt u, z, gy_labelGives u, gy_callModule u, gy_callFunction u, gy_callBack u, gy_callBase u, gy_callLabels u, gy_waiting u, gy_prints u)
def sy_labelGives (u : SY) (z : Nat → Int32) : SY := (gy_count u, gy_place u, gy_m u, gy_pos u, gy_wrong u, gy_constant u, gy_least u, gy_top u, gy_frames u, gy_invalid u, gy_sp u, gy_labels u, gy_active u, gy_fuel u, gy_outcome u, gy_trappedAt u, gy_result u, gy_used u, gy_waits u, gy_printed u, gy_bytes u, gy_there u, gy_types u, gy_typeSig u, gy_imports u, gy_functions u, gy_sig u, gy_what u, gy_typeAt u, gy_localsAt u, gy_globals u, gy_globalKind u, gy_globalFree u, gy_globalValue u, gy_entries u, gy_entriesAt u, gy_hasMemory u, gy_memory u, gy_nest u, gy_kinds u, gy_shape u, gy_gives u, gy_height u, gy_dead u, gy_stack u, gy_labelAt u, gy_labelHeight u, z, gy_callModule u, gy_callFunction u, gy_callBack u, gy_callBase u, gy_callLabels u, gy_waiting u, gy_prints u)
def sy_callModule (u : SY) (z : Nat → Int32) : SY := (gy_count u, gy_place u, gy_m u, gy_pos u, gy_wrong u, gy_constant u, gy_least u, gy_top u, gy_frames u, gy_invalid u, gy_sp u, gy_labels u, gy_active u, gy_fuel u, gy_outcome u, gy_trappedAt u, gy_result u, gy_used u, gy_waits u, gy_printed u, gy_bytes u, gy_there u, gy_types u, gy_typeSig u, gy_imports u, gy_functions u, gy_sig u, gy_what u, gy_typeAt u, gy_localsAt u, gy_globals u, gy_globalKind u, gy_globalFree u, gy_globalValue u, gy_entries u, gy_entriesAt u, gy_hasMemory u, gy_memory u, gy_nest u, gy_kinds u, gy_shape u, gy_gives u, gy_height u, gy_dead u, gy_stack u, gy_labelAt u, gy_labelHeight u, gy_labelGives u, z, gy_callFunction u, gy_callBack u, gy_callBase u, gy_callLabels u, gy_waiting u, gy_prints u)
def sy_callFunction (u : SY) (z : Nat → Int32) : SY := (gy_count u, gy_place u, gy_m u, gy_pos u, gy_wrong u, gy_constant u, gy_least u, gy_top u, gy_frames u, gy_invalid u, gy_sp u, gy_labels u, gy_active u, gy_fuel u, gy_outcome u, gy_trappedAt u, gy_result u, gy_used u, gy_waits u, gy_printed u, gy_bytes u, gy_there u, gy_types u, gy_typeSig u, gy_imports u, gy_functions u, gy_sig u, gy_what u, gy_typeAt u, gy_localsAt u, gy_globals u, gy_globalKind u, gy_globalFree u, gy_globalValue u, gy_entries u, gy_entriesAt u, gy_hasMemory u, gy_memory u, gy_nest u, gy_kinds u, gy_shape u, gy_gives u, gy_height u, gy_dead u, gy_stack u, gy_labelAt u, gy_labelHeight u, gy_labelGives u, gy_callModule u, z, gy_callBack u, gy_callBase u, gy_callLabels u, gy_waiting u, gy_prints u)
def sy_callBack (u : SY) (z : Nat → Int32) : SY := (gy_count u, gy_place u, gy_m u, gy_pos u, gy_wrong u, gy_constant u, gy_least u, gy_top u, gy_frames u, gy_invalid u, gy_sp u, gy_labels u, gy_active u, gy_fuel u, gy_outcome u, gy_trappedAt u, gy_result u, gy_used u, gy_waits u, gy_printed u, gy_bytes u, gy_there u, gy_types u, gy_typeSig u, gy_imports u, gy_functions u, gy_sig u, gy_what u, gy_typeAt u, gy_localsAt u, gy_globals u, gy_globalKind u, gy_globalFree u, gy_globalValue u, gy_entries u, gy_entriesAt u, gy_hasMemory u, gy_memory u, gy_nest u, gy_kinds u, gy_shape u, gy_gives u, gy_height u, gy_dead u, gy_stack u, gy_labelAt u, gy_labelHeight u, gy_labelGives u, gy_callModule u, gy_callFunction u, z, gy_callBase u, gy_callLabels u, gy_waiting u, gy_prints u)
def sy_callBase (u : SY) (z : Nat → Int32) : SY := (gy_count u, gy_place u, gy_m u, gy_pos u, gy_wrong u, gy_constant u, gy_least u, gy_top u, gy_frames u, gy_invalid u, gy_sp u, gy_labels u, gy_active u, gy_fuel u, gy_outcome u, gy_trappedAt u, gy_result u, gy_used u, gy_waits u, gy_printed u, gy_bytes u, gy_there u, gy_types u, gy_typeSig u, gy_imports u, gy_functions u, gy_sig u, gy_what u, gy_typeAt u, gy_localsAt u, gy_globals u, gy_globalKind u, gy_globalFree u, gy_globalValue u, gy_entries u, gy_entriesAt u, gy_hasMemory u, gy_memory u, gy_nest u, gy_kinds u, gy_shape u, gy_gives u, gy_height u, gy_dead u, gy_stack u, gy_labelAt u, gy_labelHeight u, gy_labelGives u, gy_callModule u, gy_callFunction u, gy_callBack u, z, gy_callLabels u, gy_waiting u, gy_prints u)
def sy_callLabels (u : SY) (z : Nat → Int32) : SY := (gy_count u, gy_place u, gy_m u, gy_pos u, gy_wrong u, gy_constant u, gy_least u, gy_top u, gy_frames u, gy_invalid u, gy_sp u, gy_labels u, gy_active u, gy_fuel u, gy_outcome u, gy_trappedAt u, gy_result u, gy_used u, gy_waits u, gy_printed u, gy_bytes u, gy_there u, gy_types u, gy_typeSig u, gy_imports u, gy_functions u, gy_sig u, gy_what u, gy_typeAt u, gy_localsAt u, gy_globals u, gy_globalKind u, gy_globalFree u, gy_globalValue u, gy_entries u, gy_entriesAt u, gy_hasMemory u, gy_memory u, gy_nest u, gy_kinds u, gy_shape u, gy_gives u, gy_height u, gy_dead u, gy_stack u, gy_labelAt u, gy_labelHeight u, gy_labelGives u, gy_callModule u, gy_callFunction u, gy_callBack u, gy_callBase u, z, gy_waiting u, gy_prints u)
def sy_waiting (u : SY) (z : Nat → Int32) : SY := (gy_count u, gy_place u, gy_m u, gy_pos u, gy_wrong u, gy_constant u, gy_least u, gy_top u, gy_frames u, gy_invalid u, gy_sp u, gy_labels u, gy_active u, gy_fuel u, gy_outcome u, gy_trappedAt u, gy_result u, gy_used u, gy_waits u, gy_printed u, gy_bytes u, gy_there u, gy_types u, gy_typeSig u, gy_imports u, gy_functions u, gy_sig u, gy_what u, gy_typeAt u, gy_localsAt u, gy_globals u, gy_globalKind u, gy_globalFree u, gy_globalValue u, gy_entries u, gy_entriesAt u, gy_hasMemory u, gy_memory u, gy_nest u, gy_kinds u, gy_shape u, gy_gives u, gy_height u, gy_dead u, gy_stack u, gy_labelAt u, gy_labelHeight u, gy_labelGives u, gy_callModule u, gy_callFunction u, gy_callBack u, gy_callBase u, gy_callLabels u, z, gy_prints u)
def sy_prints (u : SY) (z : Nat → Int32) : SY := (gy_count u, gy_place u, gy_m u, gy_pos u, gy_wrong u, gy_constant u, gy_least u, gy_top u, gy_frames u, gy_invalid u, gy_sp u, gy_labels u, gy_active u, gy_fuel u, gy_outcome u, gy_trappedAt u, gy_result u, gy_used u, gy_waits u, gy_printed u, gy_bytes u, gy_there u, gy_types u, gy_typeSig u, gy_imports u, gy_functions u, gy_sig u, gy_what u, gy_typeAt u, gy_localsAt u, gy_globals u, gy_globalKind u, gy_globalFree u, gy_globalValue u, gy_entries u, gy_entriesAt u, gy_hasMemory u, gy_memory u, gy_nest u, gy_kinds u, gy_shape u, gy_gives u, gy_height u, gy_dead u, gy_stack u, gy_labelAt u, gy_labelHeight u, gy_labelGives u, gy_callModule u, gy_callFunction u, gy_callBack u, gy_callBase u, gy_callLabels u, gy_waiting u, z)
end
section
/-! 02: the pure pictures of reading -/
abbrev xr (u : SX) (z0 : Int32) (z1 : Int32) (z2 : Nat → Int32) (z3 : Nat → Int32) (z4 : Nat → Int32) : SX := (gx_byteCount u, gx_wrongPlace u, z0, z1, gx_kindCount u, gx_valueCount u, gx_activeCount u, gx_goesOn u, gx_outcome u, gx_resultValue u, gx_trapPlace u, gx_fuelUsed u, gx_firstWaiting u, gx_waitingCount u, gx_printCount u, gx_code u, z2, z3, gx_loaded u, gx_globals u, gx_memories u, z4, gx_frameHeight u, gx_frameResult u, gx_frameDead u, gx_kinds u, gx_values u, gx_variables u, gx_activeSlot u, gx_activeGives u, gx_activeFrame u, gx_activeResume u, gx_waiting u, gx_prints u)

theorem ff_t {P : Prop} (h : false = true) : P := Bool.noConfusion h
theorem eq_p {α : Type} {P : α → Prop} {a b : α} (e : a = b) (h : P b) : P a := e ▸ h
def bb_i (b : Bool) : Int32 := if b = true then 1 else 0
def bb_w (b : Bool) : Int32 := if b = true then 0 else 1
theorem bi_t : ¬ bb_i true = 0 := by decide
theorem bw_f : ¬ bb_w false = 0 := by decide
/-- one byte: at (ok, place), within its limits -/
def rd_tk (c : Nat → Nat) (n lo hi : Nat) (q : Bool × Nat) : Bool × Nat :=
  if q.1 = true ∧ q.2 < n ∧ lo ≤ c q.2 ∧ c q.2 ≤ hi then (true, q.2 + 1) else (false, q.2)
def rd_tv (c : Nat → Nat) (n lo hi : Nat) (q : Bool × Nat) : Nat :=
  if q.1 = true ∧ q.2 < n ∧ lo ≤ c q.2 ∧ c q.2 ≤ hi then c q.2 else lo
def rd_n (c : Nat → Nat) (n lo hi : Nat) : Nat → Bool × Nat → Bool × Nat
  | 0, q => q
  | k + 1, q => rd_n c n lo hi k (rd_tk c n lo hi q)
def rd_K (c : Nat → Nat) (n most : Nat) (q : Bool × Nat) : Bool × Nat := rd_n c n 1 2 (rd_tv c n 0 most q) (rd_tk c n 0 most q)
def rd_T (c : Nat → Nat) (n : Nat) (q : Bool × Nat) : Bool × Nat := rd_K c n 1 (rd_K c n 3 q)
def rd_C (c : Nat → Nat) (n : Nat) : Nat → Bool × Nat → Bool × Nat
  | 0, q => (false, q.2)
  | k + 1, q => if (rd_tk c n 0 (if k = 0 then 127 else 255) q).1 = true ∧ 127 < c q.2 then rd_C c n k (rd_tk c n 0 (if k = 0 then 127 else 255) q) else rd_tk c n 0 (if k = 0 then 127 else 255) q
abbrev rd_ho (op : Nat) : Prop := (2 ≤ op ∧ op ≤ 4) ∨ op = 7 ∨ op = 8 ∨ op = 11 ∨ op = 12 ∨ (15 ≤ op ∧ op ≤ 19) ∨ (22 ≤ op ∧ op ≤ 27)
/-- the rest of an instruction -/
def rd_R (c : Nat → Nat) (n op : Nat) (q : Bool × Nat) : Bool × Nat :=
  if 2 ≤ op ∧ op ≤ 4 then rd_tk c n 0 2 q
  else if op = 9 then rd_n c n 0 255 (rd_tv c n 0 4 q + 1) (rd_tk c n 0 4 q)
  else if op = 20 then rd_C c n 5 q
  else if op = 21 then rd_C c n 10 q
  else if rd_ho op then rd_tk c n 0 255 q else q
theorem rd_tk_f {c : Nat → Nat} {n lo hi : Nat} {q : Bool × Nat} (h : q.1 = false) : rd_tk c n lo hi q = (false, q.2) := if_neg (by simp [h])
theorem rd_tk_t {c : Nat → Nat} {n lo hi p : Nat} (h : p < n) (hl : lo ≤ c p) (hh : c p ≤ hi) : rd_tk c n lo hi (true, p) = (true, p + 1) := if_pos ⟨rfl, h, hl, hh⟩
theorem rd_tk_n {c : Nat → Nat} {n lo hi p : Nat} (h : ¬ (p < n ∧ lo ≤ c p ∧ c p ≤ hi)) : rd_tk c n lo hi (true, p) = (false, p) := if_neg (fun z => h z.2)
theorem rd_tv_t {c : Nat → Nat} {n lo hi p : Nat} (h : p < n) (hl : lo ≤ c p) (hh : c p ≤ hi) : rd_tv c n lo hi (true, p) = c p := if_pos ⟨rfl, h, hl, hh⟩
theorem rd_tv_n {c : Nat → Nat} {n lo hi p : Nat} (h : ¬ (p < n ∧ lo ≤ c p ∧ c p ≤ hi)) : rd_tv c n lo hi (true, p) = lo := if_neg (fun z => h z.2)
theorem rd_tv_f {c : Nat → Nat} {n lo hi : Nat} {q : Bool × Nat} (h : q.1 = false) : rd_tv c n lo hi q = lo := if_neg (by simp [h])
theorem rd_tv_le {c : Nat → Nat} {n lo hi : Nat} {q : Bool × Nat} (h : lo ≤ hi) : lo ≤ rd_tv c n lo hi q ∧ rd_tv c n lo hi q ≤ hi := by
  unfold rd_tv; split <;> omega
theorem tt_eq {q : Bool × Nat} (h : q.1 = true) : q = (true, q.2) := by
  obtain ⟨a, b⟩ := q
  have h' : a = true := h
  rw [h']
theorem rd_ff (q : Bool × Nat) (h : q.1 = false) : (false, q.2) = q := by rw [← h]
theorem rd_n_f {c : Nat → Nat} {n lo hi : Nat} : ∀ k q, q.1 = false → rd_n c n lo hi k q = q := by
  intro k
  induction k with
  | zero => intro q _; rfl
  | succ k ih => intro q h; rw [rd_n, rd_tk_f h, ih _ rfl, rd_ff q h]
/-- a take either moves on by one or stops where it stands -/
theorem rd_tk_or (c : Nat → Nat) (n lo hi : Nat) (q : Bool × Nat) : (rd_tk c n lo hi q = (true, q.2 + 1) ∧ q.1 = true ∧ q.2 < n ∧ lo ≤ c q.2 ∧ c q.2 ≤ hi) ∨ rd_tk c n lo hi q = (false, q.2) := by
  unfold rd_tk; split
  · exact Or.inl ⟨rfl, by assumption⟩
  · exact Or.inr rfl
/-- a good reader: it goes on, within the bytes, and stands still once it has failed -/
def rd_G (n : Nat) (f : Bool × Nat → Bool × Nat) : Prop := (∀ q, q.2 ≤ n → q.2 ≤ (f q).2 ∧ (f q).2 ≤ n) ∧ ∀ q, q.1 = false → f q = q
theorem rd_G_id (n : Nat) : rd_G n (fun q => q) := ⟨fun q h => ⟨Nat.le_refl _, h⟩, fun _ _ => rfl⟩
theorem rd_G_tk (c : Nat → Nat) (n lo hi : Nat) : rd_G n (rd_tk c n lo hi) := by
  constructor
  · intro q h
    rcases rd_tk_or c n lo hi q with ⟨e, _, h2, _⟩ | e <;> rw [e] <;> dsimp only <;> omega
  · intro q h; rw [rd_tk_f h, rd_ff q h]
theorem rd_G_c {n : Nat} {f g : Bool × Nat → Bool × Nat} (hf : rd_G n f) (hg : rd_G n g) : rd_G n (fun q => g (f q)) := by
  constructor
  · intro q h
    have a := hf.1 q h
    have b := hg.1 _ a.2
    exact ⟨Nat.le_trans a.1 b.1, b.2⟩
  · intro q h
    show g (f q) = q
    rw [hf.2 q h, hg.2 q h]
/-- a reader that goes on by what the first byte was -/
theorem rd_G_d {n : Nat} {f : Bool × Nat → Bool × Nat} {g : Nat → Bool × Nat → Bool × Nat} (v : Bool × Nat → Nat) (hf : rd_G n f) (hg : ∀ k, rd_G n (g k)) : rd_G n (fun q => g (v q) (f q)) := by
  constructor
  · intro q h
    have a := hf.1 q h
    have b := (hg (v q)).1 _ a.2
    exact ⟨Nat.le_trans a.1 b.1, b.2⟩
  · intro q h
    show g (v q) (f q) = q
    rw [hf.2 q h, (hg _).2 q h]
theorem rd_G_n (c : Nat → Nat) (n lo hi : Nat) : ∀ k, rd_G n (rd_n c n lo hi k)
  | 0 => rd_G_id n
  | k + 1 => rd_G_c (f := rd_tk c n lo hi) (g := rd_n c n lo hi k) (rd_G_tk c n lo hi) (rd_G_n c n lo hi k)
theorem rd_G_K (c : Nat → Nat) (n most : Nat) : rd_G n (rd_K c n most) := rd_G_d (g := fun k => rd_n c n 1 2 k) (rd_tv c n 0 most) (rd_G_tk c n 0 most) (rd_G_n c n 1 2)
theorem rd_G_T (c : Nat → Nat) (n : Nat) : rd_G n (rd_T c n) := rd_G_c (f := rd_K c n 3) (g := rd_K c n 1) (rd_G_K c n 3) (rd_G_K c n 1)
theorem rd_G_C (c : Nat → Nat) (n : Nat) : ∀ k, 0 < k → rd_G n (rd_C c n k) := by
  intro k
  induction k with
  | zero => intro h; omega
  | succ k ih =>
    intro _
    have hz : k = 0 → (if k = 0 then 127 else 255) ≤ 127 := fun z => by rw [if_pos z]; exact Nat.le_refl _
    generalize eh : (if k = 0 then 127 else 255) = hb at hz
    have t := rd_G_tk c n 0 hb
    have er : ∀ q, rd_C c n (k + 1) q = if (rd_tk c n 0 hb q).1 = true ∧ 127 < c q.2 then rd_C c n k (rd_tk c n 0 hb q) else rd_tk c n 0 hb q := by
      intro q; rw [rd_C, eh]
    constructor
    · intro q h
      have a := t.1 q h
      rw [er]
      by_cases hc : (rd_tk c n 0 hb q).1 = true ∧ 127 < c q.2
      · rw [if_pos hc]
        by_cases hk : k = 0
        · have h5 := hz hk
          rcases rd_tk_or c n 0 hb q with ⟨e, _, _, _, h6⟩ | e
          · omega
          · rw [e] at hc; exact ff_t hc.1
        · have b := (ih (by omega)).1 _ a.2
          exact ⟨Nat.le_trans a.1 b.1, b.2⟩
      · rw [if_neg hc]; exact a
    · intro q h
      rw [er, if_neg (by rw [t.2 q h, h]; simp), t.2 q h]
theorem rd_G_R (c : Nat → Nat) (n op : Nat) : rd_G n (rd_R c n op) := by
  have key : ∀ (b : Prop) [Decidable b] (f g : Bool × Nat → Bool × Nat), rd_G n f → rd_G n g → rd_G n (fun q => if b then f q else g q) := by
    intro b _ f g hf hg
    by_cases h : b
    · simp only [if_pos h]; exact hf
    · simp only [if_neg h]; exact hg
  exact key _ _ _ (rd_G_tk c n 0 2) (key _ _ _ (rd_G_d (g := fun k => rd_n c n 0 255 (k + 1)) (rd_tv c n 0 4) (rd_G_tk c n 0 4) (fun k => rd_G_n c n 0 255 (k + 1))) (key _ _ _ (rd_G_C c n 5 (by omega)) (key _ _ _ (rd_G_C c n 10 (by omega)) (key _ _ _ (rd_G_tk c n 0 255) (rd_G_id n)))))
def rd_it (f : Bool × Nat → Bool × Nat) : Nat → Bool × Nat → Bool × Nat
  | 0, q => q
  | k + 1, q => rd_it f k (f q)
theorem rd_G_it {n : Nat} {f : Bool × Nat → Bool × Nat} (hf : rd_G n f) : ∀ k, rd_G n (rd_it f k)
  | 0 => rd_G_id n
  | k + 1 => rd_G_c (f := f) (g := rd_it f k) hf (rd_G_it hf k)
theorem rd_it_s (f : Bool × Nat → Bool × Nat) : ∀ k q, rd_it f (k + 1) q = f (rd_it f k q) := by
  intro k
  induction k with
  | zero => intro q; rfl
  | succ k ih => intro q; exact ih (f q)
theorem rd_it_ok {n : Nat} {f : Bool × Nat → Bool × Nat} (hf : rd_G n f) : ∀ k q, (rd_it f k q).1 = true → ∀ j, j ≤ k → (rd_it f j q).1 = true := by
  intro k
  induction k with
  | zero => intro q h j hj; rw [show j = 0 by omega]; exact h
  | succ k ih =>
    intro q h j hj
    rcases Nat.lt_or_ge j (k + 1) with h2 | h2
    · refine ih q ?_ j (by omega)
      rw [rd_it_s] at h
      cases e : (rd_it f k q).1 with
      | true => rfl
      | false => rw [hf.2 _ e, e] at h; exact ff_t h
    · rw [show j = k + 1 by omega]; exact h
theorem rd_G_tr {n : Nat} {f : Bool × Nat → Bool × Nat} (hf : rd_G n f) {q : Bool × Nat} (h : (f q).1 = true) : q.1 = true := by
  cases e : q.1 with
  | true => rfl
  | false => rw [hf.2 _ e, e] at h; exact ff_t h
theorem bb_nar (b : Bool) : narrow .boolean (.int (bb_i b)) = .int (bb_i b) := by cases b <;> rfl
theorem bb_0 {b : Bool} (h : b = false) : bb_i b = 0 := by rw [h]; rfl
theorem bb_1 {b : Bool} (h : b = true) : bb_i b = 1 := by rw [h]; rfl
/-- the branch 'r = 0' on a Java boolean -/
theorem bb_br {b : Bool} {A B : Prop} (f : b = false → A) (g : b = true → B) : (bb_i b = 0 → A) ∧ (¬ bb_i b = 0 → B) := by
  cases b with
  | false => exact br_t rfl (f rfl)
  | true => exact br_f (by decide) (g rfl)
def tp_cd (T : List (Nat × Nat × Nat)) : Nat := (T.headD (0, 0, 0)).1
def tp_o (T : List (Nat × Nat × Nat)) : Nat := (T.headD (0, 0, 0)).2.1
def tp_el (T : List (Nat × Nat × Nat)) : Nat := (T.headD (0, 0, 0)).2.2
/-- the stack of what is open while a body is read, the top first: (code, opener, place of its ELSE); code 0 the body, 5 an IF whose ELSE was met -/
def rd_I (c : Nat → Nat) (n : Nat) (q : Bool × Nat) (T : List (Nat × Nat × Nat)) : (Bool × Nat) × List (Nat × Nat × Nat) :=
  if (rd_tk c n 0 66 q).1 = true then
    if 2 ≤ c q.2 ∧ c q.2 ≤ 4 then (rd_tk c n 0 2 (true, q.2 + 1), (c q.2, q.2, 0) :: T)
    else if c q.2 = 5 then (if tp_cd T = 4 then ((true, q.2 + 1), (5, tp_o T, q.2) :: T.tail) else ((false, q.2), T))
    else if c q.2 = 6 then ((true, q.2 + 1), T.tail)
    else (rd_R c n (c q.2) (true, q.2 + 1), T)
  else (rd_tk c n 0 66 q, T)
def up_n (P : Nat → Nat) (i v : Nat) : Nat → Nat := fun j => if j = i then v else P j
theorem up_s {P : Nat → Nat} {i v : Nat} : up_n P i v i = v := if_pos rfl
theorem up_d {P : Nat → Nat} {i j v : Nat} (h : j ≠ i) : up_n P i v j = P j := if_neg h
/-- the partner table beside it -/
def rd_P (c : Nat → Nat) (n : Nat) (q : Bool × Nat) (T : List (Nat × Nat × Nat)) (P : Nat → Nat) : Nat → Nat :=
  if (rd_tk c n 0 66 q).1 = true then
    if 2 ≤ c q.2 ∧ c q.2 ≤ 4 then up_n P q.2 0
    else if c q.2 = 5 then (if tp_cd T = 4 then up_n P (tp_o T) q.2 else P)
    else if c q.2 = 6 then (if tp_cd T = 0 then P else if tp_cd T = 5 then up_n P (tp_el T) q.2 else up_n P (tp_o T) q.2)
    else P
  else P
def rd_B (c : Nat → Nat) (n : Nat) : Nat → Bool × Nat → List (Nat × Nat × Nat) → (Bool × Nat) × List (Nat × Nat × Nat)
  | 0, q, T => (q, T)
  | k + 1, q, T => if q.1 = true ∧ T ≠ [] then rd_B c n k (rd_I c n q T).1 (rd_I c n q T).2 else (q, T)
def rd_BP (c : Nat → Nat) (n : Nat) : Nat → Bool × Nat → List (Nat × Nat × Nat) → (Nat → Nat) → (Nat → Nat)
  | 0, _, _, P => P
  | k + 1, q, T, P => if q.1 = true ∧ T ≠ [] then rd_BP c n k (rd_I c n q T).1 (rd_I c n q T).2 (rd_P c n q T P) else P
/-- a function: its type, its locals, its body -/
def rd_F (c : Nat → Nat) (n : Nat) (q : Bool × Nat) : Bool × Nat := (rd_B c n 141 (rd_K c n 3 (rd_tk c n 0 255 q)) [(0, 0, 0)]).1
def rd_FP (c : Nat → Nat) (n : Nat) (q : Bool × Nat) (P : Nat → Nat) : Nat → Nat := rd_BP c n 141 (rd_K c n 3 (rd_tk c n 0 255 q)) [(0, 0, 0)] P
/-- what the stack knows: openers below the place, what their bytes are, and what the table says of them -/
def rd_TI (c : Nat → Nat) (P : Nat → Nat) : Nat → List (Nat × Nat × Nat) → Prop
  | _, [] => True
  | p, (cd, o, el) :: T => (T = [] → cd = 0) ∧ (T ≠ [] → o + 2 ≤ p ∧ (((cd = 2 ∨ cd = 3 ∨ cd = 4) ∧ c o = cd ∧ P o = 0) ∨ (cd = 5 ∧ c o = 4 ∧ P o = el ∧ o < el ∧ el < p))) ∧ (T ≠ [] → rd_TI c P o T)
theorem rd_TI_len {c P : Nat → Nat} : ∀ T p, rd_TI c P p T → 2 * T.length ≤ p + 2 := by
  intro T
  induction T with
  | nil => intro p _; simp
  | cons x T ih =>
    intro p h
    obtain ⟨cd, o, el⟩ := x
    obtain ⟨_, h2, h3⟩ := h
    by_cases e : T = []
    · subst e; simp
    · have a := ih o (h3 e)
      have b := (h2 e).1
      simp only [List.length_cons]
      omega
theorem rd_TI_mono {c P : Nat → Nat} {T : List (Nat × Nat × Nat)} {p p' : Nat} (h : rd_TI c P p T) (hp : p ≤ p') : rd_TI c P p' T := by
  cases T with
  | nil => trivial
  | cons x T =>
    obtain ⟨cd, o, el⟩ := x
    obtain ⟨h1, h2, h3⟩ := h
    refine ⟨h1, fun e => ?_, h3⟩
    obtain ⟨a, b⟩ := h2 e
    refine ⟨by omega, ?_⟩
    rcases b with b | ⟨b1, b2, b3, b4, b5⟩
    · exact Or.inl b
    · exact Or.inr ⟨b1, b2, b3, b4, by omega⟩
theorem rd_TI_ext {c P P' : Nat → Nat} : ∀ T p, rd_TI c P p T → (∀ j, j < p → P' j = P j) → rd_TI c P' p T := by
  intro T
  induction T with
  | nil => intro p _ _; trivial
  | cons x T ih =>
    intro p h hP
    obtain ⟨cd, o, el⟩ := x
    obtain ⟨h1, h2, h3⟩ := h
    refine ⟨h1, fun e => ?_, fun e => ih o (h3 e) (fun j hj => hP j (by have := (h2 e).1; omega))⟩
    obtain ⟨a, b⟩ := h2 e
    refine ⟨a, ?_⟩
    rw [hP o (by omega)]
    exact b
end
section
/-! 03: the class's reading against the pure one -/
/-- module m's bytes in the class's code array -/
def mx_ok (u : SX) (m : Nat) (c : Nat → Nat) : Prop := (∀ i, i < 140 → gx_code u (m * 140 + i) = nI (c i)) ∧ (∀ i, c i < 256) ∧ ∀ i, 140 ≤ i → c i = 0
/-- what X keeps fixed while it reads: the draft's bytes and their number -/
def cx_ok (u : SX) (c : Nat → Nat) (n : Nat) : Prop := gx_byteCount u = nI n ∧ n ≤ 140 ∧ mx_ok u 2 c
section
variable {u : SX} {c : Nat → Nat} {n p : Nat} {fc : Int32} {F P A : Nat → Int32} {post : Int32 → SX → Prop}
theorem xx_byte {u : SX} {post : Int32 → Prop} {c : Nat → Nat} {m p : Nat} (M : mx_ok u m c) (hm : m < 3) (hp : p < 1000) (h : post (nI (c p))) : wpX_byteAt post u (nI m) (nI p) := by
  refine pk_lt m 0 (fun h => absurd h (by omega)) (fun _ => ?_)
  refine pk_lt 2 m (fun h => absurd h (by omega)) (fun _ => ?_)
  refine pk_lt p 0 (fun h => absurd h (by omega)) (fun _ => ?_)
  refine pk_lt p 140 (fun h4 => ?_) (fun h4 => ?_)
  · have e : nI m * 140 + nI p = nI (m * 140 + p) := by rw [show (140 : Int32) = nI 140 from rfl, pk_mul, nI_add]
    refine ⟨pk_in (m * 140 + p) 420 (by omega) e, ?_⟩
    have e2 : gx_code u (nI m * 140 + nI p).toNatClampNeg = nI (c p) := by rw [pk_cl (m * 140 + p) e]; exact M.1 p h4
    exact eq_p (P := post) e2 h
  · rw [M.2.2 p h4] at h; exact h
theorem xx_part {u : SX} {post : Int32 → Prop} {P : Nat → Nat} {m p : Nat} (M : gx_partner u (m * 140 + p) = nI (P p)) (hm : m < 3) (hp : p < 140) (h : post (nI (P p))) : wpX_partnerOf post u (nI m) (nI p) := by
  refine pk_lt m 0 (fun h => absurd h (by omega)) (fun _ => ?_)
  refine pk_lt 2 m (fun h => absurd h (by omega)) (fun _ => ?_)
  refine pk_lt p 0 (fun h => absurd h (by omega)) (fun _ => ?_)
  refine pk_lt p 140 (fun h4 => ?_) (fun h4 => absurd h4 (by omega))
  have e : nI m * 140 + nI p = nI (m * 140 + p) := by rw [show (140 : Int32) = nI 140 from rfl, pk_mul, nI_add]
  refine ⟨pk_in (m * 140 + p) 420 (by omega) e, ?_⟩
  have e2 : gx_partner u (nI m * 140 + nI p).toNatClampNeg = nI (P p) := by rw [pk_cl (m * 140 + p) e]; exact M
  exact eq_p (P := post) e2 h
theorem xx_fact {u : SX} {post : Int32 → Prop} {m w : Nat} {z : Int32} (M : gx_facts u (m * 22 + w) = z) (hm : m < 3) (hw : w < 22) (h : post z) : wpX_fact post u (nI m) (nI w) := by
  refine pk_lt m 0 (fun h => absurd h (by omega)) (fun _ => ?_)
  refine pk_lt 2 m (fun h => absurd h (by omega)) (fun _ => ?_)
  refine pk_lt w 0 (fun h => absurd h (by omega)) (fun _ => ?_)
  refine pk_lt w 22 (fun h4 => ?_) (fun h4 => absurd h4 (by omega))
  have e : nI m * 22 + nI w = nI (m * 22 + w) := by rw [show (22 : Int32) = nI 22 from rfl, pk_mul, nI_add]
  refine ⟨pk_in (m * 22 + w) 66 (by omega) e, ?_⟩
  have e2 : gx_facts u (nI m * 22 + nI w).toNatClampNeg = z := by rw [pk_cl (m * 22 + w) e]; exact M
  exact eq_p (P := post) e2 h
theorem xx_last {post : Int32 → Prop} {k l : Nat} (hk : k < 1000) (hl : l < 1000) (hkl : k ≤ l) (h : post (nI (k - 1))) : wpX_last post (nI k) (nI l) := by
  refine pk_le 1 k (fun h1 => ?_) (fun h1 => ?_)
  · refine pk_le k l (fun _ => ?_) (fun h2 => absurd h2 (by omega))
    have e : nI k - 1 = nI (k - 1) := pk_sub (b := 1) h1
    exact e.symm ▸ h
  · rw [show k - 1 = 0 by omega] at h; exact h
theorem xx_ho {post : Int32 → Prop} {k : Nat} (hk : k < 256) (h : post (bb_i (decide (rd_ho k)))) : wpX_hasOperand post (nI k) := by
  have l : ∀ {j : Nat} {A B : Prop}, (j < 256) → ((k < j → A) → (j ≤ k → B) → (nI k < nI j → A) ∧ (¬ nI k < nI j → B)) := fun hj f g => pk_lt k _ f g
  have h56 : ¬ (2 ≤ k ∧ k ≤ 4) → k ≠ 7 → k ≠ 8 → k ≠ 11 → k ≠ 12 → ¬ (15 ≤ k ∧ k ≤ 19) → wX_hasOperand_56 post (nI k) := by
    intro a1 a2 a3 a4 a5 a6
    refine pk_lt k 22 (fun b => ?_) (fun b => pk_lt 27 k (fun b2 => ?_) (fun b2 => ?_))
    · rw [bb_0 (decide_eq_false (by omega))] at h; exact h
    · rw [bb_0 (decide_eq_false (by omega))] at h; exact h
    · rw [bb_1 (decide_eq_true (by omega))] at h; exact h
  have h39 : ¬ (2 ≤ k ∧ k ≤ 4) → k ≠ 7 → k ≠ 8 → k ≠ 11 → k ≠ 12 → wX_hasOperand_39 post (nI k) 0 := by
    intro a1 a2 a3 a4 a5
    refine br_t rfl (pk_lt k 15 (fun b => h56 a1 a2 a3 a4 a5 (by omega)) (fun b => pk_le k 19 (fun b2 => ?_) (fun b2 => h56 a1 a2 a3 a4 a5 (by omega))))
    rw [bb_1 (decide_eq_true (by omega))] at h; exact h
  have h34 : (2 ≤ k ∧ k ≤ 4) ∨ k = 7 ∨ k = 8 ∨ k = 11 ∨ k = 12 → wX_hasOperand_34 post (nI k) := by
    intro a
    refine br_f (by decide) ?_
    rw [bb_1 (decide_eq_true (by omega))] at h; exact h
  have h10 : ¬ (2 ≤ k ∧ k ≤ 4) → wX_hasOperand_10 post (nI k) := by
    intro a
    exact pk_eq k 7 (fun b => h34 (by omega)) (fun b7 => pk_eq k 8 (fun b => h34 (by omega)) (fun b8 => pk_eq k 11 (fun b => h34 (by omega)) (fun b11 => pk_eq k 12 (fun b => h34 (by omega)) (fun b12 => h39 a b7 b8 b11 b12))))
  exact pk_lt k 2 (fun b => h10 (by omega)) (fun b => pk_le k 4 (fun b2 => h34 (by omega)) (fun b2 => h10 (by omega)))
theorem xr_byte (C : cx_ok u c n) (lo hi : Nat) (hl : lo < 256) (hh : hi < 256) (hp : p ≤ n)
    (ht : p < n → lo ≤ c p → c p ≤ hi → post (nI (c p)) (xr u (nI (p + 1)) fc F P A)) (hf : ¬ (p < n ∧ lo ≤ c p ∧ c p ≤ hi) → post (-1) (xr u (nI p) fc F P A)) : wpX_readByte post (xr u (nI p) fc F P A) (nI lo) (nI hi) := by
  obtain ⟨hn, h140, hc, h256, _⟩ := C
  have hcp := h256 p
  refine pk_lt p 0 (fun h => absurd h (by omega)) (fun _ => ?_)
  refine pk_le n p (fun h => hf (by omega)) (fun hpn => ?_) hn
  refine pk_lt p 140 (fun h4 => ?_) (fun h => absurd h (by omega))
  have e : (280 : Int32) + nI p = nI (280 + p) := nI_add 280 p
  refine ⟨pk_in (280 + p) 420 (by omega) e, ?_⟩
  refine nm_r (show _ = nI (c p) from ?_) ?_
  · show gx_code u ((280 : Int32) + nI p).toNatClampNeg = _
    rw [pk_cl (280 + p) e]
    exact hc p h4
  · refine pk_lt (c p) lo (fun h => hf (by omega)) (fun h1 => ?_)
    refine pk_le (c p) hi (fun h2 => ?_) (fun h => hf (by omega))
    refine nm_r (nI_1 p) ?_
    exact ht hpn h1 h2
theorem xr_any_l (C : cx_ok u c n) (K : Nat) (hK : K < 1000) : ∀ r i p m, i + r = K → r < m → p ≤ n → post (bb_i (rd_n c n 0 255 r (true, p)).1) (xr u (nI (rd_n c n 0 255 r (true, p)).2) fc F P A) →
    wX_readAny_2 post (nI K) m (nI i) (gx_byteCount u) (gx_wrongPlace u) (nI p) fc (gx_kindCount u) (gx_valueCount u) (gx_activeCount u) (gx_goesOn u) (gx_outcome u) (gx_resultValue u) (gx_trapPlace u) (gx_fuelUsed u) (gx_firstWaiting u) (gx_waitingCount u) (gx_printCount u) (gx_code u) F P (gx_loaded u) (gx_globals u) (gx_memories u) A (gx_frameHeight u) (gx_frameResult u) (gx_frameDead u) (gx_kinds u) (gx_values u) (gx_variables u) (gx_activeSlot u) (gx_activeGives u) (gx_activeFrame u) (gx_activeResume u) (gx_waiting u) (gx_prints u) := by
  intro r
  induction r with
  | zero =>
    intro i p m hi hm hp h
    obtain ⟨m, rfl⟩ : ∃ k, m = k + 1 := ⟨m - 1, by omega⟩
    exact pk_le K i (fun _ => h) (fun z => absurd z (by omega))
  | succ r ih =>
    intro i p m hi hm hp h
    obtain ⟨m, rfl⟩ : ∃ k, m = k + 1 := ⟨m - 1, by omega⟩
    refine pk_le K i (fun z => absurd z (by omega)) (fun _ => ?_)
    refine xr_byte C 0 255 (by omega) (by omega) hp (fun h1 h2 h3 => ?_) (fun hf => ?_)
    · refine br_t (nI_pos' (by have := C.2.2.2.1 p; omega)) (nm_r (nI_1 i) ?_)
      refine ih (i + 1) (p + 1) m (by omega) (by omega) (by omega) ?_
      rw [rd_n, rd_tk_t h1 h2 h3] at h
      exact h
    · refine br_f (by decide) ?_
      rw [rd_n, rd_tk_n hf, rd_n_f _ _ rfl] at h
      exact h
theorem xr_any (C : cx_ok u c n) (K : Nat) (hK : K < 1000) (hp : p ≤ n) (h : post (bb_i (rd_n c n 0 255 K (true, p)).1) (xr u (nI (rd_n c n 0 255 K (true, p)).2) fc F P A)) :
    wpX_readAny post (xr u (nI p) fc F P A) (nI K) := ⟨K + 1, xr_any_l C K hK K 0 p (K + 1) (by omega) (by omega) hp h⟩
theorem xr_kinds_l (C : cx_ok u c n) (K : Nat) (hK : K < 1000) : ∀ r i p m, i + r = K → r < m → p ≤ n → post (bb_i (rd_n c n 1 2 r (true, p)).1) (xr u (nI (rd_n c n 1 2 r (true, p)).2) fc F P A) →
    wX_readKinds_9 post (nI K) m (nI i) (gx_byteCount u) (gx_wrongPlace u) (nI p) fc (gx_kindCount u) (gx_valueCount u) (gx_activeCount u) (gx_goesOn u) (gx_outcome u) (gx_resultValue u) (gx_trapPlace u) (gx_fuelUsed u) (gx_firstWaiting u) (gx_waitingCount u) (gx_printCount u) (gx_code u) F P (gx_loaded u) (gx_globals u) (gx_memories u) A (gx_frameHeight u) (gx_frameResult u) (gx_frameDead u) (gx_kinds u) (gx_values u) (gx_variables u) (gx_activeSlot u) (gx_activeGives u) (gx_activeFrame u) (gx_activeResume u) (gx_waiting u) (gx_prints u) := by
  intro r
  induction r with
  | zero =>
    intro i p m hi hm hp h
    obtain ⟨m, rfl⟩ : ∃ k, m = k + 1 := ⟨m - 1, by omega⟩
    exact pk_le K i (fun _ => br_f (nI_pos (by omega)) h) (fun z => absurd z (by omega))
  | succ r ih =>
    intro i p m hi hm hp h
    obtain ⟨m, rfl⟩ : ∃ k, m = k + 1 := ⟨m - 1, by omega⟩
    refine pk_le K i (fun z => absurd z (by omega)) (fun _ => ?_)
    refine xr_byte C 1 2 (by omega) (by omega) hp (fun h1 h2 h3 => ?_) (fun hf => ?_)
    · refine br_t (nI_pos' (by have := C.2.2.2.1 p; omega)) (nm_r (nI_1 i) ?_)
      refine ih (i + 1) (p + 1) m (by omega) (by omega) (by omega) ?_
      rw [rd_n, rd_tk_t h1 h2 h3] at h
      exact h
    · refine br_f (by decide) ?_
      rw [rd_n, rd_tk_n hf, rd_n_f _ _ rfl] at h
      exact h
theorem xr_kinds (C : cx_ok u c n) (K : Nat) (hK : K < 256) (hp : p ≤ n) (h : post (bb_i (rd_K c n K (true, p)).1) (xr u (nI (rd_K c n K (true, p)).2) fc F P A)) :
    wpX_readKinds post (xr u (nI p) fc F P A) (nI K) := by
  unfold wpX_readKinds
  refine xr_byte C 0 K (by omega) hK hp (fun h1 h2 h3 => ?_) (fun hf => ?_)
  · refine ⟨c p + 1, xr_kinds_l C (c p) (by omega) (c p) 0 (p + 1) (c p + 1) (by omega) (by omega) (by omega) ?_⟩
    rw [rd_K, rd_tk_t h1 h2 h3, rd_tv_t h1 h2 h3] at h
    exact h
  · refine ⟨1, br_t (by decide) (br_t (by decide) ?_)⟩
    rw [rd_K, rd_tk_n hf, rd_tv_n hf] at h
    exact h
theorem xr_const_l (C : cx_ok u c n) (K : Nat) (hK : K < 1000) : ∀ r i p m, i + r = K + 1 → r < m → p ≤ n → post (bb_i (rd_C c n r (true, p)).1) (xr u (nI (rd_C c n r (true, p)).2) fc F P A) →
    wX_readConst_14 post (nI K) m (nI i) (gx_byteCount u) (gx_wrongPlace u) (nI p) fc (gx_kindCount u) (gx_valueCount u) (gx_activeCount u) (gx_goesOn u) (gx_outcome u) (gx_resultValue u) (gx_trapPlace u) (gx_fuelUsed u) (gx_firstWaiting u) (gx_waitingCount u) (gx_printCount u) (gx_code u) F P (gx_loaded u) (gx_globals u) (gx_memories u) A (gx_frameHeight u) (gx_frameResult u) (gx_frameDead u) (gx_kinds u) (gx_values u) (gx_variables u) (gx_activeSlot u) (gx_activeGives u) (gx_activeFrame u) (gx_activeResume u) (gx_waiting u) (gx_prints u) := by
  intro r
  induction r with
  | zero =>
    intro i p m hi hm hp h
    obtain ⟨m, rfl⟩ : ∃ k, m = k + 1 := ⟨m - 1, by omega⟩
    exact pk_lt K i (fun _ => h) (fun z => absurd z (by omega))
  | succ r ih =>
    intro i p m hi hm hp h
    obtain ⟨m, rfl⟩ : ∃ k, m = k + 1 := ⟨m - 1, by omega⟩
    have key : ∀ hb, hb < 256 → (if r = 0 then 127 else 255) = hb → wX_readConst_34 post (wX_readConst_14 post (nI K) m) (nI K) (nI i) (nI hb) 0 (gx_byteCount u) (gx_wrongPlace u) (nI p) fc (gx_kindCount u) (gx_valueCount u) (gx_activeCount u) (gx_goesOn u) (gx_outcome u) (gx_resultValue u) (gx_trapPlace u) (gx_fuelUsed u) (gx_firstWaiting u) (gx_waitingCount u) (gx_printCount u) (gx_code u) F P (gx_loaded u) (gx_globals u) (gx_memories u) A (gx_frameHeight u) (gx_frameResult u) (gx_frameDead u) (gx_kinds u) (gx_values u) (gx_variables u) (gx_activeSlot u) (gx_activeGives u) (gx_activeFrame u) (gx_activeResume u) (gx_waiting u) (gx_prints u) := by
      intro hb hb2 e
      rw [rd_C, e] at h
      refine xr_byte C 0 hb (by omega) hb2 hp (fun h1 h2 h3 => ?_) (fun hf => ?_)
      · rw [rd_tk_t h1 h2 h3] at h
        refine pk_lt 127 (c p) (fun h4 => nm_r (nI_1 i) ?_) (fun h4 => br_f (nI_pos (by omega)) ?_)
        · refine ih (i + 1) (p + 1) m (by omega) (by omega) (by omega) ?_
          rw [if_pos ⟨rfl, h4⟩] at h
          exact h
        · rw [if_neg (fun z => by have := z.2; dsimp only at this; omega)] at h
          exact h
      · rw [rd_tk_n hf, if_neg (fun z => ff_t z.1)] at h
        exact br_f (by decide) (br_t (by decide) h)
    refine pk_lt K i (fun z => absurd z (by omega)) (fun _ => ?_)
    exact pk_eq i K (fun z => key 127 (by omega) (if_pos (by omega))) (fun z => key 255 (by omega) (if_neg (by omega)))
theorem xr_const (C : cx_ok u c n) (k : Nat) (hk : k < 256) (hp : p ≤ n) (h : post (bb_i (rd_C c n (if k = 1 then 5 else 10) (true, p)).1) (xr u (nI (rd_C c n (if k = 1 then 5 else 10) (true, p)).2) fc F P A)) :
    wpX_readConst post (xr u (nI p) fc F P A) (nI k) := by
  refine pk_eq k 1 (fun z => ?_) (fun z => ?_)
  · rw [if_pos z] at h
    exact ⟨6, xr_const_l C 5 (by omega) 5 1 p 6 (by omega) (by omega) hp h⟩
  · rw [if_neg z] at h
    exact ⟨11, xr_const_l C 10 (by omega) 10 1 p 11 (by omega) (by omega) hp h⟩
end
end
section
/-! 04: the reference's reading, byte by byte -/
/-- what Y keeps fixed while it reads module m -/
def cy_ok (cnt ym : Int32) (by_ : Nat → Int32) (m : Nat) (c : Nat → Nat) (n : Nat) : Prop :=
  cnt = nI n ∧ n ≤ 140 ∧ ym = nI m ∧ m < 3 ∧ (∀ i, i < n → by_ (140 * m + i) = nI (c i)) ∧ ∀ i, c i < 256
theorem nr_s {k : Nat} (h : k < 32768) : vp_nar .short (nI k).toInt16.toInt32 = nI k := by
  rw [pk_vs]
  exact lg_i2s_small (by rw [nI_toInt (by omega)]; omega) (by rw [nI_toInt (by omega)]; omega)
theorem nr_s' {k : Nat} (h : k < 32768) : vp_nar .short (nI k) = nI k := by
  rw [vp_nar_short]
  exact lg_i2s_small (by rw [nI_toInt (by omega)]; omega) (by rw [nI_toInt (by omega)]; omega)
theorem nr_b {k : Nat} (h : k < 128) : vp_nar .byte (nI k).toInt8.toInt32 = nI k := by
  rw [pk_vb]
  exact lg_i2b_small (by rw [nI_toInt (by omega)]; omega) (by rw [nI_toInt (by omega)]; omega)
def cv_st (x : Int64) (i b : Nat) : Int64 := x ||| (((nI b &&& 127).toInt64) <<< ((nI (7 * i)).toInt64 &&& 63))
def cv_fin (kind : Nat) (x : Int64) (i b : Nat) : Int64 :=
  if kind = 1 then (if 7 * i < 64 ∧ ¬ (nI b &&& 64) = 0 then x ||| ((-1 : Int64) <<< ((nI (7 * i)).toInt64 &&& 63)) else x).toInt32.toInt64
  else (if 7 * i < 64 ∧ ¬ (nI b &&& 64) = 0 then x ||| ((-1 : Int64) <<< ((nI (7 * i)).toInt64 &&& 63)) else x)
/-- the number that the bytes of a constant make -/
def cv (c : Nat → Nat) (kind : Nat) : Nat → Nat → Int64 → Nat → Int64
  | 0, _, x, _ => x
  | r + 1, p, x, i => if 127 < c p then cv c kind r (p + 1) (cv_st x i (c p)) (i + 1) else cv_fin kind (cv_st x i (c p)) (i + 1) (c p)
section
variable {y_count y_place y_m y_pos y_wrong y_least y_top y_frames y_invalid y_sp y_labels y_active y_fuel y_outcome y_trappedAt y_used y_waits y_printed : Int32} {y_constant y_result : Int64} {y_bytes y_there y_types y_typeSig y_imports y_functions y_sig y_what y_typeAt y_localsAt y_globals y_globalKind y_globalFree y_entries y_entriesAt y_hasMemory y_memory y_nest y_kinds y_shape y_gives y_height y_dead y_labelAt y_labelHeight y_labelGives y_callModule y_callFunction y_callBack y_callBase y_callLabels y_waiting y_prints : Nat → Int32} {y_globalValue y_stack : Nat → Int64}
variable {m : Nat} {c : Nat → Nat} {n p : Nat} {k : Int64}
theorem yr_at {post : Int32 → Prop} (hm : y_m = nI m) (h3 : m < 3) (hp : p < 140) (hb : y_bytes (140 * m + p) = nI (c p)) (h : post (nI (c p))) : wpY_at post (y_count, y_place, y_m, y_pos, y_wrong, y_constant, y_least, y_top, y_frames, y_invalid, y_sp, y_labels, y_active, y_fuel, y_outcome, y_trappedAt, y_result, y_used, y_waits, y_printed, y_bytes, y_there, y_types, y_typeSig, y_imports, y_functions, y_sig, y_what, y_typeAt, y_localsAt, y_globals, y_globalKind, y_globalFree, y_globalValue, y_entries, y_entriesAt, y_hasMemory, y_memory, y_nest, y_kinds, y_shape, y_gives, y_height, y_dead, y_stack, y_labelAt, y_labelHeight, y_labelGives, y_callModule, y_callFunction, y_callBack, y_callBase, y_callLabels, y_waiting, y_prints) (nI p) := by
  have e : 140 * y_m + nI p = nI (140 * m + p) := by rw [hm, show (140 : Int32) = nI 140 from rfl, pk_mul, nI_add]
  refine ⟨pk_in (140 * m + p) 420 (by omega) e, ?_⟩
  have e2 : y_bytes (140 * y_m + nI p).toNatClampNeg = nI (c p) := by rw [pk_cl (140 * m + p) e]; exact hb
  exact eq_p (P := post) e2 h
theorem yr_take {post : Int32 → SY → Prop} (C : cy_ok y_count y_m y_bytes m c n) (q : Bool × Nat) (hq : q.2 ≤ n) (lo hi : Nat) (hl : lo < 256) (hh : hi < 256)
    (h : post (nI (rd_tv c n lo hi q)) (y_count, y_place, y_m, nI (rd_tk c n lo hi q).2, bb_w (rd_tk c n lo hi q).1, k, y_least, y_top, y_frames, y_invalid, y_sp, y_labels, y_active, y_fuel, y_outcome, y_trappedAt, y_result, y_used, y_waits, y_printed, y_bytes, y_there, y_types, y_typeSig, y_imports, y_functions, y_sig, y_what, y_typeAt, y_localsAt, y_globals, y_globalKind, y_globalFree, y_globalValue, y_entries, y_entriesAt, y_hasMemory, y_memory, y_nest, y_kinds, y_shape, y_gives, y_height, y_dead, y_stack, y_labelAt, y_labelHeight, y_labelGives, y_callModule, y_callFunction, y_callBack, y_callBase, y_callLabels, y_waiting, y_prints)) : wpY_take post (y_count, y_place, y_m, nI q.2, bb_w q.1, k, y_least, y_top, y_frames, y_invalid, y_sp, y_labels, y_active, y_fuel, y_outcome, y_trappedAt, y_result, y_used, y_waits, y_printed, y_bytes, y_there, y_types, y_typeSig, y_imports, y_functions, y_sig, y_what, y_typeAt, y_localsAt, y_globals, y_globalKind, y_globalFree, y_globalValue, y_entries, y_entriesAt, y_hasMemory, y_memory, y_nest, y_kinds, y_shape, y_gives, y_height, y_dead, y_stack, y_labelAt, y_labelHeight, y_labelGives, y_callModule, y_callFunction, y_callBack, y_callBase, y_callLabels, y_waiting, y_prints) (nI lo) (nI hi) := by
  obtain ⟨hn, h140, hm, h3, hb, h256⟩ := C
  obtain ⟨b, p⟩ := q
  dsimp only at hq
  have hcp := h256 p
  cases b with
  | false =>
    rw [rd_tk_f rfl, rd_tv_f rfl] at h
    exact br_f bw_f h
  | true =>
    refine br_t rfl ?_
    refine pk_eq p n (fun z => ?_) (fun z => ?_) rfl hn
    · rw [rd_tk_n (by omega), rd_tv_n (by omega)] at h; exact h
    · have hpn : p < n := by omega
      have at' : ∀ (w : Int32) (post : Int32 → Prop), post (nI (c p)) → wpY_at post (y_count, y_place, y_m, nI p, w, k, y_least, y_top, y_frames, y_invalid, y_sp, y_labels, y_active, y_fuel, y_outcome, y_trappedAt, y_result, y_used, y_waits, y_printed, y_bytes, y_there, y_types, y_typeSig, y_imports, y_functions, y_sig, y_what, y_typeAt, y_localsAt, y_globals, y_globalKind, y_globalFree, y_globalValue, y_entries, y_entriesAt, y_hasMemory, y_memory, y_nest, y_kinds, y_shape, y_gives, y_height, y_dead, y_stack, y_labelAt, y_labelHeight, y_labelGives, y_callModule, y_callFunction, y_callBack, y_callBase, y_callLabels, y_waiting, y_prints) (nI p) := fun w post h => yr_at hm h3 (by omega) (hb p hpn) h
      have at2 : ∀ (w : Int32) (post : Int32 → Prop), post (nI (c p)) → wpY_at post (y_count, y_place, y_m, nI (p + 1), w, k, y_least, y_top, y_frames, y_invalid, y_sp, y_labels, y_active, y_fuel, y_outcome, y_trappedAt, y_result, y_used, y_waits, y_printed, y_bytes, y_there, y_types, y_typeSig, y_imports, y_functions, y_sig, y_what, y_typeAt, y_localsAt, y_globals, y_globalKind, y_globalFree, y_globalValue, y_entries, y_entriesAt, y_hasMemory, y_memory, y_nest, y_kinds, y_shape, y_gives, y_height, y_dead, y_stack, y_labelAt, y_labelHeight, y_labelGives, y_callModule, y_callFunction, y_callBack, y_callBase, y_callLabels, y_waiting, y_prints) (nI p) := fun w post h => yr_at hm h3 (by omega) (hb p hpn) h
      refine at' _ _ ?_
      refine pk_lt (c p) lo (fun z => ?_) (fun z1 => at' _ _ ?_)
      · rw [rd_tk_n (by omega), rd_tv_n (by omega)] at h; exact h
      · refine pk_le (c p) hi (fun z2 => ?_) (fun z2 => ?_)
        · rw [rd_tk_t hpn z1 z2, rd_tv_t hpn z1 z2] at h
          refine nm_r (nI_1 p) ?_
          exact at2 _ _ h
        · rw [rd_tk_n (by omega), rd_tv_n (by omega)] at h; exact h
theorem yr_c106 {post : SY → Prop} {a w : Int32} (kind : Nat) (hk : kind < 256) (x : Int64) (h : post (y_count, y_place, y_m, a, w, if kind = 1 then x.toInt32.toInt64 else x, y_least, y_top, y_frames, y_invalid, y_sp, y_labels, y_active, y_fuel, y_outcome, y_trappedAt, y_result, y_used, y_waits, y_printed, y_bytes, y_there, y_types, y_typeSig, y_imports, y_functions, y_sig, y_what, y_typeAt, y_localsAt, y_globals, y_globalKind, y_globalFree, y_globalValue, y_entries, y_entriesAt, y_hasMemory, y_memory, y_nest, y_kinds, y_shape, y_gives, y_height, y_dead, y_stack, y_labelAt, y_labelHeight, y_labelGives, y_callModule, y_callFunction, y_callBack, y_callBase, y_callLabels, y_waiting, y_prints)) :
    wY_takeConstant_106 post (nI kind) x y_count y_place y_m a w k y_least y_top y_frames y_invalid y_sp y_labels y_active y_fuel y_outcome y_trappedAt y_result y_used y_waits y_printed y_bytes y_there y_types y_typeSig y_imports y_functions y_sig y_what y_typeAt y_localsAt y_globals y_globalKind y_globalFree y_globalValue y_entries y_entriesAt y_hasMemory y_memory y_nest y_kinds y_shape y_gives y_height y_dead y_stack y_labelAt y_labelHeight y_labelGives y_callModule y_callFunction y_callBack y_callBase y_callLabels y_waiting y_prints := by
  refine pk_eq kind 1 (fun z => ?_) (fun z => ?_)
  · rw [if_pos z] at h; exact h
  · rw [if_neg z] at h; exact h
theorem yr_c76 {post : SY → Prop} {a w : Int32} (kind : Nat) (hk : kind < 256) (x : Int64) (i b : Nat) (hi : i < 100) (h : post (y_count, y_place, y_m, a, w, cv_fin kind x i b, y_least, y_top, y_frames, y_invalid, y_sp, y_labels, y_active, y_fuel, y_outcome, y_trappedAt, y_result, y_used, y_waits, y_printed, y_bytes, y_there, y_types, y_typeSig, y_imports, y_functions, y_sig, y_what, y_typeAt, y_localsAt, y_globals, y_globalKind, y_globalFree, y_globalValue, y_entries, y_entriesAt, y_hasMemory, y_memory, y_nest, y_kinds, y_shape, y_gives, y_height, y_dead, y_stack, y_labelAt, y_labelHeight, y_labelGives, y_callModule, y_callFunction, y_callBack, y_callBase, y_callLabels, y_waiting, y_prints)) :
    wY_takeConstant_76 post (nI kind) x (nI i) (nI b) y_count y_place y_m a w k y_least y_top y_frames y_invalid y_sp y_labels y_active y_fuel y_outcome y_trappedAt y_result y_used y_waits y_printed y_bytes y_there y_types y_typeSig y_imports y_functions y_sig y_what y_typeAt y_localsAt y_globals y_globalKind y_globalFree y_globalValue y_entries y_entriesAt y_hasMemory y_memory y_nest y_kinds y_shape y_gives y_height y_dead y_stack y_labelAt y_labelHeight y_labelGives y_callModule y_callFunction y_callBack y_callBase y_callLabels y_waiting y_prints := by
  have e : 7 * nI i = nI (7 * i) := pk_mul 7 i
  refine pk_le 64 (7 * i) (fun z => yr_c106 kind hk x ?_) (fun z => ?_) rfl e
  · rw [cv_fin, if_neg (show ¬ (7 * i < 64 ∧ ¬ (nI b &&& 64) = 0) by omega)] at h; exact h
  · refine br_c (fun z2 => yr_c106 kind hk x ?_) (fun z2 => nm_r (show _ = x ||| ((-1 : Int64) <<< ((nI (7 * i)).toInt64 &&& 63)) from by rw [e]) (yr_c106 kind hk _ ?_))
    · rw [cv_fin, if_neg (show ¬ (7 * i < 64 ∧ ¬ (nI b &&& 64) = 0) from fun y => y.2 z2)] at h; exact h
    · rw [cv_fin, if_pos (show 7 * i < 64 ∧ ¬ (nI b &&& 64) = 0 from ⟨z, z2⟩)] at h; exact h
theorem yr_const_l {post : SY → Prop} (C : cy_ok y_count y_m y_bytes m c n) (kind most : Nat) (hk : kind < 256) (hmost : most = if kind = 1 then 5 else 10) : ∀ r i p l R x b, i + r = most → 0 < r → r < l → r ≤ R → p ≤ n → 127 < b → b < 256 →
    (∀ k', ((rd_C c n r (true, p)).1 = true → k' = cv c kind R p x i) → post (y_count, y_place, y_m, nI (rd_C c n r (true, p)).2, bb_w (rd_C c n r (true, p)).1, k', y_least, y_top, y_frames, y_invalid, y_sp, y_labels, y_active, y_fuel, y_outcome, y_trappedAt, y_result, y_used, y_waits, y_printed, y_bytes, y_there, y_types, y_typeSig, y_imports, y_functions, y_sig, y_what, y_typeAt, y_localsAt, y_globals, y_globalKind, y_globalFree, y_globalValue, y_entries, y_entriesAt, y_hasMemory, y_memory, y_nest, y_kinds, y_shape, y_gives, y_height, y_dead, y_stack, y_labelAt, y_labelHeight, y_labelGives, y_callModule, y_callFunction, y_callBack, y_callBase, y_callLabels, y_waiting, y_prints)) →
    wY_takeConstant_10 post (nI kind) l x (nI i) (nI b) y_count y_place y_m (nI p) (bb_w true) k y_least y_top y_frames y_invalid y_sp y_labels y_active y_fuel y_outcome y_trappedAt y_result y_used y_waits y_printed y_bytes y_there y_types y_typeSig y_imports y_functions y_sig y_what y_typeAt y_localsAt y_globals y_globalKind y_globalFree y_globalValue y_entries y_entriesAt y_hasMemory y_memory y_nest y_kinds y_shape y_gives y_height y_dead y_stack y_labelAt y_labelHeight y_labelGives y_callModule y_callFunction y_callBack y_callBase y_callLabels y_waiting y_prints := by
  have hmost2 : most ≤ 10 := by rw [hmost]; split <;> omega
  intro r
  induction r with
  | zero => intro i p l R x b hi h0; omega
  | succ r ih =>
    intro i p l R x b hi _ hl hR hp hb1 hb2 h
    obtain ⟨l, rfl⟩ : ∃ j, l = j + 1 := ⟨l - 1, by omega⟩
    obtain ⟨R, rfl⟩ : ∃ j, R = j + 1 := ⟨R - 1, by omega⟩
    have h256 := C.2.2.2.2.2
    have e7 : 7 * nI i = nI (7 * i) := pk_mul 7 i
    have key : ∀ hb, hb < 256 → (if r = 0 then 127 else 255) = hb → wY_takeConstant_50 post (wY_takeConstant_10 post (nI kind) l) (nI kind) x (nI i) (nI hb) 0 y_count y_place y_m (nI p) (bb_w true) k y_least y_top y_frames y_invalid y_sp y_labels y_active y_fuel y_outcome y_trappedAt y_result y_used y_waits y_printed y_bytes y_there y_types y_typeSig y_imports y_functions y_sig y_what y_typeAt y_localsAt y_globals y_globalKind y_globalFree y_globalValue y_entries y_entriesAt y_hasMemory y_memory y_nest y_kinds y_shape y_gives y_height y_dead y_stack y_labelAt y_labelHeight y_labelGives y_callModule y_callFunction y_callBack y_callBase y_callLabels y_waiting y_prints := by
      intro hb hbl e
      rw [rd_C, e] at h
      refine yr_take C (true, p) hp 0 hb (by omega) hbl ?_
      refine nm_r (show _ = cv_st x i (rd_tv c n 0 hb (true, p)) from by rw [e7]; rfl) (nm_r (nI_1 i) ?_)
      by_cases hc : p < n ∧ 0 ≤ c p ∧ c p ≤ hb
      · rw [rd_tk_t hc.1 hc.2.1 hc.2.2, rd_tv_t hc.1 hc.2.1 hc.2.2]
        rw [rd_tk_t hc.1 hc.2.1 hc.2.2] at h
        by_cases h4 : 127 < c p
        · rw [if_pos ⟨rfl, h4⟩] at h
          have hr : 0 < r := by
            rcases Nat.eq_zero_or_pos r with z | z
            · rw [if_pos z] at e; omega
            · exact z
          refine ih (i + 1) (p + 1) l R _ (c p) (by omega) hr (by omega) (by omega) (by omega) h4 (h256 p) (fun k' hk' => h k' (fun z => ?_))
          rw [cv, if_pos h4]; exact hk' z
        · rw [if_neg (fun z => h4 z.2)] at h
          obtain ⟨l, rfl⟩ : ∃ j, l = j + 1 := ⟨l - 1, by omega⟩
          refine pk_le (c p) 127 (fun _ => yr_c76 kind hk _ (i + 1) (c p) (by omega) (h _ (fun _ => ?_))) (fun z => absurd z h4) rfl rfl (by have := h256 p; omega)
          rw [cv, if_neg h4]
      · rw [rd_tk_n hc, rd_tv_n hc]
        rw [rd_tk_n hc, if_neg (fun z => ff_t z.1)] at h
        obtain ⟨l, rfl⟩ : ∃ j, l = j + 1 := ⟨l - 1, by omega⟩
        exact pk_le 0 127 (fun _ => yr_c76 kind hk _ (i + 1) 0 (by omega) (h _ (fun z => ff_t z))) (fun z => absurd z (by omega))
    have k39 : ∀ w, w + 1 = most → wY_takeConstant_39 post (wY_takeConstant_10 post (nI kind) l) (nI kind) x (nI i) (nI w) (nI i) 0 y_count y_place y_m (nI p) (bb_w true) k y_least y_top y_frames y_invalid y_sp y_labels y_active y_fuel y_outcome y_trappedAt y_result y_used y_waits y_printed y_bytes y_there y_types y_typeSig y_imports y_functions y_sig y_what y_typeAt y_localsAt y_globals y_globalKind y_globalFree y_globalValue y_entries y_entriesAt y_hasMemory y_memory y_nest y_kinds y_shape y_gives y_height y_dead y_stack y_labelAt y_labelHeight y_labelGives y_callModule y_callFunction y_callBack y_callBase y_callLabels y_waiting y_prints := by
      intro w hw
      exact pk_eq i w (fun z => key 127 (by omega) (if_pos (by omega))) (fun z => key 255 (by omega) (if_neg (by omega)))
    refine pk_le b 127 (fun z => absurd z (by omega)) (fun _ => br_t rfl ?_)
    refine pk_eq kind 1 (fun z => ?_) (fun z => ?_)
    · rw [if_pos z] at hmost; exact k39 4 (by omega)
    · rw [if_neg z] at hmost; exact k39 9 (by omega)
theorem yr_const {post : SY → Prop} (C : cy_ok y_count y_m y_bytes m c n) (kind : Nat) (hk : kind < 256) (q : Bool × Nat) (hq : q.2 ≤ n)
    (h : ∀ k', ((rd_C c n (if kind = 1 then 5 else 10) q).1 = true → k' = cv c kind 10 q.2 0 0) → post (y_count, y_place, y_m, nI (rd_C c n (if kind = 1 then 5 else 10) q).2, bb_w (rd_C c n (if kind = 1 then 5 else 10) q).1, k', y_least, y_top, y_frames, y_invalid, y_sp, y_labels, y_active, y_fuel, y_outcome, y_trappedAt, y_result, y_used, y_waits, y_printed, y_bytes, y_there, y_types, y_typeSig, y_imports, y_functions, y_sig, y_what, y_typeAt, y_localsAt, y_globals, y_globalKind, y_globalFree, y_globalValue, y_entries, y_entriesAt, y_hasMemory, y_memory, y_nest, y_kinds, y_shape, y_gives, y_height, y_dead, y_stack, y_labelAt, y_labelHeight, y_labelGives, y_callModule, y_callFunction, y_callBack, y_callBase, y_callLabels, y_waiting, y_prints)) :
    wpY_takeConstant post (y_count, y_place, y_m, nI q.2, bb_w q.1, k, y_least, y_top, y_frames, y_invalid, y_sp, y_labels, y_active, y_fuel, y_outcome, y_trappedAt, y_result, y_used, y_waits, y_printed, y_bytes, y_there, y_types, y_typeSig, y_imports, y_functions, y_sig, y_what, y_typeAt, y_localsAt, y_globals, y_globalKind, y_globalFree, y_globalValue, y_entries, y_entriesAt, y_hasMemory, y_memory, y_nest, y_kinds, y_shape, y_gives, y_height, y_dead, y_stack, y_labelAt, y_labelHeight, y_labelGives, y_callModule, y_callFunction, y_callBack, y_callBase, y_callLabels, y_waiting, y_prints) (nI kind) := by
  obtain ⟨b, p⟩ := q
  dsimp only at hq h ⊢
  cases b with
  | false =>
    rw [(rd_G_C c n (if kind = 1 then 5 else 10) (by split <;> omega)).2 (false, p) rfl] at h
    refine ⟨1, pk_le 128 127 (fun z => absurd z (by omega)) (fun _ => br_f (by decide) ?_)⟩
    exact yr_c76 kind hk 0 0 128 (by omega) (h _ (fun z => ff_t z))
  | true =>
    refine ⟨11, yr_const_l C kind (if kind = 1 then 5 else 10) hk rfl (if kind = 1 then 5 else 10) 0 p 11 10 0 128 (by omega) (by split <;> omega) (by split <;> omega) (by split <;> omega) hq (by omega) (by omega) h⟩
end
end
section
/-! 05: the class's reading: instructions and bodies -/
/-- the class's stack of openers -/
def xr_A (A : Nat → Int32) : List (Nat × Nat × Nat) → Prop
  | [] => True
  | (_, o, _) :: T => (T ≠ [] → A T.length = nI o) ∧ xr_A A T
theorem xr_A_ext {A A' : Nat → Int32} : ∀ T : List (Nat × Nat × Nat), xr_A A T → (∀ j, j < T.length → A' j = A j) → xr_A A' T := by
  intro T
  induction T with
  | nil => intro _ _; trivial
  | cons x T ih =>
    intro h e
    obtain ⟨cd, o, el⟩ := x
    obtain ⟨h1, h2⟩ := h
    refine ⟨fun z => ?_, ih h2 (fun j hj => e j (by simp only [List.length_cons]; omega))⟩
    rw [e _ (by simp only [List.length_cons]; omega)]
    exact h1 z
/-- the class's table of partners -/
def xr_Pa (Pa : Nat → Int32) (P : Nat → Nat) : Prop := ∀ i, i < 140 → Pa (280 + i) = nI (P i)
def xr_fr (lo hi : Nat) (a a' : Nat → Int32) : Prop := ∀ j, ¬ (lo ≤ j ∧ j < hi) → a' j = a j
theorem xr_fr_r {lo hi : Nat} {a : Nat → Int32} : xr_fr lo hi a a := fun _ _ => rfl
theorem xr_fr_t {lo hi : Nat} {a b d : Nat → Int32} (h : xr_fr lo hi a b) (h2 : xr_fr lo hi b d) : xr_fr lo hi a d := fun j hj => (h2 j hj).trans (h j hj)
theorem xr_fr_u {lo hi i : Nat} {a : Nat → Int32} {x : Int32} (h : lo ≤ i ∧ i < hi) : xr_fr lo hi a (upd a i x) := fun j hj => pk_un (fun z => hj (z ▸ h))
theorem xr_fr_m {lo hi lo' hi' : Nat} {a b : Nat → Int32} (h : xr_fr lo hi a b) (hl : lo' ≤ lo) (hh : hi ≤ hi') : xr_fr lo' hi' a b := fun j hj => h j (fun z => hj ⟨by omega, by omega⟩)
theorem xr_Pa_u {Pa : Nat → Int32} {P : Nat → Nat} {i v : Nat} (h : xr_Pa Pa P) : xr_Pa (upd Pa (280 + i) (nI v)) (up_n P i v) := by
  intro j hj
  by_cases e : j = i
  · subst e; rw [pk_us, up_s]
  · rw [pk_un (by omega), up_d e]; exact h j hj
section
variable {u : SX} {c : Nat → Nat} {n p : Nat} {F Pa A : Nat → Int32} {P : Nat → Nat}
theorem xr_pair {post : SX → Prop} {a fc : Int32} (i z : Nat) (hi : i < 140) (h : post (xr u a fc F (upd Pa (280 + i) (nI z)) A)) : wpX_pair post (xr u a fc F Pa A) (nI i) (nI z) := by
  refine pk_lt i 0 (fun h => absurd h (by omega)) (fun _ => ?_)
  refine pk_le 140 i (fun h => absurd h (by omega)) (fun _ => ?_)
  have e : (280 : Int32) + nI i = nI (280 + i) := nI_add 280 i
  refine ⟨pk_in (280 + i) 420 (by omega) e, nm_r (show _ = upd Pa (280 + i) (nI z) from by rw [pk_cl (280 + i) e]) ?_⟩
  exact h
theorem xr_open {post : SX → Prop} {a : Int32} (f i : Nat) (hf : f < 140) (hi : i < 140) (h : post (xr u a (nI (f + 1)) F (upd Pa (280 + i) 0) (upd A f (nI i)))) : wpX_openRead post (xr u a (nI f) F Pa A) (nI i) := by
  refine pk_le 140 f (fun h => absurd h (by omega)) (fun _ => ?_)
  refine ⟨pk_in f 140 hf, nm_r (show _ = upd A f (nI i) from by rw [pk_cl f]) (nm_r (nI_1 f) ?_)⟩
  exact xr_pair (a := a) (fc := nI (f + 1)) (A := upd A f (nI i)) i 0 hi h
theorem xr_else {post : Int32 → SX → Prop} {a : Int32} (C : cx_ok u c n) (T : List (Nat × Nat × Nat)) (hT : T ≠ []) (hA : xr_A A T) (hP : xr_Pa Pa P) (hI : rd_TI c P p T) (hp : p < 140) (h70 : T.length < 140)
    (ht : ∀ o el T', T = (4, o, el) :: T' → post 1 (xr u a (nI T.length) F (upd Pa (280 + o) (nI p)) A)) (hf : (∀ o el T', T ≠ (4, o, el) :: T') → post 0 (xr u (nI p) (nI T.length) F Pa A)) :
    wpX_pairElse post (xr u a (nI T.length) F Pa A) (nI p) := by
  obtain ⟨x, T, rfl⟩ : ∃ x T', T = x :: T' := by cases T with | nil => exact absurd rfl hT | cons x T' => exact ⟨x, T', rfl⟩
  obtain ⟨cd, o, el⟩ := x
  obtain ⟨hA1, hA2⟩ := hA
  obtain ⟨h1, h2, h3⟩ := hI
  have hl : (List.length ((cd, o, el) :: T)) - 1 = T.length := by simp
  simp only [List.length_cons] at h70 ht hf ⊢
  unfold wpX_pairElse
  refine xx_last (k := T.length + 1) (l := 140) (by omega) (by omega) (by omega) ?_
  rw [show T.length + 1 - 1 = T.length by omega]
  refine ⟨pk_in T.length 140 (by omega), ?_⟩
  by_cases e : T = []
  · subst e
    have := h1 rfl
    subst this
    refine nm_e ?_
    exact br_t (by decide) (hf (fun o' el' T' z => by injection z with z1 z2; injection z1 with z3 z4; omega))
  · refine nm_r (show _ = nI o from by rw [pk_cl T.length]; exact hA1 e) ?_
    obtain ⟨ho, hcd⟩ := h2 e
    have hlen : 0 < T.length := List.length_pos_iff.mpr e
    refine pk_le T.length 0 (fun z => absurd z (by omega)) (fun _ => ?_)
    refine xx_byte (m := 2) C.2.2 (by omega) (by omega) ?_
    rcases hcd with ⟨g1, g2, g3⟩ | ⟨g1, g2, g3, g4, g5⟩
    · refine pk_eq (c o) 4 (fun z => ?_) (fun z => ?_) rfl rfl (by have := C.2.2.2.1 o; omega)
      · refine xx_part (m := 2) (P := P) (hP o (by omega)) (by omega) (by omega) ?_
        rw [g3]
        refine br_t rfl ?_
        refine xr_pair o p (by omega) ?_
        exact ht o el T (by rw [← g2, z])
      · exact hf (fun o' el' T' y => by injection y with z1 z2; injection z1 with z3 z4; omega)
    · refine pk_eq (c o) 4 (fun z => ?_) (fun z => absurd g2 z) rfl rfl (by omega)
      refine xx_part (m := 2) (P := P) (hP o (by omega)) (by omega) (by omega) ?_
      rw [g3]
      refine br_f (nI_ne0 (by omega) (by omega)) ?_
      exact hf (fun o' el' T' y => by injection y with z1 z2; injection z1 with z3 z4; omega)
theorem xr_end {post : SX → Prop} {a : Int32} (C : cx_ok u c n) (cd o el : Nat) (T : List (Nat × Nat × Nat)) (hA : xr_A A ((cd, o, el) :: T)) (hP : xr_Pa Pa P) (hI : rd_TI c P p ((cd, o, el) :: T)) (hp : p < 140) (h70 : T.length < 139)
    (h : ∀ Pa', xr_Pa Pa' (if cd = 0 then P else if cd = 5 then up_n P el p else up_n P o p) → xr_fr 280 420 Pa Pa' → post (xr u a (nI T.length) F Pa' A)) :
    wpX_pairEnd post (xr u a (nI (T.length + 1)) F Pa A) (nI p) := by
  obtain ⟨hA1, hA2⟩ := hA
  obtain ⟨h1, h2, h3⟩ := hI
  unfold wpX_pairEnd
  refine xx_last (k := T.length + 1) (l := 140) (by omega) (by omega) (by omega) ?_
  rw [show T.length + 1 - 1 = T.length by omega]
  by_cases e : T = []
  · subst e
    have := h1 rfl
    subst this
    exact br_t (by decide) (h Pa hP xr_fr_r)
  · obtain ⟨ho, hcd⟩ := h2 e
    have hlen : 0 < T.length := List.length_pos_iff.mpr e
    refine pk_le T.length 0 (fun z => absurd z (by omega)) (fun _ => ?_)
    refine ⟨pk_in T.length 140 (by omega), nm_r (show _ = nI o from by rw [pk_cl T.length]; exact hA1 e) ?_⟩
    refine xx_part (m := 2) (P := P) (hP o (by omega)) (by omega) (by omega) ?_
    rcases hcd with ⟨g1, g2, g3⟩ | ⟨g1, g2, g3, g4, g5⟩
    · rw [g3]
      refine br_t rfl ?_
      refine xr_pair o p (by omega) (h _ ?_ (xr_fr_u (by omega)))
      rw [if_neg (by omega), if_neg (by omega)]
      exact xr_Pa_u hP
    · rw [g3]
      refine br_f (nI_ne0 (by omega) (by omega)) ?_
      refine xr_pair el p (by omega) (h _ ?_ (xr_fr_u (by omega)))
      rw [if_neg (by omega), if_pos g1]
      exact xr_Pa_u hP
/-- the pure facts of one instruction -/
theorem rd_TI_I {c P : Nat → Nat} {n p : Nat} {T : List (Nat × Nat × Nat)} (hI : rd_TI c P p T) (hT : T ≠ []) (hp : p ≤ n) (h : (rd_I c n (true, p) T).1.1 = true) :
    rd_TI c (rd_P c n (true, p) T P) (rd_I c n (true, p) T).1.2 (rd_I c n (true, p) T).2 := by
  rcases rd_tk_or c n 0 66 (true, p) with ⟨e, _, hpn, _, h66⟩ | e
  · have e1 : (rd_tk c n 0 66 (true, p)).1 = true := by rw [e]
    dsimp only at hpn h66
    simp only [rd_I, rd_P, if_pos e1] at h ⊢
    by_cases ho : 2 ≤ c p ∧ c p ≤ 4
    · simp only [if_pos ho] at h ⊢
      rcases rd_tk_or c n 0 2 (true, p + 1) with ⟨e2, _, _, _, _⟩ | e2
      · rw [e2]
        refine ⟨fun z => absurd z hT, fun _ => ⟨by dsimp only; omega, Or.inl ⟨by omega, rfl, up_s⟩⟩, fun _ => ?_⟩
        exact rd_TI_ext T p hI (fun j hj => up_d (by omega))
      · rw [e2] at h; exact ff_t h
    · simp only [if_neg ho] at h ⊢
      by_cases h5 : c p = 5
      · simp only [if_pos h5] at h ⊢
        obtain ⟨x, T, rfl⟩ : ∃ x T', T = x :: T' := by cases T with | nil => exact absurd rfl hT | cons x T' => exact ⟨x, T', rfl⟩
        obtain ⟨cd, o, el⟩ := x
        by_cases h4 : cd = 4
        · subst h4
          obtain ⟨h1, h2, h3⟩ := hI
          have hT2 : T ≠ [] := fun z => absurd (h1 z) (by decide)
          obtain ⟨ho2, hcd⟩ := h2 hT2
          have hco : c o = 4 := by rcases hcd with ⟨_, g, _⟩ | ⟨g, _⟩; exact g; omega
          have e4 : tp_cd ((4, o, el) :: T) = 4 := rfl
          simp only [if_pos e4]
          refine ⟨fun z => absurd z hT2, fun _ => ⟨show o + 2 ≤ p + 1 by omega, Or.inr ⟨rfl, hco, up_s, show o < p by omega, show p < p + 1 by omega⟩⟩, fun _ => ?_⟩
          exact rd_TI_ext T o (h3 hT2) (fun j hj => up_d (show j ≠ o by omega))
        · have e4 : ¬ tp_cd ((cd, o, el) :: T) = 4 := h4
          simp only [if_neg e4] at h
          exact ff_t h
      · simp only [if_neg h5] at h ⊢
        by_cases h6 : c p = 6
        · simp only [if_pos h6] at h ⊢
          obtain ⟨x, T, rfl⟩ : ∃ x T', T = x :: T' := by cases T with | nil => exact absurd rfl hT | cons x T' => exact ⟨x, T', rfl⟩
          obtain ⟨cd, o, el⟩ := x
          obtain ⟨h1, h2, h3⟩ := hI
          show rd_TI c _ (p + 1) T
          by_cases hT2 : T = []
          · subst hT2; trivial
          · obtain ⟨ho2, hcd⟩ := h2 hT2
            refine rd_TI_mono (p := o) (rd_TI_ext T o (h3 hT2) ?_) (by omega)
            intro j hj
            by_cases z0 : tp_cd ((cd, o, el) :: T) = 0
            · rw [if_pos z0]
            · rw [if_neg z0]
              by_cases z5 : tp_cd ((cd, o, el) :: T) = 5
              · rw [if_pos z5]
                refine up_d (show j ≠ el from ?_)
                have z5' : cd = 5 := z5
                rcases hcd with ⟨g, _⟩ | ⟨_, _, _, g, _⟩ <;> omega
              · rw [if_neg z5]
                exact up_d (show j ≠ o by omega)
        · simp only [if_neg h6] at h ⊢
          exact rd_TI_mono hI (by have := ((rd_G_R c n (c p)).1 (true, p + 1) (by dsimp only; omega)).1; dsimp only at this; omega)
  · rw [rd_I, if_neg (by rw [e]; simp), e] at h; exact ff_t h
theorem xr_i180 {post : Int32 → SX → Prop} {fc : Int32} (C : cx_ok u c n) (k : Nat) (hk : k < 256) (hp : p ≤ n) (h1 : ¬ (2 ≤ k ∧ k ≤ 4)) (h9 : k ≠ 9) (h20 : k ≠ 20) (h21 : k ≠ 21)
    (h : post (bb_i (rd_R c n k (true, p)).1) (xr u (nI (rd_R c n k (true, p)).2) fc F Pa A)) : wX_readInstruction_180 post (nI k) (gx_byteCount u) (gx_wrongPlace u) (nI p) fc (gx_kindCount u) (gx_valueCount u) (gx_activeCount u) (gx_goesOn u) (gx_outcome u) (gx_resultValue u) (gx_trapPlace u) (gx_fuelUsed u) (gx_firstWaiting u) (gx_waitingCount u) (gx_printCount u) (gx_code u) F Pa (gx_loaded u) (gx_globals u) (gx_memories u) A (gx_frameHeight u) (gx_frameResult u) (gx_frameDead u) (gx_kinds u) (gx_values u) (gx_variables u) (gx_activeSlot u) (gx_activeGives u) (gx_activeFrame u) (gx_activeResume u) (gx_waiting u) (gx_prints u) := by
  rw [rd_R, if_neg h1, if_neg h9, if_neg h20, if_neg h21] at h
  refine br_f (nI_pos (by omega)) (xx_ho hk ?_)
  by_cases ho : rd_ho k
  · rw [if_pos ho] at h
    rw [bb_1 (decide_eq_true ho)]
    refine br_f (by decide) (xr_any C 1 (by omega) hp ?_)
    exact bb_br (fun z => by rw [show rd_n c n 0 255 1 (true, p) = rd_tk c n 0 255 (true, p) from rfl] at z ⊢; rw [bb_0 z] at h; exact h) (fun z => by rw [show rd_n c n 0 255 1 (true, p) = rd_tk c n 0 255 (true, p) from rfl] at z ⊢; rw [bb_1 z] at h; exact h)
  · rw [if_neg ho] at h
    rw [bb_0 (decide_eq_false ho)]
    exact br_t rfl h
theorem xr_instr {post : Int32 → SX → Prop} (C : cx_ok u c n) (T : List (Nat × Nat × Nat)) (hT : T ≠ []) (hA : xr_A A T) (hP : xr_Pa Pa P) (hI : rd_TI c P p T) (hp : p ≤ n)
    (h : ∀ Pa' A' fc', xr_Pa Pa' (rd_P c n (true, p) T P) → xr_fr 280 420 Pa Pa' → ((rd_I c n (true, p) T).1.1 = true → fc' = nI (rd_I c n (true, p) T).2.length ∧ xr_A A' (rd_I c n (true, p) T).2) →
      post (bb_i (rd_I c n (true, p) T).1.1) (xr u (nI (rd_I c n (true, p) T).1.2) fc' F Pa' A')) : wpX_readInstruction post (xr u (nI p) (nI T.length) F Pa A) := by
  have hlen := rd_TI_len T p hI
  have h256 : c p < 2 ^ 31 := by have := C.2.2.2.1 p; omega
  have h140 := C.2.1
  unfold wpX_readInstruction
  refine xr_byte C 0 66 (by omega) (by omega) hp (fun hpn _ h66 => ?_) (fun hf => ?_)
  · have e : rd_tk c n 0 66 (true, p) = (true, p + 1) := rd_tk_t hpn (by omega) h66
    have e1 : (rd_tk c n 0 66 (true, p)).1 = true := by rw [e]
    simp only [rd_I, rd_P, if_pos e1] at h
    have k180 : ¬ (2 ≤ c p ∧ c p ≤ 4) → c p ≠ 5 → c p ≠ 6 → c p ≠ 9 → c p ≠ 20 → c p ≠ 21 → wX_readInstruction_180 post (nI (c p)) (gx_byteCount u) (gx_wrongPlace u) (nI (p + 1)) (nI T.length) (gx_kindCount u) (gx_valueCount u) (gx_activeCount u) (gx_goesOn u) (gx_outcome u) (gx_resultValue u) (gx_trapPlace u) (gx_fuelUsed u) (gx_firstWaiting u) (gx_waitingCount u) (gx_printCount u) (gx_code u) F Pa (gx_loaded u) (gx_globals u) (gx_memories u) A (gx_frameHeight u) (gx_frameResult u) (gx_frameDead u) (gx_kinds u) (gx_values u) (gx_variables u) (gx_activeSlot u) (gx_activeGives u) (gx_activeFrame u) (gx_activeResume u) (gx_waiting u) (gx_prints u) := by
      intro a1 a2 a3 a4 a5 a6
      simp only [if_neg a1, if_neg a2, if_neg a3] at h
      exact xr_i180 C (c p) (by omega) (by omega) a1 a4 a5 a6 (h Pa A _ hP xr_fr_r (fun _ => ⟨rfl, hA⟩))
    have k108 : (2 ≤ c p ∧ c p ≤ 4) → wX_readInstruction_108 post (nI p) (gx_byteCount u) (gx_wrongPlace u) (nI (p + 1)) (nI T.length) (gx_kindCount u) (gx_valueCount u) (gx_activeCount u) (gx_goesOn u) (gx_outcome u) (gx_resultValue u) (gx_trapPlace u) (gx_fuelUsed u) (gx_firstWaiting u) (gx_waitingCount u) (gx_printCount u) (gx_code u) F Pa (gx_loaded u) (gx_globals u) (gx_memories u) A (gx_frameHeight u) (gx_frameResult u) (gx_frameDead u) (gx_kinds u) (gx_values u) (gx_variables u) (gx_activeSlot u) (gx_activeGives u) (gx_activeFrame u) (gx_activeResume u) (gx_waiting u) (gx_prints u) := by
      intro a1
      simp only [if_pos a1] at h
      refine xr_open T.length p (by omega) (by omega) ?_
      have h' := h (upd Pa (280 + p) 0) (upd A T.length (nI p)) (nI (T.length + 1)) (xr_Pa_u (v := 0) hP) (xr_fr_u (by omega)) (fun _ => ⟨rfl, fun _ => pk_us, xr_A_ext T hA (fun j hj => pk_un (by omega))⟩)
      refine xr_byte C 0 2 (by omega) (by omega) (by omega) (fun b1 b2 b3 => ?_) (fun bf => ?_)
      · rw [rd_tk_t b1 b2 b3] at h'
        exact br_f (nI_pos (by have := C.2.2.2.1 (p + 1); omega)) h'
      · rw [rd_tk_n bf] at h'
        exact br_t (by decide) h'
    have k5 : c p = 5 → wpX_pairElse (fun r u => narrow .boolean (.int r) = .int r ∧ post r u) (xr u (nI (p + 1)) (nI T.length) F Pa A) (nI p) := by
      intro a5
      simp only [if_neg (show ¬ (2 ≤ c p ∧ c p ≤ 4) by omega), if_pos a5] at h
      refine xr_else C T hT hA hP hI (by omega) (by omega) (fun o el T' z => ?_) (fun z => ?_)
      · subst z
        have e4 : tp_cd ((4, o, el) :: T') = 4 := rfl
        simp only [if_pos e4] at h
        refine ⟨bb_nar true, h _ A _ (xr_Pa_u hP) (xr_fr_u ?_) (fun _ => ⟨rfl, hA.1, hA.2⟩)⟩
        have hT2 : T' ≠ [] := fun z => absurd (hI.1 z) (by decide)
        have := (hI.2.1 hT2).1
        show 280 ≤ 280 + o ∧ 280 + o < 420
        omega
      · have e4 : ¬ tp_cd T = 4 := by
          cases T with
          | nil => exact absurd rfl hT
          | cons x T' =>
            obtain ⟨cd, o, el⟩ := x
            intro y
            have y' : cd = 4 := y
            subst y'
            exact z o el T' rfl
        simp only [if_neg e4] at h
        exact ⟨bb_nar false, h Pa A _ hP xr_fr_r (fun z => ff_t z)⟩
    have k6 : c p = 6 → wpX_pairEnd (fun u => post 1 u) (xr u (nI (p + 1)) (nI T.length) F Pa A) (nI p) := by
      intro a6
      simp only [if_neg (show ¬ (2 ≤ c p ∧ c p ≤ 4) by omega), if_neg (show ¬ c p = 5 by omega), if_pos a6] at h
      obtain ⟨x, T, rfl⟩ : ∃ x T', T = x :: T' := by cases T with | nil => exact absurd rfl hT | cons x T' => exact ⟨x, T', rfl⟩
      obtain ⟨cd, o, el⟩ := x
      refine xr_end C cd o el T hA hP hI (by omega) (by simp only [List.length_cons] at hlen; omega) (fun Pa' hPa hfr => h Pa' A _ ?_ hfr (fun _ => ⟨rfl, hA.2⟩))
      exact hPa
    have kR : ∀ (k : Nat), c p = k → k = 9 ∨ k = 20 ∨ k = 21 → post (bb_i (rd_R c n k (true, p + 1)).1) (xr u (nI (rd_R c n k (true, p + 1)).2) (nI T.length) F Pa A) := by
      intro k a k'
      simp only [if_neg (show ¬ (2 ≤ c p ∧ c p ≤ 4) by omega), if_neg (show ¬ c p = 5 by omega), if_neg (show ¬ c p = 6 by omega)] at h
      have := h Pa A _ hP xr_fr_r (fun _ => ⟨rfl, hA⟩)
      rw [a] at this
      exact this
    have k9 : c p = 9 → wpX_readByte (fun r u => (r < 0 → post 0 u) ∧ (¬ r < 0 → wpX_readAny (fun r u => (r = 0 → post 0 u) ∧ (¬ r = 0 → post 1 u)) u (r + 1))) (xr u (nI (p + 1)) (nI T.length) F Pa A) 0 4 := by
      intro a9
      have h' := kR 9 a9 (by omega)
      rw [rd_R, if_neg (by omega), if_pos rfl] at h'
      refine xr_byte C 0 4 (by omega) (by omega) (by omega) (fun b1 b2 b3 => ?_) (fun bf => ?_)
      · rw [rd_tk_t b1 b2 b3, rd_tv_t b1 b2 b3] at h'
        refine br_f (nI_pos (by omega)) ?_
        rw [nI_1]
        refine xr_any C _ (by omega) (by omega) ?_
        exact bb_br (fun z => by rw [bb_0 z] at h'; exact h') (fun z => by rw [bb_1 z] at h'; exact h')
      · rw [rd_tk_n bf, rd_tv_n bf, rd_n_f _ _ rfl] at h'
        exact br_t (by decide) h'
    have k20 : c p = 20 → wpX_readConst (fun r u => narrow .boolean (.int r) = .int r ∧ post r u) (xr u (nI (p + 1)) (nI T.length) F Pa A) 1 := by
      intro a
      have h' := kR 20 a (by omega)
      rw [rd_R, if_neg (by omega), if_neg (by omega), if_pos rfl] at h'
      exact xr_const C 1 (by omega) (by omega) ⟨bb_nar _, h'⟩
    have k21 : c p = 21 → wpX_readConst (fun r u => narrow .boolean (.int r) = .int r ∧ post r u) (xr u (nI (p + 1)) (nI T.length) F Pa A) 2 := by
      intro a
      have h' := kR 21 a (by omega)
      rw [rd_R, if_neg (by omega), if_neg (by omega), if_neg (by omega), if_pos rfl] at h'
      exact xr_const C 2 (by omega) (by omega) ⟨bb_nar _, h'⟩
    refine pk_lt (c p) 2 (fun b => k180 (by omega) (by omega) (by omega) (by omega) (by omega) (by omega)) (fun b0 => ?_) rfl rfl h256
    refine pk_lt 21 (c p) (fun b => k180 (by omega) (by omega) (by omega) (by omega) (by omega) (by omega)) (fun b1 => ?_) rfl rfl (by omega) h256
    exact pk_eq (c p) 2 (fun z => k108 (by omega)) (fun b2 => pk_eq (c p) 3 (fun z => k108 (by omega)) (fun b3 => pk_eq (c p) 4 (fun z => k108 (by omega)) (fun b4 => pk_eq (c p) 5 (fun z => k5 z) (fun b5 => pk_eq (c p) 6 (fun z => k6 z) (fun b6 => pk_eq (c p) 7 (fun z => k180 (by omega) (by omega) (by omega) (by omega) (by omega) (by omega)) (fun b7 => pk_eq (c p) 8 (fun z => k180 (by omega) (by omega) (by omega) (by omega) (by omega) (by omega)) (fun b8 => pk_eq (c p) 9 (fun z => k9 z) (fun b9 => pk_eq (c p) 10 (fun z => k180 (by omega) (by omega) (by omega) (by omega) (by omega) (by omega)) (fun b10 => pk_eq (c p) 11 (fun z => k180 (by omega) (by omega) (by omega) (by omega) (by omega) (by omega)) (fun b11 => pk_eq (c p) 12 (fun z => k180 (by omega) (by omega) (by omega) (by omega) (by omega) (by omega)) (fun b12 => pk_eq (c p) 13 (fun z => k180 (by omega) (by omega) (by omega) (by omega) (by omega) (by omega)) (fun b13 => pk_eq (c p) 14 (fun z => k180 (by omega) (by omega) (by omega) (by omega) (by omega) (by omega)) (fun b14 => pk_eq (c p) 15 (fun z => k180 (by omega) (by omega) (by omega) (by omega) (by omega) (by omega)) (fun b15 => pk_eq (c p) 16 (fun z => k180 (by omega) (by omega) (by omega) (by omega) (by omega) (by omega)) (fun b16 => pk_eq (c p) 17 (fun z => k180 (by omega) (by omega) (by omega) (by omega) (by omega) (by omega)) (fun b17 => pk_eq (c p) 18 (fun z => k180 (by omega) (by omega) (by omega) (by omega) (by omega) (by omega)) (fun b18 => pk_eq (c p) 19 (fun z => k180 (by omega) (by omega) (by omega) (by omega) (by omega) (by omega)) (fun b19 => pk_eq (c p) 20 (fun z => k20 z) (fun b20 => pk_eq (c p) 21 (fun z => k21 z) (fun b21 => absurd b1 (by omega)) rfl rfl h256) rfl rfl h256) rfl rfl h256) rfl rfl h256) rfl rfl h256) rfl rfl h256) rfl rfl h256) rfl rfl h256) rfl rfl h256) rfl rfl h256) rfl rfl h256) rfl rfl h256) rfl rfl h256) rfl rfl h256) rfl rfl h256) rfl rfl h256) rfl rfl h256) rfl rfl h256) rfl rfl h256) rfl rfl h256
  · have e : rd_tk c n 0 66 (true, p) = (false, p) := rd_tk_n hf
    rw [rd_I, rd_P, if_neg (by rw [e]; simp), if_neg (by rw [e]; simp), e] at h
    exact br_t (by decide) (br_t (by decide) (h Pa A _ hP xr_fr_r (fun z => ff_t z)))
end
end
section
/-! 06: the class's reading: bodies, and the parts of a module -/
theorem rd_B_f {c : Nat → Nat} {n : Nat} : ∀ k q T, q.1 = false → rd_B c n k q T = (q, T) := by
  intro k q T h
  cases k with
  | zero => rfl
  | succ k => rw [rd_B, if_neg (by rw [h]; simp)]
theorem rd_BP_f {c : Nat → Nat} {n : Nat} {P : Nat → Nat} : ∀ k q T, q.1 = false → rd_BP c n k q T P = P := by
  intro k q T h
  cases k with
  | zero => rfl
  | succ k => rw [rd_BP, if_neg (by rw [h]; simp)]
theorem rd_B_n {c : Nat → Nat} {n : Nat} : ∀ k q, rd_B c n k q [] = (q, []) := by
  intro k q
  cases k with
  | zero => rfl
  | succ k => rw [rd_B, if_neg (by simp)]
theorem rd_BP_n {c : Nat → Nat} {n : Nat} {P : Nat → Nat} : ∀ k q, rd_BP c n k q [] P = P := by
  intro k q
  cases k with
  | zero => rfl
  | succ k => rw [rd_BP, if_neg (by simp)]
/-- an instruction that is read moves on -/
theorem rd_I_lt {c : Nat → Nat} {n p : Nat} {T : List (Nat × Nat × Nat)} (hp : p ≤ n) (h : (rd_I c n (true, p) T).1.1 = true) : p < (rd_I c n (true, p) T).1.2 ∧ (rd_I c n (true, p) T).1.2 ≤ n := by
  rcases rd_tk_or c n 0 66 (true, p) with ⟨e, _, hpn, _, h66⟩ | e
  · have e1 : (rd_tk c n 0 66 (true, p)).1 = true := by rw [e]
    dsimp only at hpn h66
    simp only [rd_I, if_pos e1] at h ⊢
    by_cases ho : 2 ≤ c p ∧ c p ≤ 4
    · simp only [if_pos ho] at h ⊢
      have := (rd_G_tk c n 0 2).1 (true, p + 1) (by dsimp only; omega)
      dsimp only at this; omega
    · simp only [if_neg ho] at h ⊢
      by_cases h5 : c p = 5
      · simp only [if_pos h5] at h ⊢
        by_cases e4 : tp_cd T = 4
        · simp only [if_pos e4]; omega
        · simp only [if_neg e4] at h; exact ff_t h
      · simp only [if_neg h5] at h ⊢
        by_cases h6 : c p = 6
        · simp only [if_pos h6]; omega
        · simp only [if_neg h6]
          have := (rd_G_R c n (c p)).1 (true, p + 1) (by dsimp only; omega)
          dsimp only at this; omega
  · rw [rd_I, if_neg (by rw [e]; simp), e] at h; exact ff_t h
section
variable {u : SX} {c : Nat → Nat} {n p : Nat}
theorem xr_body_l {F : Nat → Int32} {post : Int32 → SX → Prop} (C : cx_ok u c n) : ∀ r p i m k T (Pa A : Nat → Int32) (P : Nat → Nat), n - p < r → r ≤ k → r < m → i < p → p ≤ n → xr_A A T → xr_Pa Pa P → rd_TI c P p T →
    (∀ Pa' A' fc', xr_fr 280 420 Pa Pa' → ((rd_B c n k (true, p) T).1.1 = true → xr_Pa Pa' (rd_BP c n k (true, p) T P)) → post (bb_i (rd_B c n k (true, p) T).1.1) (xr u (nI (rd_B c n k (true, p) T).1.2) fc' F Pa' A')) →
    wX_readBody_7 post m (nI i) (gx_byteCount u) (gx_wrongPlace u) (nI p) (nI T.length) (gx_kindCount u) (gx_valueCount u) (gx_activeCount u) (gx_goesOn u) (gx_outcome u) (gx_resultValue u) (gx_trapPlace u) (gx_fuelUsed u) (gx_firstWaiting u) (gx_waitingCount u) (gx_printCount u) (gx_code u) F Pa (gx_loaded u) (gx_globals u) (gx_memories u) A (gx_frameHeight u) (gx_frameResult u) (gx_frameDead u) (gx_kinds u) (gx_values u) (gx_variables u) (gx_activeSlot u) (gx_activeGives u) (gx_activeFrame u) (gx_activeResume u) (gx_waiting u) (gx_prints u) := by
  intro r
  induction r with
  | zero => intro p i m k T Pa A P h; omega
  | succ r ih =>
    intro p i m k T Pa A P hr hk hm hip hp hA hP hI h
    obtain ⟨m, rfl⟩ : ∃ j, m = j + 1 := ⟨m - 1, by omega⟩
    obtain ⟨k, rfl⟩ : ∃ j, k = j + 1 := ⟨k - 1, by omega⟩
    have h140 := C.2.1
    have hlen := rd_TI_len T p hI
    refine pk_le 140 i (fun z => absurd z (by omega)) (fun _ => ?_)
    by_cases hT : T = []
    · subst hT
      rw [rd_B_n, rd_BP_n] at h
      exact br_t (by decide) (br_t rfl (h Pa A _ xr_fr_r (fun _ => hP)))
    · have hl : 0 < T.length := List.length_pos_iff.mpr hT
      refine pk_le T.length 0 (fun z => absurd z (by omega)) (fun _ => ?_)
      rw [rd_B, if_pos ⟨rfl, hT⟩, rd_BP, if_pos ⟨rfl, hT⟩] at h
      refine xr_instr C T hT hA hP hI hp (fun Pa' A' fc' h1 h2 h3 => ?_)
      refine bb_br (fun z => ?_) (fun z => nm_r (nI_1 i) ?_)
      · rw [rd_B_f _ _ _ z, rd_BP_f _ _ _ z] at h
        have := h Pa' A' fc' h2 (fun y => absurd (z.symm.trans y) (by decide))
        rw [bb_0 z] at this
        exact this
      · obtain ⟨e1, e2⟩ := h3 z
        subst e1
        have hlt := rd_I_lt hp z
        have hTI := rd_TI_I hI hT hp z
        have eq : (rd_I c n (true, p) T).1 = (true, (rd_I c n (true, p) T).1.2) := tt_eq z
        rw [eq] at h
        exact ih _ (i + 1) m k _ Pa' A' _ (by omega) (by omega) (by omega) (by omega) hlt.2 e2 h1 hTI (fun Pa'' A'' fc'' g1 g2 => h Pa'' A'' fc'' (xr_fr_t h2 g1) g2)
theorem xr_body {F Pa A : Nat → Int32} {P : Nat → Nat} {fc : Int32} {post : Int32 → SX → Prop} (C : cx_ok u c n) (h0 : 0 < p) (hp : p ≤ n) (hP : xr_Pa Pa P)
    (h : ∀ Pa' A' fc', xr_fr 280 420 Pa Pa' → ((rd_B c n 141 (true, p) [(0, 0, 0)]).1.1 = true → xr_Pa Pa' (rd_BP c n 141 (true, p) [(0, 0, 0)] P)) → post (bb_i (rd_B c n 141 (true, p) [(0, 0, 0)]).1.1) (xr u (nI (rd_B c n 141 (true, p) [(0, 0, 0)]).1.2) fc' F Pa' A')) :
    wpX_readBody post (xr u (nI p) fc F Pa A) := by
  have h140 := C.2.1
  exact ⟨142, xr_body_l C 141 p 0 142 141 [(0, 0, 0)] Pa A P (by omega) (by omega) (by omega) h0 hp ⟨fun z => absurd rfl z, trivial⟩ hP ⟨fun _ => rfl, fun z => absurd rfl z, fun z => absurd rfl z⟩ h⟩
theorem rd_G_B (c : Nat → Nat) (n : Nat) : ∀ k T, rd_G n (fun q => (rd_B c n k q T).1) := by
  intro k
  induction k with
  | zero => intro T; exact rd_G_id n
  | succ k ih =>
    intro T
    constructor
    · intro q hq
      show q.2 ≤ (rd_B c n (k + 1) q T).1.2 ∧ (rd_B c n (k + 1) q T).1.2 ≤ n
      rw [rd_B]
      split
      · rename_i hc
        obtain ⟨b, p⟩ := q
        obtain ⟨h1, h2⟩ := hc
        dsimp only at h1 hq
        subst h1
        have a : p ≤ (rd_I c n (true, p) T).1.2 ∧ (rd_I c n (true, p) T).1.2 ≤ n := by
          rcases rd_tk_or c n 0 66 (true, p) with ⟨e, _, hpn, _, h66⟩ | e
          · have e1 : (rd_tk c n 0 66 (true, p)).1 = true := by rw [e]
            dsimp only at hpn h66
            simp only [rd_I, if_pos e1]
            split
            · have := (rd_G_tk c n 0 2).1 (true, p + 1) (by dsimp only; omega)
              dsimp only at this ⊢; omega
            · split
              · split <;> dsimp only <;> omega
              · split
                · dsimp only; omega
                · have := (rd_G_R c n (c p)).1 (true, p + 1) (by dsimp only; omega)
                  dsimp only at this ⊢; omega
          · rw [rd_I, if_neg (by rw [e]; simp), e]; dsimp only; omega
        have b := (ih (rd_I c n (true, p) T).2).1 _ a.2
        dsimp only at b ⊢
        omega
      · exact ⟨Nat.le_refl _, hq⟩
    · intro q hq
      show (rd_B c n (k + 1) q T).1 = q
      rw [rd_B_f _ _ _ hq]
theorem rd_G_F (c : Nat → Nat) (n : Nat) : rd_G n (rd_F c n) := rd_G_c (f := fun q => rd_K c n 3 (rd_tk c n 0 255 q)) (g := fun q => (rd_B c n 141 q [(0, 0, 0)]).1) (rd_G_c (f := rd_tk c n 0 255) (g := rd_K c n 3) (rd_G_tk c n 0 255) (rd_G_K c n 3)) (rd_G_B c n 141 [(0, 0, 0)])
end
end
section
/-! 07: the class's reading: the parts of a module -/
def rd_J (c : Nat → Nat) (n : Nat) (q : Bool × Nat) : Bool × Nat := rd_n c n 0 255 2 q
def rd_g (c : Nat → Nat) (n : Nat) (q : Bool × Nat) : Bool × Nat := rd_C c n (if rd_tv c n 1 2 q = 1 then 5 else 10) (rd_tk c n 0 1 (rd_tk c n 1 2 q))
def rd_D (c : Nat → Nat) (n : Nat) (q : Bool × Nat) : Bool × Nat := rd_n c n 0 255 (rd_tv c n 0 8 (rd_tk c n 0 255 q)) (rd_tk c n 0 8 (rd_tk c n 0 255 q))
def rd_FPs (c : Nat → Nat) (n : Nat) : Nat → Bool × Nat → (Nat → Nat) → (Nat → Nat)
  | 0, _, P => P
  | k + 1, q, P => rd_FPs c n k (rd_F c n q) (rd_FP c n q P)
theorem rd_G_J (c : Nat → Nat) (n : Nat) : rd_G n (rd_J c n) := rd_G_n c n 0 255 2
theorem rd_G_g (c : Nat → Nat) (n : Nat) : rd_G n (rd_g c n) :=
  rd_G_d (g := fun k => rd_C c n (if k = 1 then 5 else 10)) (rd_tv c n 1 2) (rd_G_c (f := rd_tk c n 1 2) (g := rd_tk c n 0 1) (rd_G_tk c n 1 2) (rd_G_tk c n 0 1)) (fun k => rd_G_C c n _ (by split <;> omega))
theorem rd_G_D (c : Nat → Nat) (n : Nat) : rd_G n (rd_D c n) :=
  rd_G_c (f := rd_tk c n 0 255) (g := fun q => rd_n c n 0 255 (rd_tv c n 0 8 q) (rd_tk c n 0 8 q)) (rd_G_tk c n 0 255) (rd_G_d (g := fun k => rd_n c n 0 255 k) (rd_tv c n 0 8) (rd_G_tk c n 0 8) (fun k => rd_G_n c n 0 255 k))
section
variable {u : SX} {c : Nat → Nat} {n p : Nat}
theorem xr_types_l {P A : Nat → Int32} {fc : Int32} {post : Int32 → SX → Prop} (C : cx_ok u c n) (N : Nat) (hN : N ≤ 4) : ∀ r i p m F, i + r = N → r < m → p ≤ n →
    (∀ F', xr_fr 52 56 F F' → (∀ j, 52 ≤ j → j < 52 + i → F' j = F j) → ((rd_it (rd_T c n) r (true, p)).1 = true → ∀ k, k < r → F' (52 + i + k) = nI (rd_it (rd_T c n) k (true, p)).2) →
      post (bb_i (rd_it (rd_T c n) r (true, p)).1) (xr u (nI (rd_it (rd_T c n) r (true, p)).2) fc F' P A)) →
    wX_readTypes_17 post (nI N) m (nI i) (gx_byteCount u) (gx_wrongPlace u) (nI p) fc (gx_kindCount u) (gx_valueCount u) (gx_activeCount u) (gx_goesOn u) (gx_outcome u) (gx_resultValue u) (gx_trapPlace u) (gx_fuelUsed u) (gx_firstWaiting u) (gx_waitingCount u) (gx_printCount u) (gx_code u) F P (gx_loaded u) (gx_globals u) (gx_memories u) A (gx_frameHeight u) (gx_frameResult u) (gx_frameDead u) (gx_kinds u) (gx_values u) (gx_variables u) (gx_activeSlot u) (gx_activeGives u) (gx_activeFrame u) (gx_activeResume u) (gx_waiting u) (gx_prints u) := by
  intro r
  induction r with
  | zero =>
    intro i p m F hi hm hp h
    obtain ⟨m, rfl⟩ : ∃ j, m = j + 1 := ⟨m - 1, by omega⟩
    exact pk_le N i (fun _ => br_f (nI_pos (by omega)) (h F xr_fr_r (fun _ _ _ => rfl) (fun _ k hk => absurd hk (by omega)))) (fun z => absurd z (by omega))
  | succ r ih =>
    intro i p m F hi hm hp h
    obtain ⟨m, rfl⟩ : ∃ j, m = j + 1 := ⟨m - 1, by omega⟩
    have h140 := C.2.1
    refine pk_le N i (fun z => absurd z (by omega)) (fun _ => ?_)
    have e : (52 : Int32) + nI i = nI (52 + i) := nI_add 52 i
    refine ⟨pk_in (52 + i) 66 (by omega) e, nm_r (show _ = upd F (52 + i) (nI p) from by rw [pk_cl (52 + i) e]) ?_⟩
    have hfr : xr_fr 52 56 F (upd F (52 + i) (nI p)) := xr_fr_u (by omega)
    have hlow : ∀ j, 52 ≤ j → j < 52 + i → upd F (52 + i) (nI p) j = F j := fun j _ hj => pk_un (by omega)
    have g3 := (rd_G_K c n 3).1 (true, p) hp
    have g1 := (rd_G_K c n 1).1 _ g3.2
    rw [rd_it] at h
    refine xr_kinds C 3 (by omega) hp (bb_br (fun z => ?_) (fun z => ?_))
    · have e2 : rd_T c n (true, p) = rd_K c n 3 (true, p) := (rd_G_K c n 1).2 _ z
      rw [e2, (rd_G_it (rd_G_T c n) r).2 _ z, bb_0 z] at h
      exact h _ hfr hlow (fun y => absurd (z.symm.trans y) (by decide))
    · have e3 : rd_K c n 3 (true, p) = (true, (rd_K c n 3 (true, p)).2) := tt_eq z
      have e2 : rd_T c n (true, p) = rd_K c n 1 (true, (rd_K c n 3 (true, p)).2) := by rw [rd_T, ← e3]
      refine xr_kinds C 1 (by omega) g3.2 (bb_br (fun z2 => ?_) (fun z2 => nm_r (nI_1 i) ?_))
      · rw [e2, (rd_G_it (rd_G_T c n) r).2 _ z2, bb_0 z2] at h
        exact h _ hfr hlow (fun y => absurd (z2.symm.trans y) (by decide))
      · have e4 : rd_T c n (true, p) = (true, (rd_T c n (true, p)).2) := tt_eq (by rw [e2]; exact z2)
        rw [← e2]
        rw [e3] at g1
        rw [← e2] at g1
        refine ih (i + 1) _ m _ (by omega) (by omega) g1.2 (fun F' f1 f2 f3 => ?_)
        rw [← e4] at f3 ⊢
        refine h F' (xr_fr_t hfr f1) (fun j a b => (f2 j a (by omega)).trans (hlow j a b)) (fun y k hk => ?_)
        cases k with
        | zero =>
          rw [Nat.add_zero, f2 _ (by omega) (by omega), pk_us]; rfl
        | succ k =>
          have := f3 y k (by omega)
          rw [show 52 + i + (k + 1) = 52 + (i + 1) + k by omega]
          exact this
theorem xr_types {F P A : Nat → Int32} {fc : Int32} {post : Int32 → SX → Prop} (C : cx_ok u c n) (hp : p ≤ n)
    (h : ∀ F', (∀ j, j ≠ 44 → ¬ (52 ≤ j ∧ j < 56) → F' j = F j) → ((rd_it (rd_T c n) (rd_tv c n 0 4 (true, p)) (rd_tk c n 0 4 (true, p))).1 = true → F' 44 = nI (rd_tv c n 0 4 (true, p)) ∧ ∀ k, k < rd_tv c n 0 4 (true, p) → F' (52 + k) = nI (rd_it (rd_T c n) k (rd_tk c n 0 4 (true, p))).2) →
      post (bb_i (rd_it (rd_T c n) (rd_tv c n 0 4 (true, p)) (rd_tk c n 0 4 (true, p))).1) (xr u (nI (rd_it (rd_T c n) (rd_tv c n 0 4 (true, p)) (rd_tk c n 0 4 (true, p))).2) fc F' P A)) : wpX_readTypes post (xr u (nI p) fc F P A) := by
  unfold wpX_readTypes
  refine xr_byte C 0 4 (by omega) (by omega) hp (fun h1 h2 h3 => ?_) (fun hf => ?_)
  · refine nm_e ?_
    rw [rd_tk_t h1 h2 h3, rd_tv_t h1 h2 h3] at h
    refine ⟨c p + 1, xr_types_l C (c p) h3 (c p) 0 (p + 1) (c p + 1) _ (by omega) (by omega) (by omega) (fun F' f1 f2 f3 => ?_)⟩
    refine h F' (fun j a b => (f1 j b).trans (pk_un a)) (fun y => ⟨?_, fun k hk => ?_⟩)
    · rw [f1 44 (by omega), pk_us]
    · have := f3 y k hk
      rw [Nat.add_zero] at this
      exact this
  · refine nm_e ?_
    rw [rd_tk_n hf, rd_tv_n hf] at h
    exact ⟨1, br_t (by decide) (br_t (by decide) (h _ (fun j a _ => pk_un a) (fun y => ff_t y)))⟩
theorem xr_imports_l {P A : Nat → Int32} {fc : Int32} {post : Int32 → SX → Prop} (C : cx_ok u c n) (N : Nat) (hN : N ≤ 3) : ∀ r i p m F, i + r = N → r < m → p ≤ n →
    (∀ F', xr_fr 56 63 F F' → (∀ j, 56 ≤ j → j < 56 + i → F' j = F j) → ((rd_it (rd_J c n) r (true, p)).1 = true → ∀ k, k < r → F' (56 + i + k) = nI (rd_it (rd_J c n) k (true, p)).2) →
      post (bb_i (rd_it (rd_J c n) r (true, p)).1) (xr u (nI (rd_it (rd_J c n) r (true, p)).2) fc F' P A)) →
    wX_readImports_17 post (nI N) m (nI i) (gx_byteCount u) (gx_wrongPlace u) (nI p) fc (gx_kindCount u) (gx_valueCount u) (gx_activeCount u) (gx_goesOn u) (gx_outcome u) (gx_resultValue u) (gx_trapPlace u) (gx_fuelUsed u) (gx_firstWaiting u) (gx_waitingCount u) (gx_printCount u) (gx_code u) F P (gx_loaded u) (gx_globals u) (gx_memories u) A (gx_frameHeight u) (gx_frameResult u) (gx_frameDead u) (gx_kinds u) (gx_values u) (gx_variables u) (gx_activeSlot u) (gx_activeGives u) (gx_activeFrame u) (gx_activeResume u) (gx_waiting u) (gx_prints u) := by
  intro r
  induction r with
  | zero =>
    intro i p m F hi hm hp h
    obtain ⟨m, rfl⟩ : ∃ j, m = j + 1 := ⟨m - 1, by omega⟩
    exact pk_le N i (fun _ => br_f (nI_pos (by omega)) (h F xr_fr_r (fun _ _ _ => rfl) (fun _ k hk => absurd hk (by omega)))) (fun z => absurd z (by omega))
  | succ r ih =>
    intro i p m F hi hm hp h
    obtain ⟨m, rfl⟩ : ∃ j, m = j + 1 := ⟨m - 1, by omega⟩
    have h140 := C.2.1
    refine pk_le N i (fun z => absurd z (by omega)) (fun _ => ?_)
    have e : (56 : Int32) + nI i = nI (56 + i) := nI_add 56 i
    refine ⟨pk_in (56 + i) 66 (by omega) e, nm_r (show _ = upd F (56 + i) (nI p) from by rw [pk_cl (56 + i) e]) ?_⟩
    have hfr : xr_fr 56 63 F (upd F (56 + i) (nI p)) := xr_fr_u (by omega)
    have hlow : ∀ j, 56 ≤ j → j < 56 + i → upd F (56 + i) (nI p) j = F j := fun j _ hj => pk_un (by omega)
    have g3 := (rd_G_J c n).1 (true, p) hp
    rw [rd_it] at h
    refine xr_any C 2 (by omega) hp ?_
    rw [show rd_n c n 0 255 2 (true, p) = rd_J c n (true, p) from rfl]
    refine bb_br (fun z => ?_) (fun z => nm_r (nI_1 i) ?_)
    · rw [(rd_G_it (rd_G_J c n) r).2 _ z, bb_0 z] at h
      exact h _ hfr hlow (fun y => absurd (z.symm.trans y) (by decide))
    · have e4 : rd_J c n (true, p) = (true, (rd_J c n (true, p)).2) := tt_eq z
      refine ih (i + 1) _ m _ (by omega) (by omega) g3.2 (fun F' f1 f2 f3 => ?_)
      rw [← e4] at f3 ⊢
      refine h F' (xr_fr_t hfr f1) (fun j a b => (f2 j a (by omega)).trans (hlow j a b)) (fun y k hk => ?_)
      cases k with
      | zero =>
        rw [Nat.add_zero, f2 _ (by omega) (by omega), pk_us]; rfl
      | succ k =>
        have := f3 y k (by omega)
        rw [show 56 + i + (k + 1) = 56 + (i + 1) + k by omega]
        exact this
theorem xr_imports {F P A : Nat → Int32} {fc : Int32} {post : Int32 → SX → Prop} (C : cx_ok u c n) (hp : p ≤ n)
    (h : ∀ F', (∀ j, j ≠ 45 → ¬ (56 ≤ j ∧ j < 63) → F' j = F j) → ((rd_it (rd_J c n) (rd_tv c n 0 3 (true, p)) (rd_tk c n 0 3 (true, p))).1 = true → F' 45 = nI (rd_tv c n 0 3 (true, p)) ∧ ∀ k, k < rd_tv c n 0 3 (true, p) → F' (56 + k) = nI (rd_it (rd_J c n) k (rd_tk c n 0 3 (true, p))).2) →
      post (bb_i (rd_it (rd_J c n) (rd_tv c n 0 3 (true, p)) (rd_tk c n 0 3 (true, p))).1) (xr u (nI (rd_it (rd_J c n) (rd_tv c n 0 3 (true, p)) (rd_tk c n 0 3 (true, p))).2) fc F' P A)) : wpX_readImports post (xr u (nI p) fc F P A) := by
  unfold wpX_readImports
  refine xr_byte C 0 3 (by omega) (by omega) hp (fun h1 h2 h3 => ?_) (fun hf => ?_)
  · refine nm_e ?_
    rw [rd_tk_t h1 h2 h3, rd_tv_t h1 h2 h3] at h
    refine ⟨c p + 1, xr_imports_l C (c p) h3 (c p) 0 (p + 1) (c p + 1) _ (by omega) (by omega) (by omega) (fun F' f1 f2 f3 => ?_)⟩
    refine h F' (fun j a b => (f1 j b).trans (pk_un a)) (fun y => ⟨?_, fun k hk => ?_⟩)
    · rw [f1 45 (by omega), pk_us]
    · have := f3 y k hk
      rw [Nat.add_zero] at this
      exact this
  · refine nm_e ?_
    rw [rd_tk_n hf, rd_tv_n hf] at h
    exact ⟨1, br_t (by decide) (br_t (by decide) (h _ (fun j a _ => pk_un a) (fun y => ff_t y)))⟩
theorem xr_globals_l {P A : Nat → Int32} {fc : Int32} {post : Int32 → SX → Prop} (C : cx_ok u c n) (N : Nat) (hN : N ≤ 3) : ∀ r i p m F, i + r = N → r < m → p ≤ n →
    (∀ F', xr_fr 63 66 F F' → (∀ j, 63 ≤ j → j < 63 + i → F' j = F j) → ((rd_it (rd_g c n) r (true, p)).1 = true → ∀ k, k < r → F' (63 + i + k) = nI (rd_it (rd_g c n) k (true, p)).2) →
      post (bb_i (rd_it (rd_g c n) r (true, p)).1) (xr u (nI (rd_it (rd_g c n) r (true, p)).2) fc F' P A)) →
    wX_readGlobals_17 post (nI N) m (nI i) (gx_byteCount u) (gx_wrongPlace u) (nI p) fc (gx_kindCount u) (gx_valueCount u) (gx_activeCount u) (gx_goesOn u) (gx_outcome u) (gx_resultValue u) (gx_trapPlace u) (gx_fuelUsed u) (gx_firstWaiting u) (gx_waitingCount u) (gx_printCount u) (gx_code u) F P (gx_loaded u) (gx_globals u) (gx_memories u) A (gx_frameHeight u) (gx_frameResult u) (gx_frameDead u) (gx_kinds u) (gx_values u) (gx_variables u) (gx_activeSlot u) (gx_activeGives u) (gx_activeFrame u) (gx_activeResume u) (gx_waiting u) (gx_prints u) := by
  intro r
  induction r with
  | zero =>
    intro i p m F hi hm hp h
    obtain ⟨m, rfl⟩ : ∃ j, m = j + 1 := ⟨m - 1, by omega⟩
    exact pk_le N i (fun _ => br_f (nI_pos (by omega)) (h F xr_fr_r (fun _ _ _ => rfl) (fun _ k hk => absurd hk (by omega)))) (fun z => absurd z (by omega))
  | succ r ih =>
    intro i p m F hi hm hp h
    obtain ⟨m, rfl⟩ : ∃ j, m = j + 1 := ⟨m - 1, by omega⟩
    have h140 := C.2.1
    have h256 := C.2.2.2.1
    refine pk_le N i (fun z => absurd z (by omega)) (fun _ => ?_)
    have e : (63 : Int32) + nI i = nI (63 + i) := nI_add 63 i
    refine ⟨pk_in (63 + i) 66 (by omega) e, nm_r (show _ = upd F (63 + i) (nI p) from by rw [pk_cl (63 + i) e]) ?_⟩
    have hfr : xr_fr 63 66 F (upd F (63 + i) (nI p)) := xr_fr_u (by omega)
    have hlow : ∀ j, 63 ≤ j → j < 63 + i → upd F (63 + i) (nI p) j = F j := fun j _ hj => pk_un (by omega)
    have gg := (rd_G_g c n).1 (true, p) hp
    have hbad : ∀ q, rd_g c n (true, p) = q → q.1 = false → post 0 (xr u (nI q.2) fc (upd F (63 + i) (nI p)) P A) := by
      intro q e1 e2
      have := h _ hfr hlow
      rw [rd_it, e1, (rd_G_it (rd_G_g c n) r).2 _ e2, bb_0 e2] at this
      exact this (fun y => absurd (e2.symm.trans y) (by decide))
    rw [rd_it] at h
    refine xr_byte C 1 2 (by omega) (by omega) hp (fun a1 a2 a3 => ?_) (fun af => ?_)
    · refine br_f (nI_pos (by omega)) ?_
      refine xr_byte C 0 1 (by omega) (by omega) (by omega) (fun b1 b2 b3 => ?_) (fun bf => ?_)
      · refine br_f (nI_pos (by have := h256 (p + 1); omega)) ?_
        have e2 : rd_g c n (true, p) = rd_C c n (if c p = 1 then 5 else 10) (true, p + 2) := by rw [rd_g, rd_tv_t a1 a2 a3, rd_tk_t a1 a2 a3, rd_tk_t b1 b2 b3]
        refine xr_const C (c p) (by have := h256 p; omega) (by omega) (bb_br (fun z => ?_) (fun z => nm_r (nI_1 i) ?_))
        · exact hbad _ e2 z
        · have e4 : rd_g c n (true, p) = (true, (rd_g c n (true, p)).2) := tt_eq (by rw [e2]; exact z)
          rw [← e2]
          refine ih (i + 1) _ m _ (by omega) (by omega) gg.2 (fun F' f1 f2 f3 => ?_)
          rw [← e4] at f3 ⊢
          refine h F' (xr_fr_t hfr f1) (fun j a b => (f2 j a (by omega)).trans (hlow j a b)) (fun y k hk => ?_)
          cases k with
          | zero =>
            rw [Nat.add_zero, f2 _ (by omega) (by omega), pk_us]; rfl
          | succ k =>
            have := f3 y k (by omega)
            rw [show 63 + i + (k + 1) = 63 + (i + 1) + k by omega]
            exact this
      · refine br_t (by decide) (hbad (false, p + 1) ?_ rfl)
        rw [rd_g, rd_tk_t a1 a2 a3, rd_tk_n bf]
        exact (rd_G_C c n _ (by split <;> omega)).2 _ rfl
    · refine br_t (by decide) (hbad (false, p) ?_ rfl)
      rw [rd_g, rd_tk_n af, rd_tk_f rfl]
      exact (rd_G_C c n _ (by split <;> omega)).2 _ rfl
theorem xr_globals {F P A : Nat → Int32} {fc : Int32} {post : Int32 → SX → Prop} (C : cx_ok u c n) (hp : p ≤ n)
    (h : ∀ F', (∀ j, j ≠ 47 → ¬ (63 ≤ j ∧ j < 66) → F' j = F j) → ((rd_it (rd_g c n) (rd_tv c n 0 3 (true, p)) (rd_tk c n 0 3 (true, p))).1 = true → F' 47 = nI (rd_tv c n 0 3 (true, p)) ∧ ∀ k, k < rd_tv c n 0 3 (true, p) → F' (63 + k) = nI (rd_it (rd_g c n) k (rd_tk c n 0 3 (true, p))).2) →
      post (bb_i (rd_it (rd_g c n) (rd_tv c n 0 3 (true, p)) (rd_tk c n 0 3 (true, p))).1) (xr u (nI (rd_it (rd_g c n) (rd_tv c n 0 3 (true, p)) (rd_tk c n 0 3 (true, p))).2) fc F' P A)) : wpX_readGlobals post (xr u (nI p) fc F P A) := by
  unfold wpX_readGlobals
  refine xr_byte C 0 3 (by omega) (by omega) hp (fun h1 h2 h3 => ?_) (fun hf => ?_)
  · refine nm_e ?_
    rw [rd_tk_t h1 h2 h3, rd_tv_t h1 h2 h3] at h
    refine ⟨c p + 1, xr_globals_l C (c p) h3 (c p) 0 (p + 1) (c p + 1) _ (by omega) (by omega) (by omega) (fun F' f1 f2 f3 => ?_)⟩
    refine h F' (fun j a b => (f1 j b).trans (pk_un a)) (fun y => ⟨?_, fun k hk => ?_⟩)
    · rw [f1 47 (by omega), pk_us]
    · have := f3 y k hk
      rw [Nat.add_zero] at this
      exact this
  · refine nm_e ?_
    rw [rd_tk_n hf, rd_tv_n hf] at h
    exact ⟨1, br_t (by decide) (br_t (by decide) (h _ (fun j a _ => pk_un a) (fun y => ff_t y)))⟩
end
end
section
/-! 08: the class's reading: functions, entries, memory -/
section
variable {u : SX} {c : Nat → Nat} {n p : Nat}
theorem xr_functions_l {post : Int32 → SX → Prop} (C : cx_ok u c n) (N I : Nat) (hN : N ≤ 4) (hI : I ≤ 3) : ∀ r i p m (F Pa A : Nat → Int32) (fc : Int32) (P : Nat → Nat), i + r = N → r < m → p ≤ n → 0 < p → xr_Pa Pa P →
    (∀ F' Pa' A' fc', xr_fr (56 + I) (63) F F' → (∀ j, j < 56 + I + i → F' j = F j) → xr_fr 280 420 Pa Pa' →
      ((rd_it (rd_F c n) r (true, p)).1 = true → xr_Pa Pa' (rd_FPs c n r (true, p) P) ∧ ∀ k, k < r → F' (56 + I + i + k) = nI (rd_it (rd_F c n) k (true, p)).2) →
      post (bb_i (rd_it (rd_F c n) r (true, p)).1) (xr u (nI (rd_it (rd_F c n) r (true, p)).2) fc' F' Pa' A')) →
    wX_readFunctions_26 post (nI N) (nI I) m (nI i) (gx_byteCount u) (gx_wrongPlace u) (nI p) fc (gx_kindCount u) (gx_valueCount u) (gx_activeCount u) (gx_goesOn u) (gx_outcome u) (gx_resultValue u) (gx_trapPlace u) (gx_fuelUsed u) (gx_firstWaiting u) (gx_waitingCount u) (gx_printCount u) (gx_code u) F Pa (gx_loaded u) (gx_globals u) (gx_memories u) A (gx_frameHeight u) (gx_frameResult u) (gx_frameDead u) (gx_kinds u) (gx_values u) (gx_variables u) (gx_activeSlot u) (gx_activeGives u) (gx_activeFrame u) (gx_activeResume u) (gx_waiting u) (gx_prints u) := by
  intro r
  induction r with
  | zero =>
    intro i p m F Pa A fc P hi hm hp h0 hP h
    obtain ⟨m, rfl⟩ : ∃ j, m = j + 1 := ⟨m - 1, by omega⟩
    exact pk_le N i (fun _ => br_f (nI_pos (by omega)) (h F Pa A fc xr_fr_r (fun _ _ => rfl) xr_fr_r (fun _ => ⟨hP, fun k hk => absurd hk (by omega)⟩))) (fun z => absurd z (by omega))
  | succ r ih =>
    intro i p m F Pa A fc P hi hm hp h0 hP h
    obtain ⟨m, rfl⟩ : ∃ j, m = j + 1 := ⟨m - 1, by omega⟩
    have h140 := C.2.1
    refine pk_le N i (fun z => absurd z (by omega)) (fun _ => ?_)
    have e : ((56 : Int32) + nI I) + nI i = nI (56 + I + i) := by rw [show (56 : Int32) + nI I = nI (56 + I) from nI_add 56 I, nI_add]
    refine ⟨pk_in (56 + I + i) 66 (by omega) e, nm_r (show _ = upd F (56 + I + i) (nI p) from by rw [pk_cl (56 + I + i) e]) ?_⟩
    have hfr : xr_fr (56 + I) 63 F (upd F (56 + I + i) (nI p)) := xr_fr_u (by omega)
    have hlow : ∀ j, j < 56 + I + i → upd F (56 + I + i) (nI p) j = F j := fun j hj => pk_un (by omega)
    have ga := (rd_G_tk c n 0 255).1 (true, p) hp
    have gk := (rd_G_K c n 3).1 _ ga.2
    have gF := (rd_G_F c n).1 (true, p) hp
    have hbad : ∀ q, rd_F c n (true, p) = q → q.1 = false → ∀ Pa' A' fc', xr_fr 280 420 Pa Pa' → post 0 (xr u (nI q.2) fc' (upd F (56 + I + i) (nI p)) Pa' A') := by
      intro q e1 e2 Pa' A' fc' g
      have := h _ Pa' A' fc' hfr hlow g
      rw [rd_it, e1, (rd_G_it (rd_G_F c n) r).2 _ e2, bb_0 e2] at this
      exact this (fun y => absurd (e2.symm.trans y) (by decide))
    rw [rd_it] at h
    refine xr_any C 1 (by omega) hp ?_
    rw [show rd_n c n 0 255 1 (true, p) = rd_tk c n 0 255 (true, p) from rfl]
    refine bb_br (fun z => ?_) (fun z => ?_)
    · refine hbad _ ?_ z Pa A fc xr_fr_r
      rw [rd_F, (rd_G_K c n 3).2 _ z, rd_B_f _ _ _ z]
    · have e3 : rd_tk c n 0 255 (true, p) = (true, (rd_tk c n 0 255 (true, p)).2) := tt_eq z
      refine xr_kinds C 3 (by omega) ga.2 ?_
      rw [← e3]
      refine bb_br (fun z2 => ?_) (fun z2 => ?_)
      · refine hbad _ ?_ z2 Pa A fc xr_fr_r
        rw [rd_F, rd_B_f _ _ _ z2]
      · have e4 : rd_K c n 3 (rd_tk c n 0 255 (true, p)) = (true, (rd_K c n 3 (rd_tk c n 0 255 (true, p))).2) := tt_eq z2
        refine xr_body C (by omega) gk.2 hP (fun Pa' A' fc' g1 g2 => ?_)
        rw [← e4] at g2 ⊢
        refine bb_br (fun z3 => ?_) (fun z3 => nm_r (nI_1 i) ?_)
        · exact hbad _ rfl z3 Pa' A' fc' g1
        · have e5 : rd_F c n (true, p) = (true, (rd_F c n (true, p)).2) := tt_eq z3
          refine ih (i + 1) (rd_F c n (true, p)).2 m _ Pa' A' fc' (rd_FP c n (true, p) P) (by omega) (by omega) gF.2 (by omega) (g2 z3) (fun F' Pa'' A'' fc'' f1 f2 f3 f4 => ?_)
          rw [← e5] at f4 ⊢
          refine h F' Pa'' A'' fc'' (xr_fr_t hfr f1) (fun j a => (f2 j (by omega)).trans (hlow j a)) (xr_fr_t g1 f3) (fun y => ?_)
          obtain ⟨y1, y2⟩ := f4 y
          refine ⟨?_, fun k hk => ?_⟩
          · rw [rd_FPs]; exact y1
          · cases k with
            | zero =>
              rw [Nat.add_zero, f2 _ (by omega), pk_us]; rfl
            | succ k =>
              have := y2 k (by omega)
              rw [show 56 + I + i + (k + 1) = 56 + I + (i + 1) + k by omega]
              exact this
theorem xr_functions {F Pa A : Nat → Int32} {fc : Int32} {P : Nat → Nat} {post : Int32 → SX → Prop} (C : cx_ok u c n) (hp : p ≤ n) (h0 : 0 < p) (hP : xr_Pa Pa P) (I : Nat) (hI : I ≤ 3) (h45 : F 45 = nI I)
    (h : ∀ F' Pa' A' fc', (∀ j, j ≠ 46 → ¬ (56 + I ≤ j ∧ j < 63) → F' j = F j) → xr_fr 280 420 Pa Pa' →
      ((rd_it (rd_F c n) (rd_tv c n 0 4 (true, p)) (rd_tk c n 0 4 (true, p))).1 = true → F' 46 = nI (I + rd_tv c n 0 4 (true, p)) ∧ xr_Pa Pa' (rd_FPs c n (rd_tv c n 0 4 (true, p)) (rd_tk c n 0 4 (true, p)) P) ∧ ∀ k, k < rd_tv c n 0 4 (true, p) → F' (56 + I + k) = nI (rd_it (rd_F c n) k (rd_tk c n 0 4 (true, p))).2) →
      post (bb_i (rd_it (rd_F c n) (rd_tv c n 0 4 (true, p)) (rd_tk c n 0 4 (true, p))).1) (xr u (nI (rd_it (rd_F c n) (rd_tv c n 0 4 (true, p)) (rd_tk c n 0 4 (true, p))).2) fc' F' Pa' A')) : wpX_readFunctions post (xr u (nI p) fc F Pa A) := by
  unfold wpX_readFunctions
  refine xr_byte C 0 4 (by omega) (by omega) hp (fun h1 h2 h3 => ?_) (fun hf => ?_)
  · refine xx_fact (m := 2) (w := 1) (z := nI I) h45 (by omega) (by omega) (nm_r (show _ = upd F 46 (nI (I + c p)) from by rw [nI_add]) ?_)
    rw [rd_tk_t h1 h2 h3, rd_tv_t h1 h2 h3] at h
    refine ⟨c p + 1, xr_functions_l C (c p) I h3 hI (c p) 0 (p + 1) (c p + 1) _ Pa A fc P (by omega) (by omega) (by omega) (by omega) hP (fun F' Pa' A' fc' f1 f2 f3 f4 => ?_)⟩
    refine h F' Pa' A' fc' (fun j a b => (f1 j b).trans (pk_un a)) f3 (fun y => ?_)
    obtain ⟨y1, y2⟩ := f4 y
    refine ⟨?_, y1, fun k hk => ?_⟩
    · rw [f2 46 (by omega), pk_us]
    · have := y2 k hk
      rw [Nat.add_zero] at this
      exact this
  · refine xx_fact (m := 2) (w := 1) (z := nI I) h45 (by omega) (by omega) (nm_e ?_)
    rw [rd_tk_n hf, rd_tv_n hf] at h
    exact ⟨1, br_t (by decide) (br_t (by decide) (h _ Pa A fc (fun j a _ => pk_un a) xr_fr_r (fun y => ff_t y)))⟩
theorem xr_entries {F Pa A : Nat → Int32} {fc : Int32} {post : Int32 → SX → Prop} (C : cx_ok u c n) (hp : p ≤ n)
    (h : ∀ F', (∀ j, j ≠ 48 → j ≠ 50 → F' j = F j) → ((rd_n c n 0 255 (rd_tv c n 0 5 (true, p)) (rd_tk c n 0 5 (true, p))).1 = true → F' 48 = nI (rd_tv c n 0 5 (true, p)) ∧ F' 50 = nI (rd_tk c n 0 5 (true, p)).2) →
      post (bb_i (rd_n c n 0 255 (rd_tv c n 0 5 (true, p)) (rd_tk c n 0 5 (true, p))).1) (xr u (nI (rd_n c n 0 255 (rd_tv c n 0 5 (true, p)) (rd_tk c n 0 5 (true, p))).2) fc F' Pa A)) : wpX_readEntries post (xr u (nI p) fc F Pa A) := by
  unfold wpX_readEntries
  refine xr_byte C 0 5 (by omega) (by omega) hp (fun h1 h2 h3 => ?_) (fun hf => ?_)
  · refine nm_e (nm_e ?_)
    rw [rd_tk_t h1 h2 h3, rd_tv_t h1 h2 h3] at h
    refine br_f (nI_pos (by omega)) ?_
    have h' := h (upd (upd F 48 (nI (c p))) 50 (nI (p + 1))) (fun j a b => by rw [pk_un b, pk_un a]) (fun _ => ⟨by rw [pk_un (by omega), pk_us], pk_us⟩)
    refine xr_any C (c p) (by omega) (by omega) (bb_br (fun z => ?_) (fun z => ?_))
    · rw [bb_0 z] at h'; exact h'
    · rw [bb_1 z] at h'; exact h'
  · refine nm_e (nm_e ?_)
    rw [rd_tk_n hf, rd_tv_n hf] at h
    exact br_t (by decide) (h _ (fun j a b => by rw [pk_un b, pk_un a]) (fun y => ff_t y))
theorem xr_memory_l {F Pa A : Nat → Int32} {fc : Int32} {post : Int32 → SX → Prop} (C : cx_ok u c n) (N : Nat) (hN : N ≤ 2) : ∀ r i p m, i + r = N → r < m → p ≤ n →
    post (bb_i (rd_it (rd_D c n) r (true, p)).1) (xr u (nI (rd_it (rd_D c n) r (true, p)).2) fc F Pa A) →
    wX_readMemory_49 post (nI N) m (nI i) (gx_byteCount u) (gx_wrongPlace u) (nI p) fc (gx_kindCount u) (gx_valueCount u) (gx_activeCount u) (gx_goesOn u) (gx_outcome u) (gx_resultValue u) (gx_trapPlace u) (gx_fuelUsed u) (gx_firstWaiting u) (gx_waitingCount u) (gx_printCount u) (gx_code u) F Pa (gx_loaded u) (gx_globals u) (gx_memories u) A (gx_frameHeight u) (gx_frameResult u) (gx_frameDead u) (gx_kinds u) (gx_values u) (gx_variables u) (gx_activeSlot u) (gx_activeGives u) (gx_activeFrame u) (gx_activeResume u) (gx_waiting u) (gx_prints u) := by
  intro r
  induction r with
  | zero =>
    intro i p m hi hm hp h
    obtain ⟨m, rfl⟩ : ∃ j, m = j + 1 := ⟨m - 1, by omega⟩
    exact pk_le N i (fun _ => br_f (nI_pos (by omega)) h) (fun z => absurd z (by omega))
  | succ r ih =>
    intro i p m hi hm hp h
    obtain ⟨m, rfl⟩ : ∃ j, m = j + 1 := ⟨m - 1, by omega⟩
    have gD := (rd_G_D c n).1 (true, p) hp
    refine pk_le N i (fun z => absurd z (by omega)) (fun _ => ?_)
    have hbad : ∀ q, rd_D c n (true, p) = q → q.1 = false → post 0 (xr u (nI q.2) fc F Pa A) := by
      intro q e1 e2
      rw [rd_it, e1, (rd_G_it (rd_G_D c n) r).2 _ e2, bb_0 e2] at h
      exact h
    rw [rd_it] at h
    refine xr_any C 1 (by omega) hp ?_
    rw [show rd_n c n 0 255 1 (true, p) = rd_tk c n 0 255 (true, p) from rfl]
    rcases rd_tk_or c n 0 255 (true, p) with ⟨e1, _, hpn, _⟩ | e1
    · dsimp only at hpn e1
      rw [e1]
      refine br_f bi_t ?_
      refine xr_byte (p := p + 1) C 0 8 (by omega) (by omega) (by omega) (fun h1 h2 h3 => ?_) (fun hf => ?_)
      · have e2 : rd_D c n (true, p) = rd_n c n 0 255 (c (p + 1)) (true, p + 1 + 1) := by rw [rd_D, e1, rd_tk_t h1 h2 h3, rd_tv_t h1 h2 h3]
        refine br_f (nI_pos (by omega)) (xr_any C (c (p + 1)) (by omega) (by omega) ?_)
        rw [← e2]
        refine bb_br (fun z => hbad _ rfl z) (fun z => nm_r (nI_1 i) ?_)
        have e4 : rd_D c n (true, p) = (true, (rd_D c n (true, p)).2) := tt_eq z
        refine ih (i + 1) _ m (by omega) (by omega) gD.2 ?_
        rw [← e4]
        exact h
      · refine br_t (by decide) (hbad (false, p + 1) ?_ rfl)
        rw [rd_D, e1, rd_tk_n hf, rd_tv_n hf]; rfl
    · dsimp only at e1
      rw [e1]
      refine br_t rfl (hbad (false, p) ?_ rfl)
      rw [rd_D, e1, rd_tk_f rfl, rd_tv_f rfl]; rfl
/-- the last part: a memory, or none -/
def rd_M (c : Nat → Nat) (n : Nat) (q : Bool × Nat) : Bool × Nat :=
  if rd_tv c n 0 1 q = 1 then rd_it (rd_D c n) (rd_tv c n 0 2 (rd_tk c n 0 1 q)) (rd_tk c n 0 2 (rd_tk c n 0 1 q)) else rd_tk c n 0 1 q
theorem xr_memory {F Pa A : Nat → Int32} {fc : Int32} {post : Int32 → SX → Prop} (C : cx_ok u c n) (hp : p ≤ n)
    (h : ∀ F', (∀ j, j ≠ 49 → j ≠ 51 → F' j = F j) → ((rd_M c n (true, p)).1 = true → F' 49 = nI (rd_tv c n 0 1 (true, p)) ∧ F' 51 = nI (rd_tk c n 0 1 (true, p)).2) →
      post (bb_i (rd_M c n (true, p)).1) (xr u (nI (rd_M c n (true, p)).2) fc F' Pa A)) : wpX_readMemory post (xr u (nI p) fc F Pa A) := by
  unfold wpX_readMemory
  refine xr_byte C 0 1 (by omega) (by omega) hp (fun h1 h2 h3 => ?_) (fun hf => ?_)
  · refine nm_e (nm_e ?_)
    rw [rd_M, rd_tk_t h1 h2 h3, rd_tv_t h1 h2 h3] at h
    have h' := h (upd (upd F 49 (nI (c p))) 51 (nI (p + 1))) (fun j a b => by rw [pk_un b, pk_un a]) (fun _ => ⟨by rw [pk_un (by omega), pk_us], pk_us⟩)
    refine pk_lt 0 (c p) (fun z => ?_) (fun z => ?_)
    · rw [if_pos (by omega)] at h'
      refine xr_byte C 0 2 (by omega) (by omega) (by omega) (fun b1 b2 b3 => ?_) (fun bf => ?_)
      · rw [rd_tk_t b1 b2 b3, rd_tv_t b1 b2 b3] at h'
        exact ⟨c (p + 1) + 1, xr_memory_l C (c (p + 1)) b3 (c (p + 1)) 0 (p + 1 + 1) (c (p + 1) + 1) (by omega) (by omega) (by omega) h'⟩
      · rw [rd_tk_n bf, rd_tv_n bf] at h'
        exact ⟨1, br_t (by decide) (br_t (by decide) h')⟩
    · rw [if_neg (by omega)] at h'
      rw [show c p = 0 by omega] at h' ⊢
      exact br_t rfl h'
  · refine nm_e (nm_e ?_)
    rw [rd_M, rd_tk_n hf, rd_tv_n hf, if_neg (by decide)] at h
    exact br_f (by decide) (br_f (by decide) (h _ (fun j a b => by rw [pk_un b, pk_un a]) (fun y => ff_t y)))
end
end
section
/-! 09: the reference's reading: types, rests of instructions, bodies -/
def sg_l (c : Nat → Nat) : Nat → Nat → Nat → Nat → Nat
  | 0, _, _, x => x
  | r + 1, i, p, x => sg_l c r (i + 1) (p + 1) (x + c p * 4 ^ (i + 1))
/-- the reference's number of the type that lies at p -/
def sg (c : Nat → Nat) (p : Nat) : Nat := sg_l c (c p) 0 (p + 1) (c p) + (if c (p + 1 + c p) = 0 then 0 else c (p + 1 + c p + 1) * 256)
theorem sg_or : ∀ i, i < 3 → ∀ x, x < 64 → ∀ b, b < 3 → x < 4 ^ (i + 1) → nI x ||| (nI b <<< ((2 + 2 * nI i) &&& 31)) = nI (x + b * 4 ^ (i + 1)) := by decide +kernel
theorem sg_or8 : ∀ x, x < 256 → ∀ b, b < 3 → nI x ||| (nI b <<< ((8 : Int32) &&& 31)) = nI (x + b * 256) := by decide +kernel
section
variable {y_count y_place y_m y_pos y_wrong y_least y_top y_frames y_invalid y_sp y_labels y_active y_fuel y_outcome y_trappedAt y_used y_waits y_printed : Int32} {y_constant y_result : Int64} {y_bytes y_there y_types y_typeSig y_imports y_functions y_sig y_what y_typeAt y_localsAt y_globals y_globalKind y_globalFree y_entries y_entriesAt y_hasMemory y_memory y_nest y_kinds y_shape y_gives y_height y_dead y_labelAt y_labelHeight y_labelGives y_callModule y_callFunction y_callBack y_callBase y_callLabels y_waiting y_prints : Nat → Int32} {y_globalValue y_stack : Nat → Int64}
variable {m : Nat} {c : Nat → Nat} {n p : Nat} {k : Int64}
theorem yr_type_l {post : Int32 → SY → Prop} (C : cy_ok y_count y_m y_bytes m c n) (P : Nat) (hP : P ≤ 3) : ∀ r i l (q : Bool × Nat) (x : Int32), i + r = P → r < l → q.2 ≤ n →
    (∀ s', ((rd_K c n 1 (rd_n c n 1 2 r q)).1 = true → ∀ xv, x = nI xv → xv < 4 ^ (i + 1) → s' = nI (sg_l c r i q.2 xv + (if c (q.2 + r) = 0 then 0 else c (q.2 + r + 1) * 256))) →
      post s' (y_count, y_place, y_m, nI (rd_K c n 1 (rd_n c n 1 2 r q)).2, bb_w (rd_K c n 1 (rd_n c n 1 2 r q)).1, k, y_least, y_top, y_frames, y_invalid, y_sp, y_labels, y_active, y_fuel, y_outcome, y_trappedAt, y_result, y_used, y_waits, y_printed, y_bytes, y_there, y_types, y_typeSig, y_imports, y_functions, y_sig, y_what, y_typeAt, y_localsAt, y_globals, y_globalKind, y_globalFree, y_globalValue, y_entries, y_entriesAt, y_hasMemory, y_memory, y_nest, y_kinds, y_shape, y_gives, y_height, y_dead, y_stack, y_labelAt, y_labelHeight, y_labelGives, y_callModule, y_callFunction, y_callBack, y_callBase, y_callLabels, y_waiting, y_prints)) →
    wY_takeType_11 post (nI P) l x (nI i) y_count y_place y_m (nI q.2) (bb_w q.1) k y_least y_top y_frames y_invalid y_sp y_labels y_active y_fuel y_outcome y_trappedAt y_result y_used y_waits y_printed y_bytes y_there y_types y_typeSig y_imports y_functions y_sig y_what y_typeAt y_localsAt y_globals y_globalKind y_globalFree y_globalValue y_entries y_entriesAt y_hasMemory y_memory y_nest y_kinds y_shape y_gives y_height y_dead y_stack y_labelAt y_labelHeight y_labelGives y_callModule y_callFunction y_callBack y_callBase y_callLabels y_waiting y_prints := by
  intro r
  induction r with
  | zero =>
    intro i l q x hi hl hq h
    obtain ⟨l, rfl⟩ : ∃ j, l = j + 1 := ⟨l - 1, by omega⟩
    rw [show rd_n c n 1 2 0 q = q from rfl] at h
    have g1 := (rd_G_tk c n 0 1).1 q hq
    refine pk_le P i (fun _ => ?_) (fun z => absurd z (by omega))
    refine yr_take C q hq 0 1 (by omega) (by omega) ?_
    have hv := (rd_tv_le (c := c) (n := n) (lo := 0) (hi := 1) (q := q) (by omega)).2
    refine pk_eq (rd_tv c n 0 1 q) 0 (fun z => ?_) (fun z => ?_)
    · rw [rd_K, z] at h
      refine h x (fun ok xv e _ => ?_)
      rcases rd_tk_or c n 0 1 q with ⟨e1, a1, a2, a3, a4⟩ | e1
      · have e2 : rd_tv c n 0 1 q = c q.2 := if_pos ⟨a1, a2, a3, a4⟩
        rw [Nat.add_zero, ← e2, z, if_pos rfl, e]; rfl
      · rw [show rd_n c n 1 2 0 (rd_tk c n 0 1 q) = rd_tk c n 0 1 q from rfl, e1] at ok
        exact ff_t ok
    · have z1 : rd_tv c n 0 1 q = 1 := by omega
      rw [rd_K, z1] at h
      refine yr_take C _ g1.2 1 2 (by omega) (by omega) ?_
      refine h _ (fun ok xv e hxv => ?_)
      have ok' : (rd_tk c n 1 2 (rd_tk c n 0 1 q)).1 = true := ok
      rcases rd_tk_or c n 1 2 (rd_tk c n 0 1 q) with ⟨e1, a1, a2, a3, a4⟩ | e1
      · rcases rd_tk_or c n 0 1 q with ⟨e2, b1, b2, b3, b4⟩ | e2
        · have e3 : rd_tv c n 0 1 q = c q.2 := if_pos ⟨b1, b2, b3, b4⟩
          have e4 : rd_tv c n 1 2 (rd_tk c n 0 1 q) = c (q.2 + 1) := by
            rw [e2] at a1 a2 a3 a4 ⊢
            exact if_pos ⟨a1, a2, a3, a4⟩
          rw [e2] at a3 a4
          dsimp only at a3 a4
          rw [e4, e, sg_or8 xv (Nat.lt_of_lt_of_le hxv (Nat.le_trans (Nat.pow_le_pow_right (by omega) (show i + 1 ≤ 4 by omega)) (by decide))) _ (by omega), if_neg (show ¬ c (q.2 + 0) = 0 by rw [Nat.add_zero]; omega)]; rfl
        · rw [e2] at a1; exact ff_t a1
      · rw [e1] at ok'; exact ff_t ok'
  | succ r ih =>
    intro i l q x hi hl hq h
    obtain ⟨l, rfl⟩ : ∃ j, l = j + 1 := ⟨l - 1, by omega⟩
    rw [rd_n] at h
    have g1 := (rd_G_tk c n 1 2).1 q hq
    refine pk_le P i (fun z => absurd z (by omega)) (fun _ => ?_)
    refine yr_take C q hq 1 2 (by omega) (by omega) (nm_e (nm_r (nI_1 i) ?_))
    refine ih (i + 1) l (rd_tk c n 1 2 q) _ (by omega) (by omega) g1.2 (fun s' hs => h s' (fun ok xv e hxv => ?_))
    have ok1 := rd_G_tr (rd_G_n c n 1 2 r) (rd_G_tr (rd_G_K c n 1) ok)
    rcases rd_tk_or c n 1 2 q with ⟨e1, a1, a2, a3, a4⟩ | e1
    · have e2 : rd_tv c n 1 2 q = c q.2 := if_pos ⟨a1, a2, a3, a4⟩
      have h4 : 4 ^ (i + 1 + 1) = 4 * 4 ^ (i + 1) := by rw [Nat.pow_succ]; omega
      have := hs ok (xv + c q.2 * 4 ^ (i + 1)) (by rw [e2, e, sg_or i (by omega) xv (Nat.lt_of_lt_of_le hxv (Nat.le_trans (Nat.pow_le_pow_right (by omega) (show i + 1 ≤ 3 by omega)) (by decide))) _ (by omega) hxv]) (by
        have : c q.2 * 4 ^ (i + 1) ≤ 2 * 4 ^ (i + 1) := Nat.mul_le_mul_right _ a4
        omega)
      rw [e1] at this
      dsimp only at this
      rw [this, show q.2 + 1 + r = q.2 + (r + 1) by omega]; rfl
    · rw [e1] at ok1; exact ff_t ok1
theorem yr_type {post : Int32 → SY → Prop} (C : cy_ok y_count y_m y_bytes m c n) (q : Bool × Nat) (hq : q.2 ≤ n)
    (h : ∀ s', ((rd_T c n q).1 = true → s' = nI (sg c q.2)) → post s' (y_count, y_place, y_m, nI (rd_T c n q).2, bb_w (rd_T c n q).1, k, y_least, y_top, y_frames, y_invalid, y_sp, y_labels, y_active, y_fuel, y_outcome, y_trappedAt, y_result, y_used, y_waits, y_printed, y_bytes, y_there, y_types, y_typeSig, y_imports, y_functions, y_sig, y_what, y_typeAt, y_localsAt, y_globals, y_globalKind, y_globalFree, y_globalValue, y_entries, y_entriesAt, y_hasMemory, y_memory, y_nest, y_kinds, y_shape, y_gives, y_height, y_dead, y_stack, y_labelAt, y_labelHeight, y_labelGives, y_callModule, y_callFunction, y_callBack, y_callBase, y_callLabels, y_waiting, y_prints)) : wpY_takeType post (y_count, y_place, y_m, nI q.2, bb_w q.1, k, y_least, y_top, y_frames, y_invalid, y_sp, y_labels, y_active, y_fuel, y_outcome, y_trappedAt, y_result, y_used, y_waits, y_printed, y_bytes, y_there, y_types, y_typeSig, y_imports, y_functions, y_sig, y_what, y_typeAt, y_localsAt, y_globals, y_globalKind, y_globalFree, y_globalValue, y_entries, y_entriesAt, y_hasMemory, y_memory, y_nest, y_kinds, y_shape, y_gives, y_height, y_dead, y_stack, y_labelAt, y_labelHeight, y_labelGives, y_callModule, y_callFunction, y_callBack, y_callBase, y_callLabels, y_waiting, y_prints) := by
  have g1 := (rd_G_tk c n 0 3).1 q hq
  have hv := (rd_tv_le (c := c) (n := n) (lo := 0) (hi := 3) (q := q) (by omega)).2
  unfold wpY_takeType
  refine yr_take C q hq 0 3 (by omega) (by omega) ?_
  refine ⟨rd_tv c n 0 3 q + 1, yr_type_l C (rd_tv c n 0 3 q) hv (rd_tv c n 0 3 q) 0 _ (rd_tk c n 0 3 q) _ (by omega) (by omega) g1.2 (fun s' hs => h s' (fun ok => ?_))⟩
  have ok1 := rd_G_tr (rd_G_n c n 1 2 _) (rd_G_tr (rd_G_K c n 1) ok)
  rcases rd_tk_or c n 0 3 q with ⟨e1, a1, a2, a3, a4⟩ | e1
  · have e2 : rd_tv c n 0 3 q = c q.2 := if_pos ⟨a1, a2, a3, a4⟩
    have := hs ok _ rfl (by rw [e2]; omega)
    rw [e1, e2] at this
    exact this
  · rw [e1] at ok1; exact ff_t ok1
theorem yr_n_l {post : SY → Prop} (C : cy_ok y_count y_m y_bytes m c n) (K : Nat) (hK : K ≤ 4) : ∀ r i l (q : Bool × Nat), i + r = K + 1 → r < l → q.2 ≤ n → post (y_count, y_place, y_m, nI (rd_n c n 0 255 r q).2, bb_w (rd_n c n 0 255 r q).1, k, y_least, y_top, y_frames, y_invalid, y_sp, y_labels, y_active, y_fuel, y_outcome, y_trappedAt, y_result, y_used, y_waits, y_printed, y_bytes, y_there, y_types, y_typeSig, y_imports, y_functions, y_sig, y_what, y_typeAt, y_localsAt, y_globals, y_globalKind, y_globalFree, y_globalValue, y_entries, y_entriesAt, y_hasMemory, y_memory, y_nest, y_kinds, y_shape, y_gives, y_height, y_dead, y_stack, y_labelAt, y_labelHeight, y_labelGives, y_callModule, y_callFunction, y_callBack, y_callBase, y_callLabels, y_waiting, y_prints) →
    wY_takeRest_35 post (nI K) l (nI i) y_count y_place y_m (nI q.2) (bb_w q.1) k y_least y_top y_frames y_invalid y_sp y_labels y_active y_fuel y_outcome y_trappedAt y_result y_used y_waits y_printed y_bytes y_there y_types y_typeSig y_imports y_functions y_sig y_what y_typeAt y_localsAt y_globals y_globalKind y_globalFree y_globalValue y_entries y_entriesAt y_hasMemory y_memory y_nest y_kinds y_shape y_gives y_height y_dead y_stack y_labelAt y_labelHeight y_labelGives y_callModule y_callFunction y_callBack y_callBase y_callLabels y_waiting y_prints := by
  intro r
  induction r with
  | zero =>
    intro i l q hi hl hq h
    obtain ⟨l, rfl⟩ : ∃ j, l = j + 1 := ⟨l - 1, by omega⟩
    exact pk_lt K i (fun _ => h) (fun z => absurd z (by omega))
  | succ r ih =>
    intro i l q hi hl hq h
    obtain ⟨l, rfl⟩ : ∃ j, l = j + 1 := ⟨l - 1, by omega⟩
    refine pk_lt K i (fun z => absurd z (by omega)) (fun _ => ?_)
    refine yr_take C q hq 0 255 (by omega) (by omega) (nm_r (nI_1 i) ?_)
    exact ih (i + 1) l _ (by omega) (by omega) ((rd_G_tk c n 0 255).1 q hq).2 h
theorem yr_rest {post : SY → Prop} (C : cy_ok y_count y_m y_bytes m c n) (op : Nat) (hop : op < 256) (q : Bool × Nat) (hq : q.2 ≤ n)
    (h : ∀ k', ((rd_R c n op q).1 = true → op = 20 ∨ op = 21 → k' = cv c (op - 19) 10 q.2 0 0) → (op ≠ 20 → op ≠ 21 → k' = k) → post (y_count, y_place, y_m, nI (rd_R c n op q).2, bb_w (rd_R c n op q).1, k', y_least, y_top, y_frames, y_invalid, y_sp, y_labels, y_active, y_fuel, y_outcome, y_trappedAt, y_result, y_used, y_waits, y_printed, y_bytes, y_there, y_types, y_typeSig, y_imports, y_functions, y_sig, y_what, y_typeAt, y_localsAt, y_globals, y_globalKind, y_globalFree, y_globalValue, y_entries, y_entriesAt, y_hasMemory, y_memory, y_nest, y_kinds, y_shape, y_gives, y_height, y_dead, y_stack, y_labelAt, y_labelHeight, y_labelGives, y_callModule, y_callFunction, y_callBack, y_callBase, y_callLabels, y_waiting, y_prints)) :
    wpY_takeRest post (y_count, y_place, y_m, nI q.2, bb_w q.1, k, y_least, y_top, y_frames, y_invalid, y_sp, y_labels, y_active, y_fuel, y_outcome, y_trappedAt, y_result, y_used, y_waits, y_printed, y_bytes, y_there, y_types, y_typeSig, y_imports, y_functions, y_sig, y_what, y_typeAt, y_localsAt, y_globals, y_globalKind, y_globalFree, y_globalValue, y_entries, y_entriesAt, y_hasMemory, y_memory, y_nest, y_kinds, y_shape, y_gives, y_height, y_dead, y_stack, y_labelAt, y_labelHeight, y_labelGives, y_callModule, y_callFunction, y_callBack, y_callBase, y_callLabels, y_waiting, y_prints) (nI op) := by
  have w129 : ¬ (2 ≤ op ∧ op ≤ 4) → op ≠ 9 → op ≠ 20 → op ≠ 21 → rd_ho op → wY_takeRest_129 post y_count y_place y_m (nI q.2) (bb_w q.1) k y_least y_top y_frames y_invalid y_sp y_labels y_active y_fuel y_outcome y_trappedAt y_result y_used y_waits y_printed y_bytes y_there y_types y_typeSig y_imports y_functions y_sig y_what y_typeAt y_localsAt y_globals y_globalKind y_globalFree y_globalValue y_entries y_entriesAt y_hasMemory y_memory y_nest y_kinds y_shape y_gives y_height y_dead y_stack y_labelAt y_labelHeight y_labelGives y_callModule y_callFunction y_callBack y_callBase y_callLabels y_waiting y_prints := by
    intro a1 a2 a3 a4 a5
    have h' := h k (fun _ z => absurd z (by omega)) (fun _ _ => rfl)
    rw [rd_R, if_neg a1, if_neg a2, if_neg a3, if_neg a4, if_pos a5] at h'
    exact yr_take C q hq 0 255 (by omega) (by omega) h'
  have wno : ¬ (2 ≤ op ∧ op ≤ 4) → op ≠ 9 → op ≠ 20 → op ≠ 21 → ¬ rd_ho op → post (y_count, y_place, y_m, nI q.2, bb_w q.1, k, y_least, y_top, y_frames, y_invalid, y_sp, y_labels, y_active, y_fuel, y_outcome, y_trappedAt, y_result, y_used, y_waits, y_printed, y_bytes, y_there, y_types, y_typeSig, y_imports, y_functions, y_sig, y_what, y_typeAt, y_localsAt, y_globals, y_globalKind, y_globalFree, y_globalValue, y_entries, y_entriesAt, y_hasMemory, y_memory, y_nest, y_kinds, y_shape, y_gives, y_height, y_dead, y_stack, y_labelAt, y_labelHeight, y_labelGives, y_callModule, y_callFunction, y_callBack, y_callBase, y_callLabels, y_waiting, y_prints) := by
    intro a1 a2 a3 a4 a5
    have h' := h k (fun _ z => absurd z (by omega)) (fun _ _ => rfl)
    rw [rd_R, if_neg a1, if_neg a2, if_neg a3, if_neg a4, if_neg a5] at h'
    exact h'
  have w117 : ¬ (2 ≤ op ∧ op ≤ 4) → op ≠ 9 → op ≠ 20 → op ≠ 21 → op ≠ 7 → op ≠ 8 → op ≠ 11 → op ≠ 12 → ¬ (15 ≤ op ∧ op ≤ 19) → wY_takeRest_117 post (nI op) y_count y_place y_m (nI q.2) (bb_w q.1) k y_least y_top y_frames y_invalid y_sp y_labels y_active y_fuel y_outcome y_trappedAt y_result y_used y_waits y_printed y_bytes y_there y_types y_typeSig y_imports y_functions y_sig y_what y_typeAt y_localsAt y_globals y_globalKind y_globalFree y_globalValue y_entries y_entriesAt y_hasMemory y_memory y_nest y_kinds y_shape y_gives y_height y_dead y_stack y_labelAt y_labelHeight y_labelGives y_callModule y_callFunction y_callBack y_callBase y_callLabels y_waiting y_prints := by
    intro a1 a2 a3 a4 a5 a6 a7 a8 a9
    exact pk_lt op 22 (fun b => wno a1 a2 a3 a4 (by omega)) (fun b => pk_lt 27 op (fun b2 => wno a1 a2 a3 a4 (by omega)) (fun b2 => w129 a1 a2 a3 a4 (by omega)))
  have w70 : ∀ kd, op = kd + 19 → kd = 1 ∨ kd = 2 → wY_takeRest_70 post (nI op) y_count y_place y_m (nI q.2) (bb_w q.1) k y_least y_top y_frames y_invalid y_sp y_labels y_active y_fuel y_outcome y_trappedAt y_result y_used y_waits y_printed y_bytes y_there y_types y_typeSig y_imports y_functions y_sig y_what y_typeAt y_localsAt y_globals y_globalKind y_globalFree y_globalValue y_entries y_entriesAt y_hasMemory y_memory y_nest y_kinds y_shape y_gives y_height y_dead y_stack y_labelAt y_labelHeight y_labelGives y_callModule y_callFunction y_callBack y_callBase y_callLabels y_waiting y_prints := by
    intro kd e hkd
    have e2 : nI op - 19 = nI kd := by rw [e]; exact (pk_sub (a := kd + 19) (b := 19) (by omega)).trans (by rw [Nat.add_sub_cancel])
    show wpY_takeConstant _ _ (nI op - 19)
    rw [e2]
    refine yr_const C kd (by omega) q hq (fun k' hk' => ?_)
    have h' := h k' (fun ok _ => ?_) (fun b1 b2 => absurd e (by omega))
    · rcases hkd with z | z
      · subst z
        rw [e, rd_R, if_neg (by omega), if_neg (by omega), if_pos rfl] at h'
        exact h'
      · subst z
        rw [e, rd_R, if_neg (by omega), if_neg (by omega), if_neg (by omega), if_pos rfl] at h'
        exact h'
    · rcases hkd with z | z
      · subst z
        rw [e, rd_R, if_neg (by omega), if_neg (by omega), if_pos rfl] at ok
        rw [e]; exact hk' ok
      · subst z
        rw [e, rd_R, if_neg (by omega), if_neg (by omega), if_neg (by omega), if_pos rfl] at ok
        rw [e]; exact hk' ok
  have w20 : ¬ (2 ≤ op ∧ op ≤ 4) → wY_takeRest_20 post (nI op) y_count y_place y_m (nI q.2) (bb_w q.1) k y_least y_top y_frames y_invalid y_sp y_labels y_active y_fuel y_outcome y_trappedAt y_result y_used y_waits y_printed y_bytes y_there y_types y_typeSig y_imports y_functions y_sig y_what y_typeAt y_localsAt y_globals y_globalKind y_globalFree y_globalValue y_entries y_entriesAt y_hasMemory y_memory y_nest y_kinds y_shape y_gives y_height y_dead y_stack y_labelAt y_labelHeight y_labelGives y_callModule y_callFunction y_callBack y_callBase y_callLabels y_waiting y_prints := by
    intro a1
    refine pk_eq op 9 (fun z => ?_) (fun b9 => pk_eq op 20 (fun z => w70 1 (by omega) (by omega)) (fun b20 => pk_eq op 21 (fun z => w70 2 (by omega) (by omega)) (fun b21 => pk_eq op 7 (fun z => w129 a1 b9 b20 b21 (by omega)) (fun b7 => pk_eq op 8 (fun z => w129 a1 b9 b20 b21 (by omega)) (fun b8 => pk_eq op 11 (fun z => w129 a1 b9 b20 b21 (by omega)) (fun b11 => pk_eq op 12 (fun z => w129 a1 b9 b20 b21 (by omega)) (fun b12 => pk_lt op 15 (fun z => w117 a1 b9 b20 b21 b7 b8 b11 b12 (by omega)) (fun b15 => pk_le op 19 (fun z => w129 a1 b9 b20 b21 (by omega)) (fun b19 => w117 a1 b9 b20 b21 b7 b8 b11 b12 (by omega))))))))))
    have h' := h k (fun _ z => absurd z (by omega)) (fun _ _ => rfl)
    rw [rd_R, if_neg a1, if_pos z] at h'
    have hv := (rd_tv_le (c := c) (n := n) (lo := 0) (hi := 4) (q := q) (by omega)).2
    refine yr_take C q hq 0 4 (by omega) (by omega) ⟨rd_tv c n 0 4 q + 2, ?_⟩
    exact yr_n_l C _ hv (rd_tv c n 0 4 q + 1) 0 _ _ (by omega) (by omega) ((rd_G_tk c n 0 4).1 q hq).2 h'
  refine pk_lt op 2 (fun b => w20 (by omega)) (fun b => pk_lt 4 op (fun b2 => w20 (by omega)) (fun b2 => ?_))
  have h' := h k (fun _ z => absurd z (by omega)) (fun _ _ => rfl)
  rw [rd_R, if_pos (by omega)] at h'
  exact yr_take C q hq 0 2 (by omega) (by omega) h'
end
/-- the reference's stack of what is open -/
def yr_N (N : Nat → Int32) : List (Nat × Nat × Nat) → Prop
  | [] => True
  | (cd, _, _) :: T => N T.length = nI cd ∧ cd < 6 ∧ yr_N N T
theorem yr_N_ext {A A' : Nat → Int32} : ∀ T : List (Nat × Nat × Nat), yr_N A T → (∀ j, j < T.length → A' j = A j) → yr_N A' T := by
  intro T
  induction T with
  | nil => intro _ _; trivial
  | cons x T ih =>
    intro h e
    obtain ⟨cd, o, el⟩ := x
    obtain ⟨h1, h2, h3⟩ := h
    refine ⟨?_, h2, ih h3 (fun j hj => e j (by simp only [List.length_cons]; omega))⟩
    rw [e _ (by simp only [List.length_cons]; omega)]
    exact h1
section
variable {y_count y_place y_m y_pos y_wrong y_least y_top y_frames y_invalid y_sp y_labels y_active y_fuel y_outcome y_trappedAt y_used y_waits y_printed : Int32} {y_constant y_result : Int64} {y_bytes y_there y_types y_typeSig y_imports y_functions y_sig y_what y_typeAt y_localsAt y_globals y_globalKind y_globalFree y_entries y_entriesAt y_hasMemory y_memory y_nest y_kinds y_shape y_gives y_height y_dead y_labelAt y_labelHeight y_labelGives y_callModule y_callFunction y_callBack y_callBase y_callLabels y_waiting y_prints : Nat → Int32} {y_globalValue y_stack : Nat → Int64}
variable {m : Nat} {c : Nat → Nat} {n p : Nat}
theorem yr_body_l {post : SY → Prop} (C : cy_ok y_count y_m y_bytes m c n) : ∀ r l kf (q : Bool × Nat) T (N : Nat → Int32) (k : Int64), n - q.2 < r → r ≤ kf → r < l → q.2 ≤ n → 2 * T.length ≤ q.2 + 3 → (q.1 = true → 2 * T.length ≤ q.2 + 2) → yr_N N T →
    (∀ N' k', post (y_count, y_place, y_m, nI (rd_B c n kf q T).1.2, bb_w (rd_B c n kf q T).1.1, k', y_least, y_top, y_frames, y_invalid, y_sp, y_labels, y_active, y_fuel, y_outcome, y_trappedAt, y_result, y_used, y_waits, y_printed, y_bytes, y_there, y_types, y_typeSig, y_imports, y_functions, y_sig, y_what, y_typeAt, y_localsAt, y_globals, y_globalKind, y_globalFree, y_globalValue, y_entries, y_entriesAt, y_hasMemory, y_memory, N', y_kinds, y_shape, y_gives, y_height, y_dead, y_stack, y_labelAt, y_labelHeight, y_labelGives, y_callModule, y_callFunction, y_callBack, y_callBase, y_callLabels, y_waiting, y_prints)) →
    wY_takeBody_9 post l (nI T.length) y_count y_place y_m (nI q.2) (bb_w q.1) k y_least y_top y_frames y_invalid y_sp y_labels y_active y_fuel y_outcome y_trappedAt y_result y_used y_waits y_printed y_bytes y_there y_types y_typeSig y_imports y_functions y_sig y_what y_typeAt y_localsAt y_globals y_globalKind y_globalFree y_globalValue y_entries y_entriesAt y_hasMemory y_memory N y_kinds y_shape y_gives y_height y_dead y_stack y_labelAt y_labelHeight y_labelGives y_callModule y_callFunction y_callBack y_callBase y_callLabels y_waiting y_prints := by
  intro r
  induction r with
  | zero => intro l kf q T N k h; omega
  | succ r ih =>
    intro l kf q T N k hr hkf hl hq hlen hlen2 hN h
    obtain ⟨l, rfl⟩ : ∃ j, l = j + 1 := ⟨l - 1, by omega⟩
    obtain ⟨kf, rfl⟩ : ∃ j, kf = j + 1 := ⟨kf - 1, by omega⟩
    have h140 := C.2.1
    have h256 := C.2.2.2.2.2
    obtain ⟨b, p⟩ := q
    dsimp only at hr hq hlen hlen2 h ⊢
    cases T with
    | nil =>
      rw [rd_B_n] at h
      exact br_t (by decide) (h N k)
    | cons x T =>
      obtain ⟨cd, o, el⟩ := x
      obtain ⟨hN1, hN2, hN3⟩ := hN
      simp only [List.length_cons] at hlen hlen2 ⊢
      refine pk_le (T.length + 1) 0 (fun z => absurd z (by omega)) (fun _ => ?_)
      cases b with
      | false =>
        rw [rd_B_f _ _ _ rfl] at h
        exact br_f (by decide) (h N k)
      | true =>
        refine br_t rfl ?_
        have hl2 := hlen2 rfl
        have C' : cy_ok y_count y_m y_bytes m c n := C
        have em : nI (T.length + 1) - 1 = nI T.length := nI_pred T.length
        rw [rd_B, if_pos ⟨rfl, by simp⟩] at h
        refine yr_take C' (true, p) hq 0 66 (by omega) (by omega) ?_
        rcases rd_tk_or c n 0 66 (true, p) with ⟨e, _, hpn, _, h66⟩ | e
        · dsimp only at hpn h66 e
          have e1 : (rd_tk c n 0 66 (true, p)).1 = true := by rw [e]
          rw [rd_I, if_pos e1] at h
          rw [e, show rd_tv c n 0 66 (true, p) = c p from rd_tv_t hpn (by omega) h66]
          dsimp only at h ⊢
          -- what is behind the ELSE test
          have w104 : ∀ (T' : List (Nat × Nat × Nat)) (N' : Nat → Int32), yr_N N' T' → 2 * T'.length ≤ (rd_R c n (c p) (true, p + 1)).2 + 3 → ((rd_R c n (c p) (true, p + 1)).1 = true → 2 * T'.length ≤ (rd_R c n (c p) (true, p + 1)).2 + 2) → (∀ N'' k', post (y_count, y_place, y_m, nI (rd_B c n kf (rd_R c n (c p) (true, p + 1)) T').1.2, bb_w (rd_B c n kf (rd_R c n (c p) (true, p + 1)) T').1.1, k', y_least, y_top, y_frames, y_invalid, y_sp, y_labels, y_active, y_fuel, y_outcome, y_trappedAt, y_result, y_used, y_waits, y_printed, y_bytes, y_there, y_types, y_typeSig, y_imports, y_functions, y_sig, y_what, y_typeAt, y_localsAt, y_globals, y_globalKind, y_globalFree, y_globalValue, y_entries, y_entriesAt, y_hasMemory, y_memory, N'', y_kinds, y_shape, y_gives, y_height, y_dead, y_stack, y_labelAt, y_labelHeight, y_labelGives, y_callModule, y_callFunction, y_callBack, y_callBase, y_callLabels, y_waiting, y_prints)) →
              wY_takeBody_104 post (wY_takeBody_9 post l) (nI T'.length) (nI (c p)) y_count y_place y_m (nI (p + 1)) (bb_w true) k y_least y_top y_frames y_invalid y_sp y_labels y_active y_fuel y_outcome y_trappedAt y_result y_used y_waits y_printed y_bytes y_there y_types y_typeSig y_imports y_functions y_sig y_what y_typeAt y_localsAt y_globals y_globalKind y_globalFree y_globalValue y_entries y_entriesAt y_hasMemory y_memory N' y_kinds y_shape y_gives y_height y_dead y_stack y_labelAt y_labelHeight y_labelGives y_callModule y_callFunction y_callBack y_callBase y_callLabels y_waiting y_prints := by
            intro T' N' g1 g2 g2' g3
            have gr := (rd_G_R c n (c p)).1 (true, p + 1) (by dsimp only; omega)
            dsimp only at gr
            unfold wY_takeBody_104
            refine yr_rest (show cy_ok y_count y_m y_bytes m c n from C) (c p) (h256 p) (true, p + 1) (by dsimp only; omega) (fun k' _ _ => ?_)
            exact ih l kf _ T' N' k' (by omega) (by omega) (by omega) gr.2 g2 g2' g1 g3
          have gr := (rd_G_R c n (c p)).1 (true, p + 1) (by dsimp only; omega)
          dsimp only at gr
          have w95o : ¬ (2 ≤ c p ∧ c p ≤ 4) → c p ≠ 5 → wY_takeBody_95 post (wY_takeBody_9 post l) (nI (T.length + 1)) (nI (c p)) y_count y_place y_m (nI (p + 1)) (bb_w true) k y_least y_top y_frames y_invalid y_sp y_labels y_active y_fuel y_outcome y_trappedAt y_result y_used y_waits y_printed y_bytes y_there y_types y_typeSig y_imports y_functions y_sig y_what y_typeAt y_localsAt y_globals y_globalKind y_globalFree y_globalValue y_entries y_entriesAt y_hasMemory y_memory N y_kinds y_shape y_gives y_height y_dead y_stack y_labelAt y_labelHeight y_labelGives y_callModule y_callFunction y_callBack y_callBase y_callLabels y_waiting y_prints := by
            intro a1 a2
            simp only [if_neg a1, if_neg a2] at h
            refine pk_eq (c p) 6 (fun z => nm_r (pk_m1 T.length) ?_) (fun z => ?_) rfl rfl (by have := h256 p; omega)
            · simp only [if_pos z] at h
              have e6 : rd_R c n (c p) (true, p + 1) = (true, p + 1) := by rw [z]; rfl
              refine w104 T N hN3 (by rw [e6]; dsimp only; omega) (fun _ => by rw [e6]; dsimp only; omega) ?_
              rw [e6]; exact h
            · simp only [if_neg z] at h
              exact w104 ((cd, o, el) :: T) N ⟨hN1, hN2, hN3⟩ (by simp only [List.length_cons]; omega) (fun _ => by simp only [List.length_cons]; omega) h
          have w74 : c p ≠ 5 → wY_takeBody_74 post (wY_takeBody_9 post l) (nI (T.length + 1)) (nI (c p)) y_count y_place y_m (nI (p + 1)) (bb_w true) k y_least y_top y_frames y_invalid y_sp y_labels y_active y_fuel y_outcome y_trappedAt y_result y_used y_waits y_printed y_bytes y_there y_types y_typeSig y_imports y_functions y_sig y_what y_typeAt y_localsAt y_globals y_globalKind y_globalFree y_globalValue y_entries y_entriesAt y_hasMemory y_memory N y_kinds y_shape y_gives y_height y_dead y_stack y_labelAt y_labelHeight y_labelGives y_callModule y_callFunction y_callBack y_callBase y_callLabels y_waiting y_prints := by
            intro a5
            refine pk_lt (c p) 2 (fun z => w95o (by omega) a5) (fun z => pk_lt 4 (c p) (fun z2 => w95o (by omega) a5) (fun z2 => ?_) rfl rfl (by omega) (by have := h256 p; omega)) rfl rfl (by have := h256 p; omega)
            have ho : 2 ≤ c p ∧ c p ≤ 4 := ⟨z, z2⟩
            simp only [if_pos ho] at h
            refine nm_r (nI_1 (T.length + 1)) ⟨pk_in (T.length + 1) 140 (by omega), nm_r (show _ = upd N (T.length + 1) (nI (c p)) from by rw [pk_cl (T.length + 1), nr_b (by omega)]) ?_⟩
            refine pk_eq (c p) 6 (fun z => absurd z (by omega)) (fun z => ?_) rfl rfl (by omega)
            have eR : rd_R c n (c p) (true, p + 1) = rd_tk c n 0 2 (true, p + 1) := if_pos ho
            have gk := rd_tk_or c n 0 2 (true, p + 1)
            refine w104 ((c p, p, 0) :: (cd, o, el) :: T) _ ⟨pk_us, by omega, ?_⟩ (by simp only [List.length_cons]; omega) (fun y => by
              rw [eR] at y ⊢
              rcases gk with ⟨e5, _⟩ | e5
              · rw [e5]; simp only [List.length_cons]; omega
              · rw [e5] at y; exact ff_t y) (by rw [eR]; exact h)
            exact yr_N_ext ((cd, o, el) :: T) ⟨hN1, hN2, hN3⟩ (fun j hj => pk_un (by simp only [List.length_cons] at hj; omega))
          refine pk_eq (c p) 5 (fun z => ?_) (fun z => pk_eq (c p) 5 (fun y => absurd y z) (fun _ => w74 z) rfl rfl (by have := h256 p; omega)) rfl rfl (by have := h256 p; omega)
          simp only [if_neg (show ¬ (2 ≤ c p ∧ c p ≤ 4) by omega), if_pos z] at h
          refine ⟨pk_in T.length 140 (by omega) em, ?_⟩
          have eN : N (nI (T.length + 1) - 1).toNatClampNeg = nI cd := by rw [pk_cl T.length em]; exact hN1
          have w60 : ∀ (wr : Bool) (pp : Nat) (Y : Nat → Int32), (∀ N' , yr_N N' ((5, o, p) :: T) → wY_takeBody_104 post (wY_takeBody_9 post l) (nI (T.length + 1)) (nI (c p)) y_count y_place y_m (nI pp) (bb_w wr) k y_least y_top y_frames y_invalid y_sp y_labels y_active y_fuel y_outcome y_trappedAt y_result y_used y_waits y_printed y_bytes y_there y_types y_typeSig y_imports y_functions y_sig y_what y_typeAt y_localsAt y_globals y_globalKind y_globalFree y_globalValue y_entries y_entriesAt y_hasMemory y_memory N' y_kinds y_shape y_gives y_height y_dead y_stack y_labelAt y_labelHeight y_labelGives y_callModule y_callFunction y_callBack y_callBase y_callLabels y_waiting y_prints) →
              wY_takeBody_60 post (wY_takeBody_9 post l) (nI (T.length + 1)) (nI (c p)) y_count y_place y_m (nI pp) (bb_w wr) k y_least y_top y_frames y_invalid y_sp y_labels y_active y_fuel y_outcome y_trappedAt y_result y_used y_waits y_printed y_bytes y_there y_types y_typeSig y_imports y_functions y_sig y_what y_typeAt y_localsAt y_globals y_globalKind y_globalFree y_globalValue y_entries y_entriesAt y_hasMemory y_memory N y_kinds y_shape y_gives y_height y_dead y_stack y_labelAt y_labelHeight y_labelGives y_callModule y_callFunction y_callBack y_callBase y_callLabels y_waiting y_prints := by
            intro wr pp _ g
            refine pk_eq (c p) 5 (fun _ => ?_) (fun y => absurd z y) rfl rfl (by omega)
            refine ⟨pk_in T.length 140 (by omega) em, nm_r (show _ = upd N T.length (nI 5) from by rw [pk_cl T.length em]; exact congrArg _ (nr_b (k := 5) (by omega))) ?_⟩
            refine pk_lt (c p) 2 (fun y => absurd y (by omega)) (fun _ => pk_lt 4 (c p) (fun _ => ?_) (fun y => absurd y (by omega)) rfl rfl (by omega) (by omega)) rfl rfl (by omega)
            refine pk_eq (c p) 6 (fun y => absurd y (by omega)) (fun _ => ?_) rfl rfl (by omega)
            exact g _ ⟨pk_us, by omega, yr_N_ext T hN3 (fun j hj => pk_un (by omega))⟩
          refine pk_eq cd 4 (fun y => ?_) (fun y => ?_) eN rfl
          · subst y
            refine w60 true (p + 1) N (fun N' g => ?_)
            have e6 : rd_R c n (c p) (true, p + 1) = (true, p + 1) := by rw [z]; rfl
            have e4 : tp_cd ((4, o, el) :: T) = 4 := rfl
            simp only [if_pos e4] at h
            refine w104 ((5, o, p) :: T) N' g (by rw [e6]; simp only [List.length_cons]; omega) (fun _ => by rw [e6]; simp only [List.length_cons]; omega) ?_
            rw [e6]; exact h
          · have e4 : ¬ tp_cd ((cd, o, el) :: T) = 4 := y
            simp only [if_neg e4] at h
            rw [rd_B_f _ _ _ rfl] at h
            refine nm_r (nI_pred p) (w60 false p N (fun N' g => ?_))
            unfold wY_takeBody_104
            refine yr_rest (show cy_ok y_count y_m y_bytes m c n from C) (c p) (h256 p) (false, p) hq (fun k' _ _ => ?_)
            rw [(rd_G_R c n (c p)).2 (false, p) rfl]
            obtain ⟨l, rfl⟩ : ∃ j, l = j + 1 := ⟨l - 1, by omega⟩
            refine pk_le (T.length + 1) 0 (fun z => absurd z (by omega)) (fun _ => br_f bw_f ?_)
            exact h N' k'
        · dsimp only at e
          rw [rd_I, if_neg (by rw [e]; simp), e, rd_B_f _ _ _ rfl] at h
          rw [e, show rd_tv c n 0 66 (true, p) = 0 from by
            unfold rd_tv; split
            · rename_i hc; rw [rd_tk, if_pos hc] at e; exact ff_t (congrArg Prod.fst e).symm
            · rfl]
          refine br_f (by decide) (br_f (by decide) (br_t (by decide) (br_f (by decide) ?_)))
          refine br_t (by decide) (br_f (by decide) (br_f (by decide) (br_f (by decide) (br_f (by decide) (br_f (by decide) (br_f (by decide) (br_f (by decide) (br_t (by decide) (br_t (by decide) ?_)))))))))
          obtain ⟨l, rfl⟩ : ∃ j, l = j + 1 := ⟨l - 1, by omega⟩
          refine pk_le (T.length + 1) 0 (fun z => absurd z (by omega)) (fun _ => br_f bw_f ?_)
          exact h N k
theorem yr_body {post : SY → Prop} {k : Int64} (C : cy_ok y_count y_m y_bytes m c n) (q : Bool × Nat) (hq : q.2 ≤ n)
    (h : ∀ N' k', post (y_count, y_place, y_m, nI (rd_B c n 141 q [(0, 0, 0)]).1.2, bb_w (rd_B c n 141 q [(0, 0, 0)]).1.1, k', y_least, y_top, y_frames, y_invalid, y_sp, y_labels, y_active, y_fuel, y_outcome, y_trappedAt, y_result, y_used, y_waits, y_printed, y_bytes, y_there, y_types, y_typeSig, y_imports, y_functions, y_sig, y_what, y_typeAt, y_localsAt, y_globals, y_globalKind, y_globalFree, y_globalValue, y_entries, y_entriesAt, y_hasMemory, y_memory, N', y_kinds, y_shape, y_gives, y_height, y_dead, y_stack, y_labelAt, y_labelHeight, y_labelGives, y_callModule, y_callFunction, y_callBack, y_callBase, y_callLabels, y_waiting, y_prints)) : wpY_takeBody post (y_count, y_place, y_m, nI q.2, bb_w q.1, k, y_least, y_top, y_frames, y_invalid, y_sp, y_labels, y_active, y_fuel, y_outcome, y_trappedAt, y_result, y_used, y_waits, y_printed, y_bytes, y_there, y_types, y_typeSig, y_imports, y_functions, y_sig, y_what, y_typeAt, y_localsAt, y_globals, y_globalKind, y_globalFree, y_globalValue, y_entries, y_entriesAt, y_hasMemory, y_memory, y_nest, y_kinds, y_shape, y_gives, y_height, y_dead, y_stack, y_labelAt, y_labelHeight, y_labelGives, y_callModule, y_callFunction, y_callBack, y_callBase, y_callLabels, y_waiting, y_prints) := by
  have h140 := C.2.1
  refine nm_e ⟨142, ?_⟩
  exact yr_body_l C 141 142 141 q [(0, 0, 0)] _ k (by omega) (by omega) (by omega) hq (by simp) (fun _ => by simp) ⟨pk_us.trans (nr_b (k := 0) (by omega)), by omega, trivial⟩ h
end
end
section
/-! 10: the reference's reading: memory -/
/-- L is the least of the places S (1000 if there is none) -/
def lm (L : Int32) (S : Nat → Prop) : Prop := ∃ l, L = nI l ∧ l ≤ 1000 ∧ (l = 1000 ∨ S l) ∧ ∀ x, S x → l ≤ x
theorem lm_ext {L : Int32} {S S' : Nat → Prop} (h : lm L S) (e : ∀ x, S x ↔ S' x) : lm L S' := by
  obtain ⟨l, a, b, d, f⟩ := h
  exact ⟨l, a, b, d.imp id (fun z => (e l).mp z), fun x hx => f x ((e x).mpr hx)⟩
theorem lm_uni {L L' : Int32} {S : Nat → Prop} (h : lm L S) (h' : lm L' S) (hS : ∀ x, S x → x < 1000) : L = L' := by
  obtain ⟨l, a, b, d, f⟩ := h
  obtain ⟨l', a', b', d', f'⟩ := h'
  have : l = l' := by
    rcases d with d | d
    · rcases d' with d' | d'
      · omega
      · have := f l' d'; have := hS l' d'; omega
    · rcases d' with d' | d'
      · have := f' l d; have := hS l d; omega
      · have := f l' d'; have := f' l d; omega
  rw [a, a', this]
def fr_i (lo hi : Nat) (a a' : Nat → Int32) : Prop := ∀ j, ¬ (lo ≤ j ∧ j < hi) → a' j = a j
def sb_v (b : Nat) : Int32 := (nI b).toInt8.toInt32
/-- one piece of data -/
def md_w (c : Nat → Nat) (p : Nat) (M : Nat → Nat) : Nat → Nat := fun j => if c p ≤ j ∧ j < c p + c (p + 1) then c (p + 2 + (j - c p)) else M j
def md_k (c : Nat → Nat) (n : Nat) : Nat → Bool × Nat → (Nat → Nat) → (Nat → Nat)
  | 0, _, M => M
  | k + 1, q, M => md_k c n k (rd_D c n q) (md_w c q.2 M)
/-- the places of data that doesn't fit -/
def md_S (c : Nat → Nat) (n k : Nat) (q : Bool × Nat) (x : Nat) : Prop := ∃ i, i < k ∧ x = (rd_it (rd_D c n) i q).2 ∧ 48 < c x + c (x + 1)
section
variable {y_count y_place y_m y_pos y_wrong y_least y_top y_frames y_invalid y_sp y_labels y_active y_fuel y_outcome y_trappedAt y_used y_waits y_printed : Int32} {y_constant y_result : Int64} {y_bytes y_there y_types y_typeSig y_imports y_functions y_sig y_what y_typeAt y_localsAt y_globals y_globalKind y_globalFree y_entries y_entriesAt y_hasMemory y_memory y_nest y_kinds y_shape y_gives y_height y_dead y_labelAt y_labelHeight y_labelGives y_callModule y_callFunction y_callBack y_callBase y_callLabels y_waiting y_prints : Nat → Int32} {y_globalValue y_stack : Nat → Int64}
variable {m : Nat} {c : Nat → Nat} {n p : Nat}
theorem ym_take {post : Int32 → SY → Prop} {L : Int32} {H M : Nat → Int32} (C : cy_ok y_count y_m y_bytes m c n) (q : Bool × Nat) (hq : q.2 ≤ n) (lo hi : Nat) (hl : lo < 256) (hh : hi < 256)
    (h : post (nI (rd_tv c n lo hi q)) (y_count, y_place, y_m, nI (rd_tk c n lo hi q).2, bb_w (rd_tk c n lo hi q).1, y_constant, L, y_top, y_frames, y_invalid, y_sp, y_labels, y_active, y_fuel, y_outcome, y_trappedAt, y_result, y_used, y_waits, y_printed, y_bytes, y_there, y_types, y_typeSig, y_imports, y_functions, y_sig, y_what, y_typeAt, y_localsAt, y_globals, y_globalKind, y_globalFree, y_globalValue, y_entries, y_entriesAt, H, M, y_nest, y_kinds, y_shape, y_gives, y_height, y_dead, y_stack, y_labelAt, y_labelHeight, y_labelGives, y_callModule, y_callFunction, y_callBack, y_callBase, y_callLabels, y_waiting, y_prints)) : wpY_take post (y_count, y_place, y_m, nI q.2, bb_w q.1, y_constant, L, y_top, y_frames, y_invalid, y_sp, y_labels, y_active, y_fuel, y_outcome, y_trappedAt, y_result, y_used, y_waits, y_printed, y_bytes, y_there, y_types, y_typeSig, y_imports, y_functions, y_sig, y_what, y_typeAt, y_localsAt, y_globals, y_globalKind, y_globalFree, y_globalValue, y_entries, y_entriesAt, H, M, y_nest, y_kinds, y_shape, y_gives, y_height, y_dead, y_stack, y_labelAt, y_labelHeight, y_labelGives, y_callModule, y_callFunction, y_callBack, y_callBase, y_callLabels, y_waiting, y_prints) (nI lo) (nI hi) :=
  yr_take C q hq lo hi hl hh h
theorem ym_note {post : SY → Prop} {L a : Int32} {H M : Nat → Int32} (b : Bool) (z : Int32) (hz : z = 0 ∨ z = 1) (P1 : Int32) (w : Nat) (hw : w < 1000) (S : Nat → Prop) (hP : b = true → P1 = nI w) (hL : b = true → lm L S)
    (h : ∀ L', (b = true → lm L' (fun x => S x ∨ (z = 1 ∧ x = w))) → post (y_count, y_place, y_m, a, bb_w b, y_constant, L', y_top, y_frames, y_invalid, y_sp, y_labels, y_active, y_fuel, y_outcome, y_trappedAt, y_result, y_used, y_waits, y_printed, y_bytes, y_there, y_types, y_typeSig, y_imports, y_functions, y_sig, y_what, y_typeAt, y_localsAt, y_globals, y_globalKind, y_globalFree, y_globalValue, y_entries, y_entriesAt, H, M, y_nest, y_kinds, y_shape, y_gives, y_height, y_dead, y_stack, y_labelAt, y_labelHeight, y_labelGives, y_callModule, y_callFunction, y_callBack, y_callBase, y_callLabels, y_waiting, y_prints)) : wpY_note post (y_count, y_place, y_m, a, bb_w b, y_constant, L, y_top, y_frames, y_invalid, y_sp, y_labels, y_active, y_fuel, y_outcome, y_trappedAt, y_result, y_used, y_waits, y_printed, y_bytes, y_there, y_types, y_typeSig, y_imports, y_functions, y_sig, y_what, y_typeAt, y_localsAt, y_globals, y_globalKind, y_globalFree, y_globalValue, y_entries, y_entriesAt, H, M, y_nest, y_kinds, y_shape, y_gives, y_height, y_dead, y_stack, y_labelAt, y_labelHeight, y_labelGives, y_callModule, y_callFunction, y_callBack, y_callBase, y_callLabels, y_waiting, y_prints) z P1 := by
  cases b with
  | false =>
    exact br_c (fun _ => h L (fun z => ff_t z)) (fun _ => br_f (by decide) (h L (fun z => ff_t z)))
  | true =>
    obtain ⟨l, rfl, hl, hd, hf⟩ := hL rfl
    have e := hP rfl
    subst e
    rcases hz with rfl | rfl
    · refine br_t rfl (h _ (fun _ => ⟨l, rfl, hl, hd.imp id Or.inl, fun x hx => ?_⟩))
      rcases hx with hx | ⟨hx, _⟩
      · exact hf x hx
      · exact absurd hx (by decide)
    · refine br_f (by decide) (br_t rfl (pk_le l w (fun y => ?_) (fun y => ?_)))
      · refine h _ (fun _ => ⟨l, rfl, hl, hd.imp id Or.inl, fun x hx => ?_⟩)
        rcases hx with hx | ⟨_, hx⟩
        · exact hf x hx
        · omega
      · refine h _ (fun _ => ⟨w, rfl, by omega, Or.inr (Or.inr ⟨rfl, rfl⟩), fun x hx => ?_⟩)
        rcases hx with hx | ⟨_, hx⟩
        · have := hf x hx; omega
        · omega
theorem ym_129 {post : SY → Prop} {L : Int32} {H : Nat → Int32} {x1 : Int32} {J : Int32 → Int32 → Int32 → Int32 → Int32 → Int32 → Int64 → Int32 → Int32 → Int32 → Int32 → Int32 → Int32 → Int32 → Int32 → Int32 → Int32 → Int64 → Int32 → Int32 → Int32 → (Nat → Int32) → (Nat → Int32) → (Nat → Int32) → (Nat → Int32) → (Nat → Int32) → (Nat → Int32) → (Nat → Int32) → (Nat → Int32) → (Nat → Int32) → (Nat → Int32) → (Nat → Int32) → (Nat → Int32) → (Nat → Int32) → (Nat → Int64) → (Nat → Int32) → (Nat → Int32) → (Nat → Int32) → (Nat → Int32) → (Nat → Int32) → (Nat → Int32) → (Nat → Int32) → (Nat → Int32) → (Nat → Int32) → (Nat → Int32) → (Nat → Int64) → (Nat → Int32) → (Nat → Int32) → (Nat → Int32) → (Nat → Int32) → (Nat → Int32) → (Nat → Int32) → (Nat → Int32) → (Nat → Int32) → (Nat → Int32) → (Nat → Int32) → Prop} (C : cy_ok y_count y_m y_bytes m c n) (off len k2 : Nat) (ho : off < 256) (hl : len ≤ 8) : ∀ r i l (q : Bool × Nat) (M : Nat → Int32), i + r = len → r < l → q.2 ≤ n →
    (∀ M', fr_i (48 * m) (48 * m + 48) M M' → ((rd_n c n 0 255 r q).1 = true → ∀ j, j < 48 → M' (48 * m + j) = if off + i ≤ j ∧ j < off + len then sb_v (c (q.2 + (j - (off + i)))) else M (48 * m + j)) →
      J (nI (k2 + 1)) y_count y_place y_m (nI (rd_n c n 0 255 r q).2) (bb_w (rd_n c n 0 255 r q).1) y_constant L y_top y_frames y_invalid y_sp y_labels y_active y_fuel y_outcome y_trappedAt y_result y_used y_waits y_printed y_bytes y_there y_types y_typeSig y_imports y_functions y_sig y_what y_typeAt y_localsAt y_globals y_globalKind y_globalFree y_globalValue y_entries y_entriesAt H M' y_nest y_kinds y_shape y_gives y_height y_dead y_stack y_labelAt y_labelHeight y_labelGives y_callModule y_callFunction y_callBack y_callBase y_callLabels y_waiting y_prints) →
    wY_readMemory_129 post J x1 (nI k2) (nI off) (nI len) l (nI i) y_count y_place y_m (nI q.2) (bb_w q.1) y_constant L y_top y_frames y_invalid y_sp y_labels y_active y_fuel y_outcome y_trappedAt y_result y_used y_waits y_printed y_bytes y_there y_types y_typeSig y_imports y_functions y_sig y_what y_typeAt y_localsAt y_globals y_globalKind y_globalFree y_globalValue y_entries y_entriesAt H M y_nest y_kinds y_shape y_gives y_height y_dead y_stack y_labelAt y_labelHeight y_labelGives y_callModule y_callFunction y_callBack y_callBase y_callLabels y_waiting y_prints := by
  intro r
  induction r with
  | zero =>
    intro i l q M hi hl2 hq h
    obtain ⟨l, rfl⟩ : ∃ j, l = j + 1 := ⟨l - 1, by omega⟩
    refine pk_le len i (fun _ => nm_r (nI_1 k2) (h M (fun _ _ => rfl) (fun _ j _ => ?_))) (fun z => absurd z (by omega))
    rw [if_neg (by omega)]
  | succ r ih =>
    intro i l q M hi hl2 hq h
    obtain ⟨l, rfl⟩ : ∃ j, l = j + 1 := ⟨l - 1, by omega⟩
    obtain ⟨hn, h140, hm, h3, hb, h256⟩ := id C
    rw [rd_n] at h
    have g1 := (rd_G_tk c n 0 255).1 q hq
    refine pk_le len i (fun z => absurd z (by omega)) (fun _ => ?_)
    refine ym_take C q hq 0 255 (by omega) (by omega) ?_
    have e : nI off + nI i = nI (off + i) := nI_add off i
    have ok : (rd_n c n 0 255 r (rd_tk c n 0 255 q)).1 = true → rd_tk c n 0 255 q = (true, q.2 + 1) ∧ rd_tv c n 0 255 q = c q.2 := by
      intro z
      have z1 := rd_G_tr (rd_G_n c n 0 255 r) z
      rcases rd_tk_or c n 0 255 q with ⟨e1, a⟩ | e1
      · exact ⟨e1, if_pos a⟩
      · rw [e1] at z1; exact ff_t z1
    refine pk_le 48 (off + i) (fun z => nm_r (nI_1 i) ?_) (fun z => ?_) rfl e
    · refine ih (i + 1) l _ M (by omega) (by omega) g1.2 (fun M' f1 f2 => h M' f1 (fun y j hj => ?_))
      rw [f2 y j hj, (ok y).1, if_neg (by omega), if_neg (by omega)]
    · have e2 : (48 * y_m + nI off) + nI i = nI (48 * m + off + i) := by rw [hm, show (48 : Int32) = nI 48 from rfl, pk_mul, nI_add, nI_add]
      refine ⟨pk_in (48 * m + off + i) 144 (by omega) e2, nm_r (show _ = upd M (48 * m + off + i) (sb_v (rd_tv c n 0 255 q)) from by rw [pk_cl (48 * m + off + i) e2, pk_vb]; rfl) (nm_r (nI_1 i) ?_)⟩
      refine ih (i + 1) l _ _ (by omega) (by omega) g1.2 (fun M' f1 f2 => h M' (fun j hj => (f1 j hj).trans (pk_un (by omega))) (fun y j hj => ?_))
      obtain ⟨o1, o2⟩ := ok y
      rw [f2 y j hj, o1, o2]
      dsimp only
      by_cases hj2 : j = off + i
      · rw [if_neg (by omega), if_pos (by omega), show 48 * m + j = 48 * m + off + i by omega, pk_us, show q.2 + (j - (off + i)) = q.2 by omega]
      · rw [pk_un (by omega)]
        by_cases hj3 : off + (i + 1) ≤ j ∧ j < off + len
        · rw [if_pos hj3, if_pos (by omega), show q.2 + 1 + (j - (off + (i + 1))) = q.2 + (j - (off + i)) by omega]
        · rw [if_neg hj3, if_neg (by omega)]
theorem ym_75 {post : SY → Prop} {H : Nat → Int32} (C : cy_ok y_count y_m y_bytes m c n) (N : Nat) (hN : N ≤ 2) : ∀ r i l (q : Bool × Nat) (L : Int32) (M : Nat → Int32) (S : Nat → Prop) (md : Nat → Nat), i + r = N → r < l → q.2 ≤ n →
    (q.1 = true → lm L S) → (q.1 = true → ∀ j, j < 48 → M (48 * m + j) = sb_v (md j)) →
    (∀ L' M', fr_i (48 * m) (48 * m + 48) M M' → ((rd_it (rd_D c n) r q).1 = true → lm L' (fun x => S x ∨ md_S c n r q x) ∧ ∀ j, j < 48 → M' (48 * m + j) = sb_v (md_k c n r q md j)) →
      post (y_count, y_place, y_m, nI (rd_it (rd_D c n) r q).2, bb_w (rd_it (rd_D c n) r q).1, y_constant, L', y_top, y_frames, y_invalid, y_sp, y_labels, y_active, y_fuel, y_outcome, y_trappedAt, y_result, y_used, y_waits, y_printed, y_bytes, y_there, y_types, y_typeSig, y_imports, y_functions, y_sig, y_what, y_typeAt, y_localsAt, y_globals, y_globalKind, y_globalFree, y_globalValue, y_entries, y_entriesAt, H, M', y_nest, y_kinds, y_shape, y_gives, y_height, y_dead, y_stack, y_labelAt, y_labelHeight, y_labelGives, y_callModule, y_callFunction, y_callBack, y_callBase, y_callLabels, y_waiting, y_prints)) →
    wY_readMemory_75 post (nI N) l (nI i) y_count y_place y_m (nI q.2) (bb_w q.1) y_constant L y_top y_frames y_invalid y_sp y_labels y_active y_fuel y_outcome y_trappedAt y_result y_used y_waits y_printed y_bytes y_there y_types y_typeSig y_imports y_functions y_sig y_what y_typeAt y_localsAt y_globals y_globalKind y_globalFree y_globalValue y_entries y_entriesAt H M y_nest y_kinds y_shape y_gives y_height y_dead y_stack y_labelAt y_labelHeight y_labelGives y_callModule y_callFunction y_callBack y_callBase y_callLabels y_waiting y_prints := by
  intro r
  induction r with
  | zero =>
    intro i l q L M S md hi hl hq hL hM h
    obtain ⟨l, rfl⟩ : ∃ j, l = j + 1 := ⟨l - 1, by omega⟩
    refine pk_le N i (fun _ => h L M (fun _ _ => rfl) (fun y => ⟨lm_ext (hL y) (fun x => ⟨Or.inl, fun z => z.elim id (fun ⟨i, hi, _⟩ => absurd hi (by omega))⟩), hM y⟩)) (fun z => absurd z (by omega))
  | succ r ih =>
    intro i l q L M S md hi hl hq hL hM h
    obtain ⟨l, rfl⟩ : ∃ j, l = j + 1 := ⟨l - 1, by omega⟩
    obtain ⟨hn, h140, hm, h3, hb, h256⟩ := id C
    rw [rd_it] at h
    have g1 := (rd_G_tk c n 0 255).1 q hq
    have g2 := (rd_G_tk c n 0 8).1 _ g1.2
    have g3 := (rd_G_D c n).1 q hq
    have v1 := (rd_tv_le (c := c) (n := n) (lo := 0) (hi := 255) (q := q) (by omega)).2
    have v2 := (rd_tv_le (c := c) (n := n) (lo := 0) (hi := 8) (q := rd_tk c n 0 255 q) (by omega)).2
    refine pk_le N i (fun z => absurd z (by omega)) (fun _ => ?_)
    refine ym_take C q hq 0 255 (by omega) (by omega) (nm_e ?_)
    refine ym_take C _ g1.2 0 8 (by omega) (by omega) ?_
    -- the facts when both bytes were read
    have ok : (rd_tk c n 0 8 (rd_tk c n 0 255 q)).1 = true → q.1 = true ∧ rd_tk c n 0 255 q = (true, q.2 + 1) ∧ rd_tv c n 0 255 q = c q.2 ∧ rd_tv c n 0 8 (rd_tk c n 0 255 q) = c (q.2 + 1) := by
      intro z
      rcases rd_tk_or c n 0 8 (rd_tk c n 0 255 q) with ⟨e1, a⟩ | e1
      · rcases rd_tk_or c n 0 255 q with ⟨e2, b⟩ | e2
        · refine ⟨b.1, e2, if_pos b, ?_⟩
          rw [show rd_tv c n 0 8 (rd_tk c n 0 255 q) = c (rd_tk c n 0 255 q).2 from if_pos a, e2]
        · rw [e2] at a; exact ff_t a.1
      · rw [e1] at z; exact ff_t z
    have k121 : ∀ z : Int32, (z = 0 ∨ z = 1) → ((rd_tk c n 0 8 (rd_tk c n 0 255 q)).1 = true → (z = 1 ↔ 48 < c q.2 + c (q.2 + 1))) →
        wY_readMemory_121 post (wY_readMemory_75 post (nI N) l) (nI N) (nI i) (nI (rd_tv c n 0 255 q)) (nI (rd_tk c n 0 255 q).2 - 1) (nI (rd_tv c n 0 8 (rd_tk c n 0 255 q))) z y_count y_place y_m (nI (rd_tk c n 0 8 (rd_tk c n 0 255 q)).2) (bb_w (rd_tk c n 0 8 (rd_tk c n 0 255 q)).1) y_constant L y_top y_frames y_invalid y_sp y_labels y_active y_fuel y_outcome y_trappedAt y_result y_used y_waits y_printed y_bytes y_there y_types y_typeSig y_imports y_functions y_sig y_what y_typeAt y_localsAt y_globals y_globalKind y_globalFree y_globalValue y_entries y_entriesAt H M y_nest y_kinds y_shape y_gives y_height y_dead y_stack y_labelAt y_labelHeight y_labelGives y_callModule y_callFunction y_callBack y_callBase y_callLabels y_waiting y_prints := by
      intro z hz hzi
      refine ym_note (rd_tk c n 0 8 (rd_tk c n 0 255 q)).1 z hz _ q.2 (by omega) S (fun y => ?_) (fun y => hL (ok y).1) (fun L' hL' => ⟨rd_tv c n 0 8 (rd_tk c n 0 255 q) + 1, ?_⟩)
      · rw [(ok y).2.1]; exact nI_pred q.2
      · refine ym_129 C _ _ i (by omega) v2 _ 0 _ _ M (Nat.zero_add _) (by omega) g2.2 (fun M' f1 f2 => ?_)
        have eD : rd_n c n 0 255 (rd_tv c n 0 8 (rd_tk c n 0 255 q)) (rd_tk c n 0 8 (rd_tk c n 0 255 q)) = rd_D c n q := rfl
        rw [eD] at f2 ⊢
        refine ih (i + 1) l (rd_D c n q) L' M' (fun x => S x ∨ (z = 1 ∧ x = q.2)) (md_w c q.2 md) (by omega) (by omega) g3.2 (fun y => hL' (rd_G_tr (rd_G_n c n 0 255 _) y)) (fun y j hj => ?_) (fun L2 M2 k1 k2 => h L2 M2 (fun j hj => (k1 j hj).trans (f1 j hj)) (fun y => ?_))
        · obtain ⟨o1, o2, o3, o4⟩ := ok (rd_G_tr (rd_G_n c n 0 255 _) y)
          have o5 : rd_tk c n 0 8 (rd_tk c n 0 255 q) = (true, q.2 + 2) := by
            rcases rd_tk_or c n 0 8 (rd_tk c n 0 255 q) with ⟨e1, a⟩ | e1
            · rw [e1, o2]
            · exact ff_t ((congrArg Prod.fst e1).symm.trans (rd_G_tr (rd_G_n c n 0 255 _) y))
          rw [f2 y j hj, o3, o4, o5, md_w]
          dsimp only
          rw [Nat.add_zero]
          by_cases hj2 : c q.2 ≤ j ∧ j < c q.2 + c (q.2 + 1)
          · rw [if_pos hj2, if_pos hj2]
          · rw [if_neg hj2, if_neg hj2]; exact hM o1 j hj
        · obtain ⟨y1, y2⟩ := k2 y
          have yD := rd_G_tr (rd_G_it (rd_G_D c n) r) y
          have hz2 := hzi (rd_G_tr (rd_G_n c n 0 255 _) yD)
          refine ⟨lm_ext y1 (fun x => ⟨?_, ?_⟩), y2⟩
          · rintro ((a | ⟨a, rfl⟩) | ⟨j, a1, a2, a3⟩)
            · exact Or.inl a
            · exact Or.inr ⟨0, by omega, rfl, hz2.mp a⟩
            · exact Or.inr ⟨j + 1, by omega, a2, a3⟩
          · rintro (a | ⟨j, a1, a2, a3⟩)
            · exact Or.inl (Or.inl a)
            · cases j with
              | zero =>
                have a2' : x = q.2 := a2
                subst a2'
                exact Or.inl (Or.inr ⟨hz2.mpr a3, rfl⟩)
              | succ j => exact Or.inr ⟨j, by omega, a2, a3⟩
    have e : nI (rd_tv c n 0 255 q) + nI (rd_tv c n 0 8 (rd_tk c n 0 255 q)) = nI (rd_tv c n 0 255 q + rd_tv c n 0 8 (rd_tk c n 0 255 q)) := nI_add _ _
    refine pk_le (rd_tv c n 0 255 q + rd_tv c n 0 8 (rd_tk c n 0 255 q)) 48 (fun z => k121 0 (Or.inl rfl) (fun y => ?_)) (fun z => k121 1 (Or.inr rfl) (fun y => ?_)) e rfl
    · obtain ⟨o1, o2, o3, o4⟩ := ok y
      rw [o3, o4] at z
      exact ⟨fun a => absurd a (by decide), fun a => absurd a (by omega)⟩
    · obtain ⟨o1, o2, o3, o4⟩ := ok y
      rw [o3, o4] at z
      exact ⟨fun _ => z, fun _ => rfl⟩
/-- what the last part leaves: the memory flag, the bytes, and the places of data that doesn't fit -/
theorem ym_26 {post : SY → Prop} {H : Nat → Int32} {a w L : Int32} (hm : y_m = nI m) (h3 : m < 3) : ∀ r i l (M : Nat → Int32), i + r = 48 → r < l →
    (∀ M', fr_i (48 * m) (48 * m + 48) M M' → (∀ j, i ≤ j → j < 48 → M' (48 * m + j) = 0) → (∀ j, j < i → M' (48 * m + j) = M (48 * m + j)) → wY_readMemory_26 post y_count y_place y_m a w y_constant L y_top y_frames y_invalid y_sp y_labels y_active y_fuel y_outcome y_trappedAt y_result y_used y_waits y_printed 1 48 y_bytes y_there y_types y_typeSig y_imports y_functions y_sig y_what y_typeAt y_localsAt y_globals y_globalKind y_globalFree y_globalValue y_entries y_entriesAt H M' y_nest y_kinds y_shape y_gives y_height y_dead y_stack y_labelAt y_labelHeight y_labelGives y_callModule y_callFunction y_callBack y_callBase y_callLabels y_waiting y_prints) →
    wY_readMemory_26 post y_count y_place y_m a w y_constant L y_top y_frames y_invalid y_sp y_labels y_active y_fuel y_outcome y_trappedAt y_result y_used y_waits y_printed l (nI i) y_bytes y_there y_types y_typeSig y_imports y_functions y_sig y_what y_typeAt y_localsAt y_globals y_globalKind y_globalFree y_globalValue y_entries y_entriesAt H M y_nest y_kinds y_shape y_gives y_height y_dead y_stack y_labelAt y_labelHeight y_labelGives y_callModule y_callFunction y_callBack y_callBase y_callLabels y_waiting y_prints := by
  intro r
  induction r with
  | zero =>
    intro i l M hi hl h
    obtain ⟨l, rfl⟩ : ∃ j, l = j + 1 := ⟨l - 1, by omega⟩
    have h' := h M (fun _ _ => rfl) (fun j a b => absurd a (by omega)) (fun _ _ => rfl)
    have hi' : i = 48 := by omega
    subst hi'
    exact pk_le 48 48 (fun z => (h'.1 (nI_le (a := 48) (b := 48) z (by decide)))) (fun z => absurd z (by omega))
  | succ r ih =>
    intro i l M hi hl h
    obtain ⟨l, rfl⟩ : ∃ j, l = j + 1 := ⟨l - 1, by omega⟩
    refine pk_le 48 i (fun z => absurd z (by omega)) (fun _ => ?_)
    have e : 48 * y_m + nI i = nI (48 * m + i) := by rw [hm, show (48 : Int32) = nI 48 from rfl, pk_mul, nI_add]
    refine ⟨pk_in (48 * m + i) 144 (by omega) e, nm_r (show _ = upd M (48 * m + i) 0 from by rw [pk_cl (48 * m + i) e]; exact congrArg _ (by rw [vp_nar_byte]; rfl)) (nm_r (nI_1 i) ?_)⟩
    refine ih (i + 1) l _ (by omega) (by omega) (fun M' f1 f2 f3 => h M' (fun j hj => (f1 j hj).trans (pk_un (by omega))) (fun j a b => ?_) (fun j a => (f3 j (by omega)).trans (pk_un (by omega))))
    by_cases hj : j = i
    · subst hj; rw [f3 j (by omega), pk_us]
    · exact f2 j (by omega) b
theorem ym_mem {post : SY → Prop} {L : Int32} {H M : Nat → Int32} (C : cy_ok y_count y_m y_bytes m c n) (q : Bool × Nat) (hq : q.2 ≤ n) (S : Nat → Prop) (hL : q.1 = true → lm L S)
    (h : ∀ L' H' M', (∀ j, j ≠ m → H' j = H j) → fr_i (48 * m) (48 * m + 48) M M' → ((rd_M c n q).1 = true → H' m = nI (c q.2) ∧
        lm L' (fun x => S x ∨ (c q.2 = 1 ∧ md_S c n (c (q.2 + 1)) (true, q.2 + 2) x)) ∧ ∀ j, j < 48 → M' (48 * m + j) = sb_v (if c q.2 = 1 then md_k c n (c (q.2 + 1)) (true, q.2 + 2) (fun _ => 0) j else 0)) →
      post (y_count, y_place, y_m, nI (rd_M c n q).2, bb_w (rd_M c n q).1, y_constant, L', y_top, y_frames, y_invalid, y_sp, y_labels, y_active, y_fuel, y_outcome, y_trappedAt, y_result, y_used, y_waits, y_printed, y_bytes, y_there, y_types, y_typeSig, y_imports, y_functions, y_sig, y_what, y_typeAt, y_localsAt, y_globals, y_globalKind, y_globalFree, y_globalValue, y_entries, y_entriesAt, H', M', y_nest, y_kinds, y_shape, y_gives, y_height, y_dead, y_stack, y_labelAt, y_labelHeight, y_labelGives, y_callModule, y_callFunction, y_callBack, y_callBase, y_callLabels, y_waiting, y_prints)) : wpY_readMemory post (y_count, y_place, y_m, nI q.2, bb_w q.1, y_constant, L, y_top, y_frames, y_invalid, y_sp, y_labels, y_active, y_fuel, y_outcome, y_trappedAt, y_result, y_used, y_waits, y_printed, y_bytes, y_there, y_types, y_typeSig, y_imports, y_functions, y_sig, y_what, y_typeAt, y_localsAt, y_globals, y_globalKind, y_globalFree, y_globalValue, y_entries, y_entriesAt, H, M, y_nest, y_kinds, y_shape, y_gives, y_height, y_dead, y_stack, y_labelAt, y_labelHeight, y_labelGives, y_callModule, y_callFunction, y_callBack, y_callBase, y_callLabels, y_waiting, y_prints) := by
  obtain ⟨hn, h140, hm, h3, hb, h256⟩ := id C
  have g1 := (rd_G_tk c n 0 1).1 q hq
  have g2 := (rd_G_tk c n 0 2).1 _ g1.2
  have v1 := (rd_tv_le (c := c) (n := n) (lo := 0) (hi := 1) (q := q) (by omega)).2
  have ok : (rd_tk c n 0 1 q).1 = true → q.1 = true ∧ rd_tk c n 0 1 q = (true, q.2 + 1) ∧ rd_tv c n 0 1 q = c q.2 := by
    intro z
    rcases rd_tk_or c n 0 1 q with ⟨e1, a⟩ | e1
    · exact ⟨a.1, e1, if_pos a⟩
    · rw [e1] at z; exact ff_t z
  have em : y_m.toNatClampNeg = m := by rw [hm]; exact nI_clamp (by omega)
  unfold wpY_readMemory
  refine ym_take C q hq 0 1 (by omega) (by omega) ?_
  refine pk_eq (rd_tv c n 0 1 q) 1 (fun z => ⟨pk_in m 3 h3 hm, nm_r (show _ = upd H m (nI 1) from by rw [em]; rfl) ⟨49, ?_⟩⟩) (fun z => ⟨pk_in m 3 h3 hm, nm_r (show _ = upd H m (nI 0) from by rw [em]; rfl) ⟨49, ?_⟩⟩)
  · refine ym_26 hm h3 48 0 49 M (by omega) (by omega) (fun M1 f1 f2 _ => br_t (by decide) ⟨pk_in m 3 h3 hm, ?_⟩)
    have eH : upd H m (nI 1) y_m.toNatClampNeg = nI 1 := by rw [em]; exact pk_us
    refine br_f (by rw [eH]; decide) ?_
    rw [rd_M, if_pos z] at h
    refine ym_take C _ g1.2 0 2 (by omega) (by omega) ⟨rd_tv c n 0 2 (rd_tk c n 0 1 q) + 1, ?_⟩
    have v2 := (rd_tv_le (c := c) (n := n) (lo := 0) (hi := 2) (q := rd_tk c n 0 1 q) (by omega)).2
    have ok2 : (rd_tk c n 0 2 (rd_tk c n 0 1 q)).1 = true → q.1 = true ∧ rd_tk c n 0 2 (rd_tk c n 0 1 q) = (true, q.2 + 2) ∧ c q.2 = 1 ∧ rd_tv c n 0 2 (rd_tk c n 0 1 q) = c (q.2 + 1) := by
      intro y
      rcases rd_tk_or c n 0 2 (rd_tk c n 0 1 q) with ⟨e1, a⟩ | e1
      · obtain ⟨o1, o2, o3⟩ := ok a.1
        refine ⟨o1, ?_, by omega, ?_⟩
        · rw [e1, o2]
        · rw [show rd_tv c n 0 2 (rd_tk c n 0 1 q) = c (rd_tk c n 0 1 q).2 from if_pos a, o2]
      · rw [e1] at y; exact ff_t y
    refine ym_75 C _ v2 _ 0 _ _ L M1 S (fun _ => 0) (by omega) (by omega) g2.2 (fun y => hL (ok2 y).1) (fun _ j hj => f2 j (by omega) hj) (fun L' M' k1 k2 => h L' _ M' (fun j hj => pk_un hj) (fun j hj => (k1 j hj).trans (f1 j hj)) (fun y => ?_))
    obtain ⟨y1, y2⟩ := k2 y
    obtain ⟨o1, o2, o3, o4⟩ := ok2 (rd_G_tr (rd_G_it (rd_G_D c n) _) y)
    rw [o2, o4] at y1 y2
    refine ⟨by rw [pk_us, o3], lm_ext y1 (fun x => ⟨fun z => z.imp id (fun z => ⟨o3, z⟩), fun z => z.imp id (fun z => z.2)⟩), fun j hj => ?_⟩
    rw [y2 j hj, if_pos o3]
  · have z0 : rd_tv c n 0 1 q = 0 := by omega
    refine ym_26 hm h3 48 0 49 M (by omega) (by omega) (fun M1 f1 f2 _ => br_t (by decide) ⟨pk_in m 3 h3 hm, ?_⟩)
    have eH : upd H m (nI 0) y_m.toNatClampNeg = nI 0 := by rw [em]; exact pk_us
    rw [rd_M, if_neg z] at h
    refine br_t (by rw [eH]; rfl) (h L _ M1 (fun j hj => pk_un hj) f1 (fun y => ?_))
    obtain ⟨o1, o2, o3⟩ := ok y
    have o4 : c q.2 = 0 := by omega
    refine ⟨by rw [pk_us, o4], lm_ext (hL o1) (fun x => ⟨Or.inl, fun z => z.elim id (fun z => absurd z.1 (by omega))⟩), fun j hj => ?_⟩
    rw [f2 j (by omega) hj, if_neg (by omega)]; rfl
end
end
section
/-! 11: the reference's reading: entries, globals -/
/-- all bytes must be used up -/
def rd_e (n : Nat) (q : Bool × Nat) : Bool × Nat := if q.2 < n then (false, q.2) else q
theorem rd_e_ok {n : Nat} {q : Bool × Nat} (h : (rd_e n q).1 = true) : q.1 = true ∧ ¬ q.2 < n ∧ rd_e n q = q := by
  unfold rd_e at h ⊢
  by_cases z : q.2 < n
  · rw [if_pos z] at h; exact ff_t h
  · rw [if_neg z] at h ⊢; exact ⟨h, z, rfl⟩
def en_S (c : Nat → Nat) (fn k p : Nat) (x : Nat) : Prop := ∃ i, i < k ∧ x = p + i ∧ fn ≤ c x ∧ c x ≠ 255
/-- where the entries end, and what the last part is -/
def rd_E (c : Nat → Nat) (n : Nat) (q : Bool × Nat) : Bool × Nat := rd_e n (rd_M c n (rd_n c n 0 255 (rd_tv c n 0 5 q) (rd_tk c n 0 5 q)))
def me_S (c : Nat → Nat) (n p : Nat) (x : Nat) : Prop := c p = 1 ∧ md_S c n (c (p + 1)) (true, p + 2) x
section
variable {y_count y_place y_m y_pos y_wrong y_least y_top y_frames y_invalid y_sp y_labels y_active y_fuel y_outcome y_trappedAt y_used y_waits y_printed : Int32} {y_constant y_result : Int64} {y_bytes y_there y_types y_typeSig y_imports y_functions y_sig y_what y_typeAt y_localsAt y_globals y_globalKind y_globalFree y_entries y_entriesAt y_hasMemory y_memory y_nest y_kinds y_shape y_gives y_height y_dead y_labelAt y_labelHeight y_labelGives y_callModule y_callFunction y_callBack y_callBase y_callLabels y_waiting y_prints : Nat → Int32} {y_globalValue y_stack : Nat → Int64}
variable {m : Nat} {c : Nat → Nat} {n p : Nat}
theorem ym_411 {post : SY → Prop} {H M : Nat → Int32} (C : cy_ok y_count y_m y_bytes m c n) (E fn : Nat) (hE : E ≤ 5) (hfn : fn < 100) (eE : y_entries m = nI E) (efn : y_functions m = nI fn) : ∀ r i l (q : Bool × Nat) (L : Int32) (S : Nat → Prop), i + r = E → r < l → q.2 ≤ n → (q.1 = true → lm L S) →
    (∀ L' H' M', (∀ j, j ≠ m → H' j = H j) → fr_i (48 * m) (48 * m + 48) M M' → ((rd_e n (rd_M c n (rd_n c n 0 255 r q))).1 = true → H' m = nI (c (q.2 + r)) ∧
        lm L' (fun x => (S x ∨ en_S c fn r q.2 x) ∨ me_S c n (q.2 + r) x) ∧ ∀ j, j < 48 → M' (48 * m + j) = sb_v (if c (q.2 + r) = 1 then md_k c n (c (q.2 + r + 1)) (true, q.2 + r + 2) (fun _ => 0) j else 0)) →
      post (y_count, y_place, y_m, nI (rd_e n (rd_M c n (rd_n c n 0 255 r q))).2, bb_w (rd_e n (rd_M c n (rd_n c n 0 255 r q))).1, y_constant, L', y_top, y_frames, y_invalid, y_sp, y_labels, y_active, y_fuel, y_outcome, y_trappedAt, y_result, y_used, y_waits, y_printed, y_bytes, y_there, y_types, y_typeSig, y_imports, y_functions, y_sig, y_what, y_typeAt, y_localsAt, y_globals, y_globalKind, y_globalFree, y_globalValue, y_entries, y_entriesAt, H', M', y_nest, y_kinds, y_shape, y_gives, y_height, y_dead, y_stack, y_labelAt, y_labelHeight, y_labelGives, y_callModule, y_callFunction, y_callBack, y_callBase, y_callLabels, y_waiting, y_prints)) →
    wY_read_411 post l (nI i) y_count y_place y_m (nI q.2) (bb_w q.1) y_constant L y_top y_frames y_invalid y_sp y_labels y_active y_fuel y_outcome y_trappedAt y_result y_used y_waits y_printed y_bytes y_there y_types y_typeSig y_imports y_functions y_sig y_what y_typeAt y_localsAt y_globals y_globalKind y_globalFree y_globalValue y_entries y_entriesAt H M y_nest y_kinds y_shape y_gives y_height y_dead y_stack y_labelAt y_labelHeight y_labelGives y_callModule y_callFunction y_callBack y_callBase y_callLabels y_waiting y_prints := by
  obtain ⟨hn, h140, hm, h3, hb, h256⟩ := id C
  have em : y_m.toNatClampNeg = m := by rw [hm]; exact nI_clamp (by omega)
  have eE' : y_entries y_m.toNatClampNeg = nI E := by rw [em]; exact eE
  have efn' : y_functions y_m.toNatClampNeg = nI fn := by rw [em]; exact efn
  intro r
  induction r with
  | zero =>
    intro i l q L S hi hl hq hL h
    obtain ⟨l, rfl⟩ : ∃ j, l = j + 1 := ⟨l - 1, by omega⟩
    refine ⟨pk_in m 3 h3 hm, pk_le E i (fun _ => ?_) (fun z => absurd z (by omega)) eE' rfl⟩
    rw [show rd_n c n 0 255 0 q = q from rfl] at h
    simp only [Nat.add_zero] at h
    refine ym_mem C q hq S hL (fun L' H' M' f1 f2 f3 => ?_)
    have gM : (rd_M c n q).2 ≤ n := by
      have g1 := (rd_G_tk c n 0 1).1 q hq
      unfold rd_M
      split
      · exact ((rd_G_it (rd_G_D c n) _).1 _ ((rd_G_tk c n 0 2).1 _ g1.2).2).2
      · exact g1.2
    have key : ∀ (e : rd_e n (rd_M c n q) = if (rd_M c n q).2 < n then (false, (rd_M c n q).2) else rd_M c n q), True := fun _ => trivial
    refine pk_le n (rd_M c n q).2 (fun z => ?_) (fun z => ?_) hn rfl
    · have e : rd_e n (rd_M c n q) = rd_M c n q := if_neg (by omega)
      rw [e] at h
      refine h L' H' M' f1 f2 (fun y => ?_)
      obtain ⟨y1, y2, y3⟩ := f3 y
      exact ⟨y1, lm_ext y2 (fun x => ⟨fun a => a.imp Or.inl id, fun a => a.imp (fun b => b.elim id (fun ⟨i, hi, _⟩ => absurd hi (by omega))) id⟩), y3⟩
    · have e : rd_e n (rd_M c n q) = (false, (rd_M c n q).2) := if_pos z
      rw [e] at h
      exact h L' H' M' f1 f2 (fun y => ff_t y)
  | succ r ih =>
    intro i l q L S hi hl hq hL h
    obtain ⟨l, rfl⟩ : ∃ j, l = j + 1 := ⟨l - 1, by omega⟩
    refine ⟨pk_in m 3 h3 hm, pk_le E i (fun z => absurd z (by omega)) (fun _ => ?_) eE' rfl⟩
    rw [rd_n] at h
    have g1 := (rd_G_tk c n 0 255).1 q hq
    have v1 := (rd_tv_le (c := c) (n := n) (lo := 0) (hi := 255) (q := q) (by omega)).2
    have ok : (rd_tk c n 0 255 q).1 = true → q.1 = true ∧ rd_tk c n 0 255 q = (true, q.2 + 1) ∧ rd_tv c n 0 255 q = c q.2 := by
      intro z
      rcases rd_tk_or c n 0 255 q with ⟨e1, a⟩ | e1
      · exact ⟨a.1, e1, if_pos a⟩
      · rw [e1] at z; exact ff_t z
    refine ym_take C q hq 0 255 (by omega) (by omega) ⟨pk_in m 3 h3 hm, ?_⟩
    have k459 : ∀ z : Int32, (z = 0 ∨ z = 1) → ((rd_tk c n 0 255 q).1 = true → (z = 1 ↔ fn ≤ c q.2 ∧ c q.2 ≠ 255)) →
        wY_read_459 post (wY_read_411 post l) (nI i) z y_count y_place y_m (nI (rd_tk c n 0 255 q).2) (bb_w (rd_tk c n 0 255 q).1) y_constant L y_top y_frames y_invalid y_sp y_labels y_active y_fuel y_outcome y_trappedAt y_result y_used y_waits y_printed y_bytes y_there y_types y_typeSig y_imports y_functions y_sig y_what y_typeAt y_localsAt y_globals y_globalKind y_globalFree y_globalValue y_entries y_entriesAt H M y_nest y_kinds y_shape y_gives y_height y_dead y_stack y_labelAt y_labelHeight y_labelGives y_callModule y_callFunction y_callBack y_callBase y_callLabels y_waiting y_prints := by
      intro z hz hzi
      refine ym_note (rd_tk c n 0 255 q).1 z hz _ q.2 (by omega) S (fun y => ?_) (fun y => hL (ok y).1) (fun L' hL' => nm_r (nI_1 i) ?_)
      · rw [(ok y).2.1]; exact nI_pred q.2
      · refine ih (i + 1) l _ L' _ (by omega) (by omega) g1.2 hL' (fun L2 H2 M2 k1 k2 k3 => h L2 H2 M2 k1 k2 (fun y => ?_))
        obtain ⟨y1, y2, y3⟩ := k3 y
        have yt : (rd_tk c n 0 255 q).1 = true := by
          have a := (rd_e_ok y).1
          have b : (rd_n c n 0 255 r (rd_tk c n 0 255 q)).1 = true := by
            cases e : (rd_n c n 0 255 r (rd_tk c n 0 255 q)).1 with
            | true => rfl
            | false =>
              rw [rd_M, rd_tv_f e, if_neg (by decide), rd_tk_f e] at a
              exact ff_t a
          exact rd_G_tr (rd_G_n c n 0 255 r) b
        obtain ⟨o1, o2, o3⟩ := ok yt
        have hz2 := hzi yt
        rw [o2] at y1 y2 y3
        dsimp only at y1 y2 y3
        rw [show q.2 + 1 + r = q.2 + (r + 1) by omega] at y1 y2 y3
        refine ⟨y1, lm_ext y2 (fun x => ⟨?_, ?_⟩), y3⟩
        · rintro (((a | ⟨a, rfl⟩) | ⟨j, a1, a2, a3⟩) | a)
          · exact Or.inl (Or.inl a)
          · exact Or.inl (Or.inr ⟨0, by omega, rfl, hz2.mp a⟩)
          · exact Or.inl (Or.inr ⟨j + 1, by omega, by omega, a3⟩)
          · exact Or.inr a
        · rintro ((a | ⟨j, a1, a2, a3⟩) | a)
          · exact Or.inl (Or.inl (Or.inl a))
          · cases j with
            | zero =>
              have a2' : x = q.2 := a2
              subst a2'
              exact Or.inl (Or.inl (Or.inr ⟨hz2.mpr a3, rfl⟩))
            | succ j => exact Or.inl (Or.inr ⟨j, by omega, by omega, a3⟩)
          · exact Or.inr a
    refine pk_lt (rd_tv c n 0 255 q) fn (fun z => k459 0 (Or.inl rfl) (fun y => ⟨fun a => absurd a (by decide), fun a => ?_⟩)) (fun z => pk_eq (rd_tv c n 0 255 q) 255 (fun z2 => k459 0 (Or.inl rfl) (fun y => ⟨fun a => absurd a (by decide), fun a => ?_⟩)) (fun z2 => k459 1 (Or.inr rfl) (fun y => ⟨fun _ => ?_, fun _ => rfl⟩))) rfl efn'
    · rw [(ok y).2.2] at z; exact absurd a.1 (by omega)
    · rw [(ok y).2.2] at z2; exact absurd z2 a.2
    · rw [(ok y).2.2] at z z2; exact ⟨z, z2⟩
/-- the facts of globals -/
def gl_ok (m : Nat) (c : Nat → Nat) (n : Nat) (i r : Nat) (q : Bool × Nat) (GK GF : Nat → Int32) (GV : Nat → Int64) : Prop :=
  ∀ g, g < r → GK (3 * m + (i + g)) = nI (c (rd_it (rd_g c n) g q).2) ∧ GF (3 * m + (i + g)) = nI (c ((rd_it (rd_g c n) g q).2 + 1)) ∧ GV (3 * m + (i + g)) = cv c (c (rd_it (rd_g c n) g q).2) 10 ((rd_it (rd_g c n) g q).2 + 2) 0 0
def fr_l (lo hi : Nat) (a a' : Nat → Int64) : Prop := ∀ j, ¬ (lo ≤ j ∧ j < hi) → a' j = a j
theorem rd_g_ok {q : Bool × Nat} (h : (rd_g c n q).1 = true) : q.1 = true ∧ rd_tk c n 1 2 q = (true, q.2 + 1) ∧ rd_tv c n 1 2 q = c q.2 ∧ 1 ≤ c q.2 ∧ c q.2 ≤ 2 ∧ rd_tk c n 0 1 (rd_tk c n 1 2 q) = (true, q.2 + 2) ∧ rd_tv c n 0 1 (rd_tk c n 1 2 q) = c (q.2 + 1) ∧ c (q.2 + 1) ≤ 1 := by
  have h1 := rd_G_tr (rd_G_C c n _ (by split <;> omega)) h
  rcases rd_tk_or c n 0 1 (rd_tk c n 1 2 q) with ⟨e1, a⟩ | e1
  · rcases rd_tk_or c n 1 2 q with ⟨e2, b⟩ | e2
    · refine ⟨b.1, e2, if_pos b, b.2.2.1, b.2.2.2, by rw [e1, e2], ?_, ?_⟩
      · rw [show rd_tv c n 0 1 (rd_tk c n 1 2 q) = c (rd_tk c n 1 2 q).2 from if_pos a, e2]
      · have := a.2.2.2; rw [e2] at this; exact this
    · rw [e2] at a; exact ff_t a.1
  · rw [e1] at h1; exact ff_t h1
theorem yg_278 {post : SY → Prop} (C : cy_ok y_count y_m y_bytes m c n) (G fn : Nat) (hG : G ≤ 3) (hfn : fn < 100) (eG : y_globals m = nI G) (efn : y_functions m = nI fn) (S : Nat → Prop) : ∀ r i l (q : Bool × Nat) (k : Int64) (GK GF : Nat → Int32) (GV : Nat → Int64), i + r = G → r < l → q.2 ≤ n → (q.1 = true → lm y_least S) →
    (∀ k' L' GK' GF' GV' EN EA H' M', fr_i (3 * m + i) (3 * m + 3) GK GK' → fr_i (3 * m + i) (3 * m + 3) GF GF' → fr_l (3 * m + i) (3 * m + 3) GV GV' → (∀ j, j ≠ m → EN j = y_entries j) → (∀ j, j ≠ m → EA j = y_entriesAt j) → (∀ j, j ≠ m → H' j = y_hasMemory j) → fr_i (48 * m) (48 * m + 48) y_memory M' →
      ((rd_E c n (rd_it (rd_g c n) r q)).1 = true → gl_ok m c n i r q GK' GF' GV' ∧ EN m = nI (c (rd_it (rd_g c n) r q).2) ∧ EA m = nI ((rd_it (rd_g c n) r q).2 + 1) ∧ c (rd_it (rd_g c n) r q).2 ≤ 5 ∧
        H' m = nI (c ((rd_it (rd_g c n) r q).2 + 1 + c (rd_it (rd_g c n) r q).2)) ∧
        lm L' (fun x => (S x ∨ en_S c fn (c (rd_it (rd_g c n) r q).2) ((rd_it (rd_g c n) r q).2 + 1) x) ∨ me_S c n ((rd_it (rd_g c n) r q).2 + 1 + c (rd_it (rd_g c n) r q).2) x) ∧
        ∀ j, j < 48 → M' (48 * m + j) = sb_v (if c ((rd_it (rd_g c n) r q).2 + 1 + c (rd_it (rd_g c n) r q).2) = 1 then md_k c n (c ((rd_it (rd_g c n) r q).2 + 1 + c (rd_it (rd_g c n) r q).2 + 1)) (true, (rd_it (rd_g c n) r q).2 + 1 + c (rd_it (rd_g c n) r q).2 + 2) (fun _ => 0) j else 0)) →
      post (y_count, y_place, y_m, nI (rd_E c n (rd_it (rd_g c n) r q)).2, bb_w (rd_E c n (rd_it (rd_g c n) r q)).1, k', L', y_top, y_frames, y_invalid, y_sp, y_labels, y_active, y_fuel, y_outcome, y_trappedAt, y_result, y_used, y_waits, y_printed, y_bytes, y_there, y_types, y_typeSig, y_imports, y_functions, y_sig, y_what, y_typeAt, y_localsAt, y_globals, GK', GF', GV', EN, EA, H', M', y_nest, y_kinds, y_shape, y_gives, y_height, y_dead, y_stack, y_labelAt, y_labelHeight, y_labelGives, y_callModule, y_callFunction, y_callBack, y_callBase, y_callLabels, y_waiting, y_prints)) →
    wY_read_278 post l (nI i) y_count y_place y_m (nI q.2) (bb_w q.1) k y_least y_top y_frames y_invalid y_sp y_labels y_active y_fuel y_outcome y_trappedAt y_result y_used y_waits y_printed y_bytes y_there y_types y_typeSig y_imports y_functions y_sig y_what y_typeAt y_localsAt y_globals GK GF GV y_entries y_entriesAt y_hasMemory y_memory y_nest y_kinds y_shape y_gives y_height y_dead y_stack y_labelAt y_labelHeight y_labelGives y_callModule y_callFunction y_callBack y_callBase y_callLabels y_waiting y_prints := by
  obtain ⟨hn, h140, hm, h3, hb, h256⟩ := id C
  have em : y_m.toNatClampNeg = m := by rw [hm]; exact nI_clamp (by omega)
  have eG' : y_globals y_m.toNatClampNeg = nI G := by rw [em]; exact eG
  intro r
  induction r with
  | zero =>
    intro i l q k GK GF GV hi hl hq hL h
    obtain ⟨l, rfl⟩ : ∃ j, l = j + 1 := ⟨l - 1, by omega⟩
    rw [show rd_it (rd_g c n) 0 q = q from rfl] at h
    refine ⟨pk_in m 3 h3 hm, pk_le G i (fun _ => ?_) (fun z => absurd z (by omega)) eG' rfl⟩
    have g1 := (rd_G_tk c n 0 5).1 q hq
    have v1 := (rd_tv_le (c := c) (n := n) (lo := 0) (hi := 5) (q := q) (by omega)).2
    have ok : (rd_tk c n 0 5 q).1 = true → q.1 = true ∧ rd_tk c n 0 5 q = (true, q.2 + 1) ∧ rd_tv c n 0 5 q = c q.2 := by
      intro z
      rcases rd_tk_or c n 0 5 q with ⟨e1, a⟩ | e1
      · exact ⟨a.1, e1, if_pos a⟩
      · rw [e1] at z; exact ff_t z
    refine yr_take C q hq 0 5 (by omega) (by omega) ?_
    refine ⟨pk_in m 3 h3 hm, nm_r (show _ = upd y_entries m (nI (rd_tv c n 0 5 q)) from by rw [em, nr_b (by omega)]) ⟨pk_in m 3 h3 hm, nm_r (show _ = upd y_entriesAt m (nI (rd_tk c n 0 5 q).2) from by rw [em, nr_s (by omega)]) ⟨rd_tv c n 0 5 q + 1, ?_⟩⟩⟩
    refine ym_411 C (rd_tv c n 0 5 q) fn v1 hfn pk_us efn (rd_tv c n 0 5 q) 0 _ (rd_tk c n 0 5 q) y_least S (Nat.zero_add _) (by omega) g1.2 (fun y => hL (ok y).1) (fun L' H' M' f1 f2 f3 => ?_)
    refine h k L' GK GF GV _ _ H' M' (fun _ _ => rfl) (fun _ _ => rfl) (fun _ _ => rfl) (fun j hj => pk_un hj) (fun j hj => pk_un hj) f1 f2 (fun y => ?_)
    have yt : (rd_tk c n 0 5 q).1 = true := by
      have a := (rd_e_ok y).1
      have b : (rd_n c n 0 255 (rd_tv c n 0 5 q) (rd_tk c n 0 5 q)).1 = true := by
        cases e : (rd_n c n 0 255 (rd_tv c n 0 5 q) (rd_tk c n 0 5 q)).1 with
        | true => rfl
        | false =>
          rw [rd_M, rd_tv_f e, if_neg (by decide), rd_tk_f e] at a
          exact ff_t a
      exact rd_G_tr (rd_G_n c n 0 255 _) b
    obtain ⟨o1, o2, o3⟩ := ok yt
    obtain ⟨y1, y2, y3⟩ := f3 y
    rw [o2, o3] at y1 y2 y3
    refine ⟨fun g hg => absurd hg (by omega), by rw [pk_us, o3], by rw [pk_us, o2], by omega, y1, y2, y3⟩
  | succ r ih =>
    intro i l q k GK GF GV hi hl hq hL h
    obtain ⟨l, rfl⟩ : ∃ j, l = j + 1 := ⟨l - 1, by omega⟩
    rw [rd_it] at h
    refine ⟨pk_in m 3 h3 hm, pk_le G i (fun z => absurd z (by omega)) (fun _ => ?_) eG' rfl⟩
    have g1 := (rd_G_tk c n 1 2).1 q hq
    have g2 := (rd_G_tk c n 0 1).1 _ g1.2
    have g3 := (rd_G_g c n).1 q hq
    have v1 := (rd_tv_le (c := c) (n := n) (lo := 1) (hi := 2) (q := q) (by omega)).2
    have v2 := (rd_tv_le (c := c) (n := n) (lo := 0) (hi := 1) (q := rd_tk c n 1 2 q) (by omega)).2
    have ei : 3 * y_m + nI i = nI (3 * m + i) := by rw [hm, show (3 : Int32) = nI 3 from rfl, pk_mul, nI_add]
    refine yr_take C q hq 1 2 (by omega) (by omega) ?_
    refine ⟨pk_in (3 * m + i) 9 (by omega) ei, nm_r (show _ = upd GK (3 * m + i) (nI (rd_tv c n 1 2 q)) from by rw [pk_cl (3 * m + i) ei, nr_b (by omega)]) ?_⟩
    refine yr_take C _ g1.2 0 1 (by omega) (by omega) ?_
    have k338 : ∀ z : Nat, z = rd_tv c n 0 1 (rd_tk c n 1 2 q) → wY_read_338 post (wY_read_278 post l) (nI i) (nI z) (3 * y_m + nI i) y_count y_place y_m (nI (rd_tk c n 0 1 (rd_tk c n 1 2 q)).2) (bb_w (rd_tk c n 0 1 (rd_tk c n 1 2 q)).1) k y_least y_top y_frames y_invalid y_sp y_labels y_active y_fuel y_outcome y_trappedAt y_result y_used y_waits y_printed y_bytes y_there y_types y_typeSig y_imports y_functions y_sig y_what y_typeAt y_localsAt y_globals (upd GK (3 * m + i) (nI (rd_tv c n 1 2 q))) GF GV y_entries y_entriesAt y_hasMemory y_memory y_nest y_kinds y_shape y_gives y_height y_dead y_stack y_labelAt y_labelHeight y_labelGives y_callModule y_callFunction y_callBack y_callBase y_callLabels y_waiting y_prints := by
      intro z hz
      refine ⟨pk_in (3 * m + i) 9 (by omega) ei, nm_r (show _ = upd GF (3 * m + i) (nI z) from by
        rw [pk_cl (3 * m + i) ei]
        have : z = 0 ∨ z = 1 := by omega
        rcases this with rfl | rfl <;> rfl) ⟨pk_in (3 * m + i) 9 (by omega) ei, ?_⟩⟩
      have eK : upd GK (3 * m + i) (nI (rd_tv c n 1 2 q)) (3 * y_m + nI i).toNatClampNeg = nI (rd_tv c n 1 2 q) := by rw [pk_cl (3 * m + i) ei]; exact pk_us
      show wpY_takeConstant _ _ (upd GK (3 * m + i) (nI (rd_tv c n 1 2 q)) (3 * y_m + nI i).toNatClampNeg)
      rw [eK]
      refine yr_const C (rd_tv c n 1 2 q) (by omega) _ g2.2 (fun k' hk' => ?_)
      refine ⟨pk_in (3 * m + i) 9 (by omega) ei, nm_r (show _ = vp_updL GV (3 * m + i) k' from by rw [pk_cl (3 * m + i) ei]) (nm_r (nI_1 i) ?_)⟩
      have eg : rd_C c n (if rd_tv c n 1 2 q = 1 then 5 else 10) (rd_tk c n 0 1 (rd_tk c n 1 2 q)) = rd_g c n q := rfl
      rw [eg] at hk' ⊢
      refine ih (i + 1) l (rd_g c n q) k' _ _ _ (by omega) (by omega) g3.2 (fun y => hL (rd_G_tr (rd_G_g c n) y)) (fun k2 L2 GK2 GF2 GV2 EN EA H2 M2 f1 f2 f3 f4 f5 f6 f7 f8 => h k2 L2 GK2 GF2 GV2 EN EA H2 M2 (fun j hj => (f1 j (by omega)).trans (pk_un (by omega))) (fun j hj => (f2 j (by omega)).trans (pk_un (by omega))) (fun j hj => (f3 j (by omega)).trans (pk_uLn (by omega))) f4 f5 f6 f7 (fun y => ?_))
      obtain ⟨y1, y2⟩ := f8 y
      refine ⟨fun g hg => ?_, y2⟩
      have yt : (rd_g c n q).1 = true := by
        have a := (rd_e_ok y).1
        have b : (rd_n c n 0 255 (rd_tv c n 0 5 (rd_it (rd_g c n) r (rd_g c n q))) (rd_tk c n 0 5 (rd_it (rd_g c n) r (rd_g c n q)))).1 = true := by
          cases e : (rd_n c n 0 255 (rd_tv c n 0 5 (rd_it (rd_g c n) r (rd_g c n q))) (rd_tk c n 0 5 (rd_it (rd_g c n) r (rd_g c n q)))).1 with
          | true => rfl
          | false =>
            rw [rd_M, rd_tv_f e, if_neg (by decide), rd_tk_f e] at a
            exact ff_t a
        exact rd_G_tr (rd_G_it (rd_G_g c n) r) (rd_G_tr (rd_G_tk c n 0 5) (rd_G_tr (rd_G_n c n 0 255 _) b))
      obtain ⟨o1, o2, o3, o4, o5, o6, o7, o8⟩ := rd_g_ok yt
      cases g with
      | zero =>
        refine ⟨?_, ?_, ?_⟩
        · rw [Nat.add_zero, f1 _ (by omega), pk_us, o3]; rfl
        · rw [Nat.add_zero, f2 _ (by omega), pk_us, hz, o7]; rfl
        · rw [Nat.add_zero, f3 _ (by omega), pk_uLs, hk' yt, o6, o3]; rfl
      | succ g =>
        have := y1 g (by omega)
        rw [show i + (g + 1) = i + 1 + g by omega]
        exact this
    refine pk_eq (rd_tv c n 0 1 (rd_tk c n 1 2 q)) 1 (fun z => k338 1 z.symm) (fun z => k338 0 (by omega))
end
end
section
/-! 12: the reference's reading: functions, imports, types, a module -/
/-- from the globals on: where it ends -/
def rd_Z (c : Nat → Nat) (n : Nat) (q : Bool × Nat) : Bool × Nat := rd_E c n (rd_it (rd_g c n) (rd_tv c n 0 3 q) (rd_tk c n 0 3 q))
def tl_q (c : Nat → Nat) (n p : Nat) : Nat := (rd_it (rd_g c n) (c p) (true, p + 1)).2
def tl_m (c : Nat → Nat) (n p : Nat) : Nat := tl_q c n p + 1 + c (tl_q c n p)
def tl_mem (c : Nat → Nat) (n p : Nat) : Nat → Nat := if c (tl_m c n p) = 1 then md_k c n (c (tl_m c n p + 1)) (true, tl_m c n p + 2) (fun _ => 0) else fun _ => 0
/-- what the reference holds of the parts from the globals on (their count stands at p) -/
def tl_ok (m : Nat) (c : Nat → Nat) (n fn : Nat) (S : Nat → Prop) (p : Nat) (L : Int32) (GL GK GF : Nat → Int32) (GV : Nat → Int64) (EN EA H M : Nat → Int32) : Prop :=
  GL m = nI (c p) ∧ c p ≤ 3 ∧ gl_ok m c n 0 (c p) (true, p + 1) GK GF GV ∧ EN m = nI (c (tl_q c n p)) ∧ EA m = nI (tl_q c n p + 1) ∧ c (tl_q c n p) ≤ 5 ∧ H m = nI (c (tl_m c n p)) ∧
  lm L (fun x => (S x ∨ en_S c fn (c (tl_q c n p)) (tl_q c n p + 1) x) ∨ me_S c n (tl_m c n p) x) ∧ ∀ j, j < 48 → M (48 * m + j) = sb_v (tl_mem c n p j)
/-- the other modules' parts stay -/
def tl_fr (m : Nat) (GL GK GF : Nat → Int32) (GV : Nat → Int64) (EN EA H M GL' GK' GF' : Nat → Int32) (GV' : Nat → Int64) (EN' EA' H' M' : Nat → Int32) : Prop :=
  (∀ j, j ≠ m → GL' j = GL j) ∧ fr_i (3 * m) (3 * m + 3) GK GK' ∧ fr_i (3 * m) (3 * m + 3) GF GF' ∧ fr_l (3 * m) (3 * m + 3) GV GV' ∧ (∀ j, j ≠ m → EN' j = EN j) ∧ (∀ j, j ≠ m → EA' j = EA j) ∧ (∀ j, j ≠ m → H' j = H j) ∧ fr_i (48 * m) (48 * m + 48) M M'
theorem rd_Z_ok {c : Nat → Nat} {n : Nat} {q : Bool × Nat} (h : (rd_Z c n q).1 = true) : q.1 = true ∧ rd_tk c n 0 3 q = (true, q.2 + 1) ∧ rd_tv c n 0 3 q = c q.2 ∧ c q.2 ≤ 3 := by
  have a := (rd_e_ok h).1
  have b : (rd_tk c n 0 3 q).1 = true := by
    cases e : (rd_tk c n 0 3 q).1 with
    | true => rfl
    | false =>
      have e2 : rd_it (rd_g c n) (rd_tv c n 0 3 q) (rd_tk c n 0 3 q) = rd_tk c n 0 3 q := (rd_G_it (rd_G_g c n) _).2 _ e
      rw [e2, rd_tv_f e, rd_tk_f e] at a
      have e3 : rd_n c n 0 255 0 (false, (rd_tk c n 0 3 q).2) = (false, (rd_tk c n 0 3 q).2) := rfl
      rw [e3, rd_M, rd_tv_f rfl, if_neg (by decide), rd_tk_f rfl] at a
      exact ff_t a
  rcases rd_tk_or c n 0 3 q with ⟨e1, a⟩ | e1
  · exact ⟨a.1, e1, if_pos a, a.2.2.2⟩
  · rw [e1] at b; exact ff_t b
theorem rd_n_ok {c : Nat → Nat} {n lo hi : Nat} : ∀ k q, (rd_n c n lo hi k q).1 = true → q.1 = true ∧ rd_n c n lo hi k q = (true, q.2 + k) ∧ (∀ i, i < k → lo ≤ c (q.2 + i) ∧ c (q.2 + i) ≤ hi) ∧ (q.2 ≤ n → q.2 + k ≤ n) := by
  intro k
  induction k with
  | zero => intro q h; exact ⟨h, tt_eq h, fun i hi => absurd hi (by omega), fun h => h⟩
  | succ k ih =>
    intro q h
    rw [rd_n] at h ⊢
    obtain ⟨h1, h2, h3, h4⟩ := ih _ h
    rcases rd_tk_or c n lo hi q with ⟨e, a1, a2, a3, a4⟩ | e
    · rw [e] at h2 h3 h4 ⊢
      dsimp only at h2 h3 h4 ⊢
      refine ⟨a1, by rw [h2, show q.2 + 1 + k = q.2 + (k + 1) by omega], fun i hi => ?_, fun _ => by have := h4 (by omega); omega⟩
      cases i with
      | zero => exact ⟨a3, a4⟩
      | succ i => have := h3 i (by omega); rw [show q.2 + (i + 1) = q.2 + 1 + i by omega]; exact this
    · rw [e] at h1; exact ff_t h1
theorem rd_K_ok {c : Nat → Nat} {n most : Nat} {q : Bool × Nat} (h : (rd_K c n most q).1 = true) : q.1 = true ∧ rd_K c n most q = (true, q.2 + 1 + c q.2) ∧ c q.2 ≤ most ∧ (∀ i, i < c q.2 → 1 ≤ c (q.2 + 1 + i) ∧ c (q.2 + 1 + i) ≤ 2) ∧ q.2 + 1 + c q.2 ≤ n := by
  unfold rd_K at h ⊢
  obtain ⟨h1, h2, h3, h4⟩ := rd_n_ok _ _ h
  rcases rd_tk_or c n 0 most q with ⟨e, a1, a2, a3, a4⟩ | e
  · have e2 : rd_tv c n 0 most q = c q.2 := if_pos ⟨a1, a2, a3, a4⟩
    rw [e2] at h2 h3 h4 ⊢
    rw [e] at h2 h3 h4 ⊢
    exact ⟨a1, h2, a4, h3, h4 (by dsimp only; omega)⟩
  · rw [e] at h1; exact ff_t h1
/-- the bytes at p are a type's -/
def ty_ok (c : Nat → Nat) (p : Nat) : Prop := c p ≤ 3 ∧ (∀ i, i < c p → 1 ≤ c (p + 1 + i) ∧ c (p + 1 + i) ≤ 2) ∧ c (p + 1 + c p) ≤ 1 ∧ (c (p + 1 + c p) = 1 → 1 ≤ c (p + 1 + c p + 1) ∧ c (p + 1 + c p + 1) ≤ 2)
theorem rd_T_ok {c : Nat → Nat} {n : Nat} {q : Bool × Nat} (h : (rd_T c n q).1 = true) : q.1 = true ∧ ty_ok c q.2 ∧ (rd_T c n q).2 = q.2 + 1 + c q.2 + 1 + c (q.2 + 1 + c q.2) ∧ (rd_T c n q).2 ≤ n := by
  unfold rd_T at h ⊢
  obtain ⟨h1, h2, h3, h4, h5⟩ := rd_K_ok h
  obtain ⟨g1, g2, g3, g4, g5⟩ := rd_K_ok h1
  rw [g2] at h2 h3 h4 h5 ⊢
  dsimp only at h2 h3 h4 h5 ⊢
  refine ⟨g1, ⟨g3, g4, h3, fun z => ?_⟩, by rw [h2], by rw [h2]; exact h5⟩
  have := h4 0 (by omega)
  rw [Nat.add_zero] at this
  exact this
theorem sg_lt {c : Nat → Nat} {p : Nat} (h : ty_ok c p) : sg c p < 1024 := by
  obtain ⟨h1, h2, h3, h4⟩ := h
  have hr : (if c (p + 1 + c p) = 0 then 0 else c (p + 1 + c p + 1) * 256) ≤ 512 := by
    split
    · omega
    · have := h4 (by omega); omega
  have hl : sg_l c (c p) 0 (p + 1) (c p) ≤ 171 := by
    have z : c p = 0 ∨ c p = 1 ∨ c p = 2 ∨ c p = 3 := by omega
    rcases z with z | z | z | z <;> rw [z] at h2 ⊢ <;> simp only [sg_l]
    · omega
    · have a := h2 0 (by omega); simp only [Nat.add_zero] at a; omega
    · have a := h2 0 (by omega); have b := h2 1 (by omega); simp only [Nat.add_zero] at a; omega
    · have a := h2 0 (by omega); have b := h2 1 (by omega); have d := h2 2 (by omega); rw [show p + 1 + 2 = p + 1 + 1 + 1 by omega] at d; simp only [Nat.add_zero] at a; omega
  unfold sg
  omega
section
variable {y_count y_place y_m y_pos y_wrong y_least y_top y_frames y_invalid y_sp y_labels y_active y_fuel y_outcome y_trappedAt y_used y_waits y_printed : Int32} {y_constant y_result : Int64} {y_bytes y_there y_types y_typeSig y_imports y_functions y_sig y_what y_typeAt y_localsAt y_globals y_globalKind y_globalFree y_entries y_entriesAt y_hasMemory y_memory y_nest y_kinds y_shape y_gives y_height y_dead y_labelAt y_labelHeight y_labelGives y_callModule y_callFunction y_callBack y_callBase y_callLabels y_waiting y_prints : Nat → Int32} {y_globalValue y_stack : Nat → Int64}
variable {m : Nat} {c : Nat → Nat} {n p : Nat}
theorem y_260 {post : SY → Prop} (C : cy_ok y_count y_m y_bytes m c n) (fn : Nat) (hfn : fn < 100) (efn : y_functions m = nI fn) (S : Nat → Prop) (q : Bool × Nat) (hq : q.2 ≤ n) (hL : q.1 = true → lm y_least S)
    (h : ∀ k L GL GK GF GV EN EA H M, tl_fr m y_globals y_globalKind y_globalFree y_globalValue y_entries y_entriesAt y_hasMemory y_memory GL GK GF GV EN EA H M →
      ((rd_Z c n q).1 = true → tl_ok m c n fn S q.2 L GL GK GF GV EN EA H M) →
      post (y_count, y_place, y_m, nI (rd_Z c n q).2, bb_w (rd_Z c n q).1, k, L, y_top, y_frames, y_invalid, y_sp, y_labels, y_active, y_fuel, y_outcome, y_trappedAt, y_result, y_used, y_waits, y_printed, y_bytes, y_there, y_types, y_typeSig, y_imports, y_functions, y_sig, y_what, y_typeAt, y_localsAt, GL, GK, GF, GV, EN, EA, H, M, y_nest, y_kinds, y_shape, y_gives, y_height, y_dead, y_stack, y_labelAt, y_labelHeight, y_labelGives, y_callModule, y_callFunction, y_callBack, y_callBase, y_callLabels, y_waiting, y_prints)) :
    wY_read_260 post y_count y_place y_m (nI q.2) (bb_w q.1) y_constant y_least y_top y_frames y_invalid y_sp y_labels y_active y_fuel y_outcome y_trappedAt y_result y_used y_waits y_printed y_bytes y_there y_types y_typeSig y_imports y_functions y_sig y_what y_typeAt y_localsAt y_globals y_globalKind y_globalFree y_globalValue y_entries y_entriesAt y_hasMemory y_memory y_nest y_kinds y_shape y_gives y_height y_dead y_stack y_labelAt y_labelHeight y_labelGives y_callModule y_callFunction y_callBack y_callBase y_callLabels y_waiting y_prints := by
  obtain ⟨hn, h140, hm, h3, hb, h256⟩ := id C
  have em : y_m.toNatClampNeg = m := by rw [hm]; exact nI_clamp (by omega)
  have g1 := (rd_G_tk c n 0 3).1 q hq
  have v1 := (rd_tv_le (c := c) (n := n) (lo := 0) (hi := 3) (q := q) (by omega)).2
  unfold wY_read_260
  refine yr_take C q hq 0 3 (by omega) (by omega) ?_
  refine ⟨pk_in m 3 h3 hm, nm_r (show _ = upd y_globals m (nI (rd_tv c n 0 3 q)) from by rw [em, nr_b (by omega)]) ⟨rd_tv c n 0 3 q + 1, ?_⟩⟩
  refine yg_278 C (rd_tv c n 0 3 q) fn v1 hfn pk_us efn S (rd_tv c n 0 3 q) 0 _ (rd_tk c n 0 3 q) _ _ _ _ (Nat.zero_add _) (by omega) g1.2 (fun y => hL (rd_G_tr (rd_G_tk c n 0 3) y)) (fun k' L' GK' GF' GV' EN EA H' M' f1 f2 f3 f4 f5 f6 f7 f8 => ?_)
  refine h k' L' _ GK' GF' GV' EN EA H' M' ⟨fun j hj => pk_un hj, f1, f2, f3, f4, f5, f6, f7⟩ (fun y => ?_)
  obtain ⟨o1, o2, o3, o4⟩ := rd_Z_ok y
  obtain ⟨y1, y2, y3, y4, y5, y6, y7⟩ := f8 y
  rw [o2, o3] at y1 y2 y3 y4 y5 y6 y7
  refine ⟨by rw [pk_us, o3], o4, y1, y2, y3, y4, y5, y6, fun j hj => ?_⟩
  rw [y7 j hj]
  unfold tl_mem tl_m tl_q
  split <;> rfl
/-- the reference's number of the type with the index at p; -1 where there is none -/
def sg_i (c : Nat → Nat) (nT : Nat) (ty : Nat → Nat) (p : Nat) : Int32 := if c p < nT then nI (sg c (ty (c p))) else -1
theorem yf_type {post : SY → Prop} {L : Int32} {SI TA : Nat → Int32} (C : cy_ok y_count y_m y_bytes m c n) (j nT : Nat) (hj : j < 7) (hT : nT ≤ 4) (eT : y_types m = nI nT) (ty : Nat → Nat) (S : Nat → Prop) (q : Bool × Nat) (hq : q.2 ≤ n)
    (hts : q.1 = true → ∀ t, t < nT → y_typeSig (4 * m + t) = nI (sg c (ty t)) ∧ sg c (ty t) < 1024) (hL : q.1 = true → lm L S)
    (h : ∀ L' s', ((rd_tk c n 0 255 q).1 = true → s' = sg_i c nT ty q.2 ∧ lm L' (fun x => S x ∨ (nT ≤ c q.2 ∧ x = q.2))) →
      post (y_count, y_place, y_m, nI (rd_tk c n 0 255 q).2, bb_w (rd_tk c n 0 255 q).1, y_constant, L', y_top, y_frames, y_invalid, y_sp, y_labels, y_active, y_fuel, y_outcome, y_trappedAt, y_result, y_used, y_waits, y_printed, y_bytes, y_there, y_types, y_typeSig, y_imports, y_functions, upd SI (7 * m + j) s', y_what, upd TA (7 * m + j) (nI q.2), y_localsAt, y_globals, y_globalKind, y_globalFree, y_globalValue, y_entries, y_entriesAt, y_hasMemory, y_memory, y_nest, y_kinds, y_shape, y_gives, y_height, y_dead, y_stack, y_labelAt, y_labelHeight, y_labelGives, y_callModule, y_callFunction, y_callBack, y_callBase, y_callLabels, y_waiting, y_prints)) :
    wpY_takeFunctionType post (y_count, y_place, y_m, nI q.2, bb_w q.1, y_constant, L, y_top, y_frames, y_invalid, y_sp, y_labels, y_active, y_fuel, y_outcome, y_trappedAt, y_result, y_used, y_waits, y_printed, y_bytes, y_there, y_types, y_typeSig, y_imports, y_functions, SI, y_what, TA, y_localsAt, y_globals, y_globalKind, y_globalFree, y_globalValue, y_entries, y_entriesAt, y_hasMemory, y_memory, y_nest, y_kinds, y_shape, y_gives, y_height, y_dead, y_stack, y_labelAt, y_labelHeight, y_labelGives, y_callModule, y_callFunction, y_callBack, y_callBase, y_callLabels, y_waiting, y_prints) (nI j) := by
  obtain ⟨hn, h140, hm, h3, hb, h256⟩ := id C
  have em : y_m.toNatClampNeg = m := by rw [hm]; exact nI_clamp (by omega)
  have ej : 7 * y_m + nI j = nI (7 * m + j) := by rw [hm, show (7 : Int32) = nI 7 from rfl, pk_mul, nI_add]
  have eT' : y_types y_m.toNatClampNeg = nI nT := by rw [em]; exact eT
  have v1 := (rd_tv_le (c := c) (n := n) (lo := 0) (hi := 255) (q := q) (by omega)).2
  have ok : (rd_tk c n 0 255 q).1 = true → q.1 = true ∧ rd_tk c n 0 255 q = (true, q.2 + 1) ∧ rd_tv c n 0 255 q = c q.2 := by
    intro z
    rcases rd_tk_or c n 0 255 q with ⟨e1, a⟩ | e1
    · exact ⟨a.1, e1, if_pos a⟩
    · rw [e1] at z; exact ff_t z
  refine ⟨pk_in (7 * m + j) 21 (by omega) ej, nm_r (show _ = upd TA (7 * m + j) (nI q.2) from by rw [pk_cl (7 * m + j) ej, nr_s (by omega)]) ?_⟩
  refine yr_take C q hq 0 255 (by omega) (by omega) ⟨pk_in m 3 h3 hm, ?_⟩
  have k91 : ∀ (s' z : Int32), (z = 0 ∨ z = 1) → ((rd_tk c n 0 255 q).1 = true → s' = sg_i c nT ty q.2 ∧ (z = 1 ↔ nT ≤ c q.2)) →
      wY_takeFunctionType_91 post z y_count y_place y_m (nI (rd_tk c n 0 255 q).2) (bb_w (rd_tk c n 0 255 q).1) y_constant L y_top y_frames y_invalid y_sp y_labels y_active y_fuel y_outcome y_trappedAt y_result y_used y_waits y_printed y_bytes y_there y_types y_typeSig y_imports y_functions (upd SI (7 * m + j) s') y_what (upd TA (7 * m + j) (nI q.2)) y_localsAt y_globals y_globalKind y_globalFree y_globalValue y_entries y_entriesAt y_hasMemory y_memory y_nest y_kinds y_shape y_gives y_height y_dead y_stack y_labelAt y_labelHeight y_labelGives y_callModule y_callFunction y_callBack y_callBase y_callLabels y_waiting y_prints := by
    intro s' z hz hzi
    unfold wY_takeFunctionType_91
    refine ym_note (rd_tk c n 0 255 q).1 z hz _ q.2 (by omega) S (fun y => ?_) (fun y => hL (ok y).1) (fun L' hL' => h L' s' (fun y => ⟨(hzi y).1, lm_ext (hL' y) (fun x => ?_)⟩))
    · rw [(ok y).2.1]; exact nI_pred q.2
    · rw [(hzi y).2]
  have k71 : ∀ (s0 s' : Int32), vp_nar .short s0 = s' → ((rd_tk c n 0 255 q).1 = true → s' = sg_i c nT ty q.2) →
      wY_takeFunctionType_71 post (nI (rd_tv c n 0 255 q)) s0 (7 * y_m + nI j) y_count y_place y_m (nI (rd_tk c n 0 255 q).2) (bb_w (rd_tk c n 0 255 q).1) y_constant L y_top y_frames y_invalid y_sp y_labels y_active y_fuel y_outcome y_trappedAt y_result y_used y_waits y_printed y_bytes y_there y_types y_typeSig y_imports y_functions SI y_what (upd TA (7 * m + j) (nI q.2)) y_localsAt y_globals y_globalKind y_globalFree y_globalValue y_entries y_entriesAt y_hasMemory y_memory y_nest y_kinds y_shape y_gives y_height y_dead y_stack y_labelAt y_labelHeight y_labelGives y_callModule y_callFunction y_callBack y_callBase y_callLabels y_waiting y_prints := by
    intro s0 s' e1 e2
    refine ⟨pk_in (7 * m + j) 21 (by omega) ej, nm_r (show _ = upd SI (7 * m + j) s' from by rw [pk_cl (7 * m + j) ej, e1]) ⟨pk_in m 3 h3 hm, ?_⟩⟩
    refine pk_lt (rd_tv c n 0 255 q) nT (fun z => k91 s' 0 (Or.inl rfl) (fun y => ⟨e2 y, fun a => absurd a (by decide), fun a => ?_⟩)) (fun z => k91 s' 1 (Or.inr rfl) (fun y => ⟨e2 y, fun _ => ?_, fun _ => rfl⟩)) rfl eT'
    · rw [(ok y).2.2] at z; omega
    · rw [(ok y).2.2] at z; exact z
  refine pk_le nT (rd_tv c n 0 255 q) (fun z => k71 (-1) (-1) (by rw [vp_nar_short]; decide) (fun y => ?_)) (fun z => ?_) eT' rfl
  · rw [(ok y).2.2] at z
    exact (if_neg (by omega)).symm
  · have e4 : 4 * y_m + nI (rd_tv c n 0 255 q) = nI (4 * m + rd_tv c n 0 255 q) := by rw [hm, show (4 : Int32) = nI 4 from rfl, pk_mul, nI_add]
    refine ⟨pk_in (4 * m + rd_tv c n 0 255 q) 12 (by omega) e4, ?_⟩
    refine k71 _ _ rfl (fun y => ?_)
    obtain ⟨o1, o2, o3⟩ := ok y
    rw [pk_cl (4 * m + rd_tv c n 0 255 q) e4, (hts o1 _ z).1, nr_s' (by have := (hts o1 _ z).2; omega), o3]
    exact (if_pos (by rw [← o3]; exact z)).symm
theorem y_231 {post : SY → Prop} {J : Int32 → Int32 → Int32 → Int32 → Int32 → Int32 → Int64 → Int32 → Int32 → Int32 → Int32 → Int32 → Int32 → Int32 → Int32 → Int32 → Int32 → Int64 → Int32 → Int32 → Int32 → (Nat → Int32) → (Nat → Int32) → (Nat → Int32) → (Nat → Int32) → (Nat → Int32) → (Nat → Int32) → (Nat → Int32) → (Nat → Int32) → (Nat → Int32) → (Nat → Int32) → (Nat → Int32) → (Nat → Int32) → (Nat → Int32) → (Nat → Int64) → (Nat → Int32) → (Nat → Int32) → (Nat → Int32) → (Nat → Int32) → (Nat → Int32) → (Nat → Int32) → (Nat → Int32) → (Nat → Int32) → (Nat → Int32) → (Nat → Int32) → (Nat → Int64) → (Nat → Int32) → (Nat → Int32) → (Nat → Int32) → (Nat → Int32) → (Nat → Int32) → (Nat → Int32) → (Nat → Int32) → (Nat → Int32) → (Nat → Int32) → (Nat → Int32) → Prop} (C : cy_ok y_count y_m y_bytes m c n) (x2 : Int32) (N : Nat) (hN : N ≤ 3) : ∀ r i l (q : Bool × Nat) (k : Int64), i + r = N → r < l → q.2 ≤ n →
    (∀ NE k', J (x2 + 1) y_count y_place y_m (nI (rd_B c n 141 (rd_n c n 1 2 r q) [(0, 0, 0)]).1.2) (bb_w (rd_B c n 141 (rd_n c n 1 2 r q) [(0, 0, 0)]).1.1) k' y_least y_top y_frames y_invalid y_sp y_labels y_active y_fuel y_outcome y_trappedAt y_result y_used y_waits y_printed y_bytes y_there y_types y_typeSig y_imports y_functions y_sig y_what y_typeAt y_localsAt y_globals y_globalKind y_globalFree y_globalValue y_entries y_entriesAt y_hasMemory y_memory NE y_kinds y_shape y_gives y_height y_dead y_stack y_labelAt y_labelHeight y_labelGives y_callModule y_callFunction y_callBack y_callBase y_callLabels y_waiting y_prints) →
    wY_read_231 post J x2 (nI N) l (nI i) y_count y_place y_m (nI q.2) (bb_w q.1) k y_least y_top y_frames y_invalid y_sp y_labels y_active y_fuel y_outcome y_trappedAt y_result y_used y_waits y_printed y_bytes y_there y_types y_typeSig y_imports y_functions y_sig y_what y_typeAt y_localsAt y_globals y_globalKind y_globalFree y_globalValue y_entries y_entriesAt y_hasMemory y_memory y_nest y_kinds y_shape y_gives y_height y_dead y_stack y_labelAt y_labelHeight y_labelGives y_callModule y_callFunction y_callBack y_callBase y_callLabels y_waiting y_prints := by
  intro r
  induction r with
  | zero =>
    intro i l q k hi hl hq h
    obtain ⟨l, rfl⟩ : ∃ j, l = j + 1 := ⟨l - 1, by omega⟩
    refine pk_le N i (fun _ => ?_) (fun z => absurd z (by omega))
    exact yr_body C q hq (fun NE k' => nm_e (h NE k'))
  | succ r ih =>
    intro i l q k hi hl hq h
    obtain ⟨l, rfl⟩ : ∃ j, l = j + 1 := ⟨l - 1, by omega⟩
    refine pk_le N i (fun z => absurd z (by omega)) (fun _ => ?_)
    refine yr_take C q hq 1 2 (by omega) (by omega) (nm_r (nI_1 i) ?_)
    exact ih (i + 1) l _ k (by omega) (by omega) ((rd_G_tk c n 1 2).1 q hq).2 h
/-- the reference's facts of functions -/
def fn_ok (m : Nat) (c : Nat → Nat) (n nT : Nat) (ty : Nat → Nat) (i r : Nat) (q : Bool × Nat) (SI TA LA : Nat → Int32) : Prop :=
  ∀ g, g < r → SI (7 * m + (i + g)) = sg_i c nT ty (rd_it (rd_F c n) g q).2 ∧ TA (7 * m + (i + g)) = nI (rd_it (rd_F c n) g q).2 ∧ LA (7 * m + (i + g)) = nI ((rd_it (rd_F c n) g q).2 + 1)
def ft_S (c : Nat → Nat) (nT : Nat) (f : Bool × Nat → Bool × Nat) (r : Nat) (q : Bool × Nat) (x : Nat) : Prop := ∃ g, g < r ∧ x = (rd_it f g q).2 ∧ nT ≤ c x
theorem rd_F_ok {q : Bool × Nat} (h : (rd_F c n q).1 = true) : q.1 = true ∧ rd_tk c n 0 255 q = (true, q.2 + 1) ∧ rd_tv c n 0 255 q = c q.2 := by
  have h1 := rd_G_tr (rd_G_K c n 3) (rd_G_tr (rd_G_B c n 141 [(0, 0, 0)]) h)
  rcases rd_tk_or c n 0 255 q with ⟨e1, a⟩ | e1
  · exact ⟨a.1, e1, if_pos a⟩
  · rw [e1] at h1; exact ff_t h1
theorem y_177 {post : SY → Prop} (C : cy_ok y_count y_m y_bytes m c n) (fn nT : Nat) (hfn : fn ≤ 7) (hT : nT ≤ 4) (efn : y_functions m = nI fn) (eT : y_types m = nI nT) (ty : Nat → Nat) (b0 : Bool) (hts : b0 = true → ∀ t, t < nT → y_typeSig (4 * m + t) = nI (sg c (ty t)) ∧ sg c (ty t) < 1024) :
    ∀ r i l (q : Bool × Nat) (k : Int64) (L : Int32) (SI TA LA NE : Nat → Int32) (S : Nat → Prop), i + r = fn → r < l → q.2 ≤ n → (q.1 = true → b0 = true) → (q.1 = true → lm L S) →
    (∀ k' L' SI' TA' LA' NE' GL GK GF GV EN EA H M, fr_i (7 * m + i) (7 * m + 7) SI SI' → fr_i (7 * m + i) (7 * m + 7) TA TA' → fr_i (7 * m + i) (7 * m + 7) LA LA' →
      tl_fr m y_globals y_globalKind y_globalFree y_globalValue y_entries y_entriesAt y_hasMemory y_memory GL GK GF GV EN EA H M →
      ((rd_Z c n (rd_it (rd_F c n) r q)).1 = true → fn_ok m c n nT ty i r q SI' TA' LA' ∧ tl_ok m c n fn (fun x => S x ∨ ft_S c nT (rd_F c n) r q x) (rd_it (rd_F c n) r q).2 L' GL GK GF GV EN EA H M) →
      post (y_count, y_place, y_m, nI (rd_Z c n (rd_it (rd_F c n) r q)).2, bb_w (rd_Z c n (rd_it (rd_F c n) r q)).1, k', L', y_top, y_frames, y_invalid, y_sp, y_labels, y_active, y_fuel, y_outcome, y_trappedAt, y_result, y_used, y_waits, y_printed, y_bytes, y_there, y_types, y_typeSig, y_imports, y_functions, SI', y_what, TA', LA', GL, GK, GF, GV, EN, EA, H, M, NE', y_kinds, y_shape, y_gives, y_height, y_dead, y_stack, y_labelAt, y_labelHeight, y_labelGives, y_callModule, y_callFunction, y_callBack, y_callBase, y_callLabels, y_waiting, y_prints)) →
    wY_read_177 post l (nI i) y_count y_place y_m (nI q.2) (bb_w q.1) k L y_top y_frames y_invalid y_sp y_labels y_active y_fuel y_outcome y_trappedAt y_result y_used y_waits y_printed y_bytes y_there y_types y_typeSig y_imports y_functions SI y_what TA LA y_globals y_globalKind y_globalFree y_globalValue y_entries y_entriesAt y_hasMemory y_memory NE y_kinds y_shape y_gives y_height y_dead y_stack y_labelAt y_labelHeight y_labelGives y_callModule y_callFunction y_callBack y_callBase y_callLabels y_waiting y_prints := by
  obtain ⟨hn, h140, hm, h3, hb, h256⟩ := id C
  have em : y_m.toNatClampNeg = m := by rw [hm]; exact nI_clamp (by omega)
  have efn' : y_functions y_m.toNatClampNeg = nI fn := by rw [em]; exact efn
  intro r
  induction r with
  | zero =>
    intro i l q k L SI TA LA NE S hi hl hq hb0 hL h
    obtain ⟨l, rfl⟩ : ∃ j, l = j + 1 := ⟨l - 1, by omega⟩
    rw [show rd_it (rd_F c n) 0 q = q from rfl] at h
    refine ⟨pk_in m 3 h3 hm, pk_le fn i (fun _ => ?_) (fun z => absurd z (by omega)) efn' rfl⟩
    refine y_260 C fn (by omega) efn S q hq hL (fun k' L' GL GK GF GV EN EA H M f1 f2 => h k' L' SI TA LA NE GL GK GF GV EN EA H M (fun _ _ => rfl) (fun _ _ => rfl) (fun _ _ => rfl) f1 (fun y => ⟨fun g hg => absurd hg (by omega), ?_⟩))
    obtain ⟨y1, y2, y3, y4, y5, y6, y7, y8, y9⟩ := f2 y
    exact ⟨y1, y2, y3, y4, y5, y6, y7, lm_ext y8 (fun x => ⟨fun a => a.imp (fun b => b.imp Or.inl id) id, fun a => a.imp (fun b => b.imp (fun d => d.elim id (fun ⟨g, hg, _⟩ => absurd hg (by omega))) id) id⟩), y9⟩
  | succ r ih =>
    intro i l q k L SI TA LA NE S hi hl hq hb0 hL h
    obtain ⟨l, rfl⟩ : ∃ j, l = j + 1 := ⟨l - 1, by omega⟩
    refine ⟨pk_in m 3 h3 hm, pk_le fn i (fun z => absurd z (by omega)) (fun _ => ?_) efn' rfl⟩
    obtain ⟨b, p⟩ := q
    cases b with
    | false =>
      rw [(rd_G_it (rd_G_F c n) (r + 1)).2 (false, p) rfl] at h
      refine br_f bw_f ?_
      exact y_260 C fn (by omega) efn S (false, p) hq (fun y => ff_t y) (fun k' L' GL GK GF GV EN EA H M f1 f2 => h k' L' SI TA LA NE GL GK GF GV EN EA H M (fun _ _ => rfl) (fun _ _ => rfl) (fun _ _ => rfl) f1 (fun y => ff_t (rd_Z_ok y).1))
    | true =>
      rw [rd_it] at h
      have g1 := (rd_G_tk c n 0 255).1 (true, p) hq
      have g2 := (rd_G_tk c n 0 3).1 _ g1.2
      have gF := (rd_G_F c n).1 (true, p) hq
      have ei : 7 * y_m + nI i = nI (7 * m + i) := by rw [hm, show (7 : Int32) = nI 7 from rfl, pk_mul, nI_add]
      have v2 := (rd_tv_le (c := c) (n := n) (lo := 0) (hi := 3) (q := rd_tk c n 0 255 (true, p)) (by omega)).2
      refine br_t rfl ?_
      refine yf_type C i nT (by omega) hT eT ty S (true, p) hq (fun y => hts (hb0 y)) hL (fun L1 s1 hs1 => ?_)
      refine ⟨pk_in (7 * m + i) 21 (by omega) ei, nm_r (show _ = upd LA (7 * m + i) (nI (rd_tk c n 0 255 (true, p)).2) from by rw [pk_cl (7 * m + i) ei, nr_s (by omega)]) ?_⟩
      refine yr_take C _ g1.2 0 3 (by omega) (by omega) ⟨rd_tv c n 0 3 (rd_tk c n 0 255 (true, p)) + 1, ?_⟩
      refine y_231 C (nI i) _ v2 _ 0 _ _ k (Nat.zero_add _) (by omega) g2.2 (fun NE1 k1 => ?_)
      have eF : (rd_B c n 141 (rd_n c n 1 2 (rd_tv c n 0 3 (rd_tk c n 0 255 (true, p))) (rd_tk c n 0 3 (rd_tk c n 0 255 (true, p)))) [(0, 0, 0)]).1 = rd_F c n (true, p) := rfl
      rw [eF, nI_1 i]
      refine ih (i + 1) l (rd_F c n (true, p)) k1 L1 _ _ _ NE1 (fun x => S x ∨ (nT ≤ c p ∧ x = p)) (by omega) (by omega) gF.2 (fun _ => hb0 rfl) (fun y => (hs1 (rd_G_tr (rd_G_K c n 3) (rd_G_tr (rd_G_B c n 141 [(0, 0, 0)]) y))).2) (fun k2 L2 SI2 TA2 LA2 NE2 GL GK GF GV EN EA H M f1 f2 f3 f4 f5 => ?_)
      refine h k2 L2 SI2 TA2 LA2 NE2 GL GK GF GV EN EA H M (fun j hj => (f1 j (by omega)).trans (pk_un (by omega))) (fun j hj => (f2 j (by omega)).trans (pk_un (by omega))) (fun j hj => (f3 j (by omega)).trans (pk_un (by omega))) f4 (fun y => ?_)
      have yF := rd_G_tr (rd_G_it (rd_G_F c n) r) (rd_Z_ok y).1
      obtain ⟨o1, o2, o3⟩ := rd_F_ok yF
      obtain ⟨y1, y2⟩ := f5 y
      obtain ⟨s2, s3⟩ := hs1 (by rw [o2])
      refine ⟨fun g hg => ?_, ?_⟩
      · cases g with
        | zero =>
          refine ⟨?_, ?_, ?_⟩
          · rw [Nat.add_zero, f1 _ (by omega), pk_us, s2]; rfl
          · rw [Nat.add_zero, f2 _ (by omega), pk_us]; rfl
          · rw [Nat.add_zero, f3 _ (by omega), pk_us, o2]; rfl
        | succ g =>
          have := y1 g (by omega)
          rw [show i + (g + 1) = i + 1 + g by omega]
          exact this
      · obtain ⟨z1, z2, z3, z4, z5, z6, z7, z8, z9⟩ := y2
        refine ⟨z1, z2, z3, z4, z5, z6, z7, lm_ext z8 (fun x => ⟨?_, ?_⟩), z9⟩
        · rintro ((((a | ⟨a, rfl⟩) | ⟨g, a1, a2, a3⟩) | a) | a)
          · exact Or.inl (Or.inl (Or.inl a))
          · exact Or.inl (Or.inl (Or.inr ⟨0, by omega, rfl, a⟩))
          · exact Or.inl (Or.inl (Or.inr ⟨g + 1, by omega, a2, a3⟩))
          · exact Or.inl (Or.inr a)
          · exact Or.inr a
        · rintro (((a | ⟨g, a1, a2, a3⟩) | a) | a)
          · exact Or.inl (Or.inl (Or.inl (Or.inl a)))
          · cases g with
            | zero =>
              have a2' : x = p := a2
              subst a2'
              exact Or.inl (Or.inl (Or.inl (Or.inr ⟨a3, rfl⟩)))
            | succ g => exact Or.inl (Or.inl (Or.inr ⟨g, by omega, a2, a3⟩))
          · exact Or.inl (Or.inr a)
          · exact Or.inr a
end
end
section
/-! 13: the reference's reading: imports, types, a module -/
def rd_Y (c : Nat → Nat) (n : Nat) (q : Bool × Nat) : Bool × Nat := rd_Z c n (rd_it (rd_F c n) (rd_tv c n 0 4 q) (rd_tk c n 0 4 q))
def rd_X (c : Nat → Nat) (n : Nat) (q : Bool × Nat) : Bool × Nat := rd_Y c n (rd_it (rd_J c n) (rd_tv c n 0 3 q) (rd_tk c n 0 3 q))
/-- the whole reading -/
def rd_V (c : Nat → Nat) (n : Nat) : Bool × Nat := rd_X c n (rd_it (rd_T c n) (rd_tv c n 0 4 (true, 0)) (rd_tk c n 0 4 (true, 0)))
theorem rd_tk_ok {c : Nat → Nat} {n lo hi : Nat} {q : Bool × Nat} (h : (rd_tk c n lo hi q).1 = true) : q.1 = true ∧ rd_tk c n lo hi q = (true, q.2 + 1) ∧ rd_tv c n lo hi q = c q.2 ∧ lo ≤ c q.2 ∧ c q.2 ≤ hi ∧ q.2 < n := by
  rcases rd_tk_or c n lo hi q with ⟨e1, a⟩ | e1
  · exact ⟨a.1, e1, if_pos a, a.2.2.1, a.2.2.2, a.2.1⟩
  · rw [e1] at h; exact ff_t h
theorem rd_Y_ok {c : Nat → Nat} {n : Nat} {q : Bool × Nat} (h : (rd_Y c n q).1 = true) : q.1 = true ∧ rd_tk c n 0 4 q = (true, q.2 + 1) ∧ rd_tv c n 0 4 q = c q.2 ∧ c q.2 ≤ 4 ∧ (rd_it (rd_F c n) (rd_tv c n 0 4 q) (rd_tk c n 0 4 q)).1 = true := by
  have a := (rd_Z_ok h).1
  obtain ⟨b1, b2, b3, b4, b5, b6⟩ := rd_tk_ok (rd_G_tr (rd_G_it (rd_G_F c n) _) a)
  exact ⟨b1, b2, b3, b5, a⟩
theorem rd_X_ok {c : Nat → Nat} {n : Nat} {q : Bool × Nat} (h : (rd_X c n q).1 = true) : q.1 = true ∧ rd_tk c n 0 3 q = (true, q.2 + 1) ∧ rd_tv c n 0 3 q = c q.2 ∧ c q.2 ≤ 3 ∧ (rd_it (rd_J c n) (rd_tv c n 0 3 q) (rd_tk c n 0 3 q)).1 = true := by
  have a := (rd_Y_ok h).1
  obtain ⟨b1, b2, b3, b4, b5, b6⟩ := rd_tk_ok (rd_G_tr (rd_G_it (rd_G_J c n) _) a)
  exact ⟨b1, b2, b3, b5, a⟩
/-- from the function count at p on -/
def f2_ok (m : Nat) (c : Nat → Nat) (n nT I : Nat) (ty : Nat → Nat) (S : Nat → Prop) (p : Nat) (L : Int32) (FU SI TA LA GL GK GF : Nat → Int32) (GV : Nat → Int64) (EN EA H M : Nat → Int32) : Prop :=
  FU m = nI (I + c p) ∧ c p ≤ 4 ∧ fn_ok m c n nT ty I (c p) (true, p + 1) SI TA LA ∧
  tl_ok m c n (I + c p) (fun x => S x ∨ ft_S c nT (rd_F c n) (c p) (true, p + 1) x) (rd_it (rd_F c n) (c p) (true, p + 1)).2 L GL GK GF GV EN EA H M
def im_ok (m : Nat) (c : Nat → Nat) (n nT : Nat) (ty : Nat → Nat) (i r : Nat) (q : Bool × Nat) (SI TA WH : Nat → Int32) : Prop :=
  ∀ g, g < r → SI (7 * m + (i + g)) = sg_i c nT ty (rd_it (rd_J c n) g q).2 ∧ TA (7 * m + (i + g)) = nI (rd_it (rd_J c n) g q).2 ∧ WH (3 * m + (i + g)) = nI (c ((rd_it (rd_J c n) g q).2 + 1))
section
variable {y_count y_place y_m y_pos y_wrong y_least y_top y_frames y_invalid y_sp y_labels y_active y_fuel y_outcome y_trappedAt y_used y_waits y_printed : Int32} {y_constant y_result : Int64} {y_bytes y_there y_types y_typeSig y_imports y_functions y_sig y_what y_typeAt y_localsAt y_globals y_globalKind y_globalFree y_entries y_entriesAt y_hasMemory y_memory y_nest y_kinds y_shape y_gives y_height y_dead y_labelAt y_labelHeight y_labelGives y_callModule y_callFunction y_callBack y_callBase y_callLabels y_waiting y_prints : Nat → Int32} {y_globalValue y_stack : Nat → Int64}
variable {m : Nat} {c : Nat → Nat} {n p : Nat}
theorem y_95 {post : SY → Prop} (C : cy_ok y_count y_m y_bytes m c n) (I nT : Nat) (hI : I ≤ 3) (hT : nT ≤ 4) (eI : y_imports m = nI I) (eT : y_types m = nI nT) (ty : Nat → Nat) (b0 : Bool) (hts : b0 = true → ∀ t, t < nT → y_typeSig (4 * m + t) = nI (sg c (ty t)) ∧ sg c (ty t) < 1024) :
    ∀ r i l (q : Bool × Nat) (L : Int32) (SI TA WH : Nat → Int32) (S : Nat → Prop), i + r = I → r < l → q.2 ≤ n → (q.1 = true → b0 = true) → (q.1 = true → lm L S) →
    (∀ k' L' FU SI' TA' LA' WH' NE' GL GK GF GV EN EA H M, fr_i (7 * m + i) (7 * m + 7) SI SI' → fr_i (7 * m + i) (7 * m + 7) TA TA' → fr_i (7 * m) (7 * m + 7) y_localsAt LA' → fr_i (3 * m + i) (3 * m + 3) WH WH' → (∀ j, j ≠ m → FU j = y_functions j) →
      tl_fr m y_globals y_globalKind y_globalFree y_globalValue y_entries y_entriesAt y_hasMemory y_memory GL GK GF GV EN EA H M →
      ((rd_Y c n (rd_it (rd_J c n) r q)).1 = true → im_ok m c n nT ty i r q SI' TA' WH' ∧ f2_ok m c n nT I ty (fun x => S x ∨ ft_S c nT (rd_J c n) r q x) (rd_it (rd_J c n) r q).2 L' FU SI' TA' LA' GL GK GF GV EN EA H M) →
      post (y_count, y_place, y_m, nI (rd_Y c n (rd_it (rd_J c n) r q)).2, bb_w (rd_Y c n (rd_it (rd_J c n) r q)).1, k', L', y_top, y_frames, y_invalid, y_sp, y_labels, y_active, y_fuel, y_outcome, y_trappedAt, y_result, y_used, y_waits, y_printed, y_bytes, y_there, y_types, y_typeSig, y_imports, FU, SI', WH', TA', LA', GL, GK, GF, GV, EN, EA, H, M, NE', y_kinds, y_shape, y_gives, y_height, y_dead, y_stack, y_labelAt, y_labelHeight, y_labelGives, y_callModule, y_callFunction, y_callBack, y_callBase, y_callLabels, y_waiting, y_prints)) →
    wY_read_95 post l (nI i) y_count y_place y_m (nI q.2) (bb_w q.1) y_constant L y_top y_frames y_invalid y_sp y_labels y_active y_fuel y_outcome y_trappedAt y_result y_used y_waits y_printed y_bytes y_there y_types y_typeSig y_imports y_functions SI WH TA y_localsAt y_globals y_globalKind y_globalFree y_globalValue y_entries y_entriesAt y_hasMemory y_memory y_nest y_kinds y_shape y_gives y_height y_dead y_stack y_labelAt y_labelHeight y_labelGives y_callModule y_callFunction y_callBack y_callBase y_callLabels y_waiting y_prints := by
  obtain ⟨hn, h140, hm, h3, hb, h256⟩ := id C
  have em : y_m.toNatClampNeg = m := by rw [hm]; exact nI_clamp (by omega)
  have eI' : y_imports y_m.toNatClampNeg = nI I := by rw [em]; exact eI
  intro r
  induction r with
  | zero =>
    intro i l q L SI TA WH S hi hl hq hb0 hL h
    obtain ⟨l, rfl⟩ : ∃ j, l = j + 1 := ⟨l - 1, by omega⟩
    rw [show rd_it (rd_J c n) 0 q = q from rfl] at h
    refine ⟨pk_in m 3 h3 hm, pk_le I i (fun _ => ⟨pk_in m 3 h3 hm, ?_⟩) (fun z => absurd z (by omega)) eI' rfl⟩
    have g1 := (rd_G_tk c n 0 4).1 q hq
    have v1 := (rd_tv_le (c := c) (n := n) (lo := 0) (hi := 4) (q := q) (by omega)).2
    refine yr_take C q hq 0 4 (by omega) (by omega) ?_
    have eN : y_imports y_m.toNatClampNeg + nI (rd_tv c n 0 4 q) = nI (I + rd_tv c n 0 4 q) := by rw [eI', nI_add]
    refine ⟨pk_in m 3 h3 hm, nm_r (show _ = upd y_functions m (nI (I + rd_tv c n 0 4 q)) from by rw [em] at eN ⊢; rw [eN, nr_b (by omega)]) ⟨pk_in m 3 h3 hm, nm_r eI' ⟨rd_tv c n 0 4 q + 1, ?_⟩⟩⟩
    refine y_177 C (I + rd_tv c n 0 4 q) nT (by omega) hT pk_us eT ty b0 hts (rd_tv c n 0 4 q) I _ (rd_tk c n 0 4 q) _ _ _ _ _ _ S rfl (by omega) g1.2 (fun y => hb0 (rd_G_tr (rd_G_tk c n 0 4) y)) (fun y => hL (rd_G_tr (rd_G_tk c n 0 4) y)) (fun k' L' SI' TA' LA' NE' GL GK GF GV EN EA H M f1 f2 f3 f4 f5 => ?_)
    refine h k' L' _ SI' TA' LA' WH NE' GL GK GF GV EN EA H M (fun j hj => f1 j (by omega)) (fun j hj => f2 j (by omega)) (fun j hj => f3 j (by omega)) (fun _ _ => rfl) (fun j hj => pk_un hj) f4 (fun y => ?_)
    obtain ⟨o1, o2, o3, o4, o5⟩ := rd_Y_ok y
    obtain ⟨y1, y2⟩ := f5 y
    rw [o2, o3] at y1 y2
    refine ⟨fun g hg => absurd hg (by omega), by rw [pk_us, o3], o4, y1, ?_⟩
    obtain ⟨z1, z2, z3, z4, z5, z6, z7, z8, z9⟩ := y2
    refine ⟨z1, z2, z3, z4, z5, z6, z7, lm_ext z8 (fun x => ⟨fun a => a.imp (fun b => b.imp (fun d => d.imp Or.inl id) id) id, fun a => a.imp (fun b => b.imp (fun d => d.imp (fun e => e.elim id (fun ⟨g, hg, _⟩ => absurd hg (by omega))) id) id) id⟩), z9⟩
  | succ r ih =>
    intro i l q L SI TA WH S hi hl hq hb0 hL h
    obtain ⟨l, rfl⟩ : ∃ j, l = j + 1 := ⟨l - 1, by omega⟩
    rw [rd_it] at h
    have g1 := (rd_G_tk c n 0 255).1 q hq
    have g2 := (rd_G_tk c n 0 255).1 _ g1.2
    have v2 := (rd_tv_le (c := c) (n := n) (lo := 0) (hi := 255) (q := rd_tk c n 0 255 q) (by omega)).2
    have ei : 3 * y_m + nI i = nI (3 * m + i) := by rw [hm, show (3 : Int32) = nI 3 from rfl, pk_mul, nI_add]
    refine ⟨pk_in m 3 h3 hm, pk_le I i (fun z => absurd z (by omega)) (fun _ => ?_) eI' rfl⟩
    refine yf_type C i nT (by omega) hT eT ty S q hq (fun y => hts (hb0 y)) hL (fun L1 s1 hs1 => ?_)
    refine yr_take C _ g1.2 0 255 (by omega) (by omega) ?_
    refine ⟨pk_in (3 * m + i) 9 (by omega) ei, nm_r (show _ = upd WH (3 * m + i) (nI (rd_tv c n 0 255 (rd_tk c n 0 255 q))) from by rw [pk_cl (3 * m + i) ei, nr_s (by omega)]) (nm_r (nI_1 i) ?_)⟩
    have eJ : rd_tk c n 0 255 (rd_tk c n 0 255 q) = rd_J c n q := rfl
    rw [eJ]
    refine ih (i + 1) l (rd_J c n q) L1 _ _ _ (fun x => S x ∨ (nT ≤ c q.2 ∧ x = q.2)) (by omega) (by omega) g2.2 (fun y => hb0 (rd_G_tr (rd_G_J c n) y)) (fun y => (hs1 (rd_G_tr (rd_G_tk c n 0 255) y)).2) (fun k2 L2 FU SI2 TA2 LA2 WH2 NE2 GL GK GF GV EN EA H M f1 f2 f3 f4 f5 f6 f7 => ?_)
    refine h k2 L2 FU SI2 TA2 LA2 WH2 NE2 GL GK GF GV EN EA H M (fun j hj => (f1 j (by omega)).trans (pk_un (by omega))) (fun j hj => (f2 j (by omega)).trans (pk_un (by omega))) f3 (fun j hj => (f4 j (by omega)).trans (pk_un (by omega))) f5 f6 (fun y => ?_)
    have yJ := rd_G_tr (rd_G_it (rd_G_J c n) r) (rd_Y_ok y).1
    obtain ⟨p1, p2, p3, _⟩ := rd_tk_ok (show (rd_tk c n 0 255 (rd_tk c n 0 255 q)).1 = true from yJ)
    obtain ⟨o1, o2, o3, _⟩ := rd_tk_ok p1
    obtain ⟨y1, y2⟩ := f7 y
    obtain ⟨s2, s3⟩ := hs1 p1
    refine ⟨fun g hg => ?_, ?_⟩
    · cases g with
      | zero =>
        refine ⟨?_, ?_, ?_⟩
        · rw [Nat.add_zero, f1 _ (by omega), pk_us, s2]; rfl
        · rw [Nat.add_zero, f2 _ (by omega), pk_us]; rfl
        · rw [Nat.add_zero, f4 _ (by omega), pk_us, p3, o2]; rfl
      | succ g =>
        have := y1 g (by omega)
        rw [show i + (g + 1) = i + 1 + g by omega]
        exact this
    · obtain ⟨w1, w2, w3, z1, z2, z3, z4, z5, z6, z7, z8, z9⟩ := y2
      refine ⟨w1, w2, w3, z1, z2, z3, z4, z5, z6, z7, lm_ext z8 (fun x => ⟨?_, ?_⟩), z9⟩
      · rintro (((((a | ⟨a, rfl⟩) | ⟨g, a1, a2, a3⟩) | a) | a) | a)
        · exact Or.inl (Or.inl (Or.inl (Or.inl a)))
        · exact Or.inl (Or.inl (Or.inl (Or.inr ⟨0, by omega, rfl, a⟩)))
        · exact Or.inl (Or.inl (Or.inl (Or.inr ⟨g + 1, by omega, a2, a3⟩)))
        · exact Or.inl (Or.inl (Or.inr a))
        · exact Or.inl (Or.inr a)
        · exact Or.inr a
      · rintro ((((a | ⟨g, a1, a2, a3⟩) | a) | a) | a)
        · exact Or.inl (Or.inl (Or.inl (Or.inl (Or.inl a))))
        · cases g with
          | zero =>
            have a2' : x = q.2 := a2
            subst a2'
            exact Or.inl (Or.inl (Or.inl (Or.inl (Or.inr ⟨a3, rfl⟩))))
          | succ g => exact Or.inl (Or.inl (Or.inl (Or.inr ⟨g, by omega, a2, a3⟩)))
        · exact Or.inl (Or.inl (Or.inr a))
        · exact Or.inl (Or.inr a)
        · exact Or.inr a
/-- from the import count at p on -/
def i2_ok (m : Nat) (c : Nat → Nat) (n nT : Nat) (ty : Nat → Nat) (p : Nat) (L : Int32) (IM FU SI WH TA LA GL GK GF : Nat → Int32) (GV : Nat → Int64) (EN EA H M : Nat → Int32) : Prop :=
  IM m = nI (c p) ∧ c p ≤ 3 ∧ im_ok m c n nT ty 0 (c p) (true, p + 1) SI TA WH ∧
  f2_ok m c n nT (c p) ty (ft_S c nT (rd_J c n) (c p) (true, p + 1)) (rd_it (rd_J c n) (c p) (true, p + 1)).2 L FU SI TA LA GL GK GF GV EN EA H M
def i2_fr (m : Nat) (IM FU SI WH TA LA IM' FU' SI' WH' TA' LA' : Nat → Int32) : Prop :=
  (∀ j, j ≠ m → IM' j = IM j) ∧ (∀ j, j ≠ m → FU' j = FU j) ∧ fr_i (7 * m) (7 * m + 7) SI SI' ∧ fr_i (3 * m) (3 * m + 3) WH WH' ∧ fr_i (7 * m) (7 * m + 7) TA TA' ∧ fr_i (7 * m) (7 * m + 7) LA LA'
theorem y_40 {post : SY → Prop} (C : cy_ok y_count y_m y_bytes m c n) (nT : Nat) (hT : nT ≤ 4) (eT : y_types m = nI nT) (eL : y_least = nI 1000) (ty : Nat → Nat) :
    ∀ r i l (q : Bool × Nat) (k : Int64) (TS : Nat → Int32), i + r = nT → r < l → q.2 ≤ n → (∀ g, g < r → ty (i + g) = (rd_it (rd_T c n) g q).2) → (q.1 = true → ∀ t, t < i → TS (4 * m + t) = nI (sg c (ty t)) ∧ sg c (ty t) < 1024) →
    (∀ k' L' TS' IM FU SI TA LA WH NE GL GK GF GV EN EA H M, fr_i (4 * m + i) (4 * m + 4) TS TS' → i2_fr m y_imports y_functions y_sig y_what y_typeAt y_localsAt IM FU SI WH TA LA →
      tl_fr m y_globals y_globalKind y_globalFree y_globalValue y_entries y_entriesAt y_hasMemory y_memory GL GK GF GV EN EA H M →
      ((rd_X c n (rd_it (rd_T c n) r q)).1 = true → (∀ t, t < nT → TS' (4 * m + t) = nI (sg c (ty t)) ∧ sg c (ty t) < 1024) ∧ i2_ok m c n nT ty (rd_it (rd_T c n) r q).2 L' IM FU SI WH TA LA GL GK GF GV EN EA H M) →
      post (y_count, y_place, y_m, nI (rd_X c n (rd_it (rd_T c n) r q)).2, bb_w (rd_X c n (rd_it (rd_T c n) r q)).1, k', L', y_top, y_frames, y_invalid, y_sp, y_labels, y_active, y_fuel, y_outcome, y_trappedAt, y_result, y_used, y_waits, y_printed, y_bytes, y_there, y_types, TS', IM, FU, SI, WH, TA, LA, GL, GK, GF, GV, EN, EA, H, M, NE, y_kinds, y_shape, y_gives, y_height, y_dead, y_stack, y_labelAt, y_labelHeight, y_labelGives, y_callModule, y_callFunction, y_callBack, y_callBase, y_callLabels, y_waiting, y_prints)) →
    wY_read_40 post l (nI i) y_count y_place y_m (nI q.2) (bb_w q.1) k y_least y_top y_frames y_invalid y_sp y_labels y_active y_fuel y_outcome y_trappedAt y_result y_used y_waits y_printed y_bytes y_there y_types TS y_imports y_functions y_sig y_what y_typeAt y_localsAt y_globals y_globalKind y_globalFree y_globalValue y_entries y_entriesAt y_hasMemory y_memory y_nest y_kinds y_shape y_gives y_height y_dead y_stack y_labelAt y_labelHeight y_labelGives y_callModule y_callFunction y_callBack y_callBase y_callLabels y_waiting y_prints := by
  obtain ⟨hn, h140, hm, h3, hb, h256⟩ := id C
  have em : y_m.toNatClampNeg = m := by rw [hm]; exact nI_clamp (by omega)
  have eT' : y_types y_m.toNatClampNeg = nI nT := by rw [em]; exact eT
  intro r
  induction r with
  | zero =>
    intro i l q k TS hi hl hq hty hts h
    obtain ⟨l, rfl⟩ : ∃ j, l = j + 1 := ⟨l - 1, by omega⟩
    rw [show rd_it (rd_T c n) 0 q = q from rfl] at h
    have hi' : i = nT := by omega
    subst hi'
    refine ⟨pk_in m 3 h3 hm, pk_le i i (fun _ => ?_) (fun z => absurd z (by omega)) eT' rfl⟩
    have g1 := (rd_G_tk c n 0 3).1 q hq
    have v1 := (rd_tv_le (c := c) (n := n) (lo := 0) (hi := 3) (q := q) (by omega)).2
    refine yr_take C q hq 0 3 (by omega) (by omega) ?_
    refine ⟨pk_in m 3 h3 hm, nm_r (show _ = upd y_imports m (nI (rd_tv c n 0 3 q)) from by rw [em, nr_b (by omega)]) ⟨rd_tv c n 0 3 q + 1, ?_⟩⟩
    refine y_95 C (rd_tv c n 0 3 q) i v1 hT pk_us eT ty q.1 hts (rd_tv c n 0 3 q) 0 _ (rd_tk c n 0 3 q) _ _ _ _ (fun _ => False) (Nat.zero_add _) (by omega) g1.2 (fun y => rd_G_tr (rd_G_tk c n 0 3) y) (fun _ => ⟨1000, eL, by omega, Or.inl rfl, fun x hx => hx.elim⟩) (fun k' L' FU SI' TA' LA' WH' NE' GL GK GF GV EN EA H M f1 f2 f3 f4 f5 f6 f7 => ?_)
    refine h k' L' TS _ FU SI' TA' LA' WH' NE' GL GK GF GV EN EA H M (fun _ _ => rfl) ⟨fun j hj => pk_un hj, f5, f1, f4, f2, f3⟩ f6 (fun y => ?_)
    obtain ⟨o1, o2, o3, o4, o5⟩ := rd_X_ok y
    obtain ⟨y1, y2⟩ := f7 y
    rw [o2, o3] at y1 y2
    refine ⟨hts o1, by rw [pk_us, o3], o4, y1, ?_⟩
    obtain ⟨w1, w2, w3, z1, z2, z3, z4, z5, z6, z7, z8, z9⟩ := y2
    exact ⟨w1, w2, w3, z1, z2, z3, z4, z5, z6, z7, lm_ext z8 (fun x => by simp only [false_or]), z9⟩
  | succ r ih =>
    intro i l q k TS hi hl hq hty hts h
    obtain ⟨l, rfl⟩ : ∃ j, l = j + 1 := ⟨l - 1, by omega⟩
    rw [rd_it] at h
    refine ⟨pk_in m 3 h3 hm, pk_le nT i (fun z => absurd z (by omega)) (fun _ => ?_) eT' rfl⟩
    have ei : 4 * y_m + nI i = nI (4 * m + i) := by rw [hm, show (4 : Int32) = nI 4 from rfl, pk_mul, nI_add]
    have gT := (rd_G_T c n).1 q hq
    refine yr_type C q hq (fun s' hs' => ?_)
    refine ⟨pk_in (4 * m + i) 12 (by omega) ei, nm_r (show _ = upd TS (4 * m + i) (vp_nar .short s'.toInt16.toInt32) from by rw [pk_cl (4 * m + i) ei]) (nm_r (nI_1 i) ?_)⟩
    have e0 := hty 0 (by omega)
    rw [Nat.add_zero] at e0
    refine ih (i + 1) l (rd_T c n q) k _ (by omega) (by omega) gT.2 (fun g hg => by rw [show i + 1 + g = i + (g + 1) by omega]; exact hty (g + 1) (by omega)) (fun y t ht => ?_) (fun k' L' TS' IM FU SI TA LA WH NE GL GK GF GV EN EA H M f1 f2 f3 f4 => h k' L' TS' IM FU SI TA LA WH NE GL GK GF GV EN EA H M (fun j hj => (f1 j (by omega)).trans (pk_un (by omega))) f2 f3 f4)
    obtain ⟨a1, a2, a3, a4⟩ := rd_T_ok y
    have a5 := sg_lt a2
    by_cases z : t = i
    · subst z
      rw [pk_us, hs' y, nr_s (by omega), e0]
      exact ⟨rfl, a5⟩
    · rw [pk_un (by omega)]
      exact hts a1 t (by omega)
end
end
section
/-! 14: the reference's reading of a module, as a whole; the places of its parts -/
def m_ty (c : Nat → Nat) (n t : Nat) : Nat := (rd_it (rd_T c n) t (true, 1)).2
def m_pI (c : Nat → Nat) (n : Nat) : Nat := m_ty c n (c 0)
def m_im (c : Nat → Nat) (n i : Nat) : Nat := (rd_it (rd_J c n) i (true, m_pI c n + 1)).2
def m_I (c : Nat → Nat) (n : Nat) : Nat := c (m_pI c n)
def m_pF (c : Nat → Nat) (n : Nat) : Nat := m_im c n (m_I c n)
def m_fn (c : Nat → Nat) (n f : Nat) : Nat := (rd_it (rd_F c n) f (true, m_pF c n + 1)).2
def m_F (c : Nat → Nat) (n : Nat) : Nat := c (m_pF c n)
def m_pG (c : Nat → Nat) (n : Nat) : Nat := m_fn c n (m_F c n)
/-- the place of function f's type -/
def m_fa (c : Nat → Nat) (n f : Nat) : Nat := if f < m_I c n then m_im c n f else m_fn c n (f - m_I c n)
/-- all that the reference holds of module m once it is read -/
def ry_ok (m : Nat) (c : Nat → Nat) (n : Nat) (L : Int32) (TY TS IM FU SI WH TA LA GL GK GF : Nat → Int32) (GV : Nat → Int64) (EN EA H M : Nat → Int32) : Prop :=
  TY m = nI (c 0) ∧ c 0 ≤ 4 ∧ (∀ t, t < c 0 → TS (4 * m + t) = nI (sg c (m_ty c n t)) ∧ sg c (m_ty c n t) < 1024) ∧ i2_ok m c n (c 0) (m_ty c n) (m_pI c n) L IM FU SI WH TA LA GL GK GF GV EN EA H M
theorem rd_V_ok {c : Nat → Nat} {n : Nat} (h : (rd_V c n).1 = true) : rd_tk c n 0 4 (true, 0) = (true, 1) ∧ rd_tv c n 0 4 (true, 0) = c 0 ∧ c 0 ≤ 4 ∧ (rd_it (rd_T c n) (c 0) (true, 1)).1 = true := by
  have a := (rd_X_ok h).1
  obtain ⟨b1, b2, b3, b4, b5, b6⟩ := rd_tk_ok (rd_G_tr (rd_G_it (rd_G_T c n) _) a)
  rw [b3, b2] at a
  exact ⟨b2, b3, b5, a⟩
section
variable {y_count y_place y_m y_pos y_wrong y_least y_top y_frames y_invalid y_sp y_labels y_active y_fuel y_outcome y_trappedAt y_used y_waits y_printed : Int32} {y_constant y_result : Int64} {y_bytes y_there y_types y_typeSig y_imports y_functions y_sig y_what y_typeAt y_localsAt y_globals y_globalKind y_globalFree y_entries y_entriesAt y_hasMemory y_memory y_nest y_kinds y_shape y_gives y_height y_dead y_labelAt y_labelHeight y_labelGives y_callModule y_callFunction y_callBack y_callBase y_callLabels y_waiting y_prints : Nat → Int32} {y_globalValue y_stack : Nat → Int64}
variable {m : Nat} {c : Nat → Nat} {n p : Nat}
theorem y_read {post : SY → Prop} (C : cy_ok y_count (nI m) y_bytes m c n)
    (h : ∀ k L TY TS IM FU SI TA LA WH NE GL GK GF GV EN EA H M, (∀ j, j ≠ m → TY j = y_types j) → fr_i (4 * m) (4 * m + 4) y_typeSig TS → i2_fr m y_imports y_functions y_sig y_what y_typeAt y_localsAt IM FU SI WH TA LA →
      tl_fr m y_globals y_globalKind y_globalFree y_globalValue y_entries y_entriesAt y_hasMemory y_memory GL GK GF GV EN EA H M →
      ((rd_V c n).1 = true → ry_ok m c n L TY TS IM FU SI WH TA LA GL GK GF GV EN EA H M) →
      post (y_count, y_place, nI m, nI (rd_V c n).2, bb_w (rd_V c n).1, k, L, y_top, y_frames, y_invalid, y_sp, y_labels, y_active, y_fuel, y_outcome, y_trappedAt, y_result, y_used, y_waits, y_printed, y_bytes, y_there, TY, TS, IM, FU, SI, WH, TA, LA, GL, GK, GF, GV, EN, EA, H, M, NE, y_kinds, y_shape, y_gives, y_height, y_dead, y_stack, y_labelAt, y_labelHeight, y_labelGives, y_callModule, y_callFunction, y_callBack, y_callBase, y_callLabels, y_waiting, y_prints)) :
    wpY_read post (y_count, y_place, y_m, y_pos, y_wrong, y_constant, y_least, y_top, y_frames, y_invalid, y_sp, y_labels, y_active, y_fuel, y_outcome, y_trappedAt, y_result, y_used, y_waits, y_printed, y_bytes, y_there, y_types, y_typeSig, y_imports, y_functions, y_sig, y_what, y_typeAt, y_localsAt, y_globals, y_globalKind, y_globalFree, y_globalValue, y_entries, y_entriesAt, y_hasMemory, y_memory, y_nest, y_kinds, y_shape, y_gives, y_height, y_dead, y_stack, y_labelAt, y_labelHeight, y_labelGives, y_callModule, y_callFunction, y_callBack, y_callBase, y_callLabels, y_waiting, y_prints) (nI m) := by
  obtain ⟨hn, h140, hm, h3, hb, h256⟩ := id C
  have v1 := (rd_tv_le (c := c) (n := n) (lo := 0) (hi := 4) (q := (true, 0)) (by omega)).2
  have g1 := (rd_G_tk c n 0 4).1 (true, 0) (by dsimp only; omega)
  unfold wpY_read
  refine yr_take C (true, 0) (by dsimp only; omega) 0 4 (by omega) (by omega) ?_
  refine ⟨pk_in m 3 h3, nm_r (show _ = upd y_types m (nI (rd_tv c n 0 4 (true, 0))) from by rw [pk_cl m, nr_b (by omega)]) ⟨rd_tv c n 0 4 (true, 0) + 1, ?_⟩⟩
  refine y_40 C (rd_tv c n 0 4 (true, 0)) v1 pk_us rfl (fun t => (rd_it (rd_T c n) t (rd_tk c n 0 4 (true, 0))).2) (rd_tv c n 0 4 (true, 0)) 0 _ (rd_tk c n 0 4 (true, 0)) _ _ (Nat.zero_add _) (by omega) g1.2 (fun g hg => by rw [Nat.zero_add]) (fun _ t ht => absurd ht (by omega)) (fun k' L' TS' IM FU SI TA LA WH NE GL GK GF GV EN EA H M f1 f2 f3 f4 => ?_)
  refine h k' L' _ TS' IM FU SI TA LA WH NE GL GK GF GV EN EA H M (fun j hj => pk_un hj) f1 f2 f3 (fun y => ?_)
  obtain ⟨o1, o2, o3, o4⟩ := rd_V_ok y
  obtain ⟨y1, y2⟩ := f4 y
  rw [o2] at y1
  rw [o1, o2] at y2
  exact ⟨by rw [pk_us, o2], o3, fun t ht => by have := y1 t ht; rw [o1] at this; exact this, y2⟩
end
/-- the class's facts of module m (its first fact stands at b) -/
def xf_ok (b : Nat) (c : Nat → Nat) (n : Nat) (F : Nat → Int32) : Prop :=
  F b = nI (c 0) ∧ F (b + 1) = nI (m_I c n) ∧ F (b + 2) = nI (m_I c n + m_F c n) ∧ F (b + 3) = nI (c (m_pG c n)) ∧ F (b + 4) = nI (c (tl_q c n (m_pG c n))) ∧ F (b + 5) = nI (c (tl_m c n (m_pG c n))) ∧
  F (b + 6) = nI (tl_q c n (m_pG c n) + 1) ∧ F (b + 7) = nI (tl_m c n (m_pG c n) + 1) ∧ (∀ t, t < c 0 → F (b + 8 + t) = nI (m_ty c n t)) ∧ (∀ f, f < m_I c n + m_F c n → F (b + 12 + f) = nI (m_fa c n f)) ∧
  (∀ g, g < c (m_pG c n) → F (b + 19 + g) = nI (rd_it (rd_g c n) g (true, m_pG c n + 1)).2)
/-- the class's partner table of a module -/
def m_P (c : Nat → Nat) (n : Nat) (P : Nat → Nat) : Nat → Nat := rd_FPs c n (m_F c n) (true, m_pF c n + 1) P
end
section
/-! 15: the class's reading of a module, as load does it -/
abbrev xl (u : SX) (z0 : Int32) (z1 : Int32) (z2 : Int32) (z3 : Int32) (z4 : Nat → Int32) (z5 : Nat → Int32) (z6 : Nat → Int32) (z7 : Nat → Int32) (z8 : Nat → Int32) (z9 : Nat → Int32) (z10 : Nat → Int32) : SX := (gx_byteCount u, z0, z1, z2, z3, gx_valueCount u, gx_activeCount u, gx_goesOn u, gx_outcome u, gx_resultValue u, gx_trapPlace u, gx_fuelUsed u, gx_firstWaiting u, gx_waitingCount u, gx_printCount u, gx_code u, z4, z5, gx_loaded u, gx_globals u, gx_memories u, z6, z7, z8, z9, z10, gx_values u, gx_variables u, gx_activeSlot u, gx_activeGives u, gx_activeFrame u, gx_activeResume u, gx_waiting u, gx_prints u)
theorem rd_M_f {c : Nat → Nat} {n : Nat} {q : Bool × Nat} (h : q.1 = false) : rd_M c n q = q := by
  rw [rd_M, rd_tv_f h, if_neg (by decide), rd_tk_f h, rd_ff q h]
theorem rd_e_f {n : Nat} {q : Bool × Nat} (h : q.1 = false) : rd_e n q = q := by
  unfold rd_e; split
  · exact rd_ff q h
  · rfl
theorem rd_E_f {c : Nat → Nat} {n : Nat} {q : Bool × Nat} (h : q.1 = false) : rd_E c n q = q := by
  have h2 : rd_tk c n 0 5 q = q := (rd_G_tk c n 0 5).2 q h
  rw [rd_E, h2, rd_n_f _ _ h, rd_M_f h, rd_e_f h]
theorem rd_Z_f {c : Nat → Nat} {n : Nat} {q : Bool × Nat} (h : q.1 = false) : rd_Z c n q = q := by
  have h2 : rd_tk c n 0 3 q = q := (rd_G_tk c n 0 3).2 q h
  rw [rd_Z, h2, (rd_G_it (rd_G_g c n) _).2 q h, rd_E_f h]
theorem rd_Y_f {c : Nat → Nat} {n : Nat} {q : Bool × Nat} (h : q.1 = false) : rd_Y c n q = q := by
  have h2 : rd_tk c n 0 4 q = q := (rd_G_tk c n 0 4).2 q h
  rw [rd_Y, h2, (rd_G_it (rd_G_F c n) _).2 q h, rd_Z_f h]
theorem rd_X_f {c : Nat → Nat} {n : Nat} {q : Bool × Nat} (h : q.1 = false) : rd_X c n q = q := by
  have h2 : rd_tk c n 0 3 q = q := (rd_G_tk c n 0 3).2 q h
  rw [rd_X, h2, (rd_G_it (rd_G_J c n) _).2 q h, rd_Y_f h]
theorem xr_Pa_ex (Pa : Nat → Int32) : ∃ P, xr_Pa Pa P := by
  refine ⟨fun i => (Pa (280 + i)).toBitVec.toNat, fun i _ => ?_⟩
  apply Int32.toBitVec_inj.mp
  apply BitVec.eq_of_toNat_eq
  exact (pk_tn (Pa (280 + i)).toBitVec.isLt).symm
section
variable {u : SX} {c : Nat → Nat} {n s : Nat}
theorem xl_read {post : Int32 → SX → Prop} (C : cx_ok u c n) (hs : s < 2)
    (hbad : (rd_V c n).1 = false → ∀ fc F P A, xr_fr 44 66 (gx_facts u) F → xr_fr 280 420 (gx_partner u) P → post 1 (xl u (nI (rd_V c n).2) (nI (rd_V c n).2) fc (gx_kindCount u) F P A (gx_frameHeight u) (gx_frameResult u) (gx_frameDead u) (gx_kinds u)))
    (hok : (rd_V c n).1 = true → ∀ fc F P A Pn, xr_fr 44 66 (gx_facts u) F → xr_fr 280 420 (gx_partner u) P → xf_ok 44 c n F → xr_Pa P (m_P c n Pn) → wX_load_61 post (nI s) 1 (gx_byteCount u) (gx_wrongPlace u) (nI n) fc (gx_kindCount u) (gx_valueCount u) (gx_activeCount u) (gx_goesOn u) (gx_outcome u) (gx_resultValue u) (gx_trapPlace u) (gx_fuelUsed u) (gx_firstWaiting u) (gx_waitingCount u) (gx_printCount u) (gx_code u) F P (gx_loaded u) (gx_globals u) (gx_memories u) A (gx_frameHeight u) (gx_frameResult u) (gx_frameDead u) (gx_kinds u) (gx_values u) (gx_variables u) (gx_activeSlot u) (gx_activeGives u) (gx_activeFrame u) (gx_activeResume u) (gx_waiting u) (gx_prints u)) : wpX_load post u (nI s) := by
  have h140 := C.2.1
  unfold wpX_load
  have hsl : s = 0 ∨ s = 1 := by omega
  have key : wpX_readTypes (fun r u => (r = 0 → wX_load_60 post (nI s) (gx_byteCount u) (gx_wrongPlace u) (gx_at u) (gx_frameCount u) (gx_kindCount u) (gx_valueCount u) (gx_activeCount u) (gx_goesOn u) (gx_outcome u) (gx_resultValue u) (gx_trapPlace u) (gx_fuelUsed u) (gx_firstWaiting u) (gx_waitingCount u) (gx_printCount u) (gx_code u) (gx_facts u) (gx_partner u) (gx_loaded u) (gx_globals u) (gx_memories u) (gx_frameAt u) (gx_frameHeight u) (gx_frameResult u) (gx_frameDead u) (gx_kinds u) (gx_values u) (gx_variables u) (gx_activeSlot u) (gx_activeGives u) (gx_activeFrame u) (gx_activeResume u) (gx_waiting u) (gx_prints u)) ∧ (¬ r = 0 → wpX_readImports (fun r u => (r = 0 → wX_load_60 post (nI s) (gx_byteCount u) (gx_wrongPlace u) (gx_at u) (gx_frameCount u) (gx_kindCount u) (gx_valueCount u) (gx_activeCount u) (gx_goesOn u) (gx_outcome u) (gx_resultValue u) (gx_trapPlace u) (gx_fuelUsed u) (gx_firstWaiting u) (gx_waitingCount u) (gx_printCount u) (gx_code u) (gx_facts u) (gx_partner u) (gx_loaded u) (gx_globals u) (gx_memories u) (gx_frameAt u) (gx_frameHeight u) (gx_frameResult u) (gx_frameDead u) (gx_kinds u) (gx_values u) (gx_variables u) (gx_activeSlot u) (gx_activeGives u) (gx_activeFrame u) (gx_activeResume u) (gx_waiting u) (gx_prints u)) ∧ (¬ r = 0 → wpX_readFunctions (fun r u => (r = 0 → wX_load_60 post (nI s) (gx_byteCount u) (gx_wrongPlace u) (gx_at u) (gx_frameCount u) (gx_kindCount u) (gx_valueCount u) (gx_activeCount u) (gx_goesOn u) (gx_outcome u) (gx_resultValue u) (gx_trapPlace u) (gx_fuelUsed u) (gx_firstWaiting u) (gx_waitingCount u) (gx_printCount u) (gx_code u) (gx_facts u) (gx_partner u) (gx_loaded u) (gx_globals u) (gx_memories u) (gx_frameAt u) (gx_frameHeight u) (gx_frameResult u) (gx_frameDead u) (gx_kinds u) (gx_values u) (gx_variables u) (gx_activeSlot u) (gx_activeGives u) (gx_activeFrame u) (gx_activeResume u) (gx_waiting u) (gx_prints u)) ∧ (¬ r = 0 → wpX_readGlobals (fun r u => (r = 0 → wX_load_60 post (nI s) (gx_byteCount u) (gx_wrongPlace u) (gx_at u) (gx_frameCount u) (gx_kindCount u) (gx_valueCount u) (gx_activeCount u) (gx_goesOn u) (gx_outcome u) (gx_resultValue u) (gx_trapPlace u) (gx_fuelUsed u) (gx_firstWaiting u) (gx_waitingCount u) (gx_printCount u) (gx_code u) (gx_facts u) (gx_partner u) (gx_loaded u) (gx_globals u) (gx_memories u) (gx_frameAt u) (gx_frameHeight u) (gx_frameResult u) (gx_frameDead u) (gx_kinds u) (gx_values u) (gx_variables u) (gx_activeSlot u) (gx_activeGives u) (gx_activeFrame u) (gx_activeResume u) (gx_waiting u) (gx_prints u)) ∧ (¬ r = 0 → wpX_readEntries (fun r u => (r = 0 → wX_load_60 post (nI s) (gx_byteCount u) (gx_wrongPlace u) (gx_at u) (gx_frameCount u) (gx_kindCount u) (gx_valueCount u) (gx_activeCount u) (gx_goesOn u) (gx_outcome u) (gx_resultValue u) (gx_trapPlace u) (gx_fuelUsed u) (gx_firstWaiting u) (gx_waitingCount u) (gx_printCount u) (gx_code u) (gx_facts u) (gx_partner u) (gx_loaded u) (gx_globals u) (gx_memories u) (gx_frameAt u) (gx_frameHeight u) (gx_frameResult u) (gx_frameDead u) (gx_kinds u) (gx_values u) (gx_variables u) (gx_activeSlot u) (gx_activeGives u) (gx_activeFrame u) (gx_activeResume u) (gx_waiting u) (gx_prints u)) ∧ (¬ r = 0 → wpX_readMemory (fun r u => (r = 0 → wX_load_60 post (nI s) (gx_byteCount u) (gx_wrongPlace u) (gx_at u) (gx_frameCount u) (gx_kindCount u) (gx_valueCount u) (gx_activeCount u) (gx_goesOn u) (gx_outcome u) (gx_resultValue u) (gx_trapPlace u) (gx_fuelUsed u) (gx_firstWaiting u) (gx_waitingCount u) (gx_printCount u) (gx_code u) (gx_facts u) (gx_partner u) (gx_loaded u) (gx_globals u) (gx_memories u) (gx_frameAt u) (gx_frameHeight u) (gx_frameResult u) (gx_frameDead u) (gx_kinds u) (gx_values u) (gx_variables u) (gx_activeSlot u) (gx_activeGives u) (gx_activeFrame u) (gx_activeResume u) (gx_waiting u) (gx_prints u)) ∧ (¬ r = 0 → wX_load_61 post (nI s) 1 (gx_byteCount u) (gx_wrongPlace u) (gx_at u) (gx_frameCount u) (gx_kindCount u) (gx_valueCount u) (gx_activeCount u) (gx_goesOn u) (gx_outcome u) (gx_resultValue u) (gx_trapPlace u) (gx_fuelUsed u) (gx_firstWaiting u) (gx_waitingCount u) (gx_printCount u) (gx_code u) (gx_facts u) (gx_partner u) (gx_loaded u) (gx_globals u) (gx_memories u) (gx_frameAt u) (gx_frameHeight u) (gx_frameResult u) (gx_frameDead u) (gx_kinds u) (gx_values u) (gx_variables u) (gx_activeSlot u) (gx_activeGives u) (gx_activeFrame u) (gx_activeResume u) (gx_waiting u) (gx_prints u))) u)) u)) u)) u)) u)) (xr u (nI 0) (gx_frameCount u) (gx_facts u) (gx_partner u) (gx_frameAt u)) := by
    have hstop : ∀ q, rd_V c n = q → q.1 = false → ∀ fc F P A, xr_fr 44 66 (gx_facts u) F → xr_fr 280 420 (gx_partner u) P → wX_load_60 post (nI s) (gx_byteCount u) (gx_wrongPlace u) (nI q.2) fc (gx_kindCount u) (gx_valueCount u) (gx_activeCount u) (gx_goesOn u) (gx_outcome u) (gx_resultValue u) (gx_trapPlace u) (gx_fuelUsed u) (gx_firstWaiting u) (gx_waitingCount u) (gx_printCount u) (gx_code u) F P (gx_loaded u) (gx_globals u) (gx_memories u) A (gx_frameHeight u) (gx_frameResult u) (gx_frameDead u) (gx_kinds u) (gx_values u) (gx_variables u) (gx_activeSlot u) (gx_activeGives u) (gx_activeFrame u) (gx_activeResume u) (gx_waiting u) (gx_prints u) := by
      intro q e1 e2 fc F P A f1 f2
      have := hbad (by rw [e1]; exact e2) fc F P A f1 f2
      rw [e1] at this
      exact br_t rfl this
    obtain ⟨P0, hP0⟩ := xr_Pa_ex (gx_partner u)
    refine xr_types C (by omega) (fun F1 a1 a2 => ?_)
    have gT := ((rd_G_it (rd_G_T c n) (rd_tv c n 0 4 (true, 0))).1 _ ((rd_G_tk c n 0 4).1 (true, 0) (by dsimp only; omega)).2).2
    have fr1 : xr_fr 44 66 (gx_facts u) F1 := fun j hj => a1 j (by omega) (by omega)
    have eV : rd_V c n = rd_X c n (rd_it (rd_T c n) (rd_tv c n 0 4 (true, 0)) (rd_tk c n 0 4 (true, 0))) := rfl
    generalize eqT : rd_it (rd_T c n) (rd_tv c n 0 4 (true, 0)) (rd_tk c n 0 4 (true, 0)) = qT at a2 gT eV
    refine bb_br (fun z => hstop qT (by rw [eV, rd_X_f z]) z _ F1 _ _ fr1 xr_fr_r) (fun z => ?_)
    have hp1 : 0 < qT.2 := by
      rw [← eqT] at z ⊢
      obtain ⟨b1, b2, _⟩ := rd_tk_ok (rd_G_tr (rd_G_it (rd_G_T c n) _) z)
      rw [b2]
      have := (rd_G_it (rd_G_T c n) (rd_tv c n 0 4 (true, 0))).1 (true, (true, 0).2 + 1) (by
        have := ((rd_G_tk c n 0 4).1 (true, 0) (by dsimp only; omega)).2
        rw [b2] at this; exact this)
      dsimp only at this ⊢; omega
    obtain ⟨p1, rfl⟩ : ∃ p1, qT = (true, p1) := ⟨qT.2, tt_eq z⟩
    refine xr_imports C gT (fun F2 b1 b2 => ?_)
    have gI := ((rd_G_it (rd_G_J c n) (rd_tv c n 0 3 (true, p1))).1 _ ((rd_G_tk c n 0 3).1 (true, p1) gT).2)
    have gI0 := ((rd_G_tk c n 0 3).1 (true, p1) gT).1
    have fr2 : xr_fr 44 66 (gx_facts u) F2 := fun j hj => (b1 j (by omega) (by omega)).trans (fr1 j hj)
    have eV2 : rd_V c n = rd_Y c n (rd_it (rd_J c n) (rd_tv c n 0 3 (true, p1)) (rd_tk c n 0 3 (true, p1))) := eV
    have hvI := (rd_tv_le (c := c) (n := n) (lo := 0) (hi := 3) (q := (true, p1)) (by omega)).2
    generalize eqI : rd_it (rd_J c n) (rd_tv c n 0 3 (true, p1)) (rd_tk c n 0 3 (true, p1)) = qI at b2 gI eV2
    refine bb_br (fun z2 => hstop qI (by rw [eV2, rd_Y_f z2]) z2 _ F2 _ _ fr2 xr_fr_r) (fun z2 => ?_)
    obtain ⟨p2, rfl⟩ : ∃ p2, qI = (true, p2) := ⟨qI.2, tt_eq z2⟩
    dsimp only at gI gI0 hp1
    obtain ⟨c1, c2⟩ := b2 rfl
    refine xr_functions C gI.2 (by omega) hP0 (rd_tv c n 0 3 (true, p1)) hvI c1 (fun F3 Pa A3 fc3 d1 d2 d3 => ?_)
    have gF := ((rd_G_it (rd_G_F c n) (rd_tv c n 0 4 (true, p2))).1 _ ((rd_G_tk c n 0 4).1 (true, p2) gI.2).2).2
    have fr3 : xr_fr 44 66 (gx_facts u) F3 := fun j hj => (d1 j (by omega) (by omega)).trans (fr2 j hj)
    have eV3 : rd_V c n = rd_Z c n (rd_it (rd_F c n) (rd_tv c n 0 4 (true, p2)) (rd_tk c n 0 4 (true, p2))) := eV2
    generalize eqF : rd_it (rd_F c n) (rd_tv c n 0 4 (true, p2)) (rd_tk c n 0 4 (true, p2)) = qF at d3 gF eV3
    refine bb_br (fun z3 => hstop qF (by rw [eV3, rd_Z_f z3]) z3 _ F3 _ _ fr3 d2) (fun z3 => ?_)
    obtain ⟨p3, rfl⟩ : ∃ p3, qF = (true, p3) := ⟨qF.2, tt_eq z3⟩
    refine xr_globals C gF (fun F4 e1 e2 => ?_)
    have gG := ((rd_G_it (rd_G_g c n) (rd_tv c n 0 3 (true, p3))).1 _ ((rd_G_tk c n 0 3).1 (true, p3) gF).2).2
    have fr4 : xr_fr 44 66 (gx_facts u) F4 := fun j hj => (e1 j (by omega) (by omega)).trans (fr3 j hj)
    have eV4 : rd_V c n = rd_E c n (rd_it (rd_g c n) (rd_tv c n 0 3 (true, p3)) (rd_tk c n 0 3 (true, p3))) := eV3
    generalize eqG : rd_it (rd_g c n) (rd_tv c n 0 3 (true, p3)) (rd_tk c n 0 3 (true, p3)) = qG at e2 gG eV4
    refine bb_br (fun z4 => hstop qG (by rw [eV4, rd_E_f z4]) z4 _ F4 _ _ fr4 d2) (fun z4 => ?_)
    obtain ⟨p4, rfl⟩ : ∃ p4, qG = (true, p4) := ⟨qG.2, tt_eq z4⟩
    refine xr_entries C gG (fun F5 g1 g2 => ?_)
    have gE := ((rd_G_n c n 0 255 (rd_tv c n 0 5 (true, p4))).1 _ ((rd_G_tk c n 0 5).1 (true, p4) gG).2).2
    have fr5 : xr_fr 44 66 (gx_facts u) F5 := fun j hj => (g1 j (by omega) (by omega)).trans (fr4 j hj)
    have eV5 : rd_V c n = rd_e n (rd_M c n (rd_n c n 0 255 (rd_tv c n 0 5 (true, p4)) (rd_tk c n 0 5 (true, p4)))) := eV4
    generalize eqE : rd_n c n 0 255 (rd_tv c n 0 5 (true, p4)) (rd_tk c n 0 5 (true, p4)) = qE at g2 gE eV5
    refine bb_br (fun z5 => hstop qE (by rw [eV5, rd_M_f z5, rd_e_f z5]) z5 _ F5 _ _ fr5 d2) (fun z5 => ?_)
    obtain ⟨p5, rfl⟩ : ∃ p5, qE = (true, p5) := ⟨qE.2, tt_eq z5⟩
    refine xr_memory C gE (fun F6 k1 k2 => ?_)
    have fr6 : xr_fr 44 66 (gx_facts u) F6 := fun j hj => (k1 j (by omega) (by omega)).trans (fr5 j hj)
    have gM : (rd_M c n (true, p5)).2 ≤ n := by
      have t1 := (rd_G_tk c n 0 1).1 (true, p5) gE
      unfold rd_M
      split
      · exact ((rd_G_it (rd_G_D c n) _).1 _ ((rd_G_tk c n 0 2).1 _ t1.2).2).2
      · exact t1.2
    refine bb_br (fun z6 => hstop (rd_M c n (true, p5)) (by rw [eV5, rd_e_f z6]) z6 _ F6 _ _ fr6 d2) (fun z6 => ?_)
    by_cases hn : (rd_M c n (true, p5)).2 < n
    · have eq : rd_V c n = (false, (rd_M c n (true, p5)).2) := by rw [eV5, rd_e, if_pos hn]
      have := hbad (by rw [eq]) fc3 F6 Pa A3 fr6 d2
      rw [eq] at this
      exact br_f (by decide) (br_f (fun y => by
        have y' : nI (rd_M c n (true, p5)).2 = nI n := y.trans C.1
        rw [nI_eq (by omega) (by omega)] at y'
        omega) this)
    · have eq : rd_V c n = rd_M c n (true, p5) := by rw [eV5, rd_e, if_neg hn]
      have en : (rd_M c n (true, p5)).2 = n := by omega
      rw [en]
      have ok : (rd_V c n).1 = true := by rw [eq]; exact z6
      -- the places
      obtain ⟨o1, o2, o3, o4⟩ := rd_V_ok ok
      have eT : m_pI c n = p1 := by
        rw [o1, o2] at eqT
        show (rd_it (rd_T c n) (c 0) (true, 1)).2 = p1
        rw [eqT]
      obtain ⟨q1, q2, q3, q4, q5⟩ := rd_X_ok (q := (true, p1)) (by rw [← eV]; exact ok)
      dsimp only at q2 q3 q4
      obtain ⟨r1, r2, r3, r4, r5⟩ := rd_Y_ok (q := (true, p2)) (by rw [← eV2]; exact ok)
      dsimp only at r2 r3 r4
      obtain ⟨t1, t2, t3, t4⟩ := rd_Z_ok (q := (true, p3)) (by rw [← eV3]; exact ok)
      dsimp only at t2 t3 t4
      have eI : m_I c n = c p1 := by rw [m_I, eT]
      rw [q2, q3] at eqI
      have eF : m_pF c n = p2 := by
        show (rd_it (rd_J c n) (m_I c n) (true, m_pI c n + 1)).2 = p2
        rw [eI, eT, eqI]
      have eNF : m_F c n = c p2 := by rw [m_F, eF]
      rw [r2, r3] at eqF
      have eG : m_pG c n = p3 := by
        show (rd_it (rd_F c n) (m_F c n) (true, m_pF c n + 1)).2 = p3
        rw [eNF, eF, eqF]
      rw [t2, t3] at eqG
      have eQ : tl_q c n (m_pG c n) = p4 := by
        show (rd_it (rd_g c n) (c (m_pG c n)) (true, m_pG c n + 1)).2 = p4
        rw [eG, eqG]
      obtain ⟨w1, w2, w3, w4⟩ := rd_n_ok _ _ (show (rd_n c n 0 255 (rd_tv c n 0 5 (true, p4)) (rd_tk c n 0 5 (true, p4))).1 = true by rw [eqE])
      obtain ⟨x1, x2, x3, x4, x5, x6⟩ := rd_tk_ok w1
      dsimp only at x2 x3 x4 x5
      rw [w2, x2, x3] at eqE
      have eM : tl_m c n (m_pG c n) = p5 := by
        have := congrArg Prod.snd eqE
        dsimp only at this
        rw [tl_m, eQ]; exact this
      obtain ⟨y1, y2, y3, y4, y5, y6⟩ := rd_tk_ok (show (rd_tk c n 0 1 (true, p5)).1 = true from by
        cases e : (rd_tk c n 0 1 (true, p5)).1 with
        | true => rfl
        | false =>
          have : rd_tv c n 0 1 (true, p5) = 0 := by
            unfold rd_tv; split
            · rename_i hc; rw [rd_tk, if_pos hc] at e; exact ff_t e.symm
            · rfl
          rw [rd_M, this, if_neg (by decide), e] at z6
          exact ff_t z6)
      dsimp only at y2 y3
      obtain ⟨aa1, aa2⟩ := a2 rfl
      obtain ⟨dd1, dd2, dd3⟩ := d3 rfl
      obtain ⟨ee1, ee2⟩ := e2 rfl
      obtain ⟨gg1, gg2⟩ := g2 rfl
      obtain ⟨kk1, kk2⟩ := k2 z6
      refine hok ok fc3 F6 Pa A3 P0 fr6 d2 ?_ ?_
      · refine ⟨?_, ?_, ?_, ?_, ?_, ?_, ?_, ?_, fun t ht => ?_, fun f hf => ?_, fun g hg => ?_⟩
        · rw [k1 44 (by omega) (by omega), g1 44 (by omega) (by omega), e1 44 (by omega) (by omega), d1 44 (by omega) (by omega), b1 44 (by omega) (by omega), aa1, o2]
        · rw [k1 45 (by omega) (by omega), g1 45 (by omega) (by omega), e1 45 (by omega) (by omega), d1 45 (by omega) (by omega), c1, q3, eI]
        · rw [k1 46 (by omega) (by omega), g1 46 (by omega) (by omega), e1 46 (by omega) (by omega), dd1, q3, r3, eI, eNF]
        · rw [k1 47 (by omega) (by omega), g1 47 (by omega) (by omega), ee1, t3, eG]
        · rw [k1 48 (by omega) (by omega), gg1, x3, eQ]
        · rw [kk1, y3, eM]
        · rw [k1 50 (by omega) (by omega), gg2, x2, eQ]
        · rw [kk2, y2, eM]
        · have := aa2 t (by rw [o2]; exact ht)
          rw [o1] at this
          rw [show 44 + 8 + t = 52 + t by omega, k1 _ (by omega) (by omega), g1 _ (by omega) (by omega), e1 _ (by omega) (by omega), d1 _ (by omega) (by omega), b1 _ (by omega) (by omega), this]
          rfl
        · rw [show 44 + 12 + f = 56 + f by omega, k1 _ (by omega) (by omega), g1 _ (by omega) (by omega), e1 _ (by omega) (by omega)]
          rw [m_fa]
          rw [eI, eNF] at hf
          by_cases hf2 : f < m_I c n
          · rw [if_pos hf2]
            rw [eI] at hf2
            have := c2 f (by rw [q3]; exact hf2)
            rw [q2] at this
            rw [d1 _ (by omega) (by rw [q3]; omega), this, m_im, eT]
          · rw [if_neg hf2]
            rw [eI] at hf2 ⊢
            have := dd3 (f - c p1) (by rw [r3]; omega)
            rw [q3, r2, show 56 + c p1 + (f - c p1) = 56 + f by omega] at this
            rw [this, m_fn, eF]
        · rw [eG] at hg ⊢
          have := ee2 g (by rw [t3]; exact hg)
          rw [t2] at this
          rw [show 44 + 19 + g = 63 + g by omega, k1 _ (by omega) (by omega), g1 _ (by omega) (by omega), this]
      · rw [r2, r3] at dd2
        rw [m_P, eNF, eF]
        exact dd2
  rcases hsl with rfl | rfl
  · exact br_t rfl (br_f (by decide) key)
  · exact br_f (by decide) (br_t rfl (br_f (by decide) key))
end
end
section
/-! 16: bodies: where instructions end, the scan for an END, the partner table -/
def cn_e (c : Nat → Nat) : Nat → Nat → Nat
  | 0, e => e + 1
  | k + 1, e => if 127 < c e then cn_e c k (e + 1) else e + 1
/-- the place of the instruction that follows the one at p -/
def nx (c : Nat → Nat) (p : Nat) : Nat := if c p = 9 then p + 3 + c (p + 1) else if c p = 20 ∨ c p = 21 then cn_e c 9 (p + 1) else if rd_ho (c p) then p + 2 else p + 1
theorem rd_C_end {c : Nat → Nat} {n : Nat} : ∀ k p j, (rd_C c n k (true, p)).1 = true → k ≤ j + 1 → (rd_C c n k (true, p)).2 = cn_e c j p := by
  intro k
  induction k with
  | zero => intro p j h; exact ff_t h
  | succ k ih =>
    intro p j h hj
    rw [rd_C] at h ⊢
    generalize (if k = 0 then 127 else 255) = hb at h ⊢
    rcases rd_tk_or c n 0 hb (true, p) with ⟨e, _, _, _, h5⟩ | e
    · rw [e] at h ⊢
      dsimp only at h h5 ⊢
      by_cases h4 : 127 < c p
      · rw [if_pos ⟨rfl, h4⟩] at h ⊢
        obtain ⟨j, rfl⟩ : ∃ i, j = i + 1 := by
          cases j with
          | zero =>
            have : k = 0 := by omega
            subst this
            exact ff_t h
          | succ i => exact ⟨i, rfl⟩
        rw [cn_e, if_pos h4]
        exact ih (p + 1) j h (by omega)
      · rw [if_neg (fun z => h4 z.2)]
        cases j with
        | zero => rfl
        | succ j => rw [cn_e, if_neg h4]
    · rw [e, if_neg (fun z => ff_t z.1)] at h; exact ff_t h
theorem rd_R_nx {c : Nat → Nat} {n p : Nat} (h : (rd_R c n (c p) (true, p + 1)).1 = true) : rd_R c n (c p) (true, p + 1) = (true, nx c p) := by
  have h' := tt_eq h
  rw [h']
  refine congrArg (fun z => (true, z)) ?_
  unfold rd_R at h ⊢
  unfold nx
  by_cases h1 : 2 ≤ c p ∧ c p ≤ 4
  · rw [if_pos h1] at h ⊢
    rw [if_neg (by omega), if_neg (by omega), if_pos (by omega), (rd_tk_ok h).2.1]
  · rw [if_neg h1] at h ⊢
    by_cases h2 : c p = 9
    · rw [if_pos h2] at h ⊢
      rw [if_pos h2]
      obtain ⟨a1, a2, a3, a4⟩ := rd_n_ok _ _ h
      obtain ⟨b1, b2, b3, b4, b5, b6⟩ := rd_tk_ok a1
      rw [a2, b2, b3]
      dsimp only; omega
    · rw [if_neg h2] at h ⊢
      rw [if_neg h2]
      by_cases h3 : c p = 20
      · rw [if_pos h3] at h ⊢
        rw [if_pos (Or.inl h3), rd_C_end 5 (p + 1) 9 h (by omega)]
      · rw [if_neg h3] at h ⊢
        by_cases h4 : c p = 21
        · rw [if_pos h4] at h ⊢
          rw [if_pos (Or.inr h4), rd_C_end 10 (p + 1) 9 h (by omega)]
        · rw [if_neg h4] at h ⊢
          rw [if_neg (show ¬ (c p = 20 ∨ c p = 21) by omega)]
          by_cases h5 : rd_ho (c p)
          · rw [if_pos h5] at h ⊢
            rw [if_pos h5, (rd_tk_ok h).2.1]
          · rw [if_neg h5, if_neg h5]
/-- the scan for the END that closes what is open -/
def sc (c : Nat → Nat) : Nat → Nat → Nat → Option Nat
  | 0, _, _ => none
  | k + 1, p, d => if c p = 6 then (if d = 0 then some p else sc c k (nx c p) (d - 1)) else if 2 ≤ c p ∧ c p ≤ 4 then sc c k (nx c p) (d + 1) else sc c k (nx c p) d
/-- the same, that stops at an ELSE too -/
def se (c : Nat → Nat) : Nat → Nat → Nat → Option Nat
  | 0, _, _ => none
  | k + 1, p, d => if d = 0 ∧ c p = 5 then some p else if c p = 6 then (if d = 0 then some p else se c k (nx c p) (d - 1)) else if 2 ≤ c p ∧ c p ≤ 4 then se c k (nx c p) (d + 1) else se c k (nx c p) d
def SC (c : Nat → Nat) (p d e : Nat) : Prop := ∃ k, sc c k p d = some e
def SE (c : Nat → Nat) (p d e : Nat) : Prop := ∃ k, se c k p d = some e
theorem sc_mono {c : Nat → Nat} {e : Nat} : ∀ k p d, sc c k p d = some e → sc c (k + 1) p d = some e := by
  intro k
  induction k with
  | zero => intro p d h; exact nomatch h
  | succ k ih =>
    intro p d h
    rw [sc] at h ⊢
    by_cases h6 : c p = 6
    · rw [if_pos h6] at h ⊢
      by_cases hd : d = 0
      · rw [if_pos hd] at h ⊢; exact h
      · rw [if_neg hd] at h ⊢; exact ih _ _ h
    · rw [if_neg h6] at h ⊢
      by_cases ho : 2 ≤ c p ∧ c p ≤ 4
      · rw [if_pos ho] at h ⊢; exact ih _ _ h
      · rw [if_neg ho] at h ⊢; exact ih _ _ h
theorem sc_le {c : Nat → Nat} {e p d : Nat} : ∀ j k, sc c k p d = some e → sc c (k + j) p d = some e := by
  intro j
  induction j with
  | zero => intro k h; exact h
  | succ j ih => intro k h; exact sc_mono _ _ _ (ih k h)
theorem SC_uni {c : Nat → Nat} {p d e e' : Nat} (h : SC c p d e) (h' : SC c p d e') : e = e' := by
  obtain ⟨k, h⟩ := h
  obtain ⟨k', h'⟩ := h'
  have a := sc_le k' k h
  have b := sc_le k k' h'
  rw [Nat.add_comm] at b
  exact Option.some.inj (a.symm.trans b)
theorem SC_e {c : Nat → Nat} {p : Nat} (h : c p = 6) : SC c p 0 p := ⟨1, by rw [sc, if_pos h, if_pos rfl]⟩
theorem SC_6 {c : Nat → Nat} {p d e : Nat} (h : c p = 6) : SC c p (d + 1) e ↔ SC c (nx c p) d e := by
  constructor
  · rintro ⟨k, h2⟩
    cases k with
    | zero => exact nomatch h2
    | succ k => rw [sc, if_pos h, if_neg (by omega), Nat.add_sub_cancel] at h2; exact ⟨k, h2⟩
  · rintro ⟨k, h2⟩
    exact ⟨k + 1, by rw [sc, if_pos h, if_neg (by omega), Nat.add_sub_cancel]; exact h2⟩
theorem SC_o {c : Nat → Nat} {p d e : Nat} (h : 2 ≤ c p ∧ c p ≤ 4) : SC c p d e ↔ SC c (nx c p) (d + 1) e := by
  constructor
  · rintro ⟨k, h2⟩
    cases k with
    | zero => exact nomatch h2
    | succ k => rw [sc, if_neg (by omega), if_pos h] at h2; exact ⟨k, h2⟩
  · rintro ⟨k, h2⟩
    exact ⟨k + 1, by rw [sc, if_neg (by omega), if_pos h]; exact h2⟩
theorem SC_n {c : Nat → Nat} {p d e : Nat} (h : ¬ (2 ≤ c p ∧ c p ≤ 4)) (h6 : c p ≠ 6) : SC c p d e ↔ SC c (nx c p) d e := by
  constructor
  · rintro ⟨k, h2⟩
    cases k with
    | zero => exact nomatch h2
    | succ k => rw [sc, if_neg h6, if_neg h] at h2; exact ⟨k, h2⟩
  · rintro ⟨k, h2⟩
    exact ⟨k + 1, by rw [sc, if_neg h6, if_neg h]; exact h2⟩
theorem SE_e {c : Nat → Nat} {p : Nat} (h : c p = 6) : SE c p 0 p := ⟨1, by rw [se, if_neg (by omega), if_pos h, if_pos rfl]⟩
theorem SE_5 {c : Nat → Nat} {p : Nat} (h : c p = 5) : SE c p 0 p := ⟨1, by rw [se, if_pos ⟨rfl, h⟩]⟩
theorem SE_6 {c : Nat → Nat} {p d e : Nat} (h : c p = 6) : SE c p (d + 1) e ↔ SE c (nx c p) d e := by
  constructor
  · rintro ⟨k, h2⟩
    cases k with
    | zero => exact nomatch h2
    | succ k => rw [se, if_neg (by omega), if_pos h, if_neg (by omega), Nat.add_sub_cancel] at h2; exact ⟨k, h2⟩
  · rintro ⟨k, h2⟩
    exact ⟨k + 1, by rw [se, if_neg (by omega), if_pos h, if_neg (by omega), Nat.add_sub_cancel]; exact h2⟩
theorem SE_o {c : Nat → Nat} {p d e : Nat} (h : 2 ≤ c p ∧ c p ≤ 4) : SE c p d e ↔ SE c (nx c p) (d + 1) e := by
  constructor
  · rintro ⟨k, h2⟩
    cases k with
    | zero => exact nomatch h2
    | succ k => rw [se, if_neg (by omega), if_neg (by omega), if_pos h] at h2; exact ⟨k, h2⟩
  · rintro ⟨k, h2⟩
    exact ⟨k + 1, by rw [se, if_neg (by omega), if_neg (by omega), if_pos h]; exact h2⟩
theorem SE_n {c : Nat → Nat} {p d e : Nat} (h : ¬ (2 ≤ c p ∧ c p ≤ 4)) (h6 : c p ≠ 6) (h5 : ¬ (d = 0 ∧ c p = 5)) : SE c p d e ↔ SE c (nx c p) d e := by
  constructor
  · rintro ⟨k, h2⟩
    cases k with
    | zero => exact nomatch h2
    | succ k => rw [se, if_neg h5, if_neg h6, if_neg h] at h2; exact ⟨k, h2⟩
  · rintro ⟨k, h2⟩
    exact ⟨k + 1, by rw [se, if_neg h5, if_neg h6, if_neg h]; exact h2⟩
/-- where the second scan stops at an END, the first does too; where at an ELSE, the first goes on from there -/
theorem SE_SC {c : Nat → Nat} {e1 : Nat} : ∀ k p d, se c k p d = some e1 → (c e1 = 6 → SC c p d e1) ∧ (c e1 = 5 → ∀ e, SC c (nx c e1) 0 e → SC c p d e) ∧ (c e1 = 5 ∨ c e1 = 6) := by
  intro k
  induction k with
  | zero => intro p d h; exact nomatch h
  | succ k ih =>
    intro p d h
    rw [se] at h
    by_cases h5 : d = 0 ∧ c p = 5
    · rw [if_pos h5] at h
      have := Option.some.inj h
      subst this
      refine ⟨fun z => absurd z (by omega), fun _ e he => ?_, Or.inl h5.2⟩
      rw [h5.1]
      exact (SC_n (by omega) (by omega)).mpr he
    · rw [if_neg h5] at h
      by_cases h6 : c p = 6
      · rw [if_pos h6] at h
        by_cases hd : d = 0
        · rw [if_pos hd] at h
          have := Option.some.inj h
          subst this
          rw [hd]
          exact ⟨fun _ => SC_e h6, fun z => absurd z (by omega), Or.inr h6⟩
        · rw [if_neg hd] at h
          obtain ⟨d, rfl⟩ : ∃ d', d = d' + 1 := ⟨d - 1, by omega⟩
          rw [Nat.add_sub_cancel] at h
          obtain ⟨a, b, g⟩ := ih _ _ h
          exact ⟨fun z => (SC_6 h6).mpr (a z), fun z e he => (SC_6 h6).mpr (b z e he), g⟩
      · rw [if_neg h6] at h
        by_cases ho : 2 ≤ c p ∧ c p ≤ 4
        · rw [if_pos ho] at h
          obtain ⟨a, b, g⟩ := ih _ _ h
          exact ⟨fun z => (SC_o ho).mpr (a z), fun z e he => (SC_o ho).mpr (b z e he), g⟩
        · rw [if_neg ho] at h
          obtain ⟨a, b, g⟩ := ih _ _ h
          exact ⟨fun z => (SC_n ho h6).mpr (a z), fun z e he => (SC_n ho h6).mpr (b z e he), g⟩
/-- what the table says of the opener o whose inside (or rest) begins at p, d levels up -/
def pt_at (c P : Nat → Nat) (o p d : Nat) : Prop := ∃ e1, SE c p d e1 ∧ P o = e1 ∧ (c e1 = 5 → ∃ e, SC c (e1 + 1) 0 e ∧ P e1 = e)
/-- a body that was read: from p, with the codes T open -/
def ib (c : Nat → Nat) (n : Nat) (P : Nat → Nat) : Nat → Nat → List Nat → Prop
  | 0, _, _ => False
  | k + 1, p, T => p < n ∧ c p ≤ 66 ∧ rd_R c n (c p) (true, p + 1) = (true, nx c p) ∧ nx c p ≤ n ∧ p < nx c p ∧ (2 ≤ c p ∧ c p ≤ 4 → pt_at c P p (nx c p) 0) ∧
    (if 2 ≤ c p ∧ c p ≤ 4 then ib c n P k (nx c p) (c p :: T) else if c p = 5 then T.headD 0 = 4 ∧ ib c n P k (nx c p) (5 :: T.tail) else if c p = 6 then (T.tail = [] ∨ ib c n P k (nx c p) T.tail) else ib c n P k (nx c p) T)
def pe_ok (c P : Nat → Nat) (p : Nat) : Nat → List (Nat × Nat × Nat) → Prop
  | _, [] => True
  | d, (cd, o, el) :: T => (T ≠ [] → (cd ≠ 5 → pt_at c P o p d) ∧ (cd = 5 → P o = el ∧ ∃ e, SC c p d e ∧ P el = e)) ∧ pe_ok c P p (d + 1) T
def nv_ok (j : Nat) : List (Nat × Nat × Nat) → Prop
  | [] => True
  | (cd, o, el) :: T => (T ≠ [] → (cd ≠ 5 → j ≠ o) ∧ (cd = 5 → j ≠ el)) ∧ nv_ok j T
theorem nv_of {c P : Nat → Nat} : ∀ T q j, rd_TI c P q T → q ≤ j → nv_ok j T := by
  intro T
  induction T with
  | nil => intro q j _ _; trivial
  | cons x T ih =>
    intro q j h hj
    obtain ⟨cd, o, el⟩ := x
    obtain ⟨h1, h2, h3⟩ := h
    refine ⟨fun e => ?_, ?_⟩
    · obtain ⟨a, b⟩ := h2 e
      refine ⟨fun _ => by omega, fun z => ?_⟩
      rcases b with b | b
      · omega
      · omega
    · by_cases e : T = []
      · subst e; trivial
      · exact ih o j (h3 e) (by have := (h2 e).1; omega)
theorem pe_step {c P : Nat → Nat} {p p' : Nat} (g1 : ∀ d e, SE c p' (d + 1) e → SE c p (d + 1) e) (g2 : ∀ d e, SC c p' (d + 1) e → SC c p (d + 1) e) : ∀ T d, pe_ok c P p' (d + 1) T → pe_ok c P p (d + 1) T := by
  intro T
  induction T with
  | nil => intro d _; trivial
  | cons x T ih =>
    intro d h
    obtain ⟨cd, o, el⟩ := x
    obtain ⟨h1, h2⟩ := h
    refine ⟨fun e => ?_, ih (d + 1) h2⟩
    obtain ⟨a, b⟩ := h1 e
    refine ⟨fun z => ?_, fun z => ?_⟩
    · obtain ⟨e1, f1, f2⟩ := a z
      exact ⟨e1, g1 _ _ f1, f2⟩
    · obtain ⟨b1, e1, f1, f2⟩ := b z
      exact ⟨b1, e1, g2 _ _ f1, f2⟩
theorem pe_up {c P : Nat → Nat} {p p' : Nat} (g1 : ∀ d e, SE c p' (d + 1) e → SE c p d e) (g2 : ∀ d e, SC c p' (d + 1) e → SC c p d e) : ∀ T d, pe_ok c P p' (d + 1) T → pe_ok c P p d T := by
  intro T
  induction T with
  | nil => intro d _; trivial
  | cons x T ih =>
    intro d h
    obtain ⟨cd, o, el⟩ := x
    obtain ⟨h1, h2⟩ := h
    refine ⟨fun e => ?_, ih (d + 1) h2⟩
    obtain ⟨a, b⟩ := h1 e
    refine ⟨fun z => ?_, fun z => ?_⟩
    · obtain ⟨e1, f1, f2⟩ := a z
      exact ⟨e1, g1 _ _ f1, f2⟩
    · obtain ⟨b1, e1, f1, f2⟩ := b z
      exact ⟨b1, e1, g2 _ _ f1, f2⟩
theorem pe_dn {c P : Nat → Nat} {p p' : Nat} (g1 : ∀ d e, SE c p' d e → SE c p (d + 1) e) (g2 : ∀ d e, SC c p' d e → SC c p (d + 1) e) : ∀ T d, pe_ok c P p' d T → pe_ok c P p (d + 1) T := by
  intro T
  induction T with
  | nil => intro d _; trivial
  | cons x T ih =>
    intro d h
    obtain ⟨cd, o, el⟩ := x
    obtain ⟨h1, h2⟩ := h
    refine ⟨fun e => ?_, ih (d + 1) h2⟩
    obtain ⟨a, b⟩ := h1 e
    refine ⟨fun z => ?_, fun z => ?_⟩
    · obtain ⟨e1, f1, f2⟩ := a z
      exact ⟨e1, g1 _ _ f1, f2⟩
    · obtain ⟨b1, e1, f1, f2⟩ := b z
      exact ⟨b1, e1, g2 _ _ f1, f2⟩
theorem pe_eq {c P : Nat → Nat} {p p' : Nat} (g1 : ∀ d e, SE c p' d e → SE c p d e) (g2 : ∀ d e, SC c p' d e → SC c p d e) : ∀ T d, pe_ok c P p' d T → pe_ok c P p d T := by
  intro T
  induction T with
  | nil => intro d _; trivial
  | cons x T ih =>
    intro d h
    obtain ⟨cd, o, el⟩ := x
    obtain ⟨h1, h2⟩ := h
    refine ⟨fun e => ?_, ih (d + 1) h2⟩
    obtain ⟨a, b⟩ := h1 e
    refine ⟨fun z => ?_, fun z => ?_⟩
    · obtain ⟨e1, f1, f2⟩ := a z
      exact ⟨e1, g1 _ _ f1, f2⟩
    · obtain ⟨b1, e1, f1, f2⟩ := b z
      exact ⟨b1, e1, g2 _ _ f1, f2⟩
theorem nx_1 {c : Nat → Nat} {p : Nat} (h : c p = 5 ∨ c p = 6 ∨ c p = 0 ∨ c p = 1 ∨ c p = 10 ∨ c p = 13 ∨ c p = 14 ∨ 28 ≤ c p) : nx c p = p + 1 := by
  unfold nx
  rw [if_neg (by omega), if_neg (by omega), if_neg (by omega)]
theorem nx_2 {c : Nat → Nat} {p : Nat} (h : rd_ho (c p)) : nx c p = p + 2 := by
  unfold nx
  rw [if_neg (by omega), if_neg (by omega), if_pos h]
theorem ib_of {c Q : Nat → Nat} {n : Nat} : ∀ k p T (P : Nat → Nat) p', rd_B c n k (true, p) T = ((true, p'), []) → T ≠ [] → p ≤ n → rd_TI c P p T → (∀ j, j < p' → Q j = rd_BP c n k (true, p) T P j) →
    ib c n Q k p (T.map (·.1)) ∧ pe_ok c Q p 0 T ∧ ∀ j, j < p → nv_ok j T → rd_BP c n k (true, p) T P j = P j := by
  intro k
  induction k with
  | zero =>
    intro p T P p' h hT
    rw [rd_B] at h
    exact absurd (congrArg Prod.snd h) hT
  | succ k ih =>
    intro p T P p' h hT hp hI hQ
    have hle : p ≤ p' := by
      have := ((rd_G_B c n (k + 1) T).1 (true, p) hp).1
      dsimp only at this
      rw [h] at this
      exact this
    rw [rd_B, if_pos ⟨rfl, hT⟩] at h
    rw [rd_BP, if_pos ⟨rfl, hT⟩] at hQ ⊢
    have hok : (rd_I c n (true, p) T).1.1 = true := by
      cases e : (rd_I c n (true, p) T).1.1 with
      | true => rfl
      | false =>
        rw [rd_B_f _ _ _ e] at h
        have := congrArg (fun z => z.1.1) h
        dsimp only at this
        rw [e] at this
        exact ff_t this
    have hlt := rd_I_lt hp hok
    have hTI := rd_TI_I hI hT hp hok
    have eI := tt_eq hok
    rcases rd_tk_or c n 0 66 (true, p) with ⟨e, _, hpn, _, h66⟩ | e
    · dsimp only at hpn h66 e
      have e1 : (rd_tk c n 0 66 (true, p)).1 = true := by rw [e]
      by_cases ho : 2 ≤ c p ∧ c p ≤ 4
      · have enx : nx c p = p + 2 := nx_2 (by omega)
        have r1 : rd_I c n (true, p) T = (rd_tk c n 0 2 (true, p + 1), (c p, p, 0) :: T) := by rw [rd_I, if_pos e1, if_pos ho]
        have r2 : rd_P c n (true, p) T P = up_n P p 0 := by rw [rd_P, if_pos e1, if_pos ho]
        rw [r1] at hok hlt hTI h eI hQ ⊢
        rw [r2] at hTI hQ ⊢
        dsimp only at hok hlt hTI h hQ ⊢
        obtain ⟨b1, b2, b3, b4, b5, b6⟩ := rd_tk_ok hok
        rw [b2] at h hTI hlt hQ ⊢
        dsimp only at h hTI hlt hQ ⊢
        obtain ⟨i1, i2, i3⟩ := ih (p + 1 + 1) _ _ p' h (by simp) hlt.2 hTI hQ
        have eR : rd_R c n (c p) (true, p + 1) = (true, nx c p) := rd_R_nx (by rw [rd_R, if_pos ho]; exact hok)
        rw [show p + 1 + 1 = nx c p by omega] at i1 i2 i3 ⊢
        refine ⟨⟨hpn, h66, eR, by omega, by omega, fun _ => (i2.1 hT).1 (by omega), by rw [if_pos ho]; exact i1⟩, pe_up (fun d e => (SE_o ho).mpr) (fun d e => (SC_o ho).mpr) T 0 i2.2, fun j hj hv => ?_⟩
        rw [i3 j (by omega) ⟨fun _ => ⟨fun _ => by omega, fun z => absurd z (by omega)⟩, hv⟩, up_d (by omega)]
      · by_cases h5 : c p = 5
        · have enx : nx c p = p + 1 := nx_1 (by omega)
          obtain ⟨x, T, rfl⟩ : ∃ x T', T = x :: T' := by cases T with | nil => exact absurd rfl hT | cons x T' => exact ⟨x, T', rfl⟩
          obtain ⟨cd, o, el⟩ := x
          by_cases h4 : cd = 4
          · subst h4
            have e4 : tp_cd ((4, o, el) :: T) = 4 := rfl
            have r1 : rd_I c n (true, p) ((4, o, el) :: T) = ((true, p + 1), (5, o, p) :: T) := by rw [rd_I, if_pos e1, if_neg ho, if_pos h5, if_pos e4]; rfl
            have r2 : rd_P c n (true, p) ((4, o, el) :: T) P = up_n P o p := by rw [rd_P, if_pos e1, if_neg ho, if_pos h5, if_pos e4]; rfl
            rw [r1] at hlt hTI h hQ ⊢
            rw [r2] at hTI hQ ⊢
            dsimp only at hlt hTI h hQ ⊢
            obtain ⟨i1, i2, i3⟩ := ih (p + 1) _ _ p' h (by simp) hlt.2 hTI hQ
            have eR : rd_R c n (c p) (true, p + 1) = (true, nx c p) := rd_R_nx (by rw [h5]; rfl)
            rw [show p + 1 = nx c p by omega] at i1 i2 i3 ⊢
            have hT2 : T ≠ [] := fun z => absurd (hI.1 z) (by decide)
            obtain ⟨s1, e2, s2, s3⟩ := (i2.1 hT2).2 rfl
            refine ⟨⟨hpn, h66, by rw [← enx] at eR; rw [show p + 1 = nx c p by omega]; exact eR, by omega, by omega, fun z => absurd z ho, by rw [if_neg ho, if_pos h5]; exact ⟨rfl, i1⟩⟩, ⟨fun _ => ⟨fun _ => ⟨p, SE_5 h5, s1, fun _ => ⟨e2, by rw [show p + 1 = nx c p by omega]; exact s2, s3⟩⟩, fun z => absurd z (by decide)⟩, ?_⟩, fun j hj hv => ?_⟩
            · exact pe_step (fun d e => (SE_n ho (by omega) (by omega)).mpr) (fun d e => (SC_n ho (by omega)).mpr) T 0 i2.2
            · obtain ⟨hv1, hv2⟩ := hv
              rw [i3 j (by omega) ⟨fun _ => ⟨fun z => absurd rfl z, fun _ => by omega⟩, hv2⟩]
              exact up_d ((hv1 hT2).1 (by decide))
          · have e4 : ¬ tp_cd ((cd, o, el) :: T) = 4 := h4
            rw [rd_I, if_pos e1, if_neg ho, if_pos h5, if_neg e4] at hok
            exact ff_t hok
        · by_cases h6 : c p = 6
          · have enx : nx c p = p + 1 := nx_1 (by omega)
            obtain ⟨x, T, rfl⟩ : ∃ x T', T = x :: T' := by cases T with | nil => exact absurd rfl hT | cons x T' => exact ⟨x, T', rfl⟩
            obtain ⟨cd, o, el⟩ := x
            have r1 : rd_I c n (true, p) ((cd, o, el) :: T) = ((true, p + 1), T) := by rw [rd_I, if_pos e1, if_neg ho, if_neg h5, if_pos h6]; rfl
            have r2 : rd_P c n (true, p) ((cd, o, el) :: T) P = (if cd = 0 then P else if cd = 5 then up_n P el p else up_n P o p) := by rw [rd_P, if_pos e1, if_neg ho, if_neg h5, if_pos h6]; rfl
            rw [r1] at hlt hTI h hQ ⊢
            rw [r2] at hTI hQ ⊢
            dsimp only at hlt hTI h hQ ⊢
            have eR : rd_R c n (c p) (true, p + 1) = (true, nx c p) := rd_R_nx (by rw [h6]; rfl)
            by_cases hT2 : T = []
            · subst hT2
              have h0 := hI.1 rfl
              subst h0
              rw [rd_BP_n, if_pos rfl] at hQ ⊢
              refine ⟨⟨hpn, h66, eR, by omega, by omega, fun z => absurd z ho, by rw [if_neg ho, if_neg h5, if_pos h6]; exact Or.inl rfl⟩, ⟨fun z => absurd rfl z, trivial⟩, fun j _ _ => rfl⟩
            · obtain ⟨i1, i2, i3⟩ := ih (p + 1) _ _ p' h hT2 hlt.2 hTI hQ
              obtain ⟨g1, g2⟩ := hI.2.1 hT2
              have g3 := hI.2.2 hT2
              generalize rd_BP c n k (true, p + 1) T (if cd = 0 then P else if cd = 5 then up_n P el p else up_n P o p) = P' at i1 i2 i3 hQ ⊢
              rw [show p + 1 = nx c p by omega] at i1 i2
              refine ⟨⟨hpn, h66, eR, by omega, by omega, fun z => absurd z ho, by rw [if_neg ho, if_neg h5, if_pos h6]; exact Or.inr i1⟩, ⟨fun _ => ?_, pe_dn (fun d e => (SE_6 h6).mpr) (fun d e => (SC_6 h6).mpr) T 0 i2⟩, fun j hj hv => ?_⟩
              · rcases g2 with ⟨a1, a2, a3⟩ | ⟨a1, a2, a3, a4, a5⟩
                · rw [if_neg (show ¬ cd = 0 by omega), if_neg (show ¬ cd = 5 by omega)] at i3
                  refine ⟨fun _ => ⟨p, SE_e h6, ?_, fun z => absurd z (by omega)⟩, fun z => absurd z (by omega)⟩
                  rw [hQ o (by omega), i3 o (by omega) (nv_of T o o g3 (by omega)), up_s]
                · rw [if_neg (show ¬ cd = 0 by omega), if_pos a1] at i3
                  refine ⟨fun z => absurd a1 z, fun _ => ⟨?_, p, SC_e h6, ?_⟩⟩
                  · rw [hQ o (by omega), i3 o (by omega) (nv_of T o o g3 (by omega)), up_d (by omega)]; exact a3
                  · rw [hQ el (by omega), i3 el (by omega) (nv_of T o el g3 (by omega)), up_s]
              · obtain ⟨hv1, hv2⟩ := hv
                obtain ⟨v1, v2⟩ := hv1 hT2
                rw [i3 j (by omega) hv2]
                rcases g2 with ⟨a1, a2, a3⟩ | ⟨a1, a2, a3, a4, a5⟩
                · rw [if_neg (show ¬ cd = 0 by omega), if_neg (show ¬ cd = 5 by omega)]
                  exact up_d (v1 (by omega))
                · rw [if_neg (show ¬ cd = 0 by omega), if_pos a1]
                  exact up_d (v2 a1)
          · have r1 : rd_I c n (true, p) T = (rd_R c n (c p) (true, p + 1), T) := by rw [rd_I, if_pos e1, if_neg ho, if_neg h5, if_neg h6]
            have r2 : rd_P c n (true, p) T P = P := by rw [rd_P, if_pos e1, if_neg ho, if_neg h5, if_neg h6]
            rw [r1] at hok hlt hTI h hQ ⊢
            rw [r2] at hTI hQ ⊢
            dsimp only at hok hlt hTI h hQ ⊢
            have eR := rd_R_nx hok
            rw [eR] at h hTI hlt hQ ⊢
            dsimp only at h hTI hlt hQ ⊢
            obtain ⟨i1, i2, i3⟩ := ih _ _ _ p' h hT hlt.2 hTI hQ
            exact ⟨⟨hpn, h66, eR, hlt.2, hlt.1, fun z => absurd z ho, by rw [if_neg ho, if_neg h5, if_neg h6]; exact i1⟩, pe_eq (fun d e => (SE_n ho h6 (by omega)).mpr) (fun d e => (SC_n ho h6).mpr) T 0 i2, fun j hj hv => i3 j (by omega) hv⟩
    · rw [rd_I, if_neg (by rw [e]; simp), e] at hok; exact ff_t hok
end
section
/-! 17: validation, pure: kinds K and frames F with the top first, and whether a fault was met -/
abbrev vt_Fr : Type := Nat × Nat × Nat × Bool × Nat
abbrev vt_St : Type := List Nat × List vt_Fr × Bool
def f_c (F : List vt_Fr) : Nat := (F.headD (0, 0, 0, false, 0)).1
def f_g (F : List vt_Fr) : Nat := (F.headD (0, 0, 0, false, 0)).2.1
def f_h (F : List vt_Fr) : Nat := (F.headD (0, 0, 0, false, 0)).2.2.1
def f_d (F : List vt_Fr) : Bool := (F.headD (0, 0, 0, false, 0)).2.2.2.1
def f_o (F : List vt_Fr) : Nat := (F.headD (0, 0, 0, false, 0)).2.2.2.2
/-- the gift of the lowest frame -/
def f_b : List vt_Fr → Nat
  | [] => 0
  | (_, g, _) :: F => if F = [] then g else f_b F
def vt_bad (S : vt_St) (b : Bool) : vt_St := (S.1, S.2.1, S.2.2 || b)
def pl_f (x k : Nat) : Bool := if x ≠ 0 ∧ k ≠ 0 ∧ x ≠ k then true else false
def vt_pl (k : Nat) (S : vt_St) : vt_St :=
  if S.1.length = f_h S.2.1 then (S.1, S.2.1, S.2.2 || !f_d S.2.1) else (S.1.tail, S.2.1, S.2.2 || pl_f (S.1.headD 0) k)
def vt_px (k : Nat) (S : vt_St) : Nat := if S.1.length = f_h S.2.1 then k else S.1.headD 0
def vt_gv (k : Nat) (S : vt_St) : vt_St := if S.1.length = 20 then (S.1, S.2.1, true) else (k :: S.1, S.2.1, S.2.2)
def vt_pr (k : Nat) (S : vt_St) : vt_St := if k = 0 then S else vt_pl k S
def vt_gr (k : Nat) (S : vt_St) : vt_St := if k = 0 then S else vt_gv k S
def vt_die (S : vt_St) : vt_St := (S.1.drop (S.1.length - f_h S.2.1), (f_c S.2.1, f_g S.2.1, f_h S.2.1, true, f_o S.2.1) :: S.2.1.tail, S.2.2)
def vt_open (op x o : Nat) (S : vt_St) : vt_St := if S.2.1.length = 8 then (S.1, S.2.1, true) else (S.1, (op, x, S.1.length, false, o) :: S.2.1, S.2.2)
def vt_w (d : Nat) (S : vt_St) : Nat := if S.2.1.length ≤ d then 0 else if f_c (S.2.1.drop d) = 3 then 0 else f_g (S.2.1.drop d)
def vt_ws (d : Nat) (S : vt_St) : vt_St := vt_bad S (decide (S.2.1.length ≤ d))
def vt_cl (op : Nat) (S : vt_St) : vt_St := (vt_bad (vt_pr (f_g S.2.1) S) (decide ((vt_pr (f_g S.2.1) S).1.length ≠ f_h S.2.1 ∨ (op = 6 ∧ f_c S.2.1 = 4 ∧ f_g S.2.1 ≠ 0))))
def vt_close (op : Nat) (S : vt_St) : vt_St :=
  if op = 5 then ((vt_cl op S).1, (5, f_g S.2.1, f_h S.2.1, false, f_o S.2.1) :: S.2.1.tail, (vt_cl op S).2.2)
  else if S.2.1.tail = [] then ((vt_cl op S).1, [], (vt_cl op S).2.2)
  else vt_gr (f_g S.2.1) ((vt_cl op S).1, S.2.1.tail, (vt_cl op S).2.2)
/-- the labels of a table, from place p on: all must want w -/
def vt_tb (c : Nat → Nat) (w : Nat) : Nat → Nat → vt_St → vt_St
  | 0, _, S => S
  | r + 1, p, S => vt_tb c w r (p + 1) (vt_bad (vt_ws (c p) S) (decide (vt_w (c p) S ≠ w)))
/-- a branch table at p: its count stands at p + 1 -/
def vt_table (c : Nat → Nat) (p : Nat) (S : vt_St) : vt_St :=
  vt_die (vt_pr (vt_w (c (p + 1 + c (p + 1) + 1)) (vt_pl 1 S)) (vt_tb c (vt_w (c (p + 1 + c (p + 1) + 1)) (vt_pl 1 S)) (c (p + 1)) (p + 2) (vt_ws (c (p + 1 + c (p + 1) + 1)) (vt_pl 1 S))))
/-- the result of the type that lies at p; 0 for none -/
def ty_r (c : Nat → Nat) (p : Nat) : Nat := if c (p + 1 + c p) = 0 then 0 else c (p + 1 + c p + 1)
def vt_ps (c : Nat → Nat) (t : Nat) : Nat → vt_St → vt_St
  | 0, S => S
  | k + 1, S => vt_ps c t k (vt_pl (c (t + 1 + k)) S)
/-- where the type of a call lies -/
def cl_t (c : Nat → Nat) (n op x : Nat) : Option Nat :=
  if op = 11 then (if x < m_I c n + m_F c n ∧ c (m_fa c n x) < c 0 then some (m_ty c n (c (m_fa c n x))) else none) else if x < c 0 then some (m_ty c n x) else none
def vt_call (c : Nat → Nat) (n op x : Nat) (S : vt_St) : vt_St :=
  match cl_t c n op x with
  | none => vt_bad S true
  | some t => vt_gr (ty_r c t) (vt_ps c t (c t) (if op = 12 then vt_pl 1 S else S))
/-- the kind of variable v of function f; 0 for none -/
def vk (c : Nat → Nat) (n f v : Nat) : Nat :=
  if v < c (m_ty c n (c (m_fa c n f))) then c (m_ty c n (c (m_fa c n f)) + 1 + v)
  else if v - c (m_ty c n (c (m_fa c n f))) < c (m_fa c n f + 1) then c (m_fa c n f + 2 + (v - c (m_ty c n (c (m_fa c n f))))) else 0
def m_ga (c : Nat → Nat) (n g : Nat) : Nat := (rd_it (rd_g c n) g (true, m_pG c n + 1)).2
def vt_var (c : Nat → Nat) (n f op x : Nat) (S : vt_St) : vt_St :=
  if op = 15 then vt_gv (vk c n f x) (vt_bad S (decide (vk c n f x = 0)))
  else if op = 16 then vt_pl (vk c n f x) (vt_bad S (decide (vk c n f x = 0)))
  else if op = 17 then vt_gv (vk c n f x) (vt_pl (vk c n f x) (vt_bad S (decide (vk c n f x = 0))))
  else if x < c (m_pG c n) then
    (if op = 18 then vt_gv (c (m_ga c n x)) S else vt_pl (c (m_ga c n x)) (vt_bad S (decide (c (m_ga c n x + 1) = 0))))
  else (if op = 18 then vt_gv 0 (vt_bad S true) else vt_pl 0 (vt_bad S true))
def vt_mem (c : Nat → Nat) (n op : Nat) (S : vt_St) : vt_St :=
  if op < 22 then vt_gv (op - 19) S
  else if op < 25 then vt_gv (if op = 24 then 2 else 1) (vt_pl 1 (vt_bad S (decide (c (tl_m c n (m_pG c n)) = 0))))
  else vt_pl 1 (vt_pl (if op = 27 then 2 else 1) (vt_bad S (decide (c (tl_m c n (m_pG c n)) = 0))))
def vt_num (op : Nat) (S : vt_St) : vt_St :=
  vt_gv (if op < 52 then 1 else if op < 64 then 2 else if op = 64 then 1 else 2) (if op = 28 ∨ op = 46 ∨ 64 ≤ op then vt_pl (if 46 ≤ op ∧ op ≤ 64 then 2 else 1) S else vt_pl (if 46 ≤ op ∧ op ≤ 64 then 2 else 1) (vt_pl (if 46 ≤ op ∧ op ≤ 64 then 2 else 1) S))
def vt_sel (S : vt_St) : vt_St := vt_gv (if vt_px 0 (vt_pl 1 S) = 0 then vt_px (vt_px 0 (vt_pl 1 S)) (vt_pl 0 (vt_pl 1 S)) else vt_px 0 (vt_pl 1 S)) (vt_pl (vt_px 0 (vt_pl 1 S)) (vt_pl 0 (vt_pl 1 S)))
/-- one instruction of function f, at p -/
def v_st (c : Nat → Nat) (n f p : Nat) (S : vt_St) : vt_St :=
  if c p = 0 then vt_die S
  else if c p = 1 then S
  else if c p = 2 ∨ c p = 3 then vt_open (c p) (c (p + 1)) p S
  else if c p = 4 then vt_open 4 (c (p + 1)) p (vt_pl 1 S)
  else if c p = 5 ∨ c p = 6 then vt_close (c p) S
  else if c p = 7 then vt_die (vt_pr (vt_w (c (p + 1)) S) (vt_ws (c (p + 1)) S))
  else if c p = 8 then vt_gr (vt_w (c (p + 1)) (vt_pl 1 S)) (vt_pr (vt_w (c (p + 1)) (vt_pl 1 S)) (vt_ws (c (p + 1)) (vt_pl 1 S)))
  else if c p = 9 then vt_table c p S
  else if c p = 10 then vt_die (vt_pr (f_b S.2.1) S)
  else if c p = 11 ∨ c p = 12 then vt_call c n (c p) (c (p + 1)) S
  else if c p = 13 then vt_pl 0 S
  else if c p = 14 then vt_sel S
  else if c p < 20 then vt_var c n f (c p) (c (p + 1)) S
  else if c p < 28 then vt_mem c n (c p) S
  else vt_num (c p) S
/-- the first fault's place -/
def v_go (c : Nat → Nat) (n f : Nat) : Nat → Nat → vt_St → Option Nat
  | 0, _, _ => none
  | k + 1, p, S => if S.2.1 = [] then none else if (v_st c n f p S).2.2 = true then some p else v_go c n f k (nx c p) (v_st c n f p S)
/-- where a body begins, and the state there -/
def m_bo (c : Nat → Nat) (n f : Nat) : Nat := m_fa c n f + 2 + c (m_fa c n f + 1)
def v_0 (c : Nat → Nat) (n f : Nat) : vt_St := ([], [(0, ty_r c (m_ty c n (c (m_fa c n f))), 0, false, m_bo c n f)], false)
/-- heights and sizes as they must be -/
def sn_F : Nat → List vt_Fr → Prop
  | _, [] => True
  | t, (cd, g, h, _, _) :: F => h ≤ t ∧ g ≤ 2 ∧ cd ≤ 5 ∧ sn_F h F
def sn_K (K : List Nat) : Prop := ∀ k, k ∈ K → k ≤ 2
def sn (S : vt_St) : Prop := S.1.length ≤ 20 ∧ S.2.1.length ≤ 8 ∧ sn_K S.1 ∧ sn_F S.1.length S.2.1
/-- the reference's arrays while it validates -/
def y_sh (cd : Nat) : Nat := if cd = 0 ∨ cd = 5 then 2 else cd
def yv_K (KI : Nat → Int32) : List Nat → Prop
  | [] => True
  | k :: K => KI K.length = nI k ∧ yv_K KI K
def yv_F (SH GI HE DE : Nat → Int32) : List vt_Fr → Prop
  | [] => True
  | (cd, g, h, d, _) :: F => SH F.length = nI (y_sh cd) ∧ GI F.length = nI g ∧ HE F.length = nI h ∧ DE F.length = bb_i d ∧ yv_F SH GI HE DE F
def YV (S : vt_St) (KI SH GI HE DE : Nat → Int32) : Prop := yv_K KI S.1 ∧ yv_F SH GI HE DE S.2.1 ∧ sn S
theorem yv_K_ext {A A' : Nat → Int32} : ∀ K : List Nat, yv_K A K → (∀ j, j < K.length → A' j = A j) → yv_K A' K := by
  intro K
  induction K with
  | nil => intro _ _; trivial
  | cons x K ih =>
    intro h e
    obtain ⟨h1, h2⟩ := h
    refine ⟨?_, ih h2 (fun j hj => e j (by simp only [List.length_cons]; omega))⟩
    rw [e _ (by simp only [List.length_cons]; omega)]
    exact h1
theorem yv_F_ext {SH GI HE DE SH' GI' HE' DE' : Nat → Int32} : ∀ F : List vt_Fr, yv_F SH GI HE DE F → (∀ j, j < F.length → SH' j = SH j) → (∀ j, j < F.length → GI' j = GI j) → (∀ j, j < F.length → HE' j = HE j) → (∀ j, j < F.length → DE' j = DE j) → yv_F SH' GI' HE' DE' F := by
  intro F
  induction F with
  | nil => intro _ _ _ _ _; trivial
  | cons x F ih =>
    intro h e1 e2 e3 e4
    obtain ⟨cd, g, hh, d, o⟩ := x
    obtain ⟨h1, h2, h3, h4, h5⟩ := h
    have hl : F.length < (List.length ((cd, g, hh, d, o) :: F)) := by simp only [List.length_cons]; omega
    exact ⟨by rw [e1 _ hl]; exact h1, by rw [e2 _ hl]; exact h2, by rw [e3 _ hl]; exact h3, by rw [e4 _ hl]; exact h4, ih h5 (fun j hj => e1 j (by omega)) (fun j hj => e2 j (by omega)) (fun j hj => e3 j (by omega)) (fun j hj => e4 j (by omega))⟩
theorem sn_F_mono {F : List vt_Fr} {t t' : Nat} (h : sn_F t F) (ht : t ≤ t') : sn_F t' F := by
  cases F with
  | nil => trivial
  | cons x F =>
    obtain ⟨cd, g, hh, d, o⟩ := x
    obtain ⟨h1, h2, h3, h4⟩ := h
    exact ⟨by omega, h2, h3, h4⟩
theorem sn_K_t {K : List Nat} (h : sn_K K) : sn_K K.tail := fun k hk => h k (List.mem_of_mem_tail hk)
theorem sn_hd {K : List Nat} (h : sn_K K) : K.headD 0 ≤ 2 := by
  cases K with
  | nil => exact Nat.zero_le 2
  | cons k K => exact h k (by simp)
theorem yv_bot {SH GI HE DE : Nat → Int32} : ∀ F : List vt_Fr, F ≠ [] → yv_F SH GI HE DE F → GI 0 = nI (f_b F) := by
  intro F
  induction F with
  | nil => intro h; exact absurd rfl h
  | cons x F ih =>
    intro _ h
    obtain ⟨cd, g, hh, d, o⟩ := x
    obtain ⟨h1, h2, h3, h4, h5⟩ := h
    rw [f_b]
    by_cases e : F = []
    · rw [if_pos e]; subst e; exact h2
    · rw [if_neg e]; exact ih e h5
theorem sn_bot : ∀ (F : List vt_Fr) t, sn_F t F → f_b F ≤ 2 := by
  intro F
  induction F with
  | nil => intro t _; exact Nat.zero_le 2
  | cons x F ih =>
    intro t h
    obtain ⟨cd, g, hh, d, o⟩ := x
    obtain ⟨h1, h2, h3, h4⟩ := h
    rw [f_b]
    split
    · exact h2
    · exact ih hh h4
/-- frame d from the top -/
theorem yv_drop {SH GI HE DE : Nat → Int32} : ∀ (F : List vt_Fr) d, d < F.length → yv_F SH GI HE DE F → SH (F.length - 1 - d) = nI (y_sh (f_c (F.drop d))) ∧ GI (F.length - 1 - d) = nI (f_g (F.drop d)) := by
  intro F
  induction F with
  | nil => intro d hd; simp at hd
  | cons x F ih =>
    intro d hd h
    obtain ⟨cd, g, hh, dd, o⟩ := x
    obtain ⟨h1, h2, h3, h4, h5⟩ := h
    cases d with
    | zero => simp only [List.length_cons, Nat.add_sub_cancel, Nat.sub_zero]; exact ⟨h1, h2⟩
    | succ d =>
      simp only [List.length_cons] at hd ⊢
      have := ih d (by omega) h5
      rw [show F.length + 1 - 1 - (d + 1) = F.length - 1 - d by omega]
      exact this
theorem sn_drop : ∀ (F : List vt_Fr) d t, sn_F t F → f_c (F.drop d) ≤ 5 ∧ f_g (F.drop d) ≤ 2 := by
  intro F
  induction F with
  | nil => intro d t _; simp [f_c, f_g]
  | cons x F ih =>
    intro d t h
    obtain ⟨cd, g, hh, dd, o⟩ := x
    obtain ⟨h1, h2, h3, h4⟩ := h
    cases d with
    | zero => exact ⟨h3, h2⟩
    | succ d => exact ih d hh h4
end
section
/-! 18: the reference's validation against the pure one: the small methods -/
theorem yv_K_drop {KI : Nat → Int32} : ∀ (K : List Nat) j, yv_K KI K → yv_K KI (K.drop j) := by
  intro K
  induction K with
  | nil => intro j _; simp [yv_K]
  | cons x K ih =>
    intro j h
    cases j with
    | zero => exact h
    | succ j => exact ih j h.2
theorem sn_K_drop {K : List Nat} (h : sn_K K) (j : Nat) : sn_K (K.drop j) := fun k hk => h k (List.mem_of_mem_drop hk)
theorem bb_or1 (b : Bool) : bb_i (b || true) = 1 := by cases b <;> rfl
theorem bb_or0 (b : Bool) : bb_i (b || false) = bb_i b := by cases b <;> rfl
section
variable {y_count y_place y_m y_pos y_wrong y_least y_top y_frames y_invalid y_sp y_labels y_active y_fuel y_outcome y_trappedAt y_used y_waits y_printed : Int32} {y_constant y_result : Int64} {y_bytes y_there y_types y_typeSig y_imports y_functions y_sig y_what y_typeAt y_localsAt y_globals y_globalKind y_globalFree y_entries y_entriesAt y_hasMemory y_memory y_nest y_kinds y_shape y_gives y_height y_dead y_labelAt y_labelHeight y_labelGives y_callModule y_callFunction y_callBack y_callBase y_callLabels y_waiting y_prints : Nat → Int32} {y_globalValue y_stack : Nat → Int64}
variable {KI SH GI HE DE : Nat → Int32} {S : vt_St}
theorem y_pull {post : Int32 → SY → Prop} (k : Nat) (hk : k ≤ 2) (hF : S.2.1 ≠ []) (R : YV S KI SH GI HE DE)
    (h : YV (vt_pl k S) KI SH GI HE DE → vt_px k S ≤ 2 → (vt_pl k S).2.1 = S.2.1 → post (nI (vt_px k S)) (y_count, y_place, y_m, y_pos, y_wrong, y_constant, y_least, nI (vt_pl k S).1.length, nI (vt_pl k S).2.1.length, bb_i (vt_pl k S).2.2, y_sp, y_labels, y_active, y_fuel, y_outcome, y_trappedAt, y_result, y_used, y_waits, y_printed, y_bytes, y_there, y_types, y_typeSig, y_imports, y_functions, y_sig, y_what, y_typeAt, y_localsAt, y_globals, y_globalKind, y_globalFree, y_globalValue, y_entries, y_entriesAt, y_hasMemory, y_memory, y_nest, KI, SH, GI, HE, DE, y_stack, y_labelAt, y_labelHeight, y_labelGives, y_callModule, y_callFunction, y_callBack, y_callBase, y_callLabels, y_waiting, y_prints)) : wpY_pull post (y_count, y_place, y_m, y_pos, y_wrong, y_constant, y_least, nI S.1.length, nI S.2.1.length, bb_i S.2.2, y_sp, y_labels, y_active, y_fuel, y_outcome, y_trappedAt, y_result, y_used, y_waits, y_printed, y_bytes, y_there, y_types, y_typeSig, y_imports, y_functions, y_sig, y_what, y_typeAt, y_localsAt, y_globals, y_globalKind, y_globalFree, y_globalValue, y_entries, y_entriesAt, y_hasMemory, y_memory, y_nest, KI, SH, GI, HE, DE, y_stack, y_labelAt, y_labelHeight, y_labelGives, y_callModule, y_callFunction, y_callBack, y_callBase, y_callLabels, y_waiting, y_prints) (nI k) := by
  obtain ⟨K, F, b⟩ := S
  dsimp only at hF
  cases F with
  | nil => exact absurd rfl hF
  | cons x F =>
    obtain ⟨cd, g, hh, d, o⟩ := x
    obtain ⟨rk, ⟨r1, r2, r3, r4, r5⟩, s1, s2, s3, s4, s5, s6, s7⟩ := R
    dsimp only at rk s1 s2 s3 s4
    simp only [List.length_cons] at s2
    have e1 : nI (F.length + 1) - 1 = nI F.length := nI_pred F.length
    refine nm_r e1 ⟨pk_in F.length 9 (by omega), ?_⟩
    have eH : HE (nI F.length).toNatClampNeg = nI hh := by rw [pk_cl F.length]; exact r3
    have eD : DE (nI F.length).toNatClampNeg = bb_i d := by rw [pk_cl F.length]; exact r4
    by_cases hc : K.length = hh
    · have hS : vt_pl k (K, (cd, g, hh, d, o) :: F, b) = (K, (cd, g, hh, d, o) :: F, b || !d) := if_pos hc
      have hx : vt_px k (K, (cd, g, hh, d, o) :: F, b) = k := if_pos hc
      rw [hS, hx] at h
      have h' := h ⟨rk, ⟨r1, r2, r3, r4, r5⟩, s1, by simp only [List.length_cons]; omega, s3, s4, s5, s6, s7⟩ hk rfl
      refine pk_eq K.length hh (fun _ => ⟨pk_in F.length 9 (by omega), ?_⟩) (fun z => absurd hc z) rfl eH
      cases d with
      | false =>
        refine br_t eD ?_
        rw [show bb_i (b || !false) = 1 from bb_or1 b] at h'
        exact h'
      | true =>
        refine br_f (by rw [eD]; decide) ?_
        rw [show bb_i (b || !true) = bb_i b from bb_or0 b] at h'
        exact h'
    · have hS : vt_pl k (K, (cd, g, hh, d, o) :: F, b) = (K.tail, (cd, g, hh, d, o) :: F, b || pl_f (K.headD 0) k) := if_neg hc
      have hx : vt_px k (K, (cd, g, hh, d, o) :: F, b) = K.headD 0 := if_neg hc
      rw [hS, hx] at h
      cases K with
      | nil => exact absurd (show (0 : Nat) = hh from by simp only [List.length_nil] at s4; omega) hc
      | cons x K =>
        simp only [List.length_cons] at s1 s4 hc
        have hx2 : x ≤ 2 := s3 x (by simp)
        have h' := h ⟨rk.2, ⟨r1, r2, r3, r4, r5⟩, by simp only [List.tail_cons]; omega, by simp only [List.length_cons]; omega, sn_K_t s3, by simp only [List.tail_cons]; omega, s5, s6, s7⟩ hx2 rfl
        simp only [List.headD_cons, List.tail_cons] at h'
        have e2 : nI (K.length + 1) - 1 = nI K.length := nI_pred K.length
        refine pk_eq (K.length + 1) hh (fun z => absurd z hc) (fun _ => nm_r e2 ⟨pk_in K.length 24 (by omega) e2, nm_r (show KI (nI (K.length + 1) - 1).toNatClampNeg = nI x from by rw [pk_cl K.length e2]; exact rk.1) ?_⟩) rfl eH
        refine pk_eq x 0 (fun z => ?_) (fun z => pk_eq k 0 (fun z2 => ?_) (fun z2 => pk_eq x k (fun z3 => ?_) (fun z3 => ?_)))
        · rw [show pl_f x k = false from if_neg (by omega), bb_or0] at h'; exact h'
        · rw [show pl_f x k = false from if_neg (by omega), bb_or0] at h'; exact h'
        · rw [show pl_f x k = false from if_neg (by omega), bb_or0] at h'; exact h'
        · rw [show pl_f x k = true from if_pos ⟨z, z2, z3⟩, bb_or1] at h'; exact h'
theorem y_give {post : SY → Prop} (k : Nat) (hk : k ≤ 2) (R : YV S KI SH GI HE DE)
    (h : ∀ KI SH GI HE DE, YV (vt_gv k S) KI SH GI HE DE → (vt_gv k S).2.1 = S.2.1 → post (y_count, y_place, y_m, y_pos, y_wrong, y_constant, y_least, nI (vt_gv k S).1.length, nI (vt_gv k S).2.1.length, bb_i (vt_gv k S).2.2, y_sp, y_labels, y_active, y_fuel, y_outcome, y_trappedAt, y_result, y_used, y_waits, y_printed, y_bytes, y_there, y_types, y_typeSig, y_imports, y_functions, y_sig, y_what, y_typeAt, y_localsAt, y_globals, y_globalKind, y_globalFree, y_globalValue, y_entries, y_entriesAt, y_hasMemory, y_memory, y_nest, KI, SH, GI, HE, DE, y_stack, y_labelAt, y_labelHeight, y_labelGives, y_callModule, y_callFunction, y_callBack, y_callBase, y_callLabels, y_waiting, y_prints)) : wpY_give post (y_count, y_place, y_m, y_pos, y_wrong, y_constant, y_least, nI S.1.length, nI S.2.1.length, bb_i S.2.2, y_sp, y_labels, y_active, y_fuel, y_outcome, y_trappedAt, y_result, y_used, y_waits, y_printed, y_bytes, y_there, y_types, y_typeSig, y_imports, y_functions, y_sig, y_what, y_typeAt, y_localsAt, y_globals, y_globalKind, y_globalFree, y_globalValue, y_entries, y_entriesAt, y_hasMemory, y_memory, y_nest, KI, SH, GI, HE, DE, y_stack, y_labelAt, y_labelHeight, y_labelGives, y_callModule, y_callFunction, y_callBack, y_callBase, y_callLabels, y_waiting, y_prints) (nI k) := by
  obtain ⟨K, F, b⟩ := S
  obtain ⟨rk, rf, s1, s2, s3, s4⟩ := R
  dsimp only at rk rf s1 s2 s3 s4
  by_cases hc : K.length = 20
  · have hS : vt_gv k (K, F, b) = (K, F, true) := if_pos hc
    rw [hS] at h
    exact pk_eq K.length 20 (fun _ => h KI SH GI HE DE ⟨rk, rf, s1, s2, s3, s4⟩ rfl) (fun z => absurd hc z)
  · have hS : vt_gv k (K, F, b) = (k :: K, F, b) := if_neg hc
    rw [hS] at h
    refine pk_eq K.length 20 (fun z => absurd z hc) (fun _ => nm_r (nI_1 K.length) ⟨pk_in K.length 24 (by omega), nm_r (show _ = upd KI K.length (nI k) from by rw [pk_cl K.length, nr_b (by omega)]) ?_⟩)
    refine h (upd KI K.length (nI k)) SH GI HE DE ⟨⟨pk_us, yv_K_ext K rk (fun j hj => pk_un (by omega))⟩, rf, ?_, s2, ?_, ?_⟩ rfl
    · simp only [List.length_cons]; omega
    · intro j hj
      rcases List.mem_cons.mp hj with e | e
      · omega
      · exact s3 j e
    · exact sn_F_mono s4 (by simp only [List.length_cons]; omega)
theorem y_pullResult {post : SY → Prop} (k : Nat) (hk : k ≤ 2) (hF : S.2.1 ≠ []) (R : YV S KI SH GI HE DE)
    (h : YV (vt_pr k S) KI SH GI HE DE → (vt_pr k S).2.1 = S.2.1 → post (y_count, y_place, y_m, y_pos, y_wrong, y_constant, y_least, nI (vt_pr k S).1.length, nI (vt_pr k S).2.1.length, bb_i (vt_pr k S).2.2, y_sp, y_labels, y_active, y_fuel, y_outcome, y_trappedAt, y_result, y_used, y_waits, y_printed, y_bytes, y_there, y_types, y_typeSig, y_imports, y_functions, y_sig, y_what, y_typeAt, y_localsAt, y_globals, y_globalKind, y_globalFree, y_globalValue, y_entries, y_entriesAt, y_hasMemory, y_memory, y_nest, KI, SH, GI, HE, DE, y_stack, y_labelAt, y_labelHeight, y_labelGives, y_callModule, y_callFunction, y_callBack, y_callBase, y_callLabels, y_waiting, y_prints)) : wpY_pullResult post (y_count, y_place, y_m, y_pos, y_wrong, y_constant, y_least, nI S.1.length, nI S.2.1.length, bb_i S.2.2, y_sp, y_labels, y_active, y_fuel, y_outcome, y_trappedAt, y_result, y_used, y_waits, y_printed, y_bytes, y_there, y_types, y_typeSig, y_imports, y_functions, y_sig, y_what, y_typeAt, y_localsAt, y_globals, y_globalKind, y_globalFree, y_globalValue, y_entries, y_entriesAt, y_hasMemory, y_memory, y_nest, KI, SH, GI, HE, DE, y_stack, y_labelAt, y_labelHeight, y_labelGives, y_callModule, y_callFunction, y_callBack, y_callBase, y_callLabels, y_waiting, y_prints) (nI k) := by
  refine pk_eq k 0 (fun z => ?_) (fun z => ?_)
  · have e : vt_pr k S = S := if_pos z
    rw [e] at h; exact h R rfl
  · have e : vt_pr k S = vt_pl k S := if_neg z
    rw [e] at h
    exact y_pull k hk hF R (fun a _ b => h a b)
theorem y_giveResult {post : SY → Prop} (k : Nat) (hk : k ≤ 2) (R : YV S KI SH GI HE DE)
    (h : ∀ KI SH GI HE DE, YV (vt_gr k S) KI SH GI HE DE → (vt_gr k S).2.1 = S.2.1 → post (y_count, y_place, y_m, y_pos, y_wrong, y_constant, y_least, nI (vt_gr k S).1.length, nI (vt_gr k S).2.1.length, bb_i (vt_gr k S).2.2, y_sp, y_labels, y_active, y_fuel, y_outcome, y_trappedAt, y_result, y_used, y_waits, y_printed, y_bytes, y_there, y_types, y_typeSig, y_imports, y_functions, y_sig, y_what, y_typeAt, y_localsAt, y_globals, y_globalKind, y_globalFree, y_globalValue, y_entries, y_entriesAt, y_hasMemory, y_memory, y_nest, KI, SH, GI, HE, DE, y_stack, y_labelAt, y_labelHeight, y_labelGives, y_callModule, y_callFunction, y_callBack, y_callBase, y_callLabels, y_waiting, y_prints)) : wpY_giveResult post (y_count, y_place, y_m, y_pos, y_wrong, y_constant, y_least, nI S.1.length, nI S.2.1.length, bb_i S.2.2, y_sp, y_labels, y_active, y_fuel, y_outcome, y_trappedAt, y_result, y_used, y_waits, y_printed, y_bytes, y_there, y_types, y_typeSig, y_imports, y_functions, y_sig, y_what, y_typeAt, y_localsAt, y_globals, y_globalKind, y_globalFree, y_globalValue, y_entries, y_entriesAt, y_hasMemory, y_memory, y_nest, KI, SH, GI, HE, DE, y_stack, y_labelAt, y_labelHeight, y_labelGives, y_callModule, y_callFunction, y_callBack, y_callBase, y_callLabels, y_waiting, y_prints) (nI k) := by
  refine pk_eq k 0 (fun z => ?_) (fun z => ?_)
  · have e : vt_gr k S = S := if_pos z
    rw [e] at h; exact h _ _ _ _ _ R rfl
  · have e : vt_gr k S = vt_gv k S := if_neg z
    rw [e] at h
    exact y_give k hk R h
theorem y_die {post : SY → Prop} (hF : S.2.1 ≠ []) (R : YV S KI SH GI HE DE)
    (h : ∀ KI SH GI HE DE, YV (vt_die S) KI SH GI HE DE → post (y_count, y_place, y_m, y_pos, y_wrong, y_constant, y_least, nI (vt_die S).1.length, nI (vt_die S).2.1.length, bb_i (vt_die S).2.2, y_sp, y_labels, y_active, y_fuel, y_outcome, y_trappedAt, y_result, y_used, y_waits, y_printed, y_bytes, y_there, y_types, y_typeSig, y_imports, y_functions, y_sig, y_what, y_typeAt, y_localsAt, y_globals, y_globalKind, y_globalFree, y_globalValue, y_entries, y_entriesAt, y_hasMemory, y_memory, y_nest, KI, SH, GI, HE, DE, y_stack, y_labelAt, y_labelHeight, y_labelGives, y_callModule, y_callFunction, y_callBack, y_callBase, y_callLabels, y_waiting, y_prints)) : wpY_die post (y_count, y_place, y_m, y_pos, y_wrong, y_constant, y_least, nI S.1.length, nI S.2.1.length, bb_i S.2.2, y_sp, y_labels, y_active, y_fuel, y_outcome, y_trappedAt, y_result, y_used, y_waits, y_printed, y_bytes, y_there, y_types, y_typeSig, y_imports, y_functions, y_sig, y_what, y_typeAt, y_localsAt, y_globals, y_globalKind, y_globalFree, y_globalValue, y_entries, y_entriesAt, y_hasMemory, y_memory, y_nest, KI, SH, GI, HE, DE, y_stack, y_labelAt, y_labelHeight, y_labelGives, y_callModule, y_callFunction, y_callBack, y_callBase, y_callLabels, y_waiting, y_prints) := by
  obtain ⟨K, F, b⟩ := S
  dsimp only at hF
  cases F with
  | nil => exact absurd rfl hF
  | cons x F =>
    obtain ⟨cd, g, hh, d, o⟩ := x
    obtain ⟨rk, ⟨r1, r2, r3, r4, r5⟩, s1, s2, s3, s4, s5, s6, s7⟩ := R
    dsimp only at rk s1 s2 s3 s4
    simp only [List.length_cons] at s2
    have e1 : nI (F.length + 1) - 1 = nI F.length := nI_pred F.length
    have hl : (K.drop (K.length - hh)).length = hh := by rw [List.length_drop]; omega
    refine ⟨pk_in F.length 9 (by omega) e1, nm_r (show HE (nI (F.length + 1) - 1).toNatClampNeg = nI (K.drop (K.length - hh)).length from by rw [pk_cl F.length e1, hl]; exact r3) ⟨pk_in F.length 9 (by omega) e1, nm_r (show upd DE (nI (F.length + 1) - 1).toNatClampNeg (vp_nar .boolean 1) = upd DE F.length (bb_i true) from by rw [pk_cl F.length e1]; rfl) ?_⟩⟩
    refine h KI SH GI HE _ ⟨yv_K_drop K _ rk, ⟨r1, r2, r3, pk_us, yv_F_ext F r5 (fun _ _ => rfl) (fun _ _ => rfl) (fun _ _ => rfl) (fun j hj => pk_un (by omega))⟩, ?_, ?_, sn_K_drop s3 _, ?_⟩
    · show (K.drop (K.length - hh)).length ≤ 20; omega
    · show (List.length ((cd, g, hh, true, o) :: F)) ≤ 8; simp only [List.length_cons]; omega
    · show sn_F (K.drop (K.length - hh)).length ((cd, g, hh, true, o) :: F); rw [hl]; exact ⟨by omega, s5, s6, s7⟩
theorem y_open {post : SY → Prop} (cd op x o : Nat) (hop : y_sh cd = op) (hcd : cd ≤ 5) (hx : x ≤ 2) (R : YV S KI SH GI HE DE)
    (h : ∀ KI SH GI HE DE, YV (vt_open cd x o S) KI SH GI HE DE → post (y_count, y_place, y_m, y_pos, y_wrong, y_constant, y_least, nI (vt_open cd x o S).1.length, nI (vt_open cd x o S).2.1.length, bb_i (vt_open cd x o S).2.2, y_sp, y_labels, y_active, y_fuel, y_outcome, y_trappedAt, y_result, y_used, y_waits, y_printed, y_bytes, y_there, y_types, y_typeSig, y_imports, y_functions, y_sig, y_what, y_typeAt, y_localsAt, y_globals, y_globalKind, y_globalFree, y_globalValue, y_entries, y_entriesAt, y_hasMemory, y_memory, y_nest, KI, SH, GI, HE, DE, y_stack, y_labelAt, y_labelHeight, y_labelGives, y_callModule, y_callFunction, y_callBack, y_callBase, y_callLabels, y_waiting, y_prints)) : wpY_open post (y_count, y_place, y_m, y_pos, y_wrong, y_constant, y_least, nI S.1.length, nI S.2.1.length, bb_i S.2.2, y_sp, y_labels, y_active, y_fuel, y_outcome, y_trappedAt, y_result, y_used, y_waits, y_printed, y_bytes, y_there, y_types, y_typeSig, y_imports, y_functions, y_sig, y_what, y_typeAt, y_localsAt, y_globals, y_globalKind, y_globalFree, y_globalValue, y_entries, y_entriesAt, y_hasMemory, y_memory, y_nest, KI, SH, GI, HE, DE, y_stack, y_labelAt, y_labelHeight, y_labelGives, y_callModule, y_callFunction, y_callBack, y_callBase, y_callLabels, y_waiting, y_prints) (nI op) (nI x) := by
  obtain ⟨K, F, b⟩ := S
  obtain ⟨rk, rf, s1, s2, s3, s4⟩ := R
  dsimp only at rk rf s1 s2 s3 s4
  have hop2 : op < 6 := by rw [← hop]; unfold y_sh; split <;> omega
  by_cases hc : F.length = 8
  · have hS : vt_open cd x o (K, F, b) = (K, F, true) := if_pos hc
    rw [hS] at h
    exact pk_eq F.length 8 (fun _ => h KI SH GI HE DE ⟨rk, rf, s1, s2, s3, s4⟩) (fun z => absurd hc z)
  · have hS : vt_open cd x o (K, F, b) = (K, (cd, x, K.length, false, o) :: F, b) := if_neg hc
    rw [hS] at h
    refine pk_eq F.length 8 (fun z => absurd z hc) (fun _ => ⟨pk_in F.length 9 (by omega), nm_r (show _ = upd SH F.length (nI op) from by rw [pk_cl F.length, nr_b (by omega)]) ⟨pk_in F.length 9 (by omega), nm_r (show _ = upd GI F.length (nI x) from by rw [pk_cl F.length, nr_b (by omega)]) ⟨pk_in F.length 9 (by omega), nm_r (show upd HE (nI F.length).toNatClampNeg (vp_nar .byte (nI K.length).toInt8.toInt32) = upd HE F.length (nI K.length) from by rw [pk_cl F.length, nr_b (by omega)]) (nm_r (nI_1 F.length) ⟨pk_in F.length 9 (by omega), nm_r (show _ = upd DE F.length (bb_i false) from by rw [pk_cl F.length]; rfl) ?_⟩)⟩⟩⟩)
    refine h KI _ _ _ _ ⟨rk, ⟨by rw [pk_us, hop], pk_us, pk_us, pk_us, yv_F_ext F rf (fun j hj => pk_un (by omega)) (fun j hj => pk_un (by omega)) (fun j hj => pk_un (by omega)) (fun j hj => pk_un (by omega))⟩, s1, ?_, s3, Nat.le_refl _, hx, hcd, s4⟩
    simp only [List.length_cons]; omega
theorem y_wants {post : Int32 → SY → Prop} (d : Nat) (hd : d < 256) (hF : S.2.1 ≠ []) (R : YV S KI SH GI HE DE)
    (h : YV (vt_ws d S) KI SH GI HE DE → vt_w d S ≤ 2 → post (nI (vt_w d S)) (y_count, y_place, y_m, y_pos, y_wrong, y_constant, y_least, nI (vt_ws d S).1.length, nI (vt_ws d S).2.1.length, bb_i (vt_ws d S).2.2, y_sp, y_labels, y_active, y_fuel, y_outcome, y_trappedAt, y_result, y_used, y_waits, y_printed, y_bytes, y_there, y_types, y_typeSig, y_imports, y_functions, y_sig, y_what, y_typeAt, y_localsAt, y_globals, y_globalKind, y_globalFree, y_globalValue, y_entries, y_entriesAt, y_hasMemory, y_memory, y_nest, KI, SH, GI, HE, DE, y_stack, y_labelAt, y_labelHeight, y_labelGives, y_callModule, y_callFunction, y_callBack, y_callBase, y_callLabels, y_waiting, y_prints)) : wpY_wants post (y_count, y_place, y_m, y_pos, y_wrong, y_constant, y_least, nI S.1.length, nI S.2.1.length, bb_i S.2.2, y_sp, y_labels, y_active, y_fuel, y_outcome, y_trappedAt, y_result, y_used, y_waits, y_printed, y_bytes, y_there, y_types, y_typeSig, y_imports, y_functions, y_sig, y_what, y_typeAt, y_localsAt, y_globals, y_globalKind, y_globalFree, y_globalValue, y_entries, y_entriesAt, y_hasMemory, y_memory, y_nest, KI, SH, GI, HE, DE, y_stack, y_labelAt, y_labelHeight, y_labelGives, y_callModule, y_callFunction, y_callBack, y_callBase, y_callLabels, y_waiting, y_prints) (nI d) := by
  obtain ⟨K, F, b⟩ := S
  obtain ⟨rk, rf, s1, s2, s3, s4⟩ := R
  dsimp only at rk rf s1 s2 s3 s4 hF
  have hl : 0 < F.length := List.length_pos_iff.mpr hF
  have hw : vt_ws d (K, F, b) = (K, F, b || decide (F.length ≤ d)) := rfl
  rw [hw] at h
  by_cases hc : F.length ≤ d
  · have e : vt_w d (K, F, b) = 0 := if_pos hc
    rw [e, decide_eq_true hc] at h
    have h' := h ⟨rk, rf, s1, s2, s3, s4⟩ (by omega)
    dsimp only at h'
    rw [bb_or1] at h'
    exact pk_lt d F.length (fun z => absurd hc (by omega)) (fun _ => h')
  · have e : vt_w d (K, F, b) = if f_c (F.drop d) = 3 then 0 else f_g (F.drop d) := if_neg hc
    obtain ⟨a1, a2⟩ := yv_drop F d (by omega) rf
    obtain ⟨b1, b2⟩ := sn_drop F d _ s4
    rw [e, decide_eq_false hc] at h
    have h' := h ⟨rk, rf, s1, s2, s3, s4⟩ (by split <;> omega)
    dsimp only at h'
    rw [bb_or0] at h'
    have e2 : (nI F.length - 1) - nI d = nI (F.length - 1 - d) := by rw [show (1 : Int32) = nI 1 from rfl, pk_sub (by omega), pk_sub (by omega)]
    have hs : y_sh (f_c (F.drop d)) < 10 := by unfold y_sh; split <;> omega
    refine pk_lt d F.length (fun _ => nm_r e2 ⟨pk_in (F.length - 1 - d) 9 (by omega), ?_⟩) (fun z => absurd z hc)
    refine pk_eq (y_sh (f_c (F.drop d))) 3 (fun z => ?_) (fun z => ⟨pk_in (F.length - 1 - d) 9 (by omega), ?_⟩) (by rw [pk_cl (F.length - 1 - d)]; exact a1) rfl
    · rw [if_pos (by unfold y_sh at z; split at z <;> omega)] at h'; exact h'
    · have e3 : GI (nI (F.length - 1 - d)).toNatClampNeg = nI (f_g (F.drop d)) := by rw [pk_cl (F.length - 1 - d)]; exact a2
      rw [if_neg (fun y => z (by unfold y_sh; rw [if_neg (by omega)]; exact y))] at h'
      exact eq_p (P := fun w => post w _) e3 h'
theorem y_close {post : SY → Prop} (op : Nat) (hop : op = 5 ∨ op = 6) (hF : S.2.1 ≠ []) (R : YV S KI SH GI HE DE)
    (h : ∀ KI SH GI HE DE, YV (vt_close op S) KI SH GI HE DE → post (y_count, y_place, y_m, y_pos, y_wrong, y_constant, y_least, nI (vt_close op S).1.length, nI (vt_close op S).2.1.length, bb_i (vt_close op S).2.2, y_sp, y_labels, y_active, y_fuel, y_outcome, y_trappedAt, y_result, y_used, y_waits, y_printed, y_bytes, y_there, y_types, y_typeSig, y_imports, y_functions, y_sig, y_what, y_typeAt, y_localsAt, y_globals, y_globalKind, y_globalFree, y_globalValue, y_entries, y_entriesAt, y_hasMemory, y_memory, y_nest, KI, SH, GI, HE, DE, y_stack, y_labelAt, y_labelHeight, y_labelGives, y_callModule, y_callFunction, y_callBack, y_callBase, y_callLabels, y_waiting, y_prints)) : wpY_close post (y_count, y_place, y_m, y_pos, y_wrong, y_constant, y_least, nI S.1.length, nI S.2.1.length, bb_i S.2.2, y_sp, y_labels, y_active, y_fuel, y_outcome, y_trappedAt, y_result, y_used, y_waits, y_printed, y_bytes, y_there, y_types, y_typeSig, y_imports, y_functions, y_sig, y_what, y_typeAt, y_localsAt, y_globals, y_globalKind, y_globalFree, y_globalValue, y_entries, y_entriesAt, y_hasMemory, y_memory, y_nest, KI, SH, GI, HE, DE, y_stack, y_labelAt, y_labelHeight, y_labelGives, y_callModule, y_callFunction, y_callBack, y_callBase, y_callLabels, y_waiting, y_prints) (nI op) := by
  obtain ⟨K, F, b⟩ := S
  dsimp only at hF
  cases F with
  | nil => exact absurd rfl hF
  | cons x F =>
    obtain ⟨cd, g, hh, d, o⟩ := x
    obtain ⟨rk, ⟨r1, r2, r3, r4, r5⟩, s1, s2, s3, s4, s5, s6, s7⟩ := id R
    dsimp only at rk s1 s2 s3 s4
    simp only [List.length_cons] at s2
    have e1 : nI (F.length + 1) - 1 = nI F.length := nI_pred F.length
    have eG : GI (nI F.length).toNatClampNeg = nI g := by rw [pk_cl F.length]; exact r2
    have eH : HE (nI F.length).toNatClampNeg = nI hh := by rw [pk_cl F.length]; exact r3
    have eS : SH (nI F.length).toNatClampNeg = nI (y_sh cd) := by rw [pk_cl F.length]; exact r1
    have hys : y_sh cd < 10 := by unfold y_sh; split <;> omega
    have hy4 : y_sh cd = 4 ↔ cd = 4 := by unfold y_sh; split <;> omega
    refine nm_r e1 ⟨pk_in F.length 9 (by omega), ?_⟩
    refine eq_p (P := fun w => wpY_pullResult _ _ w) eG ?_
    refine y_pullResult g (by omega) (by simp) R (fun R1 eF1 => ⟨pk_in F.length 9 (by omega), ?_⟩)
    have eF2 : (vt_pr g (K, (cd, g, hh, d, o) :: F, b)).2.1 = (cd, g, hh, d, o) :: F := eF1
    have ecl : ∀ B, decide ((vt_pr g (K, (cd, g, hh, d, o) :: F, b)).1.length ≠ hh ∨ (op = 6 ∧ cd = 4 ∧ g ≠ 0)) = B → vt_cl op (K, (cd, g, hh, d, o) :: F, b) = ((vt_pr g (K, (cd, g, hh, d, o) :: F, b)).1, (cd, g, hh, d, o) :: F, (vt_pr g (K, (cd, g, hh, d, o) :: F, b)).2.2 || B) := by
      intro B hB
      show vt_bad (vt_pr g (K, (cd, g, hh, d, o) :: F, b)) (decide ((vt_pr g (K, (cd, g, hh, d, o) :: F, b)).1.length ≠ hh ∨ (op = 6 ∧ cd = 4 ∧ g ≠ 0))) = _
      rw [hB]
      show ((vt_pr g (K, (cd, g, hh, d, o) :: F, b)).1, (vt_pr g (K, (cd, g, hh, d, o) :: F, b)).2.1, _) = _
      rw [eF2]
    generalize eS1 : vt_pr g (K, (cd, g, hh, d, o) :: F, b) = S1 at R1 eF2 ecl
    obtain ⟨K1, F1, b1⟩ := S1
    dsimp only at eF2 ecl
    subst eF2
    obtain ⟨rk1, ⟨p1, p2, p3, p4, p5⟩, q1, q2, q3, q4, q5, q6, q7⟩ := id R1
    dsimp only at rk1 q1 q2 q3 q4
    simp only [List.length_cons] at q2
    have w60 : ∀ B, decide (K1.length ≠ hh ∨ (op = 6 ∧ cd = 4 ∧ g ≠ 0)) = B → ∀ iv, iv = bb_i (b1 || B) → wY_close_60 post (nI op) (nI F.length) y_count y_place y_m y_pos y_wrong y_constant y_least (nI ((K1, (cd, g, hh, d, o) :: F, b1)).1.length) (nI ((K1, (cd, g, hh, d, o) :: F, b1)).2.1.length) iv y_sp y_labels y_active y_fuel y_outcome y_trappedAt y_result y_used y_waits y_printed y_bytes y_there y_types y_typeSig y_imports y_functions y_sig y_what y_typeAt y_localsAt y_globals y_globalKind y_globalFree y_globalValue y_entries y_entriesAt y_hasMemory y_memory y_nest KI SH GI HE DE y_stack y_labelAt y_labelHeight y_labelGives y_callModule y_callFunction y_callBack y_callBase y_callLabels y_waiting y_prints := by
      intro B hB iv hiv
      subst hiv
      have hcl := ecl B hB
      rcases hop with rfl | rfl
      · have hc : vt_close 5 (K, (cd, g, hh, d, o) :: F, b) = (K1, (5, g, hh, false, o) :: F, b1 || B) := by
          rw [vt_close, if_pos rfl, hcl]; rfl
        rw [hc] at h
        refine br_t rfl ⟨pk_in F.length 9 (by omega), nm_r (show upd SH (nI F.length).toNatClampNeg (vp_nar .byte 2) = upd SH F.length (nI 2) from by rw [pk_cl F.length]; exact congrArg _ (nr_b (k := 2) (by omega))) ⟨pk_in F.length 9 (by omega), nm_r (show upd DE (nI F.length).toNatClampNeg (vp_nar .boolean 0) = upd DE F.length (bb_i false) from by rw [pk_cl F.length]; rfl) ?_⟩⟩
        refine h KI _ GI HE _ ⟨rk1, ⟨pk_us, p2, p3, pk_us, yv_F_ext F p5 (fun j hj => pk_un (by omega)) (fun _ _ => rfl) (fun _ _ => rfl) (fun j hj => pk_un (by omega))⟩, q1, by simp only [List.length_cons]; omega, q3, q4, q5, by omega, q7⟩
      · refine br_f (by decide) (nm_r (show nI (F.length + 1) - 1 = nI F.length from nI_pred F.length) ?_)
        by_cases hT : F = []
        · have hc : vt_close 6 (K, (cd, g, hh, d, o) :: F, b) = (K1, [], b1 || B) := by
            rw [vt_close, if_neg (by decide), if_pos (by exact hT), hcl]
          rw [hc] at h
          subst hT
          exact br_t (by decide) (h KI SH GI HE DE ⟨rk1, trivial, q1, by simp, q3, trivial⟩)
        · have hc : vt_close 6 (K, (cd, g, hh, d, o) :: F, b) = vt_gr g (K1, F, b1 || B) := by
            rw [vt_close, if_neg (by decide), if_neg (by exact hT), hcl]; rfl
          rw [hc] at h
          have hl : 0 < F.length := List.length_pos_iff.mpr hT
          refine pk_le F.length 0 (fun z => absurd z (by omega)) (fun _ => ⟨pk_in F.length 9 (by omega), ?_⟩)
          refine eq_p (P := fun w => wpY_giveResult _ _ w) eG ?_
          exact y_giveResult g (by omega) ⟨rk1, p5, q1, show F.length ≤ 8 by omega, q3, sn_F_mono q7 q4⟩ (fun KI SH GI HE DE a _ => h KI SH GI HE DE a)
    refine pk_eq K1.length hh (fun z => ?_) (fun z => ?_) rfl eH
    · refine pk_eq op 6 (fun z2 => ⟨pk_in F.length 9 (by omega), pk_eq (y_sh cd) 4 (fun z3 => ⟨pk_in F.length 9 (by omega), pk_eq g 0 (fun z4 => ?_) (fun z4 => ?_) eG rfl⟩) (fun z3 => ?_) eS rfl⟩) (fun z2 => ?_)
      · exact w60 false (decide_eq_false (by omega)) _ (bb_or0 b1).symm
      · exact w60 true (decide_eq_true (Or.inr ⟨z2, hy4.mp z3, z4⟩)) _ (bb_or1 b1).symm
      · exact w60 false (decide_eq_false (fun y => y.elim (fun a => a z) (fun a => z3 (hy4.mpr a.2.1)))) _ (bb_or0 b1).symm
      · exact w60 false (decide_eq_false (by omega)) _ (bb_or0 b1).symm
    · exact w60 true (decide_eq_true (Or.inl z)) _ (bb_or1 b1).symm
end
end
section
/-! 19: what a module that was read is made of, pure -/
theorem sg_np {c : Nat → Nat} {t : Nat} (h : ty_ok c t) : sg c t % 4 = c t ∧ sg c t / 256 = ty_r c t ∧ ∀ k, k < c t → sg c t / 4 ^ (k + 1) % 4 = c (t + 1 + k) := by
  obtain ⟨h1, h2, h3, h4⟩ := h
  have hr : ∃ R, (if c (t + 1 + c t) = 0 then 0 else c (t + 1 + c t + 1) * 256) = 256 * R ∧ ty_r c t = R ∧ R ≤ 2 := by
    unfold ty_r
    by_cases z : c (t + 1 + c t) = 0
    · rw [if_pos z, if_pos z]; exact ⟨0, rfl, rfl, by omega⟩
    · rw [if_neg z, if_neg z]; have := h4 (by omega); exact ⟨_, Nat.mul_comm _ _, rfl, by omega⟩
  obtain ⟨R, e1, e2, e3⟩ := hr
  unfold sg
  rw [e1, e2]
  have z : c t = 0 ∨ c t = 1 ∨ c t = 2 ∨ c t = 3 := by omega
  rcases z with z | z | z | z <;> rw [z] at h2 ⊢ <;> simp only [sg_l]
  · exact ⟨by omega, by omega, fun k hk => absurd hk (by omega)⟩
  · have a := h2 0 (by omega); simp only [Nat.add_zero] at a
    refine ⟨by omega, by omega, fun k hk => ?_⟩
    have : k = 0 := by omega
    subst this
    simp only [Nat.add_zero]
    omega
  · have a := h2 0 (by omega); have b := h2 1 (by omega); simp only [Nat.add_zero] at a
    refine ⟨by omega, by omega, fun k hk => ?_⟩
    have : k = 0 ∨ k = 1 := by omega
    rcases this with rfl | rfl
    · simp only [Nat.add_zero]; omega
    · simp only [Nat.add_assoc] at a b ⊢; omega
  · have a := h2 0 (by omega); have b := h2 1 (by omega); have d := h2 2 (by omega)
    rw [show t + 1 + 2 = t + 1 + 1 + 1 by omega] at d; simp only [Nat.add_zero] at a
    refine ⟨by omega, by omega, fun k hk => ?_⟩
    have : k = 0 ∨ k = 1 ∨ k = 2 := by omega
    rcases this with rfl | rfl | rfl
    · simp only [Nat.add_zero]; omega
    · show _ = c (t + 1 + 1); omega
    · rw [show t + 1 + 2 = t + 1 + 1 + 1 by omega]; omega
theorem ty_r_le {c : Nat → Nat} {t : Nat} (h : ty_ok c t) : ty_r c t ≤ 2 := by
  unfold ty_r
  split
  · omega
  · have := h.2.2.2 (by have := h.2.2.1; omega); omega
/-- all parts of a module, as its bytes tell them -/
def mp_ok (c : Nat → Nat) (n : Nat) : Prop :=
  c 0 ≤ 4 ∧ (∀ t, t < c 0 → ty_ok c (m_ty c n t) ∧ m_ty c n t + 1 + c (m_ty c n t) + 1 + c (m_ty c n t + 1 + c (m_ty c n t)) ≤ n) ∧ m_I c n ≤ 3 ∧ m_F c n ≤ 4 ∧
  (∀ f, f < m_I c n + m_F c n → m_fa c n f + 1 < n) ∧
  (∀ f, m_I c n ≤ f → f < m_I c n + m_F c n → c (m_fa c n f + 1) ≤ 3 ∧ (∀ j, j < c (m_fa c n f + 1) → 1 ≤ c (m_fa c n f + 2 + j) ∧ c (m_fa c n f + 2 + j) ≤ 2) ∧ m_bo c n f ≤ n) ∧
  c (m_pG c n) ≤ 3 ∧ (∀ g, g < c (m_pG c n) → 1 ≤ c (m_ga c n g) ∧ c (m_ga c n g) ≤ 2 ∧ c (m_ga c n g + 1) ≤ 1 ∧ m_ga c n g + 2 < n ∧ (rd_C c n (if c (m_ga c n g) = 1 then 5 else 10) (true, m_ga c n g + 2)).1 = true) ∧
  c (tl_q c n (m_pG c n)) ≤ 5 ∧ c (tl_m c n (m_pG c n)) ≤ 1 ∧ tl_m c n (m_pG c n) < n
theorem mp_of {c : Nat → Nat} {n : Nat} (h : (rd_V c n).1 = true) : mp_ok c n ∧ (rd_V c n).2 = n ∧ (rd_it (rd_F c n) (m_F c n) (true, m_pF c n + 1)).1 = true ∧ m_pF c n + 1 ≤ n ∧ (rd_it (rd_J c n) (m_I c n) (true, m_pI c n + 1)).1 = true ∧ m_pI c n + 1 ≤ n := by
  obtain ⟨o1, o2, o3, o4⟩ := rd_V_ok h
  have eV : rd_V c n = rd_X c n (rd_it (rd_T c n) (c 0) (true, 1)) := by rw [rd_V, o1, o2]
  have e1 : rd_it (rd_T c n) (c 0) (true, 1) = (true, m_pI c n) := tt_eq o4
  have hn1 : 1 ≤ n := by
    obtain ⟨_, _, _, _, _, b⟩ := rd_tk_ok (show (rd_tk c n 0 4 (true, 0)).1 = true by rw [o1])
    dsimp only at b; omega
  have gT : m_pI c n ≤ n := by
    have := ((rd_G_it (rd_G_T c n) (c 0)).1 (true, 1) hn1).2
    rw [e1] at this; exact this
  rw [e1] at eV
  obtain ⟨q1, q2, q3, q4, q5⟩ := rd_X_ok (q := (true, m_pI c n)) (by rw [← eV]; exact h)
  dsimp only at q2 q3 q4
  rw [q2, q3] at q5
  have e2 : rd_it (rd_J c n) (m_I c n) (true, m_pI c n + 1) = (true, m_pF c n) := tt_eq q5
  have hI1 : m_pI c n + 1 ≤ n := by
    have := ((rd_G_tk c n 0 3).1 (true, m_pI c n) gT).2; rw [q2] at this; exact this
  have gI : m_pF c n ≤ n := by
    have := ((rd_G_it (rd_G_J c n) (m_I c n)).1 (true, m_pI c n + 1) hI1).2
    rw [e2] at this; exact this
  have eV2 : rd_V c n = rd_Y c n (true, m_pF c n) := by rw [eV, rd_X, q2, q3, ← e2]; rfl
  obtain ⟨r1, r2, r3, r4, r5⟩ := rd_Y_ok (q := (true, m_pF c n)) (by rw [← eV2]; exact h)
  dsimp only at r2 r3 r4
  rw [r2, r3] at r5
  have e3 : rd_it (rd_F c n) (m_F c n) (true, m_pF c n + 1) = (true, m_pG c n) := tt_eq r5
  have hF1 : m_pF c n + 1 ≤ n := by
    have := ((rd_G_tk c n 0 4).1 (true, m_pF c n) gI).2; rw [r2] at this; exact this
  have gF : m_pG c n ≤ n := by
    have := ((rd_G_it (rd_G_F c n) (m_F c n)).1 (true, m_pF c n + 1) hF1).2
    rw [e3] at this; exact this
  have eV3 : rd_V c n = rd_Z c n (true, m_pG c n) := by rw [eV2, rd_Y, r2, r3, ← e3]; rfl
  obtain ⟨t1, t2, t3, t4⟩ := rd_Z_ok (q := (true, m_pG c n)) (by rw [← eV3]; exact h)
  dsimp only at t2 t3 t4
  have hG1 : m_pG c n + 1 ≤ n := by
    have := ((rd_G_tk c n 0 3).1 (true, m_pG c n) gF).2; rw [t2] at this; exact this
  have eV4 : rd_V c n = rd_E c n (rd_it (rd_g c n) (c (m_pG c n)) (true, m_pG c n + 1)) := by rw [eV3, rd_Z, t2, t3]
  have hE := h
  rw [eV4] at hE
  obtain ⟨w1, w2, w3⟩ := rd_e_ok hE
  have w4 : (rd_n c n 0 255 (rd_tv c n 0 5 (rd_it (rd_g c n) (c (m_pG c n)) (true, m_pG c n + 1))) (rd_tk c n 0 5 (rd_it (rd_g c n) (c (m_pG c n)) (true, m_pG c n + 1)))).1 = true := by
    cases e : (rd_n c n 0 255 (rd_tv c n 0 5 (rd_it (rd_g c n) (c (m_pG c n)) (true, m_pG c n + 1))) (rd_tk c n 0 5 (rd_it (rd_g c n) (c (m_pG c n)) (true, m_pG c n + 1)))).1 with
    | true => rfl
    | false => rw [rd_M_f e, e] at w1; exact ff_t w1
  obtain ⟨x1, x2, x3, x4⟩ := rd_n_ok _ _ w4
  obtain ⟨y1, y2, y3, y4, y5, y6⟩ := rd_tk_ok x1
  have gg : (rd_it (rd_g c n) (c (m_pG c n)) (true, m_pG c n + 1)).2 ≤ n := ((rd_G_it (rd_G_g c n) _).1 _ (by exact hG1)).2
  have eM : rd_n c n 0 255 (rd_tv c n 0 5 (rd_it (rd_g c n) (c (m_pG c n)) (true, m_pG c n + 1))) (rd_tk c n 0 5 (rd_it (rd_g c n) (c (m_pG c n)) (true, m_pG c n + 1))) = (true, tl_m c n (m_pG c n)) := by
    rw [x2, y2, y3]; rfl
  rw [eM] at w1
  have eV5 : rd_V c n = rd_M c n (true, tl_m c n (m_pG c n)) := by rw [eV4, rd_E, w3, eM]
  have hm : (rd_tk c n 0 1 (true, tl_m c n (m_pG c n))).1 = true := by
    cases e : (rd_tk c n 0 1 (true, tl_m c n (m_pG c n))).1 with
    | true => rfl
    | false =>
      have : rd_tv c n 0 1 (true, tl_m c n (m_pG c n)) = 0 := by
        unfold rd_tv; split
        · rename_i hc; rw [rd_tk, if_pos hc] at e; exact ff_t e.symm
        · rfl
      rw [rd_M, this, if_neg (by decide), e] at w1
      exact ff_t w1
  obtain ⟨z1, z2, z3, z4, z5, z6⟩ := rd_tk_ok hm
  dsimp only at z4 z5 z6
  have gV : (rd_V c n).2 ≤ n := by
    rw [eV5]
    have g1 := (rd_G_tk c n 0 1).1 (true, tl_m c n (m_pG c n)) (by dsimp only; omega)
    unfold rd_M
    split
    · exact ((rd_G_it (rd_G_D c n) _).1 _ ((rd_G_tk c n 0 2).1 _ g1.2).2).2
    · exact g1.2
  refine ⟨⟨o3, fun t ht => ?_, q4, r4, fun f hf => ?_, fun f hf1 hf2 => ?_, t4, fun g hg => ?_, y5, z5, z6⟩, ?_, r5, hF1, q5, hI1⟩
  · have a := rd_it_ok (rd_G_T c n) _ _ o4 (t + 1) (by omega)
    rw [rd_it_s] at a
    obtain ⟨b1, b2, b3, b4⟩ := rd_T_ok a
    exact ⟨b2, by rw [b3] at b4; exact b4⟩
  · unfold m_fa
    by_cases h1 : f < m_I c n
    · rw [if_pos h1]
      have a := rd_it_ok (rd_G_J c n) _ _ q5 (f + 1) (by unfold m_I at h1; omega)
      rw [rd_it_s] at a
      obtain ⟨b1, b2, b3, b4⟩ := rd_n_ok _ _ (show (rd_n c n 0 255 2 (rd_it (rd_J c n) f (true, m_pI c n + 1))).1 = true from a)
      have := b4 (((rd_G_it (rd_G_J c n) f).1 _ (by exact hI1)).2)
      show (rd_it (rd_J c n) f (true, m_pI c n + 1)).2 + 1 < n
      omega
    · rw [if_neg h1]
      have a := rd_it_ok (rd_G_F c n) _ _ r5 (f - m_I c n + 1) (by unfold m_F at hf; omega)
      rw [rd_it_s] at a
      obtain ⟨b1, b2, b3⟩ := rd_F_ok a
      have d := rd_G_tr (rd_G_B c n 141 [(0, 0, 0)]) a
      obtain ⟨k1, k2, k3, k4, k5⟩ := rd_K_ok d
      rw [b2] at k5
      show (rd_it (rd_F c n) (f - m_I c n) (true, m_pF c n + 1)).2 + 1 < n
      dsimp only at k5
      omega
  · have e : m_fa c n f = m_fn c n (f - m_I c n) := if_neg (by omega)
    unfold m_bo
    rw [e]
    have a := rd_it_ok (rd_G_F c n) _ _ r5 (f - m_I c n + 1) (by unfold m_F at hf2; omega)
    rw [rd_it_s] at a
    obtain ⟨b1, b2, b3⟩ := rd_F_ok a
    have d := rd_G_tr (rd_G_B c n 141 [(0, 0, 0)]) a
    obtain ⟨k1, k2, k3, k4, k5⟩ := rd_K_ok d
    rw [b2] at k3 k4 k5
    dsimp only at k3 k4 k5
    refine ⟨k3, fun j hj => ?_, ?_⟩
    · have := k4 j hj
      show 1 ≤ c ((rd_it (rd_F c n) (f - m_I c n) (true, m_pF c n + 1)).2 + 2 + j) ∧ _
      rw [show (rd_it (rd_F c n) (f - m_I c n) (true, m_pF c n + 1)).2 + 1 + 1 + j = (rd_it (rd_F c n) (f - m_I c n) (true, m_pF c n + 1)).2 + 2 + j by omega] at this
      exact this
    · show (rd_it (rd_F c n) (f - m_I c n) (true, m_pF c n + 1)).2 + 2 + c ((rd_it (rd_F c n) (f - m_I c n) (true, m_pF c n + 1)).2 + 1) ≤ n
      omega
  · have a := rd_it_ok (rd_G_g c n) _ _ y1 (g + 1) (by omega)
    rw [rd_it_s] at a
    obtain ⟨b1, b2, b3, b4, b5, b6, b7, b8⟩ := rd_g_ok a
    have hg2 : (rd_it (rd_g c n) g (true, m_pG c n + 1)).2 ≤ n := ((rd_G_it (rd_G_g c n) g).1 _ (by exact hG1)).2
    have a' := a
    rw [rd_g, b3, b6] at a'
    refine ⟨b4, b5, b8, ?_, a'⟩
    have k1 := (rd_G_tk c n 1 2).1 _ hg2
    have k2 := (rd_G_tk c n 0 1).1 _ k1.2
    rw [b6] at k2
    dsimp only at k2
    show (rd_it (rd_g c n) g (true, m_pG c n + 1)).2 + 2 < n
    have k3 : ∀ kk q, 0 < kk → (rd_C c n kk q).1 = true → q.2 < n := by
      intro kk q h0 hh
      obtain ⟨kk, rfl⟩ : ∃ j, kk = j + 1 := ⟨kk - 1, by omega⟩
      rw [rd_C] at hh
      generalize (if kk = 0 then 127 else 255) = hb at hh
      rcases rd_tk_or c n 0 hb q with ⟨e, _, h2, _⟩ | e
      · exact h2
      · rw [e, if_neg (fun z => ff_t z.1)] at hh; exact ff_t hh
    have := k3 _ _ (by split <;> omega) a'
    exact this
  · have := w2
    rw [eM] at this
    rw [eV5]
    have g2 := gV
    rw [eV5] at g2
    omega
end
section
/-! 20: the reference's validation: tables, calls, variables, memory, numbers -/
/-- what the reference holds of the draft, as its validation uses it -/
def yw_ok (c : Nat → Nat) (n : Nat) (TY TS FU SI LA GL GK GF H : Nat → Int32) : Prop :=
  TY 2 = nI (c 0) ∧ (∀ t, t < c 0 → TS (8 + t) = nI (sg c (m_ty c n t))) ∧ FU 2 = nI (m_I c n + m_F c n) ∧ (∀ f, f < m_I c n + m_F c n → SI (14 + f) = sg_i c (c 0) (m_ty c n) (m_fa c n f)) ∧
  (∀ f, m_I c n ≤ f → f < m_I c n + m_F c n → LA (14 + f) = nI (m_fa c n f + 1)) ∧ GL 2 = nI (c (m_pG c n)) ∧ (∀ g, g < c (m_pG c n) → GK (6 + g) = nI (c (m_ga c n g)) ∧ GF (6 + g) = nI (c (m_ga c n g + 1))) ∧ H 2 = nI (c (tl_m c n (m_pG c n)))
theorem sh_28 : ∀ k, k < 3 → (((2 + 2 * nI k) &&& 31 : Int32).toBitVec.smod 32).toNat = 2 + 2 * k := by decide +kernel
theorem sh_8 : (((8 : Int32) &&& 31).toBitVec.smod 32).toNat = 8 := by decide +kernel
theorem y_params {post : Int32 → Prop} {s : Nat} (hs : s < 1024) (h : post (nI (s % 4))) : wpY_params post (nI s) := by
  have e : nI s &&& 3 = nI (s % 4) := pk_andN (k := 2) (by omega) (by decide)
  exact eq_p (P := post) e h
theorem y_param {post : Int32 → Prop} {s k : Nat} (hs : s < 1024) (hk : k < 3) (h : post (nI (s / 4 ^ (k + 1) % 4))) : wpY_param post (nI s) (nI k) := by
  have e : (nI s >>> ((2 + 2 * nI k) &&& 31)) &&& 3 = nI (s / 4 ^ (k + 1) % 4) := by
    rw [pk_shrN (by omega) _ (2 + 2 * k) (sh_28 k hk)]
    have e2 : (2 : Nat) ^ (2 + 2 * k) = 4 ^ (k + 1) := by rw [show (4 : Nat) = 2 ^ 2 from rfl, ← Nat.pow_mul]; congr 1; omega
    rw [e2]
    exact pk_andN (k := 2) (Nat.lt_of_le_of_lt (Nat.div_le_self _ _) (by omega)) (by decide)
  exact eq_p (P := post) e h
theorem y_gift {post : Int32 → Prop} {s : Nat} (hs : s < 1024) (h : post (nI (s / 256))) : wpY_gift post (nI s) := by
  have e : nI s >>> ((8 : Int32) &&& 31) = nI (s / 256) := pk_shrN (by omega) _ 8 sh_8
  exact eq_p (P := post) e h
section
variable {y_count y_place y_m y_pos y_wrong y_least y_top y_frames y_invalid y_sp y_labels y_active y_fuel y_outcome y_trappedAt y_used y_waits y_printed : Int32} {y_constant y_result : Int64} {y_bytes y_there y_types y_typeSig y_imports y_functions y_sig y_what y_typeAt y_localsAt y_globals y_globalKind y_globalFree y_entries y_entriesAt y_hasMemory y_memory y_nest y_kinds y_shape y_gives y_height y_dead y_labelAt y_labelHeight y_labelGives y_callModule y_callFunction y_callBack y_callBase y_callLabels y_waiting y_prints : Nat → Int32} {y_globalValue y_stack : Nat → Int64}
variable {KI SH GI HE DE : Nat → Int32} {S : vt_St} {c : Nat → Nat} {n p : Nat}
theorem y_tb {post : SY → Prop} {x1 : Int32} (C : cy_ok y_count y_m y_bytes 2 c n) (w N P : Nat) (hw : w ≤ 2) (hN : N ≤ 4) (hP : P + N < n) (hx : x1 + 1 = nI P) : ∀ r i l (S : vt_St), i + r = N → r < l → S.2.1 ≠ [] → YV S KI SH GI HE DE →
    (∀ KI SH GI HE DE, YV (vt_die (vt_pr w (vt_tb c w r (P + i) S))) KI SH GI HE DE → post (y_count, y_place, y_m, y_pos, y_wrong, y_constant, y_least, nI (vt_die (vt_pr w (vt_tb c w r (P + i) S))).1.length, nI (vt_die (vt_pr w (vt_tb c w r (P + i) S))).2.1.length, bb_i (vt_die (vt_pr w (vt_tb c w r (P + i) S))).2.2, y_sp, y_labels, y_active, y_fuel, y_outcome, y_trappedAt, y_result, y_used, y_waits, y_printed, y_bytes, y_there, y_types, y_typeSig, y_imports, y_functions, y_sig, y_what, y_typeAt, y_localsAt, y_globals, y_globalKind, y_globalFree, y_globalValue, y_entries, y_entriesAt, y_hasMemory, y_memory, y_nest, KI, SH, GI, HE, DE, y_stack, y_labelAt, y_labelHeight, y_labelGives, y_callModule, y_callFunction, y_callBack, y_callBase, y_callLabels, y_waiting, y_prints)) →
    wY_branchTable_32 post x1 (nI N) (nI w) l (nI i) y_count y_place y_m y_pos y_wrong y_constant y_least (nI S.1.length) (nI S.2.1.length) (bb_i S.2.2) y_sp y_labels y_active y_fuel y_outcome y_trappedAt y_result y_used y_waits y_printed y_bytes y_there y_types y_typeSig y_imports y_functions y_sig y_what y_typeAt y_localsAt y_globals y_globalKind y_globalFree y_globalValue y_entries y_entriesAt y_hasMemory y_memory y_nest KI SH GI HE DE y_stack y_labelAt y_labelHeight y_labelGives y_callModule y_callFunction y_callBack y_callBase y_callLabels y_waiting y_prints := by
  obtain ⟨hn, h140, hm, h3, hb, h256⟩ := id C
  intro r
  induction r with
  | zero =>
    intro i l S hi hl hF R h
    obtain ⟨l, rfl⟩ : ∃ j, l = j + 1 := ⟨l - 1, by omega⟩
    refine pk_le N i (fun _ => ?_) (fun z => absurd z (by omega))
    refine y_pullResult w hw hF R (fun R1 e1 => ?_)
    exact y_die (by rw [e1]; exact hF) R1 h
  | succ r ih =>
    intro i l S hi hl hF R h
    obtain ⟨l, rfl⟩ : ∃ j, l = j + 1 := ⟨l - 1, by omega⟩
    refine pk_le N i (fun z => absurd z (by omega)) (fun _ => ?_)
    have e : (x1 + 1) + nI i = nI (P + i) := by rw [hx, nI_add]
    refine eq_p (P := fun z => wpY_at _ _ z) e ?_
    refine yr_at hm h3 (by omega) (hb _ (by omega)) ?_
    refine y_wants (c (P + i)) (h256 _) hF R (fun R1 hw1 => ?_)
    rw [vt_tb] at h
    rw [show P + i + 1 = P + (i + 1) by omega] at h
    have hF1 : (vt_ws (c (P + i)) S).2.1 ≠ [] := hF
    refine pk_eq (vt_w (c (P + i)) S) w (fun z => nm_r (nI_1 i) ?_) (fun z => nm_r (nI_1 i) ?_)
    · rw [decide_eq_false (fun y => y z)] at h
      have e2 : vt_bad (vt_ws (c (P + i)) S) false = vt_ws (c (P + i)) S := by
        show (_, _, _ || false) = _
        rw [Bool.or_false]
      rw [e2] at h
      exact ih (i + 1) l _ (by omega) (by omega) hF1 R1 h
    · rw [decide_eq_true z] at h
      have := ih (i + 1) l (vt_bad (vt_ws (c (P + i)) S) true) (by omega) (by omega) hF1 R1 h
      rw [show (vt_bad (vt_ws (c (P + i)) S) true).2.2 = true from by show (_ || true) = true; rw [Bool.or_true]] at this
      exact this
theorem y_table {post : SY → Prop} (C : cy_ok y_count y_m y_bytes 2 c n) (h4 : c (p + 1) ≤ 4) (hp : p + 1 + c (p + 1) + 1 < n) (hF : S.2.1 ≠ []) (R : YV S KI SH GI HE DE)
    (h : ∀ KI SH GI HE DE, YV (vt_table c p S) KI SH GI HE DE → post (y_count, y_place, y_m, y_pos, y_wrong, y_constant, y_least, nI (vt_table c p S).1.length, nI (vt_table c p S).2.1.length, bb_i (vt_table c p S).2.2, y_sp, y_labels, y_active, y_fuel, y_outcome, y_trappedAt, y_result, y_used, y_waits, y_printed, y_bytes, y_there, y_types, y_typeSig, y_imports, y_functions, y_sig, y_what, y_typeAt, y_localsAt, y_globals, y_globalKind, y_globalFree, y_globalValue, y_entries, y_entriesAt, y_hasMemory, y_memory, y_nest, KI, SH, GI, HE, DE, y_stack, y_labelAt, y_labelHeight, y_labelGives, y_callModule, y_callFunction, y_callBack, y_callBase, y_callLabels, y_waiting, y_prints)) : wpY_branchTable post (y_count, y_place, y_m, y_pos, y_wrong, y_constant, y_least, nI S.1.length, nI S.2.1.length, bb_i S.2.2, y_sp, y_labels, y_active, y_fuel, y_outcome, y_trappedAt, y_result, y_used, y_waits, y_printed, y_bytes, y_there, y_types, y_typeSig, y_imports, y_functions, y_sig, y_what, y_typeAt, y_localsAt, y_globals, y_globalKind, y_globalFree, y_globalValue, y_entries, y_entriesAt, y_hasMemory, y_memory, y_nest, KI, SH, GI, HE, DE, y_stack, y_labelAt, y_labelHeight, y_labelGives, y_callModule, y_callFunction, y_callBack, y_callBase, y_callLabels, y_waiting, y_prints) (nI (p + 1)) := by
  obtain ⟨hn, h140, hm, h3, hb, h256⟩ := id C
  unfold wpY_branchTable
  refine y_pull 1 (by omega) hF R (fun R1 _ e1 => ?_)
  have hF1 : (vt_pl 1 S).2.1 ≠ [] := by rw [e1]; exact hF
  refine yr_at hm h3 (by omega) (hb _ (by omega)) ?_
  have e2 : (nI (p + 1) + nI (c (p + 1))) + 1 = nI (p + 1 + c (p + 1) + 1) := by rw [nI_add, nI_1]
  refine eq_p (P := fun z => wpY_at _ _ z) e2 ?_
  refine yr_at hm h3 (by omega) (hb _ (by omega)) ?_
  refine y_wants (c (p + 1 + c (p + 1) + 1)) (h256 _) hF1 R1 (fun R2 hw => ⟨c (p + 1) + 1, ?_⟩)
  exact y_tb C _ (c (p + 1)) (p + 2) hw h4 (by omega) (nI_1 (p + 1)) (c (p + 1)) 0 _ _ (Nat.zero_add _) (by omega) hF1 R2 h
theorem y_ps {post : SY → Prop} (t : Nat) (ht : ty_ok c t) : ∀ k l (S : vt_St) KI SH GI HE DE, k ≤ c t → k < l → S.2.1 ≠ [] → YV S KI SH GI HE DE →
    (∀ KI SH GI HE DE, YV (vt_gr (ty_r c t) (vt_ps c t k S)) KI SH GI HE DE → post (y_count, y_place, y_m, y_pos, y_wrong, y_constant, y_least, nI (vt_gr (ty_r c t) (vt_ps c t k S)).1.length, nI (vt_gr (ty_r c t) (vt_ps c t k S)).2.1.length, bb_i (vt_gr (ty_r c t) (vt_ps c t k S)).2.2, y_sp, y_labels, y_active, y_fuel, y_outcome, y_trappedAt, y_result, y_used, y_waits, y_printed, y_bytes, y_there, y_types, y_typeSig, y_imports, y_functions, y_sig, y_what, y_typeAt, y_localsAt, y_globals, y_globalKind, y_globalFree, y_globalValue, y_entries, y_entriesAt, y_hasMemory, y_memory, y_nest, KI, SH, GI, HE, DE, y_stack, y_labelAt, y_labelHeight, y_labelGives, y_callModule, y_callFunction, y_callBack, y_callBase, y_callLabels, y_waiting, y_prints)) →
    wY_checkCall_86 post (nI (sg c t)) l (nI k - 1) y_count y_place y_m y_pos y_wrong y_constant y_least (nI S.1.length) (nI S.2.1.length) (bb_i S.2.2) y_sp y_labels y_active y_fuel y_outcome y_trappedAt y_result y_used y_waits y_printed y_bytes y_there y_types y_typeSig y_imports y_functions y_sig y_what y_typeAt y_localsAt y_globals y_globalKind y_globalFree y_globalValue y_entries y_entriesAt y_hasMemory y_memory y_nest KI SH GI HE DE y_stack y_labelAt y_labelHeight y_labelGives y_callModule y_callFunction y_callBack y_callBase y_callLabels y_waiting y_prints := by
  have hs := sg_lt ht
  obtain ⟨n1, n2, n3⟩ := sg_np ht
  have h3 := ht.1
  intro k
  induction k with
  | zero =>
    intro l S KI SH GI HE DE hk hl hF R h
    obtain ⟨l, rfl⟩ : ∃ j, l = j + 1 := ⟨l - 1, by omega⟩
    refine br_t (by decide) ?_
    refine y_gift hs ?_
    rw [n2]
    exact y_giveResult _ (ty_r_le ht) R (fun KI SH GI HE DE a _ => h KI SH GI HE DE a)
  | succ k ih =>
    intro l S KI SH GI HE DE hk hl hF R h
    obtain ⟨l, rfl⟩ : ∃ j, l = j + 1 := ⟨l - 1, by omega⟩
    have e : nI (k + 1) - 1 = nI k := nI_pred k
    have kk := ht.2.1 k (by omega)
    rw [e]
    refine pk_lt k 0 (fun z => absurd z (by omega)) (fun _ => ?_)
    refine y_param hs (by omega) ?_
    rw [n3 k (by omega)]
    refine y_pull (c (t + 1 + k)) (by omega) hF R (fun R1 _ e1 => ?_)
    refine nm_r (show nI k + (-1) = nI k - 1 from by rw [Int32.sub_eq_add_neg]) ?_
    exact ih l (vt_pl (c (t + 1 + k)) S) KI SH GI HE DE (by omega) (by omega) (by rw [e1]; exact hF) R1 h
theorem y_call {post : SY → Prop} (mp : mp_ok c n) (W : yw_ok c n y_types y_typeSig y_functions y_sig y_localsAt y_globals y_globalKind y_globalFree y_hasMemory) (op x : Nat) (hop : op = 11 ∨ op = 12) (hx : x < 256) (hF : S.2.1 ≠ []) (R : YV S KI SH GI HE DE)
    (h : ∀ KI SH GI HE DE, YV (vt_call c n op x S) KI SH GI HE DE → post (y_count, y_place, y_m, y_pos, y_wrong, y_constant, y_least, nI (vt_call c n op x S).1.length, nI (vt_call c n op x S).2.1.length, bb_i (vt_call c n op x S).2.2, y_sp, y_labels, y_active, y_fuel, y_outcome, y_trappedAt, y_result, y_used, y_waits, y_printed, y_bytes, y_there, y_types, y_typeSig, y_imports, y_functions, y_sig, y_what, y_typeAt, y_localsAt, y_globals, y_globalKind, y_globalFree, y_globalValue, y_entries, y_entriesAt, y_hasMemory, y_memory, y_nest, KI, SH, GI, HE, DE, y_stack, y_labelAt, y_labelHeight, y_labelGives, y_callModule, y_callFunction, y_callBack, y_callBase, y_callLabels, y_waiting, y_prints)) : wpY_checkCall post (y_count, y_place, y_m, y_pos, y_wrong, y_constant, y_least, nI S.1.length, nI S.2.1.length, bb_i S.2.2, y_sp, y_labels, y_active, y_fuel, y_outcome, y_trappedAt, y_result, y_used, y_waits, y_printed, y_bytes, y_there, y_types, y_typeSig, y_imports, y_functions, y_sig, y_what, y_typeAt, y_localsAt, y_globals, y_globalKind, y_globalFree, y_globalValue, y_entries, y_entriesAt, y_hasMemory, y_memory, y_nest, KI, SH, GI, HE, DE, y_stack, y_labelAt, y_labelHeight, y_labelGives, y_callModule, y_callFunction, y_callBack, y_callBase, y_callLabels, y_waiting, y_prints) (nI op) (nI x) := by
  obtain ⟨w1, w2, w3, w4, w5, w6, w7, w8⟩ := W
  obtain ⟨m1, m2, m3, m4, m5, _⟩ := mp
  have w55n : cl_t c n op x = none → wY_checkCall_55 post (nI op) (-1) y_count y_place y_m y_pos y_wrong y_constant y_least (nI S.1.length) (nI S.2.1.length) (bb_i S.2.2) y_sp y_labels y_active y_fuel y_outcome y_trappedAt y_result y_used y_waits y_printed y_bytes y_there y_types y_typeSig y_imports y_functions y_sig y_what y_typeAt y_localsAt y_globals y_globalKind y_globalFree y_globalValue y_entries y_entriesAt y_hasMemory y_memory y_nest KI SH GI HE DE y_stack y_labelAt y_labelHeight y_labelGives y_callModule y_callFunction y_callBack y_callBase y_callLabels y_waiting y_prints := by
    intro z
    rw [vt_call, z] at h
    refine br_f (by decide) ?_
    have := h KI SH GI HE DE R
    rw [show (vt_bad S true).2.2 = true from by show (_ || true) = true; rw [Bool.or_true]] at this
    exact this
  have w55s : ∀ t, cl_t c n op x = some t → ty_ok c t → ∀ z, z = nI (sg c t) → wY_checkCall_55 post (nI op) z y_count y_place y_m y_pos y_wrong y_constant y_least (nI S.1.length) (nI S.2.1.length) (bb_i S.2.2) y_sp y_labels y_active y_fuel y_outcome y_trappedAt y_result y_used y_waits y_printed y_bytes y_there y_types y_typeSig y_imports y_functions y_sig y_what y_typeAt y_localsAt y_globals y_globalKind y_globalFree y_globalValue y_entries y_entriesAt y_hasMemory y_memory y_nest KI SH GI HE DE y_stack y_labelAt y_labelHeight y_labelGives y_callModule y_callFunction y_callBack y_callBase y_callLabels y_waiting y_prints := by
    intro t z ht s0 es
    subst es
    rw [vt_call, z] at h
    dsimp only at h
    have hs := sg_lt ht
    obtain ⟨n1, n2, n3⟩ := sg_np ht
    refine br_t (nI_pos' (by omega)) ?_
    have w78 : ∀ S1 : vt_St, S1.2.1 ≠ [] → YV S1 KI SH GI HE DE → (∀ KI SH GI HE DE, YV (vt_gr (ty_r c t) (vt_ps c t (c t) S1)) KI SH GI HE DE → post (y_count, y_place, y_m, y_pos, y_wrong, y_constant, y_least, nI (vt_gr (ty_r c t) (vt_ps c t (c t) S1)).1.length, nI (vt_gr (ty_r c t) (vt_ps c t (c t) S1)).2.1.length, bb_i (vt_gr (ty_r c t) (vt_ps c t (c t) S1)).2.2, y_sp, y_labels, y_active, y_fuel, y_outcome, y_trappedAt, y_result, y_used, y_waits, y_printed, y_bytes, y_there, y_types, y_typeSig, y_imports, y_functions, y_sig, y_what, y_typeAt, y_localsAt, y_globals, y_globalKind, y_globalFree, y_globalValue, y_entries, y_entriesAt, y_hasMemory, y_memory, y_nest, KI, SH, GI, HE, DE, y_stack, y_labelAt, y_labelHeight, y_labelGives, y_callModule, y_callFunction, y_callBack, y_callBase, y_callLabels, y_waiting, y_prints)) → wY_checkCall_78 post (nI (sg c t)) y_count y_place y_m y_pos y_wrong y_constant y_least (nI S1.1.length) (nI S1.2.1.length) (bb_i S1.2.2) y_sp y_labels y_active y_fuel y_outcome y_trappedAt y_result y_used y_waits y_printed y_bytes y_there y_types y_typeSig y_imports y_functions y_sig y_what y_typeAt y_localsAt y_globals y_globalKind y_globalFree y_globalValue y_entries y_entriesAt y_hasMemory y_memory y_nest KI SH GI HE DE y_stack y_labelAt y_labelHeight y_labelGives y_callModule y_callFunction y_callBack y_callBase y_callLabels y_waiting y_prints := by
      intro S1 hF1 R1 h1
      unfold wY_checkCall_78
      refine y_params hs ?_
      rw [n1]
      refine nm_e ⟨c t + 1, ?_⟩
      exact y_ps t ht (c t) _ S1 KI SH GI HE DE (Nat.le_refl _) (by omega) hF1 R1 h1
    rcases hop with rfl | rfl
    · rw [if_neg (by decide)] at h
      exact br_f (by decide) (w78 S hF R h)
    · rw [if_pos rfl] at h
      refine br_t rfl (y_pull 1 (by omega) hF R (fun R1 _ e1 => ?_))
      exact w78 _ (by rw [e1]; exact hF) R1 h
  rcases hop with rfl | rfl
  · refine br_t rfl (pk_le (m_I c n + m_F c n) x (fun z => ?_) (fun z => ?_) w3 rfl)
    · refine w55n ?_
      rw [cl_t, if_pos rfl, if_neg (by omega)]
    · have e14 : (14 : Int32) + nI x = nI (14 + x) := nI_add 14 x
      refine ⟨pk_in (14 + x) 21 (by omega) e14, ?_⟩
      have es : y_sig ((14 : Int32) + nI x).toNatClampNeg = sg_i c (c 0) (m_ty c n) (m_fa c n x) := by rw [pk_cl (14 + x) e14]; exact w4 x z
      refine eq_p (P := fun s => wY_checkCall_55 post _ s y_count y_place y_m y_pos y_wrong y_constant y_least (nI S.1.length) (nI S.2.1.length) (bb_i S.2.2) y_sp y_labels y_active y_fuel y_outcome y_trappedAt y_result y_used y_waits y_printed y_bytes y_there y_types y_typeSig y_imports y_functions y_sig y_what y_typeAt y_localsAt y_globals y_globalKind y_globalFree y_globalValue y_entries y_entriesAt y_hasMemory y_memory y_nest KI SH GI HE DE y_stack y_labelAt y_labelHeight y_labelGives y_callModule y_callFunction y_callBack y_callBase y_callLabels y_waiting y_prints) es ?_
      unfold sg_i
      by_cases z2 : c (m_fa c n x) < c 0
      · rw [if_pos z2]
        exact w55s _ (by rw [cl_t, if_pos rfl, if_pos ⟨z, z2⟩]) (m2 _ z2).1 _ rfl
      · rw [if_neg z2]
        exact w55n (by rw [cl_t, if_pos rfl, if_neg (fun y => z2 y.2)])
  · refine br_f (by decide) (pk_le (c 0) x (fun z => ?_) (fun z => ?_) w1 rfl)
    · refine w55n ?_
      rw [cl_t, if_neg (by decide), if_neg (by omega)]
    · have e8 : (8 : Int32) + nI x = nI (8 + x) := nI_add 8 x
      refine ⟨pk_in (8 + x) 12 (by omega) e8, ?_⟩
      have es : y_typeSig ((8 : Int32) + nI x).toNatClampNeg = nI (sg c (m_ty c n x)) := by rw [pk_cl (8 + x) e8]; exact w2 x z
      refine eq_p (P := fun s => wY_checkCall_55 post _ s y_count y_place y_m y_pos y_wrong y_constant y_least (nI S.1.length) (nI S.2.1.length) (bb_i S.2.2) y_sp y_labels y_active y_fuel y_outcome y_trappedAt y_result y_used y_waits y_printed y_bytes y_there y_types y_typeSig y_imports y_functions y_sig y_what y_typeAt y_localsAt y_globals y_globalKind y_globalFree y_globalValue y_entries y_entriesAt y_hasMemory y_memory y_nest KI SH GI HE DE y_stack y_labelAt y_labelHeight y_labelGives y_callModule y_callFunction y_callBack y_callBase y_callLabels y_waiting y_prints) es ?_
      exact w55s _ (by rw [cl_t, if_neg (by decide), if_pos z]) (m2 _ z).1 _ rfl
theorem y_sel {post : SY → Prop} (hF : S.2.1 ≠ []) (R : YV S KI SH GI HE DE)
    (h : ∀ KI SH GI HE DE, YV (vt_sel S) KI SH GI HE DE → post (y_count, y_place, y_m, y_pos, y_wrong, y_constant, y_least, nI (vt_sel S).1.length, nI (vt_sel S).2.1.length, bb_i (vt_sel S).2.2, y_sp, y_labels, y_active, y_fuel, y_outcome, y_trappedAt, y_result, y_used, y_waits, y_printed, y_bytes, y_there, y_types, y_typeSig, y_imports, y_functions, y_sig, y_what, y_typeAt, y_localsAt, y_globals, y_globalKind, y_globalFree, y_globalValue, y_entries, y_entriesAt, y_hasMemory, y_memory, y_nest, KI, SH, GI, HE, DE, y_stack, y_labelAt, y_labelHeight, y_labelGives, y_callModule, y_callFunction, y_callBack, y_callBase, y_callLabels, y_waiting, y_prints)) : wpY_checkSelect post (y_count, y_place, y_m, y_pos, y_wrong, y_constant, y_least, nI S.1.length, nI S.2.1.length, bb_i S.2.2, y_sp, y_labels, y_active, y_fuel, y_outcome, y_trappedAt, y_result, y_used, y_waits, y_printed, y_bytes, y_there, y_types, y_typeSig, y_imports, y_functions, y_sig, y_what, y_typeAt, y_localsAt, y_globals, y_globalKind, y_globalFree, y_globalValue, y_entries, y_entriesAt, y_hasMemory, y_memory, y_nest, KI, SH, GI, HE, DE, y_stack, y_labelAt, y_labelHeight, y_labelGives, y_callModule, y_callFunction, y_callBack, y_callBase, y_callLabels, y_waiting, y_prints) := by
  unfold wpY_checkSelect
  refine y_pull 1 (by omega) hF R (fun R1 _ e1 => ?_)
  have hF1 : (vt_pl 1 S).2.1 ≠ [] := by rw [e1]; exact hF
  refine y_pull 0 (by omega) hF1 R1 (fun R2 k2 e2 => ?_)
  have hF2 : (vt_pl 0 (vt_pl 1 S)).2.1 ≠ [] := by rw [e2]; exact hF1
  refine y_pull (vt_px 0 (vt_pl 1 S)) k2 hF2 R2 (fun R3 k3 e3 => ?_)
  unfold vt_sel at h
  refine pk_eq (vt_px 0 (vt_pl 1 S)) 0 (fun z => ?_) (fun z => ?_)
  · rw [if_pos z] at h
    unfold wY_checkSelect_28
    exact y_give _ k3 R3 (fun KI SH GI HE DE a _ => h KI SH GI HE DE a)
  · rw [if_neg z] at h
    unfold wY_checkSelect_28
    exact y_give _ k2 R3 (fun KI SH GI HE DE a _ => h KI SH GI HE DE a)
end
end
section
/-! 21: the reference's validation: variables, memory, numbers, one instruction, a body -/
theorem vb_f (S : vt_St) : vt_bad S false = S := by
  show (S.1, S.2.1, S.2.2 || false) = S
  rw [Bool.or_false]
theorem vb_t (S : vt_St) : (vt_bad S true).2.2 = true := by
  show (S.2.2 || true) = true
  rw [Bool.or_true]
section
variable {y_count y_place y_m y_pos y_wrong y_least y_top y_frames y_invalid y_sp y_labels y_active y_fuel y_outcome y_trappedAt y_used y_waits y_printed : Int32} {y_constant y_result : Int64} {y_bytes y_there y_types y_typeSig y_imports y_functions y_sig y_what y_typeAt y_localsAt y_globals y_globalKind y_globalFree y_entries y_entriesAt y_hasMemory y_memory y_nest y_kinds y_shape y_gives y_height y_dead y_labelAt y_labelHeight y_labelGives y_callModule y_callFunction y_callBack y_callBase y_callLabels y_waiting y_prints : Nat → Int32} {y_globalValue y_stack : Nat → Int64}
variable {KI SH GI HE DE : Nat → Int32} {S : vt_St} {c : Nat → Nat} {n p : Nat}
/-- a fault is noted -/
theorem y_b {Q : Int32 → Prop} (b : Bool) (h : Q (bb_i (vt_bad S b).2.2)) : (b = true → Q 1) ∧ (b = false → Q (bb_i S.2.2)) := by
  constructor
  · intro e; subst e; rw [vb_t] at h; exact h
  · intro e; subst e; rw [vb_f] at h; exact h
theorem y_variable {post : Int32 → SY → Prop} (C : cy_ok y_count y_m y_bytes 2 c n) (mp : mp_ok c n) (W : yw_ok c n y_types y_typeSig y_functions y_sig y_localsAt y_globals y_globalKind y_globalFree y_hasMemory) (f v : Nat) (hf : m_I c n ≤ f) (hf2 : f < m_I c n + m_F c n) (ht : c (m_fa c n f) < c 0) (hv : v < 256) (R : YV S KI SH GI HE DE)
    (h : YV (vt_bad S (decide (vk c n f v = 0))) KI SH GI HE DE → vk c n f v ≤ 2 → post (nI (vk c n f v)) (y_count, y_place, y_m, y_pos, y_wrong, y_constant, y_least, nI (vt_bad S (decide (vk c n f v = 0))).1.length, nI (vt_bad S (decide (vk c n f v = 0))).2.1.length, bb_i (vt_bad S (decide (vk c n f v = 0))).2.2, y_sp, y_labels, y_active, y_fuel, y_outcome, y_trappedAt, y_result, y_used, y_waits, y_printed, y_bytes, y_there, y_types, y_typeSig, y_imports, y_functions, y_sig, y_what, y_typeAt, y_localsAt, y_globals, y_globalKind, y_globalFree, y_globalValue, y_entries, y_entriesAt, y_hasMemory, y_memory, y_nest, KI, SH, GI, HE, DE, y_stack, y_labelAt, y_labelHeight, y_labelGives, y_callModule, y_callFunction, y_callBack, y_callBase, y_callLabels, y_waiting, y_prints)) : wpY_variable post (y_count, y_place, y_m, y_pos, y_wrong, y_constant, y_least, nI S.1.length, nI S.2.1.length, bb_i S.2.2, y_sp, y_labels, y_active, y_fuel, y_outcome, y_trappedAt, y_result, y_used, y_waits, y_printed, y_bytes, y_there, y_types, y_typeSig, y_imports, y_functions, y_sig, y_what, y_typeAt, y_localsAt, y_globals, y_globalKind, y_globalFree, y_globalValue, y_entries, y_entriesAt, y_hasMemory, y_memory, y_nest, KI, SH, GI, HE, DE, y_stack, y_labelAt, y_labelHeight, y_labelGives, y_callModule, y_callFunction, y_callBack, y_callBase, y_callLabels, y_waiting, y_prints) (nI f) (nI v) := by
  obtain ⟨w1, w2, w3, w4, w5, w6, w7, w8⟩ := W
  obtain ⟨m1, m2, m3, m4, m5, m6, _⟩ := mp
  obtain ⟨hn, h140, hm, h3, hb, h256⟩ := id C
  obtain ⟨f1, f2, f3⟩ := m6 f hf hf2
  obtain ⟨t1, t2⟩ := m2 _ ht
  unfold m_bo at f3
  have hfa := m5 f hf2
  have hs := sg_lt t1
  obtain ⟨n1, n2, n3⟩ := sg_np t1
  have t0 := t1.1
  have e14 : (14 : Int32) + nI f = nI (14 + f) := nI_add 14 f
  have es : y_sig ((14 : Int32) + nI f).toNatClampNeg = nI (sg c (m_ty c n (c (m_fa c n f)))) := by
    rw [pk_cl (14 + f) e14, w4 f hf2, sg_i, if_pos ht]
  have el : y_localsAt ((14 : Int32) + nI f).toNatClampNeg = nI (m_fa c n f + 1) := by rw [pk_cl (14 + f) e14]; exact w5 f hf hf2
  have hin : vp_in ((14 : Int32) + nI f) 21 := pk_in (14 + f) 21 (by omega) e14
  have R' : ∀ b, YV (vt_bad S b) KI SH GI HE DE := fun _ => R
  refine ⟨hin, ?_⟩
  refine eq_p (P := fun z => wpY_params _ z) es ?_
  refine y_params hs ?_
  rw [n1]
  refine pk_le (c (m_ty c n (c (m_fa c n f)))) v (fun z => ⟨hin, ?_⟩) (fun z => ⟨hin, ?_⟩)
  · refine eq_p (P := fun z => wpY_at _ _ z) el ?_
    refine yr_at hm h3 (by omega) (hb _ (by omega)) ?_
    have e2 : nI v - nI (c (m_ty c n (c (m_fa c n f)))) = nI (v - c (m_ty c n (c (m_fa c n f)))) := pk_sub z
    refine pk_lt (v - c (m_ty c n (c (m_fa c n f)))) (c (m_fa c n f + 1)) (fun z2 => ⟨hin, ?_⟩) (fun z2 => ?_) e2 rfl
    · have hvk : vk c n f v = c (m_fa c n f + 2 + (v - c (m_ty c n (c (m_fa c n f))))) := by rw [vk, if_neg (by omega), if_pos z2]
      have kk := f2 _ z2
      have e3 : ((y_localsAt ((14 : Int32) + nI f).toNatClampNeg + 1) + nI v) - nI (c (m_ty c n (c (m_fa c n f)))) = nI (m_fa c n f + 2 + (v - c (m_ty c n (c (m_fa c n f))))) := by
        rw [el, nI_1, nI_add, pk_sub (by omega)]
        congr 1; omega
      refine eq_p (P := fun z => wpY_at _ _ z) e3 ?_
      refine yr_at hm h3 (by omega) (hb _ (by omega)) ?_
      rw [hvk, decide_eq_false (by omega), vb_f] at h
      exact h R (by omega)
    · have hvk : vk c n f v = 0 := by rw [vk, if_neg (by omega), if_neg (by omega)]
      rw [hvk, decide_eq_true rfl] at h
      have h' := h (R' true) (by omega)
      rw [vb_t] at h'
      exact h'
  · have hvk : vk c n f v = c (m_ty c n (c (m_fa c n f)) + 1 + v) := by rw [vk, if_pos z]
    have kk := t1.2.1 v z
    refine eq_p (P := fun z => wpY_param _ z _) es ?_
    refine y_param hs (by omega) ?_
    rw [n3 v z]
    rw [hvk, decide_eq_false (by omega), vb_f] at h
    exact h R (by omega)
theorem y_var {post : SY → Prop} (C : cy_ok y_count y_m y_bytes 2 c n) (mp : mp_ok c n) (W : yw_ok c n y_types y_typeSig y_functions y_sig y_localsAt y_globals y_globalKind y_globalFree y_hasMemory) (f op x : Nat) (hf : m_I c n ≤ f) (hf2 : f < m_I c n + m_F c n) (ht : c (m_fa c n f) < c 0) (hop : 15 ≤ op) (hop2 : op < 20) (hx : x < 256) (hb : S.2.2 = false) (hF : S.2.1 ≠ []) (R : YV S KI SH GI HE DE)
    (h : ∀ KI SH GI HE DE, YV (vt_var c n f op x S) KI SH GI HE DE → post (y_count, y_place, y_m, y_pos, y_wrong, y_constant, y_least, nI (vt_var c n f op x S).1.length, nI (vt_var c n f op x S).2.1.length, bb_i (vt_var c n f op x S).2.2, y_sp, y_labels, y_active, y_fuel, y_outcome, y_trappedAt, y_result, y_used, y_waits, y_printed, y_bytes, y_there, y_types, y_typeSig, y_imports, y_functions, y_sig, y_what, y_typeAt, y_localsAt, y_globals, y_globalKind, y_globalFree, y_globalValue, y_entries, y_entriesAt, y_hasMemory, y_memory, y_nest, KI, SH, GI, HE, DE, y_stack, y_labelAt, y_labelHeight, y_labelGives, y_callModule, y_callFunction, y_callBack, y_callBase, y_callLabels, y_waiting, y_prints)) : wpY_checkVariable post (y_count, y_place, y_m, y_pos, y_wrong, y_constant, y_least, nI S.1.length, nI S.2.1.length, bb_i S.2.2, y_sp, y_labels, y_active, y_fuel, y_outcome, y_trappedAt, y_result, y_used, y_waits, y_printed, y_bytes, y_there, y_types, y_typeSig, y_imports, y_functions, y_sig, y_what, y_typeAt, y_localsAt, y_globals, y_globalKind, y_globalFree, y_globalValue, y_entries, y_entriesAt, y_hasMemory, y_memory, y_nest, KI, SH, GI, HE, DE, y_stack, y_labelAt, y_labelHeight, y_labelGives, y_callModule, y_callFunction, y_callBack, y_callBase, y_callLabels, y_waiting, y_prints) (nI f) (nI op) (nI x) := by
  obtain ⟨w1, w2, w3, w4, w5, w6, w7, w8⟩ := id W
  obtain ⟨m1, m2, m3, m4, m5, m6, m7, m8, _⟩ := id mp
  have w122 : ∀ (k : Nat) (S1 : vt_St), k ≤ 2 → YV S1 KI SH GI HE DE → (∀ KI SH GI HE DE, YV (vt_gv k S1) KI SH GI HE DE → post (y_count, y_place, y_m, y_pos, y_wrong, y_constant, y_least, nI (vt_gv k S1).1.length, nI (vt_gv k S1).2.1.length, bb_i (vt_gv k S1).2.2, y_sp, y_labels, y_active, y_fuel, y_outcome, y_trappedAt, y_result, y_used, y_waits, y_printed, y_bytes, y_there, y_types, y_typeSig, y_imports, y_functions, y_sig, y_what, y_typeAt, y_localsAt, y_globals, y_globalKind, y_globalFree, y_globalValue, y_entries, y_entriesAt, y_hasMemory, y_memory, y_nest, KI, SH, GI, HE, DE, y_stack, y_labelAt, y_labelHeight, y_labelGives, y_callModule, y_callFunction, y_callBack, y_callBase, y_callLabels, y_waiting, y_prints)) → wY_checkVariable_122 post (nI k) y_count y_place y_m y_pos y_wrong y_constant y_least (nI S1.1.length) (nI S1.2.1.length) (bb_i S1.2.2) y_sp y_labels y_active y_fuel y_outcome y_trappedAt y_result y_used y_waits y_printed y_bytes y_there y_types y_typeSig y_imports y_functions y_sig y_what y_typeAt y_localsAt y_globals y_globalKind y_globalFree y_globalValue y_entries y_entriesAt y_hasMemory y_memory y_nest KI SH GI HE DE y_stack y_labelAt y_labelHeight y_labelGives y_callModule y_callFunction y_callBack y_callBase y_callLabels y_waiting y_prints := by
    intro k S1 hk R1 h1
    unfold wY_checkVariable_122
    exact y_give k hk R1 (fun KI SH GI HE DE a _ => h1 KI SH GI HE DE a)
  refine pk_le 18 op (fun z => ?_) (fun z => ?_)
  · have e6 : (6 : Int32) + nI x = nI (6 + x) := nI_add 6 x
    rw [vt_var, if_neg (by omega), if_neg (by omega), if_neg (by omega)] at h
    refine pk_lt x (c (m_pG c n)) (fun z2 => ⟨pk_in (6 + x) 9 (by omega) e6, nm_r (show y_globalKind ((6 : Int32) + nI x).toNatClampNeg = nI (c (m_ga c n x)) from by rw [pk_cl (6 + x) e6]; exact (w7 x z2).1) ?_⟩) (fun z2 => ?_) rfl w6
    · rw [if_pos z2] at h
      obtain ⟨g1, g2, g3, g4, g5⟩ := m8 x z2
      by_cases z3 : op = 19
      · subst z3
        rw [if_neg (by decide)] at h
        have eF : y_globalFree ((6 : Int32) + nI x).toNatClampNeg = nI (c (m_ga c n x + 1)) := by rw [pk_cl (6 + x) e6]; exact (w7 x z2).2
        have k79 : ∀ b, decide (c (m_ga c n x + 1) = 0) = b → ∀ iv, iv = bb_i (vt_bad S b).2.2 → wY_checkVariable_79 post (nI 19) (nI (c (m_ga c n x))) y_count y_place y_m y_pos y_wrong y_constant y_least (nI S.1.length) (nI S.2.1.length) iv y_sp y_labels y_active y_fuel y_outcome y_trappedAt y_result y_used y_waits y_printed y_bytes y_there y_types y_typeSig y_imports y_functions y_sig y_what y_typeAt y_localsAt y_globals y_globalKind y_globalFree y_globalValue y_entries y_entriesAt y_hasMemory y_memory y_nest KI SH GI HE DE y_stack y_labelAt y_labelHeight y_labelGives y_callModule y_callFunction y_callBack y_callBase y_callLabels y_waiting y_prints := by
          intro b eb iv eiv
          subst eiv
          rw [eb] at h
          refine br_f (by decide) (br_f (by decide) (br_t rfl ?_))
          unfold wY_checkVariable_97
          refine y_pull (S := vt_bad S b) (c (m_ga c n x)) g2 hF R (fun R1 _ e1 => ?_)
          exact br_f (by decide) (br_f (by decide) (br_f (by decide) (h _ _ _ _ _ R1)))
        refine br_t rfl (br_t (by rw [hb]; rfl) ⟨pk_in (6 + x) 9 (by omega) e6, ?_⟩)
        refine pk_eq (c (m_ga c n x + 1)) 0 (fun z4 => k79 true (decide_eq_true z4) _ (by rw [vb_t]; rfl)) (fun z4 => k79 false (decide_eq_false z4) _ (by rw [vb_f])) eF rfl
      · have z4 : op = 18 := by omega
        subst z4
        rw [if_pos rfl] at h
        refine br_f (by decide) (br_f (by decide) (br_f (by decide) (br_f (by decide) (br_f (by decide) (br_f (by decide) (br_t rfl ?_))))))
        exact w122 _ S g2 R h
    · rw [if_neg (by omega)] at h
      have e1 : (vt_bad S true).2.2 = true := vb_t S
      by_cases z3 : op = 19
      · subst z3
        rw [if_neg (by decide)] at h
        refine br_t rfl (br_f (by decide) (br_f (by decide) (br_f (by decide) (br_t rfl ?_))))
        unfold wY_checkVariable_97
        have := y_pull (S := vt_bad S true) (post := fun r u => wY_checkVariable_104 post (nI 19) 0 (gy_count u) (gy_place u) (gy_m u) (gy_pos u) (gy_wrong u) (gy_constant u) (gy_least u) (gy_top u) (gy_frames u) (gy_invalid u) (gy_sp u) (gy_labels u) (gy_active u) (gy_fuel u) (gy_outcome u) (gy_trappedAt u) (gy_result u) (gy_used u) (gy_waits u) (gy_printed u) (gy_bytes u) (gy_there u) (gy_types u) (gy_typeSig u) (gy_imports u) (gy_functions u) (gy_sig u) (gy_what u) (gy_typeAt u) (gy_localsAt u) (gy_globals u) (gy_globalKind u) (gy_globalFree u) (gy_globalValue u) (gy_entries u) (gy_entriesAt u) (gy_hasMemory u) (gy_memory u) (gy_nest u) (gy_kinds u) (gy_shape u) (gy_gives u) (gy_height u) (gy_dead u) (gy_stack u) (gy_labelAt u) (gy_labelHeight u) (gy_labelGives u) (gy_callModule u) (gy_callFunction u) (gy_callBack u) (gy_callBase u) (gy_callLabels u) (gy_waiting u) (gy_prints u)) (y_count := y_count) (y_place := y_place) 0 (by omega) hF R (fun R1 _ e2 => br_f (by decide) (br_f (by decide) (br_f (by decide) (h _ _ _ _ _ R1))))
        rw [e1] at this
        exact this
      · have z4 : op = 18 := by omega
        subst z4
        rw [if_pos rfl] at h
        refine br_f (by decide) (br_f (by decide) (br_f (by decide) (br_f (by decide) (br_f (by decide) (br_f (by decide) (br_t rfl ?_))))))
        have := w122 0 (vt_bad S true) (by omega) R h
        rw [e1] at this
        exact this
  · unfold wpY_checkVariable at *
    refine y_variable C mp W f x hf hf2 ht hx R (fun R1 hk => ?_)
    refine pk_eq op 19 (fun y => absurd y (by omega)) (fun _ => ?_)
    rw [vt_var] at h
    by_cases z15 : op = 15
    · subst z15
      rw [if_pos rfl] at h
      refine br_f (by decide) (br_f (by decide) (br_f (by decide) (br_t rfl ?_)))
      exact w122 _ _ hk R1 h
    · rw [if_neg z15] at h
      by_cases z16 : op = 16
      · subst z16
        rw [if_pos rfl] at h
        refine br_t rfl ?_
        unfold wY_checkVariable_97
        exact y_pull _ hk hF R1 (fun R2 _ _ => br_f (by decide) (br_f (by decide) (br_f (by decide) (h _ _ _ _ _ R2))))
      · have z17 : op = 17 := by omega
        subst z17
        rw [if_neg (by decide), if_pos rfl] at h
        refine br_f (by decide) (br_t rfl ?_)
        unfold wY_checkVariable_97
        refine y_pull _ hk hF R1 (fun R2 _ _ => br_f (by decide) (br_t rfl ?_))
        exact w122 _ _ hk R2 h
end
end
section
/-! 22: the reference's validation: memory, numbers, one instruction, a body -/
section
variable {y_count y_place y_m y_pos y_wrong y_least y_top y_frames y_invalid y_sp y_labels y_active y_fuel y_outcome y_trappedAt y_used y_waits y_printed : Int32} {y_constant y_result : Int64} {y_bytes y_there y_types y_typeSig y_imports y_functions y_sig y_what y_typeAt y_localsAt y_globals y_globalKind y_globalFree y_entries y_entriesAt y_hasMemory y_memory y_nest y_kinds y_shape y_gives y_height y_dead y_labelAt y_labelHeight y_labelGives y_callModule y_callFunction y_callBack y_callBase y_callLabels y_waiting y_prints : Nat → Int32} {y_globalValue y_stack : Nat → Int64}
variable {KI SH GI HE DE : Nat → Int32} {S : vt_St} {c : Nat → Nat} {n p : Nat}
theorem y_mem {post : SY → Prop} (mp : mp_ok c n) (W : yw_ok c n y_types y_typeSig y_functions y_sig y_localsAt y_globals y_globalKind y_globalFree y_hasMemory) (op : Nat) (hop : 20 ≤ op) (hop2 : op < 28) (hF : S.2.1 ≠ []) (R : YV S KI SH GI HE DE)
    (h : ∀ KI SH GI HE DE, YV (vt_mem c n op S) KI SH GI HE DE → post (y_count, y_place, y_m, y_pos, y_wrong, y_constant, y_least, nI (vt_mem c n op S).1.length, nI (vt_mem c n op S).2.1.length, bb_i (vt_mem c n op S).2.2, y_sp, y_labels, y_active, y_fuel, y_outcome, y_trappedAt, y_result, y_used, y_waits, y_printed, y_bytes, y_there, y_types, y_typeSig, y_imports, y_functions, y_sig, y_what, y_typeAt, y_localsAt, y_globals, y_globalKind, y_globalFree, y_globalValue, y_entries, y_entriesAt, y_hasMemory, y_memory, y_nest, KI, SH, GI, HE, DE, y_stack, y_labelAt, y_labelHeight, y_labelGives, y_callModule, y_callFunction, y_callBack, y_callBase, y_callLabels, y_waiting, y_prints)) : wpY_checkMemory post (y_count, y_place, y_m, y_pos, y_wrong, y_constant, y_least, nI S.1.length, nI S.2.1.length, bb_i S.2.2, y_sp, y_labels, y_active, y_fuel, y_outcome, y_trappedAt, y_result, y_used, y_waits, y_printed, y_bytes, y_there, y_types, y_typeSig, y_imports, y_functions, y_sig, y_what, y_typeAt, y_localsAt, y_globals, y_globalKind, y_globalFree, y_globalValue, y_entries, y_entriesAt, y_hasMemory, y_memory, y_nest, KI, SH, GI, HE, DE, y_stack, y_labelAt, y_labelHeight, y_labelGives, y_callModule, y_callFunction, y_callBack, y_callBase, y_callLabels, y_waiting, y_prints) (nI op) := by
  obtain ⟨w1, w2, w3, w4, w5, w6, w7, w8⟩ := id W
  have hm1 : c (tl_m c n (m_pG c n)) ≤ 1 := mp.2.2.2.2.2.2.2.2.2.1
  refine pk_le 22 op (fun z => ?_) (fun z => ?_)
  · rw [vt_mem, if_neg (by omega)] at h
    have w51 : ∀ S1 : vt_St, S1.2.1 ≠ [] → YV S1 KI SH GI HE DE → (op < 25 → ∀ KI SH GI HE DE, YV (vt_gv (if op = 24 then 2 else 1) (vt_pl 1 S1)) KI SH GI HE DE → post (y_count, y_place, y_m, y_pos, y_wrong, y_constant, y_least, nI (vt_gv (if op = 24 then 2 else 1) (vt_pl 1 S1)).1.length, nI (vt_gv (if op = 24 then 2 else 1) (vt_pl 1 S1)).2.1.length, bb_i (vt_gv (if op = 24 then 2 else 1) (vt_pl 1 S1)).2.2, y_sp, y_labels, y_active, y_fuel, y_outcome, y_trappedAt, y_result, y_used, y_waits, y_printed, y_bytes, y_there, y_types, y_typeSig, y_imports, y_functions, y_sig, y_what, y_typeAt, y_localsAt, y_globals, y_globalKind, y_globalFree, y_globalValue, y_entries, y_entriesAt, y_hasMemory, y_memory, y_nest, KI, SH, GI, HE, DE, y_stack, y_labelAt, y_labelHeight, y_labelGives, y_callModule, y_callFunction, y_callBack, y_callBase, y_callLabels, y_waiting, y_prints)) → (25 ≤ op → ∀ KI SH GI HE DE, YV (vt_pl 1 S1) KI SH GI HE DE → post (y_count, y_place, y_m, y_pos, y_wrong, y_constant, y_least, nI (vt_pl 1 S1).1.length, nI (vt_pl 1 S1).2.1.length, bb_i (vt_pl 1 S1).2.2, y_sp, y_labels, y_active, y_fuel, y_outcome, y_trappedAt, y_result, y_used, y_waits, y_printed, y_bytes, y_there, y_types, y_typeSig, y_imports, y_functions, y_sig, y_what, y_typeAt, y_localsAt, y_globals, y_globalKind, y_globalFree, y_globalValue, y_entries, y_entriesAt, y_hasMemory, y_memory, y_nest, KI, SH, GI, HE, DE, y_stack, y_labelAt, y_labelHeight, y_labelGives, y_callModule, y_callFunction, y_callBack, y_callBase, y_callLabels, y_waiting, y_prints)) → wY_checkMemory_51 post (nI op) y_count y_place y_m y_pos y_wrong y_constant y_least (nI S1.1.length) (nI S1.2.1.length) (bb_i S1.2.2) y_sp y_labels y_active y_fuel y_outcome y_trappedAt y_result y_used y_waits y_printed y_bytes y_there y_types y_typeSig y_imports y_functions y_sig y_what y_typeAt y_localsAt y_globals y_globalKind y_globalFree y_globalValue y_entries y_entriesAt y_hasMemory y_memory y_nest KI SH GI HE DE y_stack y_labelAt y_labelHeight y_labelGives y_callModule y_callFunction y_callBack y_callBase y_callLabels y_waiting y_prints := by
      intro S1 hF1 R1 h1 h2
      unfold wY_checkMemory_51
      refine y_pull 1 (by omega) hF1 R1 (fun R2 _ _ => pk_le 25 op (fun z => h2 z _ _ _ _ _ R2) (fun z => pk_eq op 24 (fun z2 => ?_) (fun z2 => ?_)))
      · have h1' := h1 z
        rw [if_pos z2] at h1'
        unfold wY_checkMemory_75
        exact y_give 2 (by omega) R2 (fun KI SH GI HE DE a _ => h1' KI SH GI HE DE a)
      · have h1' := h1 z
        rw [if_neg z2] at h1'
        unfold wY_checkMemory_75
        exact y_give 1 (by omega) R2 (fun KI SH GI HE DE a _ => h1' KI SH GI HE DE a)
    have w29 : ∀ b, decide (c (tl_m c n (m_pG c n)) = 0) = b → ∀ iv, iv = bb_i (vt_bad S b).2.2 → wY_checkMemory_29 post (nI op) y_count y_place y_m y_pos y_wrong y_constant y_least (nI S.1.length) (nI S.2.1.length) iv y_sp y_labels y_active y_fuel y_outcome y_trappedAt y_result y_used y_waits y_printed y_bytes y_there y_types y_typeSig y_imports y_functions y_sig y_what y_typeAt y_localsAt y_globals y_globalKind y_globalFree y_globalValue y_entries y_entriesAt y_hasMemory y_memory y_nest KI SH GI HE DE y_stack y_labelAt y_labelHeight y_labelGives y_callModule y_callFunction y_callBack y_callBase y_callLabels y_waiting y_prints := by
      intro b eb iv eiv
      subst eiv
      rw [eb] at h
      have w47 : ∀ k, k ≤ 2 → 25 ≤ op → (if op = 27 then 2 else 1) = k → wY_checkMemory_47 post (nI op) (nI k) y_count y_place y_m y_pos y_wrong y_constant y_least (nI (vt_bad S b).1.length) (nI (vt_bad S b).2.1.length) (bb_i (vt_bad S b).2.2) y_sp y_labels y_active y_fuel y_outcome y_trappedAt y_result y_used y_waits y_printed y_bytes y_there y_types y_typeSig y_imports y_functions y_sig y_what y_typeAt y_localsAt y_globals y_globalKind y_globalFree y_globalValue y_entries y_entriesAt y_hasMemory y_memory y_nest KI SH GI HE DE y_stack y_labelAt y_labelHeight y_labelGives y_callModule y_callFunction y_callBack y_callBase y_callLabels y_waiting y_prints := by
        intro k hk ho ek
        rw [if_neg (by omega), ek] at h
        unfold wY_checkMemory_47
        refine y_pull (S := vt_bad S b) k hk hF R (fun R1 _ e1 => ?_)
        exact w51 _ (by rw [e1]; exact hF) R1 (fun y => absurd y (by omega)) (fun _ => h)
      refine pk_lt op 25 (fun y => ?_) (fun y => pk_eq op 27 (fun y2 => w47 2 (by omega) y (if_pos y2)) (fun y2 => w47 1 (by omega) y (if_neg y2)))
      rw [if_pos y] at h
      exact w51 (vt_bad S b) hF R (fun _ => h) (fun y2 => absurd y2 (by omega))
    exact pk_eq (c (tl_m c n (m_pG c n))) 0 (fun z2 => w29 true (decide_eq_true z2) _ (by rw [vb_t]; rfl)) (fun z2 => w29 false (decide_eq_false z2) _ (by rw [vb_f])) w8 rfl
  · rw [vt_mem, if_pos (by omega)] at h
    have e : nI op - 19 = nI (op - 19) := pk_sub (b := 19) (by omega)
    refine eq_p (P := fun z => wpY_give _ _ z) e ?_
    exact y_give (op - 19) (by omega) R (fun KI SH GI HE DE a _ => h KI SH GI HE DE a)
theorem y_num {post : SY → Prop} (op : Nat) (hop : 28 ≤ op) (hop2 : op ≤ 66) (hF : S.2.1 ≠ []) (R : YV S KI SH GI HE DE)
    (h : ∀ KI SH GI HE DE, YV (vt_num op S) KI SH GI HE DE → post (y_count, y_place, y_m, y_pos, y_wrong, y_constant, y_least, nI (vt_num op S).1.length, nI (vt_num op S).2.1.length, bb_i (vt_num op S).2.2, y_sp, y_labels, y_active, y_fuel, y_outcome, y_trappedAt, y_result, y_used, y_waits, y_printed, y_bytes, y_there, y_types, y_typeSig, y_imports, y_functions, y_sig, y_what, y_typeAt, y_localsAt, y_globals, y_globalKind, y_globalFree, y_globalValue, y_entries, y_entriesAt, y_hasMemory, y_memory, y_nest, KI, SH, GI, HE, DE, y_stack, y_labelAt, y_labelHeight, y_labelGives, y_callModule, y_callFunction, y_callBack, y_callBase, y_callLabels, y_waiting, y_prints)) : wpY_checkNumbers post (y_count, y_place, y_m, y_pos, y_wrong, y_constant, y_least, nI S.1.length, nI S.2.1.length, bb_i S.2.2, y_sp, y_labels, y_active, y_fuel, y_outcome, y_trappedAt, y_result, y_used, y_waits, y_printed, y_bytes, y_there, y_types, y_typeSig, y_imports, y_functions, y_sig, y_what, y_typeAt, y_localsAt, y_globals, y_globalKind, y_globalFree, y_globalValue, y_entries, y_entriesAt, y_hasMemory, y_memory, y_nest, KI, SH, GI, HE, DE, y_stack, y_labelAt, y_labelHeight, y_labelGives, y_callModule, y_callFunction, y_callBack, y_callBase, y_callLabels, y_waiting, y_prints) (nI op) := by
  have w90 : ∀ (k : Nat) (S1 : vt_St), k ≤ 2 → YV S1 KI SH GI HE DE → (∀ KI SH GI HE DE, YV (vt_gv k S1) KI SH GI HE DE → post (y_count, y_place, y_m, y_pos, y_wrong, y_constant, y_least, nI (vt_gv k S1).1.length, nI (vt_gv k S1).2.1.length, bb_i (vt_gv k S1).2.2, y_sp, y_labels, y_active, y_fuel, y_outcome, y_trappedAt, y_result, y_used, y_waits, y_printed, y_bytes, y_there, y_types, y_typeSig, y_imports, y_functions, y_sig, y_what, y_typeAt, y_localsAt, y_globals, y_globalKind, y_globalFree, y_globalValue, y_entries, y_entriesAt, y_hasMemory, y_memory, y_nest, KI, SH, GI, HE, DE, y_stack, y_labelAt, y_labelHeight, y_labelGives, y_callModule, y_callFunction, y_callBack, y_callBase, y_callLabels, y_waiting, y_prints)) → wY_checkNumbers_90 post (nI k) y_count y_place y_m y_pos y_wrong y_constant y_least (nI S1.1.length) (nI S1.2.1.length) (bb_i S1.2.2) y_sp y_labels y_active y_fuel y_outcome y_trappedAt y_result y_used y_waits y_printed y_bytes y_there y_types y_typeSig y_imports y_functions y_sig y_what y_typeAt y_localsAt y_globals y_globalKind y_globalFree y_globalValue y_entries y_entriesAt y_hasMemory y_memory y_nest KI SH GI HE DE y_stack y_labelAt y_labelHeight y_labelGives y_callModule y_callFunction y_callBack y_callBase y_callLabels y_waiting y_prints := by
    intro k S1 hk R1 h1
    unfold wY_checkNumbers_90
    exact y_give k hk R1 (fun KI SH GI HE DE a _ => h1 KI SH GI HE DE a)
  have w58 : ∀ S1 : vt_St, YV S1 KI SH GI HE DE → (∀ KI SH GI HE DE, YV (vt_gv (if op < 52 then 1 else if op < 64 then 2 else if op = 64 then 1 else 2) S1) KI SH GI HE DE → post (y_count, y_place, y_m, y_pos, y_wrong, y_constant, y_least, nI (vt_gv (if op < 52 then 1 else if op < 64 then 2 else if op = 64 then 1 else 2) S1).1.length, nI (vt_gv (if op < 52 then 1 else if op < 64 then 2 else if op = 64 then 1 else 2) S1).2.1.length, bb_i (vt_gv (if op < 52 then 1 else if op < 64 then 2 else if op = 64 then 1 else 2) S1).2.2, y_sp, y_labels, y_active, y_fuel, y_outcome, y_trappedAt, y_result, y_used, y_waits, y_printed, y_bytes, y_there, y_types, y_typeSig, y_imports, y_functions, y_sig, y_what, y_typeAt, y_localsAt, y_globals, y_globalKind, y_globalFree, y_globalValue, y_entries, y_entriesAt, y_hasMemory, y_memory, y_nest, KI, SH, GI, HE, DE, y_stack, y_labelAt, y_labelHeight, y_labelGives, y_callModule, y_callFunction, y_callBack, y_callBase, y_callLabels, y_waiting, y_prints)) → wY_checkNumbers_58 post (nI op) y_count y_place y_m y_pos y_wrong y_constant y_least (nI S1.1.length) (nI S1.2.1.length) (bb_i S1.2.2) y_sp y_labels y_active y_fuel y_outcome y_trappedAt y_result y_used y_waits y_printed y_bytes y_there y_types y_typeSig y_imports y_functions y_sig y_what y_typeAt y_localsAt y_globals y_globalKind y_globalFree y_globalValue y_entries y_entriesAt y_hasMemory y_memory y_nest KI SH GI HE DE y_stack y_labelAt y_labelHeight y_labelGives y_callModule y_callFunction y_callBack y_callBase y_callLabels y_waiting y_prints := by
    intro S1 R1 h1
    refine pk_le 52 op (fun z => pk_le 64 op (fun z2 => pk_eq op 64 (fun z3 => ?_) (fun z3 => ?_)) (fun z2 => ?_)) (fun z => ?_)
    · rw [if_neg (by omega), if_neg (by omega), if_pos z3] at h1; exact w90 1 S1 (by omega) R1 h1
    · rw [if_neg (by omega), if_neg (by omega), if_neg z3] at h1; exact w90 2 S1 (by omega) R1 h1
    · rw [if_neg (by omega), if_pos z2] at h1; exact w90 2 S1 (by omega) R1 h1
    · rw [if_pos z] at h1; exact w90 1 S1 (by omega) R1 h1
  rw [vt_num] at h
  have w36 : ∀ k, (if 46 ≤ op ∧ op ≤ 64 then 2 else 1) = k → k ≤ 2 → (op = 28 ∨ op = 46 ∨ 64 ≤ op) → wY_checkNumbers_36 post (nI op) (nI k) y_count y_place y_m y_pos y_wrong y_constant y_least (nI S.1.length) (nI S.2.1.length) (bb_i S.2.2) y_sp y_labels y_active y_fuel y_outcome y_trappedAt y_result y_used y_waits y_printed y_bytes y_there y_types y_typeSig y_imports y_functions y_sig y_what y_typeAt y_localsAt y_globals y_globalKind y_globalFree y_globalValue y_entries y_entriesAt y_hasMemory y_memory y_nest KI SH GI HE DE y_stack y_labelAt y_labelHeight y_labelGives y_callModule y_callFunction y_callBack y_callBase y_callLabels y_waiting y_prints := by
    intro k ek hk ho
    rw [if_pos ho, ek] at h
    unfold wY_checkNumbers_36 wY_checkNumbers_41
    exact y_pull k hk hF R (fun R1 _ _ => br_f (by decide) (w58 _ R1 h))
  have w17 : ∀ k, (if 46 ≤ op ∧ op ≤ 64 then 2 else 1) = k → k ≤ 2 → wY_checkNumbers_17 post (nI op) (nI k) y_count y_place y_m y_pos y_wrong y_constant y_least (nI S.1.length) (nI S.2.1.length) (bb_i S.2.2) y_sp y_labels y_active y_fuel y_outcome y_trappedAt y_result y_used y_waits y_printed y_bytes y_there y_types y_typeSig y_imports y_functions y_sig y_what y_typeAt y_localsAt y_globals y_globalKind y_globalFree y_globalValue y_entries y_entriesAt y_hasMemory y_memory y_nest KI SH GI HE DE y_stack y_labelAt y_labelHeight y_labelGives y_callModule y_callFunction y_callBack y_callBase y_callLabels y_waiting y_prints := by
    intro k ek hk
    refine pk_eq op 28 (fun z => w36 k ek hk (by omega)) (fun z => pk_eq op 46 (fun z2 => w36 k ek hk (by omega)) (fun z2 => pk_lt op 64 (fun z3 => ?_) (fun z3 => w36 k ek hk (by omega))))
    rw [if_neg (show ¬ (op = 28 ∨ op = 46 ∨ 64 ≤ op) by omega), ek] at h
    unfold wY_checkNumbers_41
    refine y_pull k hk hF R (fun R1 _ e1 => br_t rfl ?_)
    exact y_pull k hk (by rw [e1]; exact hF) R1 (fun R2 _ _ => w58 _ R2 h)
  exact pk_lt op 46 (fun z => w17 1 (if_neg (by omega)) (by omega)) (fun z => pk_lt 64 op (fun z2 => w17 1 (if_neg (by omega)) (by omega)) (fun z2 => w17 2 (if_pos (by omega)) (by omega)))
theorem y_check {post : SY → Prop} (C : cy_ok y_count y_m y_bytes 2 c n) (mp : mp_ok c n) (W : yw_ok c n y_types y_typeSig y_functions y_sig y_localsAt y_globals y_globalKind y_globalFree y_hasMemory) (f x : Nat) (hf : m_I c n ≤ f) (hf2 : f < m_I c n + m_F c n) (ht : c (m_fa c n f) < c 0)
    (h66 : c p ≤ 66) (hxo : rd_ho (c p) → x = c (p + 1)) (hx : x < 256) (h24 : 2 ≤ c p ∧ c p ≤ 4 → c (p + 1) ≤ 2) (h9 : c p = 9 → c (p + 1) ≤ 4 ∧ p + 1 + c (p + 1) + 1 < n) (hb : S.2.2 = false) (hF : S.2.1 ≠ []) (R : YV S KI SH GI HE DE)
    (h : ∀ KI SH GI HE DE, YV (v_st c n f p S) KI SH GI HE DE → post (y_count, y_place, y_m, y_pos, y_wrong, y_constant, y_least, nI (v_st c n f p S).1.length, nI (v_st c n f p S).2.1.length, bb_i (v_st c n f p S).2.2, y_sp, y_labels, y_active, y_fuel, y_outcome, y_trappedAt, y_result, y_used, y_waits, y_printed, y_bytes, y_there, y_types, y_typeSig, y_imports, y_functions, y_sig, y_what, y_typeAt, y_localsAt, y_globals, y_globalKind, y_globalFree, y_globalValue, y_entries, y_entriesAt, y_hasMemory, y_memory, y_nest, KI, SH, GI, HE, DE, y_stack, y_labelAt, y_labelHeight, y_labelGives, y_callModule, y_callFunction, y_callBack, y_callBase, y_callLabels, y_waiting, y_prints)) : wpY_check post (y_count, y_place, y_m, y_pos, y_wrong, y_constant, y_least, nI S.1.length, nI S.2.1.length, bb_i S.2.2, y_sp, y_labels, y_active, y_fuel, y_outcome, y_trappedAt, y_result, y_used, y_waits, y_printed, y_bytes, y_there, y_types, y_typeSig, y_imports, y_functions, y_sig, y_what, y_typeAt, y_localsAt, y_globals, y_globalKind, y_globalFree, y_globalValue, y_entries, y_entriesAt, y_hasMemory, y_memory, y_nest, KI, SH, GI, HE, DE, y_stack, y_labelAt, y_labelHeight, y_labelGives, y_callModule, y_callFunction, y_callBack, y_callBase, y_callLabels, y_waiting, y_prints) (nI f) (nI (c p)) (nI x) (nI p) := by
  have h31 : c p < 2 ^ 31 := by omega
  have h256 := C.2.2.2.2.2
  unfold v_st at h
  have k0 : c p = 0 → wpY_die (fun u => post u) (y_count, y_place, y_m, y_pos, y_wrong, y_constant, y_least, nI S.1.length, nI S.2.1.length, bb_i S.2.2, y_sp, y_labels, y_active, y_fuel, y_outcome, y_trappedAt, y_result, y_used, y_waits, y_printed, y_bytes, y_there, y_types, y_typeSig, y_imports, y_functions, y_sig, y_what, y_typeAt, y_localsAt, y_globals, y_globalKind, y_globalFree, y_globalValue, y_entries, y_entriesAt, y_hasMemory, y_memory, y_nest, KI, SH, GI, HE, DE, y_stack, y_labelAt, y_labelHeight, y_labelGives, y_callModule, y_callFunction, y_callBack, y_callBase, y_callLabels, y_waiting, y_prints) := by
    intro z; rw [if_pos z] at h; exact y_die hF R h
  have k1 : c p = 1 → post (y_count, y_place, y_m, y_pos, y_wrong, y_constant, y_least, nI S.1.length, nI S.2.1.length, bb_i S.2.2, y_sp, y_labels, y_active, y_fuel, y_outcome, y_trappedAt, y_result, y_used, y_waits, y_printed, y_bytes, y_there, y_types, y_typeSig, y_imports, y_functions, y_sig, y_what, y_typeAt, y_localsAt, y_globals, y_globalKind, y_globalFree, y_globalValue, y_entries, y_entriesAt, y_hasMemory, y_memory, y_nest, KI, SH, GI, HE, DE, y_stack, y_labelAt, y_labelHeight, y_labelGives, y_callModule, y_callFunction, y_callBack, y_callBase, y_callLabels, y_waiting, y_prints) := by
    intro z; rw [if_neg (by omega), if_pos z] at h; exact h _ _ _ _ _ R
  have k23 : c p = 2 ∨ c p = 3 → wY_check_82 post (nI (c p)) (nI x) y_count y_place y_m y_pos y_wrong y_constant y_least (nI S.1.length) (nI S.2.1.length) (bb_i S.2.2) y_sp y_labels y_active y_fuel y_outcome y_trappedAt y_result y_used y_waits y_printed y_bytes y_there y_types y_typeSig y_imports y_functions y_sig y_what y_typeAt y_localsAt y_globals y_globalKind y_globalFree y_globalValue y_entries y_entriesAt y_hasMemory y_memory y_nest KI SH GI HE DE y_stack y_labelAt y_labelHeight y_labelGives y_callModule y_callFunction y_callBack y_callBase y_callLabels y_waiting y_prints := by
    intro z
    rw [if_neg (by omega), if_neg (by omega), if_pos z] at h
    rw [hxo (by omega)]
    unfold wY_check_82
    exact y_open (c p) (c p) (c (p + 1)) p (by unfold y_sh; rw [if_neg (by omega)]) (by omega) (h24 (by omega)) R h
  have k4 : c p = 4 → wpY_pull (fun r u => wpY_open (fun u => post u) u (nI (c p)) (nI x)) (y_count, y_place, y_m, y_pos, y_wrong, y_constant, y_least, nI S.1.length, nI S.2.1.length, bb_i S.2.2, y_sp, y_labels, y_active, y_fuel, y_outcome, y_trappedAt, y_result, y_used, y_waits, y_printed, y_bytes, y_there, y_types, y_typeSig, y_imports, y_functions, y_sig, y_what, y_typeAt, y_localsAt, y_globals, y_globalKind, y_globalFree, y_globalValue, y_entries, y_entriesAt, y_hasMemory, y_memory, y_nest, KI, SH, GI, HE, DE, y_stack, y_labelAt, y_labelHeight, y_labelGives, y_callModule, y_callFunction, y_callBack, y_callBase, y_callLabels, y_waiting, y_prints) 1 := by
    intro z
    rw [if_neg (by omega), if_neg (by omega), if_neg (by omega), if_pos z] at h
    rw [hxo (by omega)]
    refine y_pull 1 (by omega) hF R (fun R1 _ _ => ?_)
    exact y_open 4 (c p) (c (p + 1)) p (by rw [z]; rfl) (by omega) (h24 (by omega)) R1 h
  have k56 : c p = 5 ∨ c p = 6 → wY_check_102 post (nI (c p)) y_count y_place y_m y_pos y_wrong y_constant y_least (nI S.1.length) (nI S.2.1.length) (bb_i S.2.2) y_sp y_labels y_active y_fuel y_outcome y_trappedAt y_result y_used y_waits y_printed y_bytes y_there y_types y_typeSig y_imports y_functions y_sig y_what y_typeAt y_localsAt y_globals y_globalKind y_globalFree y_globalValue y_entries y_entriesAt y_hasMemory y_memory y_nest KI SH GI HE DE y_stack y_labelAt y_labelHeight y_labelGives y_callModule y_callFunction y_callBack y_callBase y_callLabels y_waiting y_prints := by
    intro z
    rw [if_neg (by omega), if_neg (by omega), if_neg (by omega), if_neg (by omega), if_pos z] at h
    unfold wY_check_102
    exact y_close (c p) z hF R h
  have k7 : c p = 7 → wpY_wants (fun r u => wpY_pullResult (fun u => wpY_die (fun u => post u) u) u r) (y_count, y_place, y_m, y_pos, y_wrong, y_constant, y_least, nI S.1.length, nI S.2.1.length, bb_i S.2.2, y_sp, y_labels, y_active, y_fuel, y_outcome, y_trappedAt, y_result, y_used, y_waits, y_printed, y_bytes, y_there, y_types, y_typeSig, y_imports, y_functions, y_sig, y_what, y_typeAt, y_localsAt, y_globals, y_globalKind, y_globalFree, y_globalValue, y_entries, y_entriesAt, y_hasMemory, y_memory, y_nest, KI, SH, GI, HE, DE, y_stack, y_labelAt, y_labelHeight, y_labelGives, y_callModule, y_callFunction, y_callBack, y_callBase, y_callLabels, y_waiting, y_prints) (nI x) := by
    intro z
    rw [if_neg (by omega), if_neg (by omega), if_neg (by omega), if_neg (by omega), if_neg (by omega), if_pos z] at h
    rw [hxo (by omega)]
    refine y_wants _ (h256 _) hF R (fun R1 hw => ?_)
    refine y_pullResult _ hw hF R1 (fun R2 e2 => ?_)
    exact y_die (by rw [e2]; exact hF) R2 h
  have k8 : c p = 8 → wpY_pull (fun r u => wpY_wants (fun r u => wpY_pullResult (fun u => wpY_giveResult (fun u => post u) u r) u r) u (nI x)) (y_count, y_place, y_m, y_pos, y_wrong, y_constant, y_least, nI S.1.length, nI S.2.1.length, bb_i S.2.2, y_sp, y_labels, y_active, y_fuel, y_outcome, y_trappedAt, y_result, y_used, y_waits, y_printed, y_bytes, y_there, y_types, y_typeSig, y_imports, y_functions, y_sig, y_what, y_typeAt, y_localsAt, y_globals, y_globalKind, y_globalFree, y_globalValue, y_entries, y_entriesAt, y_hasMemory, y_memory, y_nest, KI, SH, GI, HE, DE, y_stack, y_labelAt, y_labelHeight, y_labelGives, y_callModule, y_callFunction, y_callBack, y_callBase, y_callLabels, y_waiting, y_prints) 1 := by
    intro z
    rw [if_neg (by omega), if_neg (by omega), if_neg (by omega), if_neg (by omega), if_neg (by omega), if_neg (by omega), if_pos z] at h
    rw [hxo (by omega)]
    refine y_pull 1 (by omega) hF R (fun R1 _ e1 => ?_)
    have hF1 : (vt_pl 1 S).2.1 ≠ [] := by rw [e1]; exact hF
    refine y_wants _ (h256 _) hF1 R1 (fun R2 hw => ?_)
    refine y_pullResult _ hw hF1 R2 (fun R3 e3 => ?_)
    exact y_giveResult _ hw R3 (fun KI SH GI HE DE a _ => h KI SH GI HE DE a)
  have k9 : c p = 9 → wpY_branchTable (fun u => post u) (y_count, y_place, y_m, y_pos, y_wrong, y_constant, y_least, nI S.1.length, nI S.2.1.length, bb_i S.2.2, y_sp, y_labels, y_active, y_fuel, y_outcome, y_trappedAt, y_result, y_used, y_waits, y_printed, y_bytes, y_there, y_types, y_typeSig, y_imports, y_functions, y_sig, y_what, y_typeAt, y_localsAt, y_globals, y_globalKind, y_globalFree, y_globalValue, y_entries, y_entriesAt, y_hasMemory, y_memory, y_nest, KI, SH, GI, HE, DE, y_stack, y_labelAt, y_labelHeight, y_labelGives, y_callModule, y_callFunction, y_callBack, y_callBase, y_callLabels, y_waiting, y_prints) (nI p + 1) := by
    intro z
    rw [if_neg (by omega), if_neg (by omega), if_neg (by omega), if_neg (by omega), if_neg (by omega), if_neg (by omega), if_neg (by omega), if_pos z] at h
    rw [nI_1]
    exact y_table C (h9 z).1 (h9 z).2 hF R h
  have k10 : c p = 10 → wpY_pullResult (fun u => wpY_die (fun u => post u) u) (y_count, y_place, y_m, y_pos, y_wrong, y_constant, y_least, nI S.1.length, nI S.2.1.length, bb_i S.2.2, y_sp, y_labels, y_active, y_fuel, y_outcome, y_trappedAt, y_result, y_used, y_waits, y_printed, y_bytes, y_there, y_types, y_typeSig, y_imports, y_functions, y_sig, y_what, y_typeAt, y_localsAt, y_globals, y_globalKind, y_globalFree, y_globalValue, y_entries, y_entriesAt, y_hasMemory, y_memory, y_nest, KI, SH, GI, HE, DE, y_stack, y_labelAt, y_labelHeight, y_labelGives, y_callModule, y_callFunction, y_callBack, y_callBase, y_callLabels, y_waiting, y_prints) (GI 0) := by
    intro z
    rw [if_neg (by omega), if_neg (by omega), if_neg (by omega), if_neg (by omega), if_neg (by omega), if_neg (by omega), if_neg (by omega), if_neg (by omega), if_pos z] at h
    rw [yv_bot _ hF R.2.1]
    refine y_pullResult _ (sn_bot _ _ R.2.2.2.2.2) hF R (fun R1 e1 => ?_)
    exact y_die (by rw [e1]; exact hF) R1 h
  have k11 : c p = 11 ∨ c p = 12 → wY_check_176 post (nI (c p)) (nI x) y_count y_place y_m y_pos y_wrong y_constant y_least (nI S.1.length) (nI S.2.1.length) (bb_i S.2.2) y_sp y_labels y_active y_fuel y_outcome y_trappedAt y_result y_used y_waits y_printed y_bytes y_there y_types y_typeSig y_imports y_functions y_sig y_what y_typeAt y_localsAt y_globals y_globalKind y_globalFree y_globalValue y_entries y_entriesAt y_hasMemory y_memory y_nest KI SH GI HE DE y_stack y_labelAt y_labelHeight y_labelGives y_callModule y_callFunction y_callBack y_callBase y_callLabels y_waiting y_prints := by
    intro z
    rw [if_neg (by omega), if_neg (by omega), if_neg (by omega), if_neg (by omega), if_neg (by omega), if_neg (by omega), if_neg (by omega), if_neg (by omega), if_neg (by omega), if_pos z] at h
    rw [hxo (by omega)]
    unfold wY_check_176
    exact y_call mp W (c p) _ z (h256 _) hF R h
  have k13 : c p = 13 → wpY_pull (fun r u => post u) (y_count, y_place, y_m, y_pos, y_wrong, y_constant, y_least, nI S.1.length, nI S.2.1.length, bb_i S.2.2, y_sp, y_labels, y_active, y_fuel, y_outcome, y_trappedAt, y_result, y_used, y_waits, y_printed, y_bytes, y_there, y_types, y_typeSig, y_imports, y_functions, y_sig, y_what, y_typeAt, y_localsAt, y_globals, y_globalKind, y_globalFree, y_globalValue, y_entries, y_entriesAt, y_hasMemory, y_memory, y_nest, KI, SH, GI, HE, DE, y_stack, y_labelAt, y_labelHeight, y_labelGives, y_callModule, y_callFunction, y_callBack, y_callBase, y_callLabels, y_waiting, y_prints) 0 := by
    intro z
    rw [if_neg (by omega), if_neg (by omega), if_neg (by omega), if_neg (by omega), if_neg (by omega), if_neg (by omega), if_neg (by omega), if_neg (by omega), if_neg (by omega), if_neg (by omega), if_pos z] at h
    exact y_pull 0 (by omega) hF R (fun R1 _ _ => h _ _ _ _ _ R1)
  have k14 : c p = 14 → wpY_checkSelect (fun u => post u) (y_count, y_place, y_m, y_pos, y_wrong, y_constant, y_least, nI S.1.length, nI S.2.1.length, bb_i S.2.2, y_sp, y_labels, y_active, y_fuel, y_outcome, y_trappedAt, y_result, y_used, y_waits, y_printed, y_bytes, y_there, y_types, y_typeSig, y_imports, y_functions, y_sig, y_what, y_typeAt, y_localsAt, y_globals, y_globalKind, y_globalFree, y_globalValue, y_entries, y_entriesAt, y_hasMemory, y_memory, y_nest, KI, SH, GI, HE, DE, y_stack, y_labelAt, y_labelHeight, y_labelGives, y_callModule, y_callFunction, y_callBack, y_callBase, y_callLabels, y_waiting, y_prints) := by
    intro z
    rw [if_neg (by omega), if_neg (by omega), if_neg (by omega), if_neg (by omega), if_neg (by omega), if_neg (by omega), if_neg (by omega), if_neg (by omega), if_neg (by omega), if_neg (by omega), if_neg (by omega), if_pos z] at h
    exact y_sel hF R h
  refine pk_lt (c p) 0 (fun z => absurd z (by omega)) (fun _ => ?_)
  refine pk_lt 14 (c p) (fun b14 => ?_) (fun b15 => ?_)
  · rw [if_neg (by omega), if_neg (by omega), if_neg (by omega), if_neg (by omega), if_neg (by omega), if_neg (by omega), if_neg (by omega), if_neg (by omega), if_neg (by omega), if_neg (by omega), if_neg (by omega), if_neg (by omega)] at h
    refine pk_le 20 (c p) (fun z => pk_le 28 (c p) (fun z2 => ?_) (fun z2 => ?_)) (fun z => ?_)
    · rw [if_neg (by omega), if_neg (by omega)] at h; exact y_num (c p) z2 h66 hF R h
    · rw [if_neg (by omega), if_pos z2] at h; exact y_mem mp W (c p) z z2 hF R h
    · rw [if_pos z] at h; rw [hxo (by omega)]; exact y_var C mp W f (c p) _ hf hf2 ht (by omega) z (h256 _) hb hF R h
  · exact pk_eq (c p) 0 (fun z => k0 z) (fun b0 => pk_eq (c p) 1 (fun z => k1 z) (fun b1 => pk_eq (c p) 2 (fun z => k23 (Or.inl z)) (fun b2 => pk_eq (c p) 3 (fun z => k23 (Or.inr z)) (fun b3 => pk_eq (c p) 4 (fun z => k4 z) (fun b4 => pk_eq (c p) 5 (fun z => k56 (Or.inl z)) (fun b5 => pk_eq (c p) 6 (fun z => k56 (Or.inr z)) (fun b6 => pk_eq (c p) 7 (fun z => k7 z) (fun b7 => pk_eq (c p) 8 (fun z => k8 z) (fun b8 => pk_eq (c p) 9 (fun z => k9 z) (fun b9 => pk_eq (c p) 10 (fun z => k10 z) (fun b10 => pk_eq (c p) 11 (fun z => k11 (Or.inl z)) (fun b11 => pk_eq (c p) 12 (fun z => k11 (Or.inr z)) (fun b12 => pk_eq (c p) 13 (fun z => k13 z) (fun b13 => pk_eq (c p) 14 (fun z => k14 z) (fun b14 => absurd b15 (by omega)) rfl rfl h31) rfl rfl h31) rfl rfl h31) rfl rfl h31) rfl rfl h31) rfl rfl h31) rfl rfl h31) rfl rfl h31) rfl rfl h31) rfl rfl h31) rfl rfl h31) rfl rfl h31) rfl rfl h31) rfl rfl h31) rfl rfl h31
end
end
section
/-! 23: the reference's validation: a body -/
theorem fk_pl (k : Nat) (S : vt_St) : (vt_pl k S).2.1 = S.2.1 := by unfold vt_pl; split <;> rfl
theorem fk_gv (k : Nat) (S : vt_St) : (vt_gv k S).2.1 = S.2.1 := by unfold vt_gv; split <;> rfl
theorem fk_pr (k : Nat) (S : vt_St) : (vt_pr k S).2.1 = S.2.1 := by unfold vt_pr; split; rfl; exact fk_pl k S
theorem fk_gr (k : Nat) (S : vt_St) : (vt_gr k S).2.1 = S.2.1 := by unfold vt_gr; split; rfl; exact fk_gv k S
theorem fk_ws (d : Nat) (S : vt_St) : (vt_ws d S).2.1 = S.2.1 := rfl
theorem fk_bad (S : vt_St) (b : Bool) : (vt_bad S b).2.1 = S.2.1 := rfl
theorem fk_ps (c : Nat → Nat) (t : Nat) : ∀ k S, (vt_ps c t k S).2.1 = S.2.1 := by
  intro k
  induction k with
  | zero => intro S; rfl
  | succ k ih => intro S; rw [vt_ps, ih, fk_pl]
theorem fk_tb (c : Nat → Nat) (w : Nat) : ∀ r p S, (vt_tb c w r p S).2.1 = S.2.1 := by
  intro r
  induction r with
  | zero => intro p S; rfl
  | succ r ih => intro p S; rw [vt_tb, ih, fk_bad, fk_ws]
theorem fk_call (c : Nat → Nat) (n op x : Nat) (S : vt_St) : (vt_call c n op x S).2.1 = S.2.1 := by
  unfold vt_call
  split
  · rfl
  · rw [fk_gr, fk_ps]; split; exact fk_pl 1 S; rfl
theorem fk_var (c : Nat → Nat) (n f op x : Nat) (S : vt_St) : (vt_var c n f op x S).2.1 = S.2.1 := by
  unfold vt_var
  repeat' split
  all_goals simp only [fk_gv, fk_pl, fk_bad]
theorem fk_mem (c : Nat → Nat) (n op : Nat) (S : vt_St) : (vt_mem c n op S).2.1 = S.2.1 := by
  unfold vt_mem
  split
  · exact fk_gv _ _
  · split
    · simp only [fk_gv, fk_pl, fk_bad]
    · simp only [fk_gv, fk_pl, fk_bad]
theorem fk_num (op : Nat) (S : vt_St) : (vt_num op S).2.1 = S.2.1 := by
  unfold vt_num
  rw [fk_gv]
  split <;> simp only [fk_pl]
theorem fk_sel (S : vt_St) : (vt_sel S).2.1 = S.2.1 := by
  unfold vt_sel
  simp only [fk_gv, fk_pl]
theorem fk_die {S : vt_St} (h : S.2.1 ≠ []) : (vt_die S).2.1.map (·.1) = S.2.1.map (·.1) := by
  obtain ⟨K, F, b⟩ := S
  cases F with
  | nil => exact absurd rfl h
  | cons x F => rfl
/-- how an instruction changes the codes of what is open -/
def cod (c : Nat → Nat) (p : Nat) (T : List Nat) : List Nat := if 2 ≤ c p ∧ c p ≤ 4 then c p :: T else if c p = 5 then 5 :: T.tail else if c p = 6 then T.tail else T
theorem v_codes {c : Nat → Nat} {n f p : Nat} {S : vt_St} (hF : S.2.1 ≠ []) (h : (v_st c n f p S).2.2 = false) : (v_st c n f p S).2.1.map (·.1) = cod c p (S.2.1.map (·.1)) := by
  unfold v_st at h ⊢
  unfold cod
  by_cases h0 : c p = 0
  · rw [if_pos h0, if_neg (by omega), if_neg (by omega), if_neg (by omega)]; exact fk_die hF
  rw [if_neg h0] at h ⊢
  by_cases h1 : c p = 1
  · rw [if_pos h1, if_neg (by omega), if_neg (by omega), if_neg (by omega)]
  rw [if_neg h1] at h ⊢
  by_cases h2 : c p = 2 ∨ c p = 3
  · rw [if_pos h2] at h ⊢
    rw [if_pos (by omega)]
    unfold vt_open at h ⊢
    by_cases h8 : S.2.1.length = 8
    · rw [if_pos h8] at h; exact ff_t h.symm
    · rw [if_neg h8]; rfl
  rw [if_neg h2] at h ⊢
  by_cases h4 : c p = 4
  · rw [if_pos h4] at h ⊢
    rw [if_pos (by omega)]
    unfold vt_open at h ⊢
    by_cases h8 : (vt_pl 1 S).2.1.length = 8
    · rw [if_pos h8] at h; exact ff_t h.symm
    · rw [if_neg h8, fk_pl, h4]; rfl
  rw [if_neg h4] at h ⊢
  by_cases h5 : c p = 5 ∨ c p = 6
  · rw [if_pos h5] at h ⊢
    rw [if_neg (by omega)]
    obtain ⟨K, F, b⟩ := S
    cases F with
    | nil => exact absurd rfl hF
    | cons x F =>
      unfold vt_close
      by_cases z : c p = 5
      · rw [if_pos z, if_pos z]; rfl
      · have h6 : c p = 6 := by omega
        simp only [if_neg z, if_pos h6]
        by_cases hT : F = []
        · subst hT; rfl
        · rw [if_neg (by exact hT), fk_gr]; rfl
  rw [if_neg h5] at h ⊢
  rw [if_neg (show ¬ (2 ≤ c p ∧ c p ≤ 4) by omega), if_neg (show ¬ c p = 5 by omega), if_neg (show ¬ c p = 6 by omega)]
  have dd : ∀ S' : vt_St, S'.2.1 = S.2.1 → (vt_die S').2.1.map (·.1) = S.2.1.map (·.1) := by
    intro S' e
    rw [fk_die (by rw [e]; exact hF), e]
  repeat' split
  · exact dd _ (by rw [fk_pr, fk_ws])
  · rw [fk_gr, fk_pr, fk_ws, fk_pl]
  · exact dd _ (by rw [fk_pr, fk_tb, fk_ws, fk_pl])
  · exact dd _ (by rw [fk_pr])
  · rw [fk_call]
  · rw [fk_pl]
  · rw [fk_sel]
  · rw [fk_var]
  · rw [fk_mem]
  · rw [fk_num]
/-- what the reading of an instruction's rest tells of its operands -/
theorem iw_of {c : Nat → Nat} {n p : Nat} (h : (rd_R c n (c p) (true, p + 1)).1 = true) (hp : p + 1 ≤ n) :
    (2 ≤ c p ∧ c p ≤ 4 → c (p + 1) ≤ 2) ∧ (c p = 9 → c (p + 1) ≤ 4 ∧ p + 1 + c (p + 1) + 1 < n) ∧ (rd_ho (c p) → p + 1 < n) := by
  unfold rd_R at h
  refine ⟨fun z => ?_, fun z => ?_, fun z => ?_⟩
  · rw [if_pos z] at h
    exact (rd_tk_ok h).2.2.2.2.1
  · rw [if_neg (by omega), if_pos z] at h
    obtain ⟨a1, a2, a3, a4⟩ := rd_n_ok _ _ h
    obtain ⟨b1, b2, b3, b4, b5, b6⟩ := rd_tk_ok a1
    rw [b2, b3] at a4
    dsimp only at a4 b5 b6
    exact ⟨b5, by have := a4 (by omega); omega⟩
  · by_cases z2 : 2 ≤ c p ∧ c p ≤ 4
    · rw [if_pos z2] at h
      exact (rd_tk_ok h).2.2.2.2.2
    · rw [if_neg z2, if_neg (by omega), if_neg (by omega), if_neg (by omega), if_pos z] at h
      exact (rd_tk_ok h).2.2.2.2.2
section
variable {y_count y_place y_m y_pos y_wrong y_least y_top y_frames y_invalid y_sp y_labels y_active y_fuel y_outcome y_trappedAt y_used y_waits y_printed : Int32} {y_constant y_result : Int64} {y_bytes y_there y_types y_typeSig y_imports y_functions y_sig y_what y_typeAt y_localsAt y_globals y_globalKind y_globalFree y_entries y_entriesAt y_hasMemory y_memory y_nest y_kinds y_shape y_gives y_height y_dead y_labelAt y_labelHeight y_labelGives y_callModule y_callFunction y_callBack y_callBase y_callLabels y_waiting y_prints : Nat → Int32} {y_globalValue y_stack : Nat → Int64}
variable {c : Nat → Nat} {n : Nat}
theorem y_val_l {post : Int32 → SY → Prop} {P : Nat → Nat} (C : cy_ok y_count y_m y_bytes 2 c n) (mp : mp_ok c n) (W : yw_ok c n y_types y_typeSig y_functions y_sig y_localsAt y_globals y_globalKind y_globalFree y_hasMemory) (f : Nat) (hf : m_I c n ≤ f) (hf2 : f < m_I c n + m_F c n) (ht : c (m_fa c n f) < c 0) :
    ∀ k p l (S : vt_St) (KI SH GI HE DE : Nat → Int32) (kk : Int64), ib c n P k p (S.2.1.map (·.1)) → S.2.1 ≠ [] → S.2.2 = false → YV S KI SH GI HE DE → k < l →
    (∀ a k' tp fr iv KI SH GI HE DE, post (nI ((v_go c n f k p S).getD 1000)) (y_count, y_place, y_m, a, bb_w true, k', y_least, tp, fr, iv, y_sp, y_labels, y_active, y_fuel, y_outcome, y_trappedAt, y_result, y_used, y_waits, y_printed, y_bytes, y_there, y_types, y_typeSig, y_imports, y_functions, y_sig, y_what, y_typeAt, y_localsAt, y_globals, y_globalKind, y_globalFree, y_globalValue, y_entries, y_entriesAt, y_hasMemory, y_memory, y_nest, KI, SH, GI, HE, DE, y_stack, y_labelAt, y_labelHeight, y_labelGives, y_callModule, y_callFunction, y_callBack, y_callBase, y_callLabels, y_waiting, y_prints)) →
    wY_validate_63 post (nI f) l y_count y_place y_m (nI p) (bb_w true) kk y_least (nI S.1.length) (nI S.2.1.length) (bb_i S.2.2) y_sp y_labels y_active y_fuel y_outcome y_trappedAt y_result y_used y_waits y_printed y_bytes y_there y_types y_typeSig y_imports y_functions y_sig y_what y_typeAt y_localsAt y_globals y_globalKind y_globalFree y_globalValue y_entries y_entriesAt y_hasMemory y_memory y_nest KI SH GI HE DE y_stack y_labelAt y_labelHeight y_labelGives y_callModule y_callFunction y_callBack y_callBase y_callLabels y_waiting y_prints := by
  obtain ⟨hn, h140, hm, h3, hbb, h256⟩ := id C
  intro k
  induction k with
  | zero => intro p l S KI SH GI HE DE kk hib; exact hib.elim
  | succ k ih =>
    intro p l S KI SH GI HE DE kk hib hF hb R hl h
    obtain ⟨l, rfl⟩ : ∃ j, l = j + 1 := ⟨l - 1, by omega⟩
    obtain ⟨i1, i2, i3, i4, i5, i6, i7⟩ := hib
    obtain ⟨x1, x2, x3⟩ := iw_of (by rw [i3]) i1
    have hlen : 0 < S.2.1.length := List.length_pos_iff.mpr hF
    have hsz : S.2.1.length ≤ 8 := R.2.2.2.1
    refine pk_le S.2.1.length 0 (fun z => absurd z (by omega)) (fun _ => nm_r (nI_1 p) ?_)
    refine yr_at hm h3 (by omega) (hbb p i1) ?_
    rw [v_go, if_neg hF] at h
    have w126 : ∀ x, x < 256 → (rd_ho (c p) → x = c (p + 1)) → wY_validate_126 post (wY_validate_63 post (nI f) l) (nI f) (nI p) (nI (c p)) (nI x) y_count y_place y_m (nI (p + 1)) (bb_w true) kk y_least (nI S.1.length) (nI S.2.1.length) (bb_i S.2.2) y_sp y_labels y_active y_fuel y_outcome y_trappedAt y_result y_used y_waits y_printed y_bytes y_there y_types y_typeSig y_imports y_functions y_sig y_what y_typeAt y_localsAt y_globals y_globalKind y_globalFree y_globalValue y_entries y_entriesAt y_hasMemory y_memory y_nest KI SH GI HE DE y_stack y_labelAt y_labelHeight y_labelGives y_callModule y_callFunction y_callBack y_callBase y_callLabels y_waiting y_prints := by
      intro x hx hxo
      unfold wY_validate_126
      refine y_check C mp W f x hf hf2 ht i2 hxo hx x1 x2 hb hF R (fun KI SH GI HE DE R1 => ?_)
      cases hbad : (v_st c n f p S).2.2 with
      | true =>
        refine br_f (by decide) ?_
        rw [if_pos hbad] at h
        exact h _ _ _ _ _ _ _ _ _ _
      | false =>
        refine br_t rfl ?_
        rw [if_neg (by rw [hbad]; simp)] at h
        refine yr_rest C (c p) (h256 p) (true, p + 1) (by dsimp only; omega) (fun k' _ _ => ?_)
        rw [i3]
        dsimp only
        have hcod := v_codes hF hbad
        by_cases hend : (v_st c n f p S).2.1 = []
        · obtain ⟨l, rfl⟩ : ∃ j, l = j + 1 := ⟨l - 1, by omega⟩
          refine br_t (by rw [hend]; decide) ?_
          have e : v_go c n f k (nx c p) (v_st c n f p S) = none := by
            cases k with
            | zero => rfl
            | succ k => rw [v_go, if_pos hend]
          rw [e] at h
          exact h _ _ _ _ _ _ _ _ _ _
        · have hib' : ib c n P k (nx c p) ((v_st c n f p S).2.1.map (·.1)) := by
            rw [hcod]
            unfold cod
            by_cases ho : 2 ≤ c p ∧ c p ≤ 4
            · rw [if_pos ho] at i7 ⊢; exact i7
            · rw [if_neg ho] at i7 ⊢
              by_cases h5 : c p = 5
              · rw [if_pos h5] at i7 ⊢; exact i7.2
              · rw [if_neg h5] at i7 ⊢
                by_cases h6 : c p = 6
                · rw [if_pos h6] at i7 ⊢
                  rcases i7 with z | z
                  · exfalso
                    apply hend
                    rw [cod, if_neg ho, if_neg h5, if_pos h6, z] at hcod
                    exact List.map_eq_nil_iff.mp hcod
                  · exact z
                · rw [if_neg h6] at i7 ⊢; exact i7
          have hh := ih (nx c p) l (v_st c n f p S) KI SH GI HE DE k' hib' hend hbad R1 (by omega) h
          rw [hbad] at hh
          exact hh
    refine pk_eq (c p) 9 (fun z => w126 0 (by omega) (fun y => absurd y (by omega))) (fun z => ?_) rfl rfl (by have := h256 p; omega)
    refine pk_le n (p + 1) (fun z2 => ?_) (fun z2 => ?_) hn rfl
    · unfold wY_validate_123
      refine yr_at hm h3 (by omega) (hbb p i1) ?_
      exact w126 (c p) (h256 _) (fun y => absurd (x3 y) (by omega))
    · unfold wY_validate_123
      refine yr_at hm h3 (by omega) (hbb _ z2) ?_
      exact w126 (c (p + 1)) (h256 _) (fun _ => rfl)
theorem y_validate {post : Int32 → SY → Prop} {P : Nat → Nat} {kk : Int64} {a : Int32} {KI SH GI HE DE : Nat → Int32} (C : cy_ok y_count y_m y_bytes 2 c n) (mp : mp_ok c n) (W : yw_ok c n y_types y_typeSig y_functions y_sig y_localsAt y_globals y_globalKind y_globalFree y_hasMemory) (f : Nat) (hf : m_I c n ≤ f) (hf2 : f < m_I c n + m_F c n) (ht : c (m_fa c n f) < c 0) (k : Nat) (hib : ib c n P k (m_bo c n f) [0])
    (h : ∀ a k' tp fr iv KI SH GI HE DE, post (nI ((v_go c n f k (m_bo c n f) (v_0 c n f)).getD 1000)) (y_count, y_place, y_m, a, bb_w true, k', y_least, tp, fr, iv, y_sp, y_labels, y_active, y_fuel, y_outcome, y_trappedAt, y_result, y_used, y_waits, y_printed, y_bytes, y_there, y_types, y_typeSig, y_imports, y_functions, y_sig, y_what, y_typeAt, y_localsAt, y_globals, y_globalKind, y_globalFree, y_globalValue, y_entries, y_entriesAt, y_hasMemory, y_memory, y_nest, KI, SH, GI, HE, DE, y_stack, y_labelAt, y_labelHeight, y_labelGives, y_callModule, y_callFunction, y_callBack, y_callBase, y_callLabels, y_waiting, y_prints)) :
    wpY_validate post (y_count, y_place, y_m, a, bb_w true, kk, y_least, y_top, y_frames, y_invalid, y_sp, y_labels, y_active, y_fuel, y_outcome, y_trappedAt, y_result, y_used, y_waits, y_printed, y_bytes, y_there, y_types, y_typeSig, y_imports, y_functions, y_sig, y_what, y_typeAt, y_localsAt, y_globals, y_globalKind, y_globalFree, y_globalValue, y_entries, y_entriesAt, y_hasMemory, y_memory, y_nest, KI, SH, GI, HE, DE, y_stack, y_labelAt, y_labelHeight, y_labelGives, y_callModule, y_callFunction, y_callBack, y_callBase, y_callLabels, y_waiting, y_prints) (nI f) := by
  obtain ⟨w1, w2, w3, w4, w5, w6, w7, w8⟩ := id W
  obtain ⟨m1, m2, m3, m4, m5, m6, _⟩ := id mp
  obtain ⟨hn, h140, hm, h3, hbb, h256⟩ := id C
  have hfa := m5 f hf2
  obtain ⟨f1, f2, f3⟩ := m6 f hf hf2
  obtain ⟨t1, t2⟩ := m2 _ ht
  have hs := sg_lt t1
  obtain ⟨n1, n2, n3⟩ := sg_np t1
  have e14 : (14 : Int32) + nI f = nI (14 + f) := nI_add 14 f
  have es : y_sig ((14 : Int32) + nI f).toNatClampNeg = nI (sg c (m_ty c n (c (m_fa c n f)))) := by
    rw [pk_cl (14 + f) e14, w4 f hf2, sg_i, if_pos ht]
  have el : y_localsAt ((14 : Int32) + nI f).toNatClampNeg = nI (m_fa c n f + 1) := by rw [pk_cl (14 + f) e14]; exact w5 f hf hf2
  have hin : vp_in ((14 : Int32) + nI f) 21 := pk_in (14 + f) 21 (by omega) e14
  refine ⟨hin, hin, ?_⟩
  refine eq_p (P := fun z => wpY_at _ _ z) el ?_
  refine yr_at hm h3 (by omega) (hbb _ (by omega)) ?_
  refine nm_r (show (y_localsAt ((14 : Int32) + nI f).toNatClampNeg + 1) + nI (c (m_fa c n f + 1)) = nI (m_bo c n f) from by rw [el, nI_1, nI_add]; rfl) ⟨hin, ?_⟩
  refine eq_p (P := fun z => wpY_gift _ z) es ?_
  refine y_gift hs ?_
  rw [n2]
  refine y_open (S := ([], [], false)) 0 2 (ty_r c (m_ty c n (c (m_fa c n f)))) (m_bo c n f) rfl (by omega) (ty_r_le t1) ⟨trivial, trivial, by simp, by simp, fun _ hk => absurd hk (by simp), trivial⟩ (fun KI SH GI HE DE R => ⟨k + 1, ?_⟩)
  exact y_val_l C mp W f hf hf2 ht k (m_bo c n f) (k + 1) (v_0 c n f) KI SH GI HE DE kk hib (by simp [v_0]) rfl R (by omega) h
end
end
section
/-! 24: the class's validation against the pure one: the small methods -/
def xk (k : Nat) : Nat := if k = 0 then 3 else k
def xv_K (KI : Nat → Int32) : List Nat → Prop
  | [] => True
  | k :: K => KI K.length = nI (xk k) ∧ xv_K KI K
def xv_F (c : Nat → Nat) (A FH FR FD : Nat → Int32) : List vt_Fr → Prop
  | [] => True
  | (cd, g, h, d, o) :: F => FH F.length = nI h ∧ FR F.length = nI g ∧ FD F.length = bb_i d ∧ A F.length = nI o ∧ o < 140 ∧ (F = [] → cd = 0 ∧ h = 0) ∧ (F ≠ [] → (cd = 2 ∧ c o = 2) ∨ (cd = 3 ∧ c o = 3) ∨ ((cd = 4 ∨ cd = 5) ∧ c o = 4)) ∧ xv_F c A FH FR FD F
def XV (c : Nat → Nat) (S : vt_St) (A FH FR FD KI : Nat → Int32) : Prop := xv_K KI S.1 ∧ xv_F c A FH FR FD S.2.1 ∧ sn S
theorem xv_K_ext {A A' : Nat → Int32} : ∀ K : List Nat, xv_K A K → (∀ j, j < K.length → A' j = A j) → xv_K A' K := by
  intro K
  induction K with
  | nil => intro _ _; trivial
  | cons x K ih =>
    intro h e
    obtain ⟨h1, h2⟩ := h
    refine ⟨?_, ih h2 (fun j hj => e j (by simp only [List.length_cons]; omega))⟩
    rw [e _ (by simp only [List.length_cons]; omega)]
    exact h1
theorem xv_K_drop {KI : Nat → Int32} : ∀ (K : List Nat) j, xv_K KI K → xv_K KI (K.drop j) := by
  intro K
  induction K with
  | nil => intro j _; simp [xv_K]
  | cons x K ih =>
    intro j h
    cases j with
    | zero => exact h
    | succ j => exact ih j h.2
theorem xv_F_ext {c : Nat → Nat} {A FH FR FD A' FH' FR' FD' : Nat → Int32} : ∀ F : List vt_Fr, xv_F c A FH FR FD F → (∀ j, j < F.length → A' j = A j) → (∀ j, j < F.length → FH' j = FH j) → (∀ j, j < F.length → FR' j = FR j) → (∀ j, j < F.length → FD' j = FD j) → xv_F c A' FH' FR' FD' F := by
  intro F
  induction F with
  | nil => intro _ _ _ _ _; trivial
  | cons x F ih =>
    intro h e1 e2 e3 e4
    obtain ⟨cd, g, hh, d, o⟩ := x
    obtain ⟨h1, h2, h3, h4, h5, h6, h7, h8⟩ := h
    have hl : F.length < (List.length ((cd, g, hh, d, o) :: F)) := by simp only [List.length_cons]; omega
    exact ⟨by rw [e2 _ hl]; exact h1, by rw [e3 _ hl]; exact h2, by rw [e4 _ hl]; exact h3, by rw [e1 _ hl]; exact h4, h5, h6, h7, ih h8 (fun j hj => e1 j (by omega)) (fun j hj => e2 j (by omega)) (fun j hj => e3 j (by omega)) (fun j hj => e4 j (by omega))⟩
theorem xv_bot {c : Nat → Nat} {A FH FR FD : Nat → Int32} : ∀ F : List vt_Fr, F ≠ [] → xv_F c A FH FR FD F → FR 0 = nI (f_b F) := by
  intro F
  induction F with
  | nil => intro h; exact absurd rfl h
  | cons x F ih =>
    intro _ h
    obtain ⟨cd, g, hh, d, o⟩ := x
    obtain ⟨h1, h2, h3, h4, h5, h6, h7, h8⟩ := h
    rw [f_b]
    by_cases e : F = []
    · rw [if_pos e]; subst e; exact h2
    · rw [if_neg e]; exact ih e h8
theorem xv_drop {c : Nat → Nat} {A FH FR FD : Nat → Int32} : ∀ (F : List vt_Fr) d, d < F.length → xv_F c A FH FR FD F → FR (F.length - 1 - d) = nI (f_g (F.drop d)) ∧ A (F.length - 1 - d) = nI (f_o (F.drop d)) ∧ f_o (F.drop d) < 140 ∧ (F.length - 1 - d = 0 → f_c (F.drop d) = 0) ∧ (0 < F.length - 1 - d → (f_c (F.drop d) = 3 ↔ c (f_o (F.drop d)) = 3)) := by
  intro F
  induction F with
  | nil => intro d hd; simp at hd
  | cons x F ih =>
    intro d hd h
    obtain ⟨cd, g, hh, dd, o⟩ := x
    obtain ⟨h1, h2, h3, h4, h5, h6, h7, h8⟩ := h
    cases d with
    | zero =>
      simp only [List.length_cons, Nat.add_sub_cancel, Nat.sub_zero]
      refine ⟨h2, h4, h5, fun z => (h6 (List.length_eq_zero_iff.mp z)).1, fun z => ?_⟩
      have := h7 (List.length_pos_iff.mp z)
      show cd = 3 ↔ c o = 3
      omega
    | succ d =>
      simp only [List.length_cons] at hd ⊢
      have := ih d (by omega) h8
      rw [show F.length + 1 - 1 - (d + 1) = F.length - 1 - d by omega]
      exact this
section
variable {u : SX} {c : Nat → Nat} {WP a : Int32} {F Pa A FH FR FD KI : Nat → Int32} {S : vt_St}
theorem x_take {post : Int32 → SX → Prop} (k : Nat) (hk : k ≤ 2) (hF : S.2.1 ≠ []) (hb : S.2.2 = false) (R : XV c S A FH FR FD KI)
    (hs : (vt_pr k S).2.2 = false → XV c (vt_pr k S) A FH FR FD KI → post 1 (xl u WP a (nI (vt_pr k S).2.1.length) (nI (vt_pr k S).1.length) F Pa A FH FR FD KI)) (hf : (vt_pr k S).2.2 = true → ∀ kc, post 0 (xl u WP a (nI S.2.1.length) kc F Pa A FH FR FD KI)) : wpX_take post (xl u WP a (nI S.2.1.length) (nI S.1.length) F Pa A FH FR FD KI) (nI k) := by
  refine pk_eq k 0 (fun z => ?_) (fun z => ?_)
  · have e : vt_pr k S = S := if_pos z
    rw [e] at hs; exact hs hb R
  · have e : vt_pr k S = vt_pl k S := if_neg z
    rw [e] at hs hf
    obtain ⟨K, Fr, b⟩ := S
    dsimp only at hF hb
    subst hb
    cases Fr with
    | nil => exact absurd rfl hF
    | cons x Fr =>
      obtain ⟨cd, g, hh, d, o⟩ := x
      obtain ⟨rk, ⟨r1, r2, r3, r4, r5, r6, r7, r8⟩, s1, s2, s3, s4, s5, s6, s7⟩ := R
      dsimp only at rk s1 s2 s3 s4
      simp only [List.length_cons] at s2
      have eH : FH (nI Fr.length).toNatClampNeg = nI hh := by rw [pk_cl Fr.length]; exact r1
      have eD : FD (nI Fr.length).toNatClampNeg = bb_i d := by rw [pk_cl Fr.length]; exact r3
      refine xx_last (k := Fr.length + 1) (l := 8) (by omega) (by omega) (by omega) ?_
      rw [Nat.add_sub_cancel]
      refine ⟨pk_in Fr.length 140 (by omega), ?_⟩
      by_cases hc : K.length = hh
      · have hS : vt_pl k (K, (cd, g, hh, d, o) :: Fr, false) = (K, (cd, g, hh, d, o) :: Fr, !d) := if_pos hc
        rw [hS] at hs hf
        refine pk_lt hh K.length (fun y => absurd y (by omega)) (fun _ => ⟨pk_in Fr.length 8 (by omega), ?_⟩) eH rfl
        refine eq_p (P := fun w => narrow .boolean (.int w) = .int w ∧ post w _) eD ⟨bb_nar d, ?_⟩
        cases d with
        | false => exact hf rfl _
        | true => exact hs rfl ⟨rk, ⟨r1, r2, r3, r4, r5, r6, r7, r8⟩, s1, by simp only [List.length_cons]; omega, s3, s4, s5, s6, s7⟩
      · cases K with
        | nil => exact absurd (show (0 : Nat) = hh from by simp only [List.length_nil] at s4; omega) hc
        | cons x K =>
          have hS : vt_pl k (x :: K, (cd, g, hh, d, o) :: Fr, false) = (K, (cd, g, hh, d, o) :: Fr, pl_f x k) := if_neg hc
          rw [hS] at hs hf
          simp only [List.length_cons] at s1 s4 hc
          have hx2 : x ≤ 2 := s3 x (by simp)
          have e2 : nI (K.length + 1) - 1 = nI K.length := nI_pred K.length
          have eK : KI (nI K.length).toNatClampNeg = nI (xk x) := by rw [pk_cl K.length]; exact rk.1
          have hxk : xk x ≤ 3 := by unfold xk; split <;> omega
          have R' : XV c (K, (cd, g, hh, d, o) :: Fr, pl_f x k) A FH FR FD KI := ⟨rk.2, ⟨r1, r2, r3, r4, r5, r6, r7, r8⟩, by dsimp only; omega, by simp only [List.length_cons]; omega, sn_K_t s3, by dsimp only; omega, s5, s6, s7⟩
          refine pk_lt hh (K.length + 1) (fun _ => nm_r e2 ⟨pk_in K.length 20 (by omega), ?_⟩) (fun y => absurd y (by omega)) eH rfl
          refine pk_eq (xk x) k (fun y => ?_) (fun y => ⟨pk_in K.length 20 (by omega), pk_eq (xk x) 3 (fun y2 => ?_) (fun y2 => ?_) eK rfl⟩) eK rfl
          · exact hs (if_neg (by unfold xk at y; split at y <;> omega)) R'
          · exact hs (if_neg (by unfold xk at y2; split at y2 <;> omega)) R'
          · refine hf (if_pos ?_) _
            by_cases x0 : x = 0
            · exact absurd (show xk x = 3 from if_pos x0) y2
            · rw [show xk x = x from if_neg x0] at y
              exact ⟨x0, z, y⟩
theorem x_take1 {post : Int32 → SX → Prop} (k : Nat) (hk1 : 1 ≤ k) (hk : k ≤ 2) (hF : S.2.1 ≠ []) (hb : S.2.2 = false) (R : XV c S A FH FR FD KI)
    (hs : (vt_pl k S).2.2 = false → XV c (vt_pl k S) A FH FR FD KI → post 1 (xl u WP a (nI (vt_pl k S).2.1.length) (nI (vt_pl k S).1.length) F Pa A FH FR FD KI)) (hf : (vt_pl k S).2.2 = true → ∀ kc, post 0 (xl u WP a (nI S.2.1.length) kc F Pa A FH FR FD KI)) : wpX_take post (xl u WP a (nI S.2.1.length) (nI S.1.length) F Pa A FH FR FD KI) (nI k) := by
  have e : vt_pr k S = vt_pl k S := if_neg (by omega)
  exact x_take k hk hF hb R (by rw [e]; exact hs) (by rw [e]; exact hf)
theorem x_top {post : Int32 → SX → Prop} (hF : S.2.1 ≠ []) (hb : S.2.2 = false) (R : XV c S A FH FR FD KI)
    (hs : (vt_pl 0 S).2.2 = false → XV c (vt_pl 0 S) A FH FR FD KI → vt_px 0 S ≤ 2 → post (nI (xk (vt_px 0 S))) (xl u WP a (nI (vt_pl 0 S).2.1.length) (nI (vt_pl 0 S).1.length) F Pa A FH FR FD KI)) (hf : (vt_pl 0 S).2.2 = true → vt_pl 0 S = (S.1, S.2.1, true) → post 0 (xl u WP a (nI S.2.1.length) (nI S.1.length) F Pa A FH FR FD KI)) : wpX_takeTop post (xl u WP a (nI S.2.1.length) (nI S.1.length) F Pa A FH FR FD KI) := by
  obtain ⟨K, Fr, b⟩ := S
  dsimp only at hF hb
  subst hb
  cases Fr with
  | nil => exact absurd rfl hF
  | cons x Fr =>
    obtain ⟨cd, g, hh, d, o⟩ := x
    obtain ⟨rk, ⟨r1, r2, r3, r4, r5, r6, r7, r8⟩, s1, s2, s3, s4, s5, s6, s7⟩ := R
    dsimp only at rk s1 s2 s3 s4
    simp only [List.length_cons] at s2
    have eH : FH (nI Fr.length).toNatClampNeg = nI hh := by rw [pk_cl Fr.length]; exact r1
    have eD : FD (nI Fr.length).toNatClampNeg = bb_i d := by rw [pk_cl Fr.length]; exact r3
    unfold wpX_takeTop
    refine xx_last (k := Fr.length + 1) (l := 8) (by omega) (by omega) (by omega) ?_
    rw [Nat.add_sub_cancel]
    refine ⟨pk_in Fr.length 140 (by omega), ?_⟩
    by_cases hc : K.length = hh
    · have hS : vt_pl 0 (K, (cd, g, hh, d, o) :: Fr, false) = (K, (cd, g, hh, d, o) :: Fr, !d) := if_pos hc
      have hx : vt_px 0 (K, (cd, g, hh, d, o) :: Fr, false) = 0 := if_pos hc
      rw [hS, hx] at hs
      rw [hS] at hf
      refine pk_lt hh K.length (fun y => absurd y (by omega)) (fun _ => ⟨pk_in Fr.length 8 (by omega), ?_⟩) eH rfl
      cases d with
      | false => exact br_t eD (hf rfl rfl)
      | true => exact br_f (by rw [eD]; decide) (hs rfl ⟨rk, ⟨r1, r2, r3, r4, r5, r6, r7, r8⟩, s1, by simp only [List.length_cons]; omega, s3, s4, s5, s6, s7⟩ (by omega))
    · cases K with
      | nil => exact absurd (show (0 : Nat) = hh from by simp only [List.length_nil] at s4; omega) hc
      | cons x K =>
        have hS : vt_pl 0 (x :: K, (cd, g, hh, d, o) :: Fr, false) = (K, (cd, g, hh, d, o) :: Fr, pl_f x 0) := if_neg hc
        have hx : vt_px 0 (x :: K, (cd, g, hh, d, o) :: Fr, false) = x := if_neg hc
        rw [hS, hx] at hs
        simp only [List.length_cons] at s1 s4 hc
        have hx2 : x ≤ 2 := s3 x (by simp)
        have e2 : nI (K.length + 1) - 1 = nI K.length := nI_pred K.length
        have eK : KI (nI K.length).toNatClampNeg = nI (xk x) := by rw [pk_cl K.length]; exact rk.1
        have R' : XV c (K, (cd, g, hh, d, o) :: Fr, pl_f x 0) A FH FR FD KI := ⟨rk.2, ⟨r1, r2, r3, r4, r5, r6, r7, r8⟩, by dsimp only; omega, by simp only [List.length_cons]; omega, sn_K_t s3, by dsimp only; omega, s5, s6, s7⟩
        refine pk_lt hh (K.length + 1) (fun _ => nm_r e2 ⟨pk_in K.length 20 (by omega), ?_⟩) (fun y => absurd y (by omega)) eH rfl
        exact eq_p (P := fun w => post w _) eK (hs (if_neg (by omega)) R' hx2)
theorem x_gv {post : Int32 → SX → Prop} (k : Nat) (hk : k ≤ 2) (hb : S.2.2 = false) (R : XV c S A FH FR FD KI)
    (hs : (vt_gv k S).2.2 = false → ∀ KI, XV c (vt_gv k S) A FH FR FD KI → post 1 (xl u WP a (nI (vt_gv k S).2.1.length) (nI (vt_gv k S).1.length) F Pa A FH FR FD KI)) (hf : (vt_gv k S).2.2 = true → post 0 (xl u WP a (nI S.2.1.length) (nI S.1.length) F Pa A FH FR FD KI)) : wpX_give post (xl u WP a (nI S.2.1.length) (nI S.1.length) F Pa A FH FR FD KI) (nI (xk k)) := by
  obtain ⟨K, Fr, b⟩ := S
  obtain ⟨rk, rf, s1, s2, s3, s4⟩ := R
  dsimp only at rk rf s1 s2 s3 s4 hb
  subst hb
  have hxk : 1 ≤ xk k ∧ xk k ≤ 3 := by unfold xk; split <;> omega
  refine pk_eq (xk k) 0 (fun z => absurd z (by omega)) (fun _ => ?_)
  by_cases hc : K.length = 20
  · have hS : vt_gv k (K, Fr, false) = (K, Fr, true) := if_pos hc
    rw [hS] at hf
    exact pk_lt K.length 20 (fun z => absurd z (by omega)) (fun _ => hf rfl)
  · have hS : vt_gv k (K, Fr, false) = (k :: K, Fr, false) := if_neg hc
    rw [hS] at hs
    refine pk_lt K.length 20 (fun z => ⟨pk_in K.length 20 z, nm_r (show upd KI (nI K.length).toNatClampNeg (nI (xk k)) = upd KI K.length (nI (xk k)) from by rw [pk_cl K.length]) (nm_r (nI_1 K.length) ?_)⟩) (fun z => absurd z (by omega))
    refine hs rfl _ ⟨⟨pk_us, xv_K_ext K rk (fun j hj => pk_un (by omega))⟩, rf, ?_, s2, ?_, ?_⟩
    · simp only [List.length_cons]; omega
    · intro j hj
      rcases List.mem_cons.mp hj with e | e
      · omega
      · exact s3 j e
    · exact sn_F_mono s4 (by simp only [List.length_cons]; omega)
theorem x_gr {post : Int32 → SX → Prop} (k : Nat) (hk : k ≤ 2) (hb : S.2.2 = false) (R : XV c S A FH FR FD KI)
    (hs : (vt_gr k S).2.2 = false → ∀ KI, XV c (vt_gr k S) A FH FR FD KI → post 1 (xl u WP a (nI (vt_gr k S).2.1.length) (nI (vt_gr k S).1.length) F Pa A FH FR FD KI)) (hf : (vt_gr k S).2.2 = true → post 0 (xl u WP a (nI S.2.1.length) (nI S.1.length) F Pa A FH FR FD KI)) : wpX_give post (xl u WP a (nI S.2.1.length) (nI S.1.length) F Pa A FH FR FD KI) (nI k) := by
  by_cases z : k = 0
  · have e : vt_gr k S = S := if_pos z
    rw [e] at hs
    exact pk_eq k 0 (fun _ => hs hb KI R) (fun y => absurd z y)
  · have e : vt_gr k S = vt_gv k S := if_neg z
    rw [e] at hs hf
    have e2 : xk k = k := if_neg z
    have := x_gv (u := u) (WP := WP) (a := a) (F := F) (Pa := Pa) (post := post) k hk hb R hs hf
    rw [e2] at this
    exact this
theorem x_die {post : Int32 → SX → Prop} (hF : S.2.1 ≠ []) (R : XV c S A FH FR FD KI)
    (h : ∀ FD, XV c (vt_die S) A FH FR FD KI → post 1 (xl u WP a (nI (vt_die S).2.1.length) (nI (vt_die S).1.length) F Pa A FH FR FD KI)) : wpX_goDead post (xl u WP a (nI S.2.1.length) (nI S.1.length) F Pa A FH FR FD KI) := by
  obtain ⟨K, Fr, b⟩ := S
  dsimp only at hF
  cases Fr with
  | nil => exact absurd rfl hF
  | cons x Fr =>
    obtain ⟨cd, g, hh, d, o⟩ := x
    obtain ⟨rk, ⟨r1, r2, r3, r4, r5, r6, r7, r8⟩, s1, s2, s3, s4, s5, s6, s7⟩ := R
    dsimp only at rk s1 s2 s3 s4
    simp only [List.length_cons] at s2
    have hl : (K.drop (K.length - hh)).length = hh := by rw [List.length_drop]; omega
    unfold wpX_goDead
    refine xx_last (k := Fr.length + 1) (l := 8) (by omega) (by omega) (by omega) ?_
    rw [Nat.add_sub_cancel]
    refine ⟨pk_in Fr.length 8 (by omega), nm_r (show upd FD (nI Fr.length).toNatClampNeg (vp_nar .boolean 1) = upd FD Fr.length (bb_i true) from by rw [pk_cl Fr.length]; rfl) ⟨pk_in Fr.length 140 (by omega), nm_r (show FH (nI Fr.length).toNatClampNeg = nI (K.drop (K.length - hh)).length from by rw [pk_cl Fr.length, hl]; exact r1) ?_⟩⟩
    refine h _ ⟨xv_K_drop K _ rk, ⟨r1, r2, pk_us, r4, r5, r6, r7, xv_F_ext Fr r8 (fun _ _ => rfl) (fun _ _ => rfl) (fun _ _ => rfl) (fun j hj => pk_un (by omega))⟩, ?_, ?_, sn_K_drop s3 _, ?_⟩
    · show (K.drop (K.length - hh)).length ≤ 20; omega
    · show (List.length ((cd, g, hh, true, o) :: Fr)) ≤ 8; simp only [List.length_cons]; omega
    · show sn_F (K.drop (K.length - hh)).length ((cd, g, hh, true, o) :: Fr); rw [hl]; exact ⟨by omega, s5, s6, s7⟩
theorem x_open {post : Int32 → SX → Prop} (cd x o : Nat) (hcd : cd ≤ 5) (hx : x ≤ 2) (ha : a = nI o) (ho : o < 140) (h0 : S.2.1 = [] → cd = 0 ∧ S.1 = []) (hn : S.2.1 ≠ [] → (cd = 2 ∧ c o = 2) ∨ (cd = 3 ∧ c o = 3) ∨ (cd = 4 ∧ c o = 4)) (hb : S.2.2 = false) (R : XV c S A FH FR FD KI)
    (hs : (vt_open cd x o S).2.2 = false → ∀ A FH FR FD, XV c (vt_open cd x o S) A FH FR FD KI → post 1 (xl u WP a (nI (vt_open cd x o S).2.1.length) (nI (vt_open cd x o S).1.length) F Pa A FH FR FD KI)) (hf : (vt_open cd x o S).2.2 = true → post 0 (xl u WP a (nI S.2.1.length) (nI S.1.length) F Pa A FH FR FD KI)) : wpX_openChecked post (xl u WP a (nI S.2.1.length) (nI S.1.length) F Pa A FH FR FD KI) (nI x) := by
  obtain ⟨K, Fr, b⟩ := S
  obtain ⟨rk, rf, s1, s2, s3, s4⟩ := R
  dsimp only at rk rf s1 s2 s3 s4 hb h0 hn
  subst hb
  subst ha
  by_cases hc : Fr.length = 8
  · have hS : vt_open cd x o (K, Fr, false) = (K, Fr, true) := if_pos hc
    rw [hS] at hf
    exact pk_lt Fr.length 8 (fun z => absurd z (by omega)) (fun _ => hf rfl)
  · have hS : vt_open cd x o (K, Fr, false) = (K, (cd, x, K.length, false, o) :: Fr, false) := if_neg hc
    rw [hS] at hs
    refine pk_lt Fr.length 8 (fun z => ⟨pk_in Fr.length 140 (by omega), nm_r (show upd A (nI Fr.length).toNatClampNeg (nI o) = upd A Fr.length (nI o) from by rw [pk_cl Fr.length]) ⟨pk_in Fr.length 140 (by omega), nm_r (show upd FH (nI Fr.length).toNatClampNeg (nI K.length) = upd FH Fr.length (nI K.length) from by rw [pk_cl Fr.length]) ⟨pk_in Fr.length 8 (by omega), nm_r (show upd FR (nI Fr.length).toNatClampNeg (nI x) = upd FR Fr.length (nI x) from by rw [pk_cl Fr.length]) ⟨pk_in Fr.length 8 (by omega), nm_r (show upd FD (nI Fr.length).toNatClampNeg (vp_nar .boolean 0) = upd FD Fr.length (bb_i false) from by rw [pk_cl Fr.length]; rfl) (nm_r (nI_1 Fr.length) ?_)⟩⟩⟩⟩) (fun z => absurd z (by omega))
    refine hs rfl _ _ _ _ ⟨rk, ⟨pk_us, pk_us, pk_us, pk_us, ho, fun z => ⟨(h0 z).1, by rw [(h0 z).2]; rfl⟩, fun z => ?_, xv_F_ext Fr rf (fun j hj => pk_un (by omega)) (fun j hj => pk_un (by omega)) (fun j hj => pk_un (by omega)) (fun j hj => pk_un (by omega))⟩, s1, ?_, s3, Nat.le_refl _, hx, hcd, s4⟩
    · have := hn z; omega
    · simp only [List.length_cons]; omega
end
end
section
/-! 25: the class's validation: labels, ends, calls, variables -/
section
variable {u : SX} {c : Nat → Nat} {n p : Nat} {WP a : Int32} {F Pa A FH FR FD KI : Nat → Int32} {S : vt_St}
theorem x_label {post : Int32 → Prop} (M : mx_ok u 2 c) (d : Nat) (hd : d < 256) (hF : S.2.1 ≠ []) (R : XV c S A FH FR FD KI)
    (hs : d < S.2.1.length → vt_w d S ≤ 2 → post (nI (vt_w d S))) (hf : S.2.1.length ≤ d → post (-1)) : wpX_labelWants post (xl u WP a (nI S.2.1.length) (nI S.1.length) F Pa A FH FR FD KI) (nI d) := by
  obtain ⟨K, Fr, b⟩ := S
  obtain ⟨rk, rf, s1, s2, s3, s4⟩ := R
  dsimp only at rk rf s1 s2 s3 s4 hF hs hf
  have hl : 0 < Fr.length := List.length_pos_iff.mpr hF
  have e0 : nI Fr.length - 1 = nI (Fr.length - 1) := pk_sub (b := 1) hl
  by_cases hc : Fr.length ≤ d
  · refine nm_r (show (nI Fr.length - 1) - nI d = nI (Fr.length - 1) - nI d from by rw [e0]) ?_
    exact br_t (pk_sneg (by omega) (by omega)) (hf hc)
  · have e2 : (nI Fr.length - 1) - nI d = nI (Fr.length - 1 - d) := by rw [e0, pk_sub (by omega)]
    have e : vt_w d (K, Fr, b) = if f_c (Fr.drop d) = 3 then 0 else f_g (Fr.drop d) := if_neg hc
    obtain ⟨a1, a2, a3, a4, a5⟩ := xv_drop Fr d (by omega) rf
    obtain ⟨b1, b2⟩ := sn_drop Fr d _ s4
    have h' := hs (by omega) (by rw [e]; split <;> omega)
    rw [e] at h'
    have eR : FR (nI (Fr.length - 1 - d)).toNatClampNeg = nI (f_g (Fr.drop d)) := by rw [pk_cl (Fr.length - 1 - d)]; exact a1
    have eA : A (nI (Fr.length - 1 - d)).toNatClampNeg = nI (f_o (Fr.drop d)) := by rw [pk_cl (Fr.length - 1 - d)]; exact a2
    refine nm_r e2 (pk_lt (Fr.length - 1 - d) 0 (fun z => absurd z (by omega)) (fun _ => pk_lt (Fr.length - 1 - d) 8 (fun _ => ?_) (fun z => absurd z (by omega))))
    have w44 : ¬ f_c (Fr.drop d) = 3 → wX_labelWants_44 post (nI (Fr.length - 1 - d)) (gx_byteCount u) WP a (nI ((K, Fr, b)).2.1.length) (nI ((K, Fr, b)).1.length) (gx_valueCount u) (gx_activeCount u) (gx_goesOn u) (gx_outcome u) (gx_resultValue u) (gx_trapPlace u) (gx_fuelUsed u) (gx_firstWaiting u) (gx_waitingCount u) (gx_printCount u) (gx_code u) F Pa (gx_loaded u) (gx_globals u) (gx_memories u) A FH FR FD KI (gx_values u) (gx_variables u) (gx_activeSlot u) (gx_activeGives u) (gx_activeFrame u) (gx_activeResume u) (gx_waiting u) (gx_prints u) := by
      intro z
      rw [if_neg z] at h'
      exact br_t rfl ⟨pk_in (Fr.length - 1 - d) 8 (by omega), eq_p (P := post) eR h'⟩
    refine pk_le (Fr.length - 1 - d) 0 (fun z => w44 (by rw [a4 (by omega)]; decide)) (fun z => ⟨pk_in (Fr.length - 1 - d) 140 (by omega), ?_⟩)
    refine eq_p (P := fun w => wpX_byteAt _ _ _ w) eA ?_
    refine xx_byte (m := 2) M (by omega) (by omega) ?_
    refine pk_eq (c (f_o (Fr.drop d))) 3 (fun y => ?_) (fun y => w44 (fun q => y ((a5 z).mp q))) rfl rfl (by have := M.2.1 (f_o (Fr.drop d)); omega)
    rw [if_pos ((a5 z).mpr y)] at h'
    exact br_f (by decide) h'
theorem x_end {post : Int32 → SX → Prop} {P : Nat → Nat} (M : mx_ok u 2 c) (hPa : xr_Pa Pa P) (op : Nat) (hop : op = 5 ∨ op = 6) (ha : a = nI p) (hp : p < 140) (hPo : op = 6 → c (f_o S.2.1) = 4 → P (f_o S.2.1) < 140) (hE : op = 6 → (c (f_o S.2.1) = 4 ∧ P (f_o S.2.1) = p ↔ f_c S.2.1 = 4)) (h54 : op = 5 → f_c S.2.1 = 4) (hF : S.2.1 ≠ []) (hb : S.2.2 = false) (R : XV c S A FH FR FD KI)
    (hs : (vt_close op S).2.2 = false → ∀ kc FD KI, ((vt_close op S).2.1 ≠ [] → kc = nI (vt_close op S).1.length ∧ XV c (vt_close op S) A FH FR FD KI) → post 1 (xl u WP a (nI (vt_close op S).2.1.length) kc F Pa A FH FR FD KI))
    (hf : (vt_close op S).2.2 = true → ∀ fc kc FD KI, post 0 (xl u WP a fc kc F Pa A FH FR FD KI)) : wpX_checkEnd post (xl u WP a (nI S.2.1.length) (nI S.1.length) F Pa A FH FR FD KI) (nI op) := by
  obtain ⟨K, Fr, b⟩ := S
  dsimp only at hF hb
  subst hb
  subst ha
  cases Fr with
  | nil => exact absurd rfl hF
  | cons x Fr =>
    obtain ⟨cd, g, hh, d, o⟩ := x
    obtain ⟨rk, ⟨r1, r2, r3, r4, r5, r6, r7, r8⟩, s1, s2, s3, s4, s5, s6, s7⟩ := id R
    dsimp only at rk s1 s2 s3 s4
    simp only [List.length_cons] at s2
    have hE' : op = 6 → (c o = 4 ∧ P o = p ↔ cd = 4) := hE
    have hPo' : op = 6 → c o = 4 → P o < 140 := hPo
    have h54' : op = 5 → cd = 4 := h54
    have eR : FR (nI Fr.length).toNatClampNeg = nI g := by rw [pk_cl Fr.length]; exact r2
    have eH : FH (nI Fr.length).toNatClampNeg = nI hh := by rw [pk_cl Fr.length]; exact r1
    have eA : A (nI Fr.length).toNatClampNeg = nI o := by rw [pk_cl Fr.length]; exact r4
    unfold wpX_checkEnd
    refine xx_last (k := Fr.length + 1) (l := 8) (by omega) (by omega) (by omega) ?_
    rw [Nat.add_sub_cancel]
    refine ⟨pk_in Fr.length 8 (by omega), nm_r eR ?_⟩
    have ecl : vt_cl op (K, (cd, g, hh, d, o) :: Fr, false) = vt_bad (vt_pr g (K, (cd, g, hh, d, o) :: Fr, false)) (decide ((vt_pr g (K, (cd, g, hh, d, o) :: Fr, false)).1.length ≠ hh ∨ (op = 6 ∧ cd = 4 ∧ g ≠ 0))) := rfl
    have ebad : (vt_cl op (K, (cd, g, hh, d, o) :: Fr, false)).2.2 = true → (vt_close op (K, (cd, g, hh, d, o) :: Fr, false)).2.2 = true := by
      intro z
      unfold vt_close
      split
      · exact z
      · split
        · exact z
        · unfold vt_gr vt_gv
          repeat' split
          all_goals first | exact z | rfl
    refine x_take g (by omega) (by simp) rfl R (fun h1 R1 => br_f (by decide) ⟨pk_in Fr.length 140 (by omega), ?_⟩) (fun h1 kc => br_t rfl ?_)
    · have eF2 : (vt_pr g (K, (cd, g, hh, d, o) :: Fr, false)).2.1 = (cd, g, hh, d, o) :: Fr := fk_pr g _
      generalize eS1 : vt_pr g (K, (cd, g, hh, d, o) :: Fr, false) = S1 at R1 eF2 ecl h1
      obtain ⟨K1, F1, b1⟩ := S1
      dsimp only at eF2 h1
      subst eF2
      subst h1
      obtain ⟨rk1, ⟨p1, p2, p3, p4, p5, p6, p7, p8⟩, q1, q2, q3, q4, q5, q6, q7⟩ := id R1
      dsimp only at rk1 q1 q2 q3 q4
      refine pk_eq K1.length hh (fun z => ?_) (fun z => ?_) rfl eH
      · rcases hop with rfl | rfl
        · have hc : vt_close 5 (K, (cd, g, hh, d, o) :: Fr, false) = (K1, (5, g, hh, false, o) :: Fr, false) := by
            rw [vt_close, if_pos rfl, ecl]
            show (K1, _, false || _) = _
            rw [decide_eq_false (fun y => y.elim (fun w => w z) (fun w => absurd w.1 (by decide)))]
            rfl
          rw [hc] at hs
          refine br_t rfl ⟨pk_in Fr.length 8 (by omega), nm_r (show upd FD (nI Fr.length).toNatClampNeg (vp_nar .boolean 0) = upd FD Fr.length (bb_i false) from by rw [pk_cl Fr.length]; rfl) ?_⟩
          refine hs rfl _ _ KI (fun _ => ⟨rfl, rk1, ⟨p1, p2, pk_us, p4, p5, fun y => ?_, fun y => ?_, xv_F_ext Fr p8 (fun _ _ => rfl) (fun _ _ => rfl) (fun _ _ => rfl) (fun j hj => pk_un (by omega))⟩, q1, by simp only [List.length_cons]; omega, q3, q4, q5, by omega, q7⟩)
          · have := (p6 y).1; have := h54' rfl; omega
          · have := p7 y; have := h54' rfl; omega
        · refine br_f (by decide) ⟨pk_in Fr.length 140 (by omega), nm_r eA ?_⟩
          have hE2 := hE' rfl
          have w93 : ¬ (cd = 4 ∧ g ≠ 0) → wX_checkEnd_93 post (nI g) (gx_byteCount u) WP (nI p) (nI ((K1, (cd, g, hh, d, o) :: Fr, false)).2.1.length) (nI ((K1, (cd, g, hh, d, o) :: Fr, false)).1.length) (gx_valueCount u) (gx_activeCount u) (gx_goesOn u) (gx_outcome u) (gx_resultValue u) (gx_trapPlace u) (gx_fuelUsed u) (gx_firstWaiting u) (gx_waitingCount u) (gx_printCount u) (gx_code u) F Pa (gx_loaded u) (gx_globals u) (gx_memories u) A FH FR FD KI (gx_values u) (gx_variables u) (gx_activeSlot u) (gx_activeGives u) (gx_activeFrame u) (gx_activeResume u) (gx_waiting u) (gx_prints u) := by
            intro z2
            have ecl2 : vt_cl 6 (K, (cd, g, hh, d, o) :: Fr, false) = (K1, (cd, g, hh, d, o) :: Fr, false) := by
              rw [ecl]
              show (K1, _, false || _) = _
              rw [decide_eq_false (fun y => y.elim (fun w => w z) (fun w => z2 w.2))]
              rfl
            refine nm_r (show nI (Fr.length + 1) - 1 = nI Fr.length from nI_pred Fr.length) ?_
            by_cases hT : Fr = []
            · have hc : vt_close 6 (K, (cd, g, hh, d, o) :: Fr, false) = (K1, [], false) := by
                rw [vt_close, if_neg (by decide), if_pos (by exact hT), ecl2]
              rw [hc] at hs
              subst hT
              have hs' := fun kc KI => hs rfl kc FD KI (fun y => absurd rfl y)
              refine pk_eq g 0 (fun y => ⟨bb_nar true, hs' _ KI⟩) (fun y => pk_lt K1.length 20 (fun y2 => ⟨pk_in K1.length 20 y2, nm_e (nm_e ⟨bb_nar true, hs' _ _⟩)⟩) (fun y2 => ?_))
              have := (r6 rfl).2
              exact absurd y2 (by omega)
            · have hc : vt_close 6 (K, (cd, g, hh, d, o) :: Fr, false) = vt_gr g (K1, Fr, false) := by
                rw [vt_close, if_neg (by decide), if_neg (by exact hT), ecl2]; rfl
              rw [hc] at hs hf
              simp only [List.length_cons] at q2
              refine x_gr (S := (K1, Fr, false)) g (by omega) rfl ⟨rk1, p8, q1, by dsimp only; omega, q3, sn_F_mono q7 q4⟩ (fun y KI R2 => ⟨bb_nar true, hs y _ FD KI (fun _ => ⟨rfl, R2⟩)⟩) (fun y => ⟨bb_nar false, hf y _ _ FD KI⟩)
          refine pk_eq g 0 (fun y => w93 (fun q => q.2 y)) (fun y => ?_)
          refine xx_byte (m := 2) M (by omega) (by omega) ?_
          refine pk_eq (c o) 4 (fun y2 => ?_) (fun y2 => w93 (fun q => y2 (hE2.mpr q.1).1)) rfl rfl (by have := M.2.1 o; omega)
          refine xx_part (m := 2) (P := P) (hPa o r5) (by omega) r5 ?_
          refine pk_eq (P o) p (fun y3 => ?_) (fun y3 => w93 (fun q => y3 (hE2.mpr q.1).2)) rfl rfl (by have := hPo' rfl y2; omega)
          refine hf (ebad ?_) _ _ FD KI
          rw [ecl]
          show (false || _) = true
          rw [decide_eq_true (Or.inr ⟨rfl, hE2.mp ⟨y2, y3⟩, y⟩)]
          rfl
      · refine hf (ebad ?_) _ _ FD KI
        rw [ecl]
        show (false || _) = true
        rw [decide_eq_true (Or.inl z)]
        rfl
    · refine hf (ebad ?_) _ _ FD KI
      rw [ecl]
      show ((vt_pr g (K, (cd, g, hh, d, o) :: Fr, false)).2.2 || _) = true
      rw [h1]; rfl
end
end
section
/-! 26: the class's validation: branches, calls, variables, memory, numbers -/
theorem fm_pl {k : Nat} {S : vt_St} (h : S.2.2 = true) : (vt_pl k S).2.2 = true := by unfold vt_pl; split <;> (show (S.2.2 || _) = true; rw [h]; rfl)
theorem fm_gv {k : Nat} {S : vt_St} (h : S.2.2 = true) : (vt_gv k S).2.2 = true := by unfold vt_gv; split; rfl; exact h
theorem fm_pr {k : Nat} {S : vt_St} (h : S.2.2 = true) : (vt_pr k S).2.2 = true := by unfold vt_pr; split; exact h; exact fm_pl h
theorem fm_gr {k : Nat} {S : vt_St} (h : S.2.2 = true) : (vt_gr k S).2.2 = true := by unfold vt_gr; split; exact h; exact fm_gv h
theorem fm_die {S : vt_St} (h : S.2.2 = true) : (vt_die S).2.2 = true := h
theorem fm_bad {S : vt_St} {b : Bool} (h : S.2.2 = true) : (vt_bad S b).2.2 = true := by show (S.2.2 || b) = true; rw [h]; rfl
theorem fm_ws {d : Nat} {S : vt_St} (h : S.2.2 = true) : (vt_ws d S).2.2 = true := fm_bad h
theorem fm_ps {c : Nat → Nat} {t : Nat} : ∀ k {S : vt_St}, S.2.2 = true → (vt_ps c t k S).2.2 = true := by
  intro k
  induction k with
  | zero => intro S h; exact h
  | succ k ih => intro S h; rw [vt_ps]; exact ih (fm_pl h)
theorem fm_tb {c : Nat → Nat} {w : Nat} : ∀ r p {S : vt_St}, S.2.2 = true → (vt_tb c w r p S).2.2 = true := by
  intro r
  induction r with
  | zero => intro p S h; exact h
  | succ r ih => intro p S h; rw [vt_tb]; exact ih _ (fm_bad (fm_ws h))
theorem fm_open {cd x o : Nat} {S : vt_St} (h : S.2.2 = true) : (vt_open cd x o S).2.2 = true := by unfold vt_open; split; rfl; exact h
theorem pl_n {k : Nat} {S : vt_St} (q : ¬ S.1.length = f_h S.2.1) : (vt_pl k S).2.2 = (S.2.2 || pl_f (S.1.headD 0) k) := by unfold vt_pl; rw [if_neg q]
theorem pl_p {k : Nat} {S : vt_St} (q : S.1.length = f_h S.2.1) : (vt_pl k S).2.2 = (S.2.2 || !f_d S.2.1) := by unfold vt_pl; rw [if_pos q]
theorem w_pl {d k : Nat} {S : vt_St} : vt_w d (vt_pl k S) = vt_w d S := by unfold vt_w; rw [fk_pl]
theorem ws_ok {d : Nat} {S : vt_St} (h : d < S.2.1.length) : vt_ws d S = S := by
  unfold vt_ws; rw [decide_eq_false (by omega)]; exact vb_f S
theorem ws_no {d : Nat} {S : vt_St} (h : S.2.1.length ≤ d) : (vt_ws d S).2.2 = true := by
  unfold vt_ws; rw [decide_eq_true h]; exact vb_t S
section
variable {u : SX} {c : Nat → Nat} {n p : Nat} {WP a : Int32} {F Pa A FH FR FD KI : Nat → Int32} {S : vt_St}
theorem x_br7 {post : Int32 → SX → Prop} (M : mx_ok u 2 c) (d : Nat) (hd : d < 256) (hF : S.2.1 ≠ []) (hb : S.2.2 = false) (R : XV c S A FH FR FD KI)
    (hs : (vt_die (vt_pr (vt_w d S) (vt_ws d S))).2.2 = false → ∀ FD, XV c (vt_die (vt_pr (vt_w d S) (vt_ws d S))) A FH FR FD KI → post 1 (xl u WP a (nI (vt_die (vt_pr (vt_w d S) (vt_ws d S))).2.1.length) (nI (vt_die (vt_pr (vt_w d S) (vt_ws d S))).1.length) F Pa A FH FR FD KI))
    (hf : (vt_die (vt_pr (vt_w d S) (vt_ws d S))).2.2 = true → ∀ kc, post 0 (xl u WP a (nI S.2.1.length) kc F Pa A FH FR FD KI)) : wpX_checkBranch post (xl u WP a (nI S.2.1.length) (nI S.1.length) F Pa A FH FR FD KI) 7 (nI d) := by
  unfold wpX_checkBranch
  refine x_label M d hd hF R (fun h1 hw => br_t (nI_pos' (by omega)) (br_t rfl ?_)) (fun h1 => br_f (by decide) (hf (fm_die (fm_pr (ws_no h1))) _))
  rw [ws_ok h1] at hs hf
  refine x_take _ hw hF hb R (fun h2 R2 => br_f (by decide) ?_) (fun h2 kc => br_t rfl (hf (fm_die h2) kc))
  exact x_die (by rw [fk_pr]; exact hF) R2 (fun FD R3 => br_f (by decide) (hs h2 FD R3))
theorem x_br8 {post : Int32 → SX → Prop} (M : mx_ok u 2 c) (d : Nat) (hd : d < 256) (hF : S.2.1 ≠ []) (hb : S.2.2 = false) (R : XV c S A FH FR FD KI)
    (hs : (vt_gr (vt_w d (vt_pl 1 S)) (vt_pr (vt_w d (vt_pl 1 S)) (vt_ws d (vt_pl 1 S)))).2.2 = false → ∀ KI, XV c (vt_gr (vt_w d (vt_pl 1 S)) (vt_pr (vt_w d (vt_pl 1 S)) (vt_ws d (vt_pl 1 S)))) A FH FR FD KI → post 1 (xl u WP a (nI (vt_gr (vt_w d (vt_pl 1 S)) (vt_pr (vt_w d (vt_pl 1 S)) (vt_ws d (vt_pl 1 S)))).2.1.length) (nI (vt_gr (vt_w d (vt_pl 1 S)) (vt_pr (vt_w d (vt_pl 1 S)) (vt_ws d (vt_pl 1 S)))).1.length) F Pa A FH FR FD KI))
    (hf : (vt_gr (vt_w d (vt_pl 1 S)) (vt_pr (vt_w d (vt_pl 1 S)) (vt_ws d (vt_pl 1 S)))).2.2 = true → ∀ kc, post 0 (xl u WP a (nI S.2.1.length) kc F Pa A FH FR FD KI)) : wpX_checkBranch post (xl u WP a (nI S.2.1.length) (nI S.1.length) F Pa A FH FR FD KI) 8 (nI d) := by
  rw [w_pl] at hs hf
  unfold wpX_checkBranch
  refine x_label M d hd hF R (fun h1 hw => br_t (nI_pos' (by omega)) (br_f (by decide) ?_)) (fun h1 => br_f (by decide) (hf (fm_gr (fm_pr (ws_no (by rw [fk_pl]; exact h1)))) _))
  rw [ws_ok (by rw [fk_pl]; exact h1)] at hs hf
  refine x_take1 1 (by omega) (by omega) hF hb R (fun h2 R2 => br_f (by decide) ?_) (fun h2 kc => br_t rfl (hf (fm_gr (fm_pr h2)) kc))
  have hF2 : (vt_pl 1 S).2.1 ≠ [] := by rw [fk_pl]; exact hF
  have e2 : (vt_pl 1 S).2.1.length = S.2.1.length := by rw [fk_pl]
  refine x_take _ hw hF2 h2 R2 (fun h3 R3 => br_f (by decide) ?_) (fun h3 kc => br_t rfl ?_)
  · refine x_gr _ hw h3 R3 (fun h4 KI R4 => br_f (by decide) (hs h4 KI R4)) (fun h4 => br_t rfl ?_)
    have e3 : (vt_pr (vt_w d S) (vt_pl 1 S)).2.1.length = S.2.1.length := by rw [fk_pr, fk_pl]
    rw [e3]
    exact hf h4 _
  · rw [e2]; exact hf (fm_gr h3) kc
theorem x_tb_l {post : Int32 → SX → Prop} (M : mx_ok u 2 c) (w N : Nat) (hw : w ≤ 2) (hN : N ≤ 4) (ha : a = nI p) (hp : p < 140) (hF : S.2.1 ≠ []) (hb : S.2.2 = false) (R : XV c S A FH FR FD KI) (T : vt_St)
    (hT : T.2.1 = S.2.1)
    (hend : wX_checkBranchTable_29 post (nI N) (nI w) (gx_byteCount u) WP a (nI S.2.1.length) (nI S.1.length) (gx_valueCount u) (gx_activeCount u) (gx_goesOn u) (gx_outcome u) (gx_resultValue u) (gx_trapPlace u) (gx_fuelUsed u) (gx_firstWaiting u) (gx_waitingCount u) (gx_printCount u) (gx_code u) F Pa (gx_loaded u) (gx_globals u) (gx_memories u) A FH FR FD KI (gx_values u) (gx_variables u) (gx_activeSlot u) (gx_activeGives u) (gx_activeFrame u) (gx_activeResume u) (gx_waiting u) (gx_prints u) 1 (nI N)) (hbad : (∃ i, i < N ∧ (S.2.1.length ≤ c (p + 2 + i) ∨ vt_w (c (p + 2 + i)) S ≠ w)) → post 0 (xl u WP a (nI S.2.1.length) (nI S.1.length) F Pa A FH FR FD KI)) : ∀ r i l, i + r = N → r < l →
    wX_checkBranchTable_29 post (nI N) (nI w) (gx_byteCount u) WP a (nI S.2.1.length) (nI S.1.length) (gx_valueCount u) (gx_activeCount u) (gx_goesOn u) (gx_outcome u) (gx_resultValue u) (gx_trapPlace u) (gx_fuelUsed u) (gx_firstWaiting u) (gx_waitingCount u) (gx_printCount u) (gx_code u) F Pa (gx_loaded u) (gx_globals u) (gx_memories u) A FH FR FD KI (gx_values u) (gx_variables u) (gx_activeSlot u) (gx_activeGives u) (gx_activeFrame u) (gx_activeResume u) (gx_waiting u) (gx_prints u) l (nI i) := by
  subst ha
  intro r
  induction r with
  | zero =>
    intro i l hi hl
    obtain ⟨l, rfl⟩ : ∃ j, l = j + 1 := ⟨l - 1, by omega⟩
    have hi' : i = N := by omega
    subst hi'
    exact pk_le i i (fun _ => hend.1 (nI_le (Nat.le_refl _) (by omega))) (fun z => absurd z (by omega))
  | succ r ih =>
    intro i l hi hl
    obtain ⟨l, rfl⟩ : ∃ j, l = j + 1 := ⟨l - 1, by omega⟩
    refine pk_le N i (fun z => absurd z (by omega)) (fun _ => ?_)
    have e : (nI p + 2) + nI i = nI (p + 2 + i) := by rw [show (2 : Int32) = nI 2 from rfl, nI_add, nI_add]
    refine eq_p (P := fun z => wpX_byteAt _ _ _ z) e ?_
    refine xx_byte (m := 2) M (by omega) (by omega) ?_
    refine x_label M _ (M.2.1 _) hF R (fun h1 hw2 => pk_eq (vt_w (c (p + 2 + i)) S) w (fun z => nm_r (nI_1 i) (ih (i + 1) l (by omega) (by omega))) (fun z => hbad ⟨i, by omega, Or.inr z⟩)) (fun h1 => br_f (fun y => ?_) (hbad ⟨i, by omega, Or.inl h1⟩))
    have : (-1 : Int32) < 0 := by decide
    rw [y] at this
    exact nI_pos (by omega) this
theorem tb_flag {c : Nat → Nat} {w : Nat} : ∀ r p (S : vt_St), (∀ i, i < r → c (p + i) < S.2.1.length ∧ vt_w (c (p + i)) S = w) → vt_tb c w r p S = S := by
  intro r
  induction r with
  | zero => intro p S _; rfl
  | succ r ih =>
    intro p S h
    rw [vt_tb]
    obtain ⟨h1, h2⟩ := h 0 (by omega)
    rw [Nat.add_zero] at h1 h2
    rw [ws_ok h1, decide_eq_false (fun z => z h2), vb_f]
    exact ih (p + 1) S (fun i hi => by have := h (i + 1) (by omega); rw [show p + (i + 1) = p + 1 + i by omega] at this; exact this)
theorem tb_bad {c : Nat → Nat} {w : Nat} : ∀ r p (S : vt_St) i, i < r → (S.2.1.length ≤ c (p + i) ∨ vt_w (c (p + i)) S ≠ w) → (vt_tb c w r p S).2.2 = true := by
  intro r
  induction r with
  | zero => intro p S i hi; omega
  | succ r ih =>
    intro p S i hi h
    rw [vt_tb]
    cases i with
    | zero =>
      rw [Nat.add_zero] at h
      refine fm_tb r _ ?_
      rcases h with h | h
      · exact fm_bad (ws_no h)
      · rw [decide_eq_true h]; exact vb_t _
    | succ i =>
      refine ih (p + 1) _ i (by omega) ?_
      rw [show p + 1 + i = p + (i + 1) by omega]
      exact h
theorem x_table {post : Int32 → SX → Prop} (M : mx_ok u 2 c) (h4 : c (p + 1) ≤ 4) (ha : a = nI p) (hp : p < 140) (hF : S.2.1 ≠ []) (hb : S.2.2 = false) (R : XV c S A FH FR FD KI)
    (hs : (vt_table c p S).2.2 = false → ∀ FD, XV c (vt_table c p S) A FH FR FD KI → post 1 (xl u WP a (nI (vt_table c p S).2.1.length) (nI (vt_table c p S).1.length) F Pa A FH FR FD KI))
    (hf : (vt_table c p S).2.2 = true → ∀ kc, post 0 (xl u WP a (nI S.2.1.length) kc F Pa A FH FR FD KI)) : wpX_checkBranchTable post (xl u WP a (nI S.2.1.length) (nI S.1.length) F Pa A FH FR FD KI) (nI (c (p + 1))) := by
  unfold vt_table at hs hf
  rw [w_pl] at hs hf
  have e2 : (vt_pl 1 S).2.1.length = S.2.1.length := by rw [fk_pl]
  have hF2 : (vt_pl 1 S).2.1 ≠ [] := by rw [fk_pl]; exact hF
  unfold wpX_checkBranchTable
  have e : (a + 2) + nI (c (p + 1)) = nI (p + 1 + c (p + 1) + 1) := by rw [ha, show (2 : Int32) = nI 2 from rfl, nI_add, nI_add]; congr 1; omega
  refine eq_p (P := fun z => wpX_byteAt _ _ _ z) e ?_
  refine xx_byte (m := 2) M (by omega) (by omega) ?_
  refine x_label M _ (M.2.1 _) hF R (fun h1 hw => br_t (nI_pos' (by omega)) ⟨c (p + 1) + 1, ?_⟩) (fun h1 => br_f (by decide) (hf (fm_die (fm_pr (fm_tb _ _ (ws_no (by rw [e2]; exact h1))))) _))
  rw [ws_ok (by rw [e2]; exact h1)] at hs hf
  have hbad : (∃ i, i < c (p + 1) ∧ (S.2.1.length ≤ c (p + 2 + i) ∨ vt_w (c (p + 2 + i)) S ≠ vt_w (c (p + 1 + c (p + 1) + 1)) S)) → (vt_die (vt_pr (vt_w (c (p + 1 + c (p + 1) + 1)) S) (vt_tb c (vt_w (c (p + 1 + c (p + 1) + 1)) S) (c (p + 1)) (p + 2) (vt_pl 1 S)))).2.2 = true := by
    rintro ⟨i, hi, h⟩
    refine fm_die (fm_pr (tb_bad _ _ _ i hi ?_))
    rw [e2, w_pl]
    exact h
  by_cases hg : ∃ i, i < c (p + 1) ∧ (S.2.1.length ≤ c (p + 2 + i) ∨ vt_w (c (p + 2 + i)) S ≠ vt_w (c (p + 1 + c (p + 1) + 1)) S)
  · -- the first bad label stops it; the end is not reached
    have hfin := hf (hbad hg)
    have go : ∀ r i l, i + r = c (p + 1) → r < l → (∃ j, i ≤ j ∧ j < c (p + 1) ∧ (S.2.1.length ≤ c (p + 2 + j) ∨ vt_w (c (p + 2 + j)) S ≠ vt_w (c (p + 1 + c (p + 1) + 1)) S)) → wX_checkBranchTable_29 post (nI (c (p + 1))) (nI (vt_w (c (p + 1 + c (p + 1) + 1)) S)) (gx_byteCount u) WP a (nI S.2.1.length) (nI S.1.length) (gx_valueCount u) (gx_activeCount u) (gx_goesOn u) (gx_outcome u) (gx_resultValue u) (gx_trapPlace u) (gx_fuelUsed u) (gx_firstWaiting u) (gx_waitingCount u) (gx_printCount u) (gx_code u) F Pa (gx_loaded u) (gx_globals u) (gx_memories u) A FH FR FD KI (gx_values u) (gx_variables u) (gx_activeSlot u) (gx_activeGives u) (gx_activeFrame u) (gx_activeResume u) (gx_waiting u) (gx_prints u) l (nI i) := by
      intro r
      induction r with
      | zero => intro i l hi hl ⟨j, j1, j2, _⟩; omega
      | succ r ih =>
        intro i l hi hl ⟨j, j1, j2, j3⟩
        obtain ⟨l, rfl⟩ : ∃ j, l = j + 1 := ⟨l - 1, by omega⟩
        refine pk_le (c (p + 1)) i (fun z => absurd z (by omega)) (fun _ => ?_)
        have e : (a + 2) + nI i = nI (p + 2 + i) := by rw [ha, show (2 : Int32) = nI 2 from rfl, nI_add, nI_add]
        refine eq_p (P := fun z => wpX_byteAt _ _ _ z) e ?_
        refine xx_byte (m := 2) M (by omega) (by omega) ?_
        refine x_label M _ (M.2.1 _) hF R (fun q1 hw2 => pk_eq (vt_w (c (p + 2 + i)) S) (vt_w (c (p + 1 + c (p + 1) + 1)) S) (fun z => nm_r (nI_1 i) (ih (i + 1) l (by omega) (by omega) ⟨j, ?_, j2, j3⟩)) (fun z => hfin _)) (fun q1 => br_f (fun y => ?_) (hfin _))
        · rcases Nat.lt_or_ge i j with q | q
          · exact q
          · have : j = i := by omega
            subst this
            rcases j3 with j3 | j3
            · omega
            · exact absurd z j3
        · have : (-1 : Int32) < 0 := by decide
          rw [y] at this
          exact nI_pos (by omega) this
    obtain ⟨j, j1, j2⟩ := hg
    exact go (c (p + 1)) 0 _ (Nat.zero_add _) (by omega) ⟨j, by omega, j1, j2⟩
  · have etb : vt_tb c (vt_w (c (p + 1 + c (p + 1) + 1)) S) (c (p + 1)) (p + 2) (vt_pl 1 S) = vt_pl 1 S := by
      refine tb_flag _ _ _ (fun i hi => ?_)
      rw [e2, w_pl]
      refine ⟨?_, ?_⟩
      · rcases Nat.lt_or_ge (c (p + 2 + i)) S.2.1.length with q | q
        · exact q
        · exact absurd ⟨i, hi, Or.inl q⟩ hg
      · refine Classical.byContradiction (fun q => hg ⟨i, hi, Or.inr q⟩)
    rw [etb] at hs hf
    refine x_tb_l M _ (c (p + 1)) hw h4 ha hp hF hb R S rfl ?_ (fun q => absurd q hg) (c (p + 1)) 0 _ (Nat.zero_add _) (by omega)
    refine pk_le (c (p + 1)) (c (p + 1)) (fun _ => ?_) (fun z => absurd z (by omega))
    refine x_take1 1 (by omega) (by omega) hF hb R (fun h2 R2 => br_f (by decide) ?_) (fun h2 kc => br_t rfl (hf (fm_die (fm_pr h2)) kc))
    refine x_take _ hw hF2 h2 R2 (fun h3 R3 => br_f (by decide) ?_) (fun h3 kc => br_t rfl ?_)
    · exact x_die (by rw [fk_pr]; exact hF2) R3 (fun FD R4 => br_f (by decide) (hs h3 FD R4))
    · rw [e2]; exact hf (fm_die h3) kc
theorem x_sel {post : Int32 → SX → Prop} (hF : S.2.1 ≠ []) (hb : S.2.2 = false) (R : XV c S A FH FR FD KI)
    (hs : (vt_sel S).2.2 = false → ∀ KI, XV c (vt_sel S) A FH FR FD KI → post 1 (xl u WP a (nI (vt_sel S).2.1.length) (nI (vt_sel S).1.length) F Pa A FH FR FD KI))
    (hf : (vt_sel S).2.2 = true → ∀ kc, post 0 (xl u WP a (nI S.2.1.length) kc F Pa A FH FR FD KI)) : wpX_checkSelect post (xl u WP a (nI S.2.1.length) (nI S.1.length) F Pa A FH FR FD KI) := by
  unfold vt_sel at hs hf
  unfold wpX_checkSelect
  have e1 : (vt_pl 1 S).2.1.length = S.2.1.length := by rw [fk_pl]
  have hF1 : (vt_pl 1 S).2.1 ≠ [] := by rw [fk_pl]; exact hF
  refine x_take1 1 (by omega) (by omega) hF hb R (fun h1 R1 => br_f (by decide) ?_) (fun h1 kc => br_t rfl (hf (fm_gv (fm_pl (fm_pl h1))) kc))
  generalize eS1 : vt_pl 1 S = S1 at *
  have e2 : (vt_pl 0 S1).2.1.length = S1.2.1.length := by rw [fk_pl]
  have hF2 : (vt_pl 0 S1).2.1 ≠ [] := by rw [fk_pl]; exact hF1
  have hfz : ∀ {Q : Prop}, (∀ kc, post 0 (xl u WP a (nI S.2.1.length) kc F Pa A FH FR FD KI)) → (Q → ∀ kc, post 0 (xl u WP a (nI S1.2.1.length) kc F Pa A FH FR FD KI)) := by
    intro Q q _ kc; rw [e1]; exact q kc
  refine x_top hF1 h1 R1 (fun h2 R2 k2 => ?_) (fun h2 eS2 => ?_)
  · -- the second operand is there
    have hxb : xk (vt_px 0 S1) ≠ 0 := by unfold xk; split <;> omega
    have hxb3 : xk (vt_px 0 S1) ≤ 3 := by unfold xk; split <;> omega
    refine x_top hF2 h2 R2 (fun h3 R3 k3 => ?_) (fun h3 eS3 => ?_)
    · have hxa : xk (vt_px 0 (vt_pl 0 S1)) ≠ 0 := by unfold xk; split <;> omega
      have hxa3 : xk (vt_px 0 (vt_pl 0 S1)) ≤ 3 := by unfold xk; split <;> omega
      refine pk_eq (xk (vt_px 0 (vt_pl 0 S1))) 0 (fun z => absurd z hxa) (fun _ => pk_eq (xk (vt_px 0 S1)) 0 (fun z => absurd z hxb) (fun _ => ?_))
      -- the pull with the kind of the first: the same place, the flag by the kinds
      generalize eS2 : vt_pl 0 S1 = S2 at *
      generalize eb : vt_px 0 S1 = kb at *
      have e3 : (vt_pl 0 S2).2.1.length = S1.2.1.length := by rw [fk_pl]; exact e2
      have hsame : (vt_pl kb S2).1 = (vt_pl 0 S2).1 ∧ (vt_pl kb S2).2.1 = (vt_pl 0 S2).2.1 := by
        unfold vt_pl; split <;> exact ⟨rfl, rfl⟩
      have hpx : vt_px kb S2 = if S2.1.length = f_h S2.2.1 then kb else vt_px 0 S2 := by
        unfold vt_px
        by_cases q : S2.1.length = f_h S2.2.1
        · rw [if_pos q, if_pos q]
        · rw [if_neg q, if_neg q, if_neg q]
      have hfl : (vt_pl kb S2).2.2 = (if S2.1.length = f_h S2.2.1 then false else pl_f (vt_px 0 S2) kb) := by
        unfold vt_pl vt_px
        by_cases q : S2.1.length = f_h S2.2.1
        · rw [if_pos q, if_pos q]
          rw [show (vt_pl 0 S2).2.2 = (S2.2.2 || !f_d S2.2.1) from by unfold vt_pl; rw [if_pos q], h2] at h3
          show (S2.2.2 || !f_d S2.2.1) = false
          rw [h2]; exact h3
        · rw [if_neg q, if_neg q]
          show (S2.2.2 || pl_f (S2.1.headD 0) kb) = _
          rw [h2, if_neg q]; rfl
      have hp0 : S2.1.length = f_h S2.2.1 → vt_px 0 S2 = 0 := fun q => by unfold vt_px; rw [if_pos q]
      -- the state that is given on
      have key : ∀ kg, kg ≤ 2 → (vt_pl kb S2).2.2 = false → (if kb = 0 then vt_px kb S2 else kb) = kg → wpX_give (fun r u => narrow .boolean (.int r) = .int r ∧ post r u) (xl u WP a (nI (vt_pl 0 S2).2.1.length) (nI (vt_pl 0 S2).1.length) F Pa A FH FR FD KI) (nI (xk kg)) := by
        intro kg hkg hfl0 ekg
        rw [ekg] at hs hf
        have eqS : vt_pl kb S2 = vt_pl 0 S2 := by
          obtain ⟨q1, q2⟩ := hsame
          have q3 : (vt_pl kb S2).2.2 = (vt_pl 0 S2).2.2 := by rw [hfl0, h3]
          exact Prod.ext q1 (Prod.ext q2 q3)
        rw [eqS] at hs hf
        refine x_gv kg hkg h3 R3 (fun h4 KI R4 => ⟨bb_nar true, hs h4 KI R4⟩) (fun h4 => ⟨bb_nar false, ?_⟩)
        rw [e3, e1]; exact hf h4 _
      have key51 : ∀ kg, kg ≤ 2 → (vt_pl kb S2).2.2 = false → (if kb = 0 then vt_px kb S2 else kb) = kg → wX_checkSelect_51 post (nI (xk kg)) (gx_byteCount u) WP a (nI (vt_pl 0 S2).2.1.length) (nI (vt_pl 0 S2).1.length) (gx_valueCount u) (gx_activeCount u) (gx_goesOn u) (gx_outcome u) (gx_resultValue u) (gx_trapPlace u) (gx_fuelUsed u) (gx_firstWaiting u) (gx_waitingCount u) (gx_printCount u) (gx_code u) F Pa (gx_loaded u) (gx_globals u) (gx_memories u) A FH FR FD KI (gx_values u) (gx_variables u) (gx_activeSlot u) (gx_activeGives u) (gx_activeFrame u) (gx_activeResume u) (gx_waiting u) (gx_prints u) := by
        intro kg hkg hfl0 ekg
        rw [ekg] at hs hf
        have eqS : vt_pl kb S2 = vt_pl 0 S2 := by
          obtain ⟨q1, q2⟩ := hsame
          have q3 : (vt_pl kb S2).2.2 = (vt_pl 0 S2).2.2 := by rw [hfl0, h3]
          exact Prod.ext q1 (Prod.ext q2 q3)
        rw [eqS] at hs hf
        unfold wX_checkSelect_51
        refine x_gv kg hkg h3 R3 (fun h4 KI R4 => br_f (by decide) (hs h4 KI R4)) (fun h4 => br_t rfl ?_)
        rw [e3, e1]; exact hf h4 _
      refine pk_eq (xk (vt_px 0 S2)) 3 (fun z => ?_) (fun z => ?_)
      · have z0 : vt_px 0 S2 = 0 := by unfold xk at z; split at z <;> omega
        refine key kb k2 ?_ ?_
        · rw [hfl, z0]; split
          · rfl
          · exact if_neg (by omega)
        · rw [hpx, z0]; split
          · rename_i q; rw [q]; split <;> rfl
          · rfl
      · have z0 : vt_px 0 S2 ≠ 0 := by intro q; exact z (if_pos q)
        have ne : ¬ S2.1.length = f_h S2.2.1 := fun q => z0 (hp0 q)
        rw [if_neg ne] at hfl hpx
        have exa : xk (vt_px 0 S2) = vt_px 0 S2 := if_neg z0
        refine pk_eq (xk kb) (xk (vt_px 0 S2)) (fun y => ?_) (fun y => pk_eq (xk kb) 3 (fun y2 => ?_) (fun y2 => ?_))
        · have yb : kb = vt_px 0 S2 := by rw [exa] at y; unfold xk at y; split at y <;> omega
          refine key51 _ k3 ?_ ?_
          · rw [hfl]; exact if_neg (by omega)
          · rw [hpx]; split
            · rfl
            · exact yb
        · have yb : kb = 0 := by unfold xk at y2; split at y2 <;> omega
          refine key51 _ k3 ?_ ?_
          · rw [hfl]; exact if_neg (by omega)
          · rw [hpx, if_pos yb]
        · have yb : kb ≠ 0 := by intro q; exact y2 (if_pos q)
          have exb : xk kb = kb := if_neg yb
          rw [exa, exb] at y
          rw [e3, e1]
          refine hf (fm_gv ?_) _
          rw [hfl]
          exact if_pos ⟨z0, yb, fun q => y q.symm⟩
    · -- no first operand
      refine br_t rfl ?_
      rw [e2, e1]
      refine hf (fm_gv ?_) _
      have hq : (vt_pl 0 S1).1.length = f_h (vt_pl 0 S1).2.1 := by
        refine Classical.byContradiction (fun q => ?_)
        rw [pl_n q, h2, show pl_f ((vt_pl 0 S1).1.headD 0) 0 = false from if_neg (by omega)] at h3
        exact ff_t h3
      rw [pl_p hq] at h3 ⊢
      exact h3
  · -- no second operand
    have hfT : (vt_gv (if vt_px 0 S1 = 0 then vt_px (vt_px 0 S1) (vt_pl 0 S1) else vt_px 0 S1) (vt_pl (vt_px 0 S1) (vt_pl 0 S1))).2.2 = true := fm_gv (fm_pl h2)
    have hz := hf hfT
    have hall : ∀ kc r, (r = (0 : Int32) → post 0 (xl u WP a (nI S1.2.1.length) kc F Pa A FH FR FD KI)) ∧ (¬ r = 0 → ((0 : Int32) = 0 → post 0 (xl u WP a (nI S1.2.1.length) kc F Pa A FH FR FD KI)) ∧ (¬ (0 : Int32) = 0 → ((r = 3 → wpX_give (fun r u => narrow .boolean (.int r) = .int r ∧ post r u) (xl u WP a (nI S1.2.1.length) kc F Pa A FH FR FD KI) 0) ∧ (¬ r = 3 → (((0 : Int32) = r → wX_checkSelect_51 post r (gx_byteCount u) WP a (nI S1.2.1.length) kc (gx_valueCount u) (gx_activeCount u) (gx_goesOn u) (gx_outcome u) (gx_resultValue u) (gx_trapPlace u) (gx_fuelUsed u) (gx_firstWaiting u) (gx_waitingCount u) (gx_printCount u) (gx_code u) F Pa (gx_loaded u) (gx_globals u) (gx_memories u) A FH FR FD KI (gx_values u) (gx_variables u) (gx_activeSlot u) (gx_activeGives u) (gx_activeFrame u) (gx_activeResume u) (gx_waiting u) (gx_prints u)) ∧ (¬ (0 : Int32) = r → ((((0 : Int32) = 3 → wX_checkSelect_51 post r (gx_byteCount u) WP a (nI S1.2.1.length) kc (gx_valueCount u) (gx_activeCount u) (gx_goesOn u) (gx_outcome u) (gx_resultValue u) (gx_trapPlace u) (gx_fuelUsed u) (gx_firstWaiting u) (gx_waitingCount u) (gx_printCount u) (gx_code u) F Pa (gx_loaded u) (gx_globals u) (gx_memories u) A FH FR FD KI (gx_values u) (gx_variables u) (gx_activeSlot u) (gx_activeGives u) (gx_activeFrame u) (gx_activeResume u) (gx_waiting u) (gx_prints u)) ∧ (¬ (0 : Int32) = 3 → post 0 (xl u WP a (nI S1.2.1.length) kc F Pa A FH FR FD KI)))))))))) := by
      intro kc r
      refine br_c (fun _ => ?_) (fun _ => br_t rfl ?_)
      · rw [e1]; exact hz kc
      · rw [e1]; exact hz kc
    refine x_top hF1 h1 R1 (fun h3 R3 k3 => absurd (h3.symm.trans h2) (by decide)) (fun h3 eS3 => ?_)
    exact hall _ 0
end
end
section
/-! 27: the class's access to a module's parts; calls, variables, memory, numbers -/
section
variable {w : SX} {c : Nat → Nat} {n m : Nat} {post : Int32 → Prop}
theorem xm_typeOf (hm : m < 3) (M : mx_ok w m c) (Fx : xf_ok (m * 22) c n (gx_facts w)) (mp : mp_ok c n) (hn : n ≤ 140) (f : Nat) (hf : f < m_I c n + m_F c n) (h : post (nI (c (m_fa c n f)))) : wpX_typeOf post w (nI m) (nI f) := by
  have hI := mp.2.2.1
  have hF := mp.2.2.2.1
  have h1 := mp.2.2.2.2.1 f hf
  unfold wpX_typeOf
  refine eq_p (P := fun z => wpX_fact _ _ _ z) (show (12 : Int32) + nI f = nI (12 + f) from nI_add 12 f) ?_
  refine xx_fact (m := m) (w := 12 + f) (z := nI (m_fa c n f)) (by rw [show m * 22 + (12 + f) = m * 22 + 12 + f by omega]; exact Fx.2.2.2.2.2.2.2.2.2.1 f hf) hm (by omega) ?_
  exact xx_byte M hm (by omega) h
theorem xm_fact (hm : m < 3) (k : Nat) (hk : k < 22) (z : Int32) (hz : gx_facts w (m * 22 + k) = z) (h : post z) : wpX_fact post w (nI m) (nI k) := xx_fact hz hm hk h
theorem xm_resultOf (hm : m < 3) (M : mx_ok w m c) (Fx : xf_ok (m * 22) c n (gx_facts w)) (mp : mp_ok c n) (hn : n ≤ 140) (t : Nat) (ht : t < c 0) (h : post (nI (ty_r c (m_ty c n t)))) : wpX_resultOf post w (nI m) (nI t) := by
  obtain ⟨t1, t2⟩ := mp.2.1 t ht
  have h0 := mp.1
  unfold wpX_resultOf
  refine eq_p (P := fun z => wpX_fact _ _ _ z) (show (8 : Int32) + nI t = nI (8 + t) from nI_add 8 t) ?_
  refine xx_fact (m := m) (w := 8 + t) (z := nI (m_ty c n t)) (by rw [show m * 22 + (8 + t) = m * 22 + 8 + t by omega]; exact Fx.2.2.2.2.2.2.2.2.1 t ht) hm (by omega) ?_
  refine xx_byte M hm (by omega) ?_
  refine nm_r (show (nI (m_ty c n t) + 1) + nI (c (m_ty c n t)) = nI (m_ty c n t + 1 + c (m_ty c n t)) from by rw [nI_1, nI_add]) ?_
  refine xx_byte M hm (by omega) ?_
  unfold ty_r at h
  refine pk_eq (c (m_ty c n t + 1 + c (m_ty c n t))) 0 (fun z => ?_) (fun z => ?_) rfl rfl (by have := M.2.1 (m_ty c n t + 1 + c (m_ty c n t)); omega)
  · rw [if_pos z] at h; exact h
  · rw [if_neg z] at h
    refine eq_p (P := fun z => wpX_byteAt _ _ _ z) (nI_1 (m_ty c n t + 1 + c (m_ty c n t))) ?_
    exact xx_byte M hm (by omega) h
theorem xm_varKind (M : mx_ok w 2 c) (Fx : xf_ok 44 c n (gx_facts w)) (mp : mp_ok c n) (hn : n ≤ 140) (f v : Nat) (hf1 : m_I c n ≤ f) (hf : f < m_I c n + m_F c n) (ht : c (m_fa c n f) < c 0) (hv : v < 256) (h : post (nI (vk c n f v))) : wpX_variableKind post w (nI f) (nI v) := by
  have hI := mp.2.2.1
  have hF := mp.2.2.2.1
  have h1 := mp.2.2.2.2.1 f hf
  obtain ⟨f1, f2, f3⟩ := mp.2.2.2.2.2.1 f hf1 hf
  unfold m_bo at f3
  have h0 := mp.1
  obtain ⟨t1, t2⟩ := mp.2.1 _ ht
  have t0 := t1.1
  unfold wpX_variableKind
  refine eq_p (P := fun z => wpX_fact _ _ _ z) (show (12 : Int32) + nI f = nI (12 + f) from nI_add 12 f) ?_
  refine xx_fact (m := 2) (w := 12 + f) (z := nI (m_fa c n f)) (by rw [show 2 * 22 + (12 + f) = 44 + 12 + f by omega]; exact Fx.2.2.2.2.2.2.2.2.2.1 f hf) (by omega) (by omega) ?_
  refine xx_byte (m := 2) M (by omega) (by omega) ?_
  refine eq_p (P := fun z => wpX_fact _ _ _ z) (show (8 : Int32) + nI (c (m_fa c n f)) = nI (8 + c (m_fa c n f)) from nI_add 8 _) ?_
  refine xx_fact (m := 2) (w := 8 + c (m_fa c n f)) (z := nI (m_ty c n (c (m_fa c n f)))) (by rw [show 2 * 22 + (8 + c (m_fa c n f)) = 44 + 8 + c (m_fa c n f) by omega]; exact Fx.2.2.2.2.2.2.2.2.1 _ ht) (by omega) (by omega) ?_
  refine xx_byte (m := 2) M (by omega) (by omega) ?_
  unfold vk at h
  refine pk_le (c (m_ty c n (c (m_fa c n f)))) v (fun z => ?_) (fun z => ?_)
  · rw [if_neg (by omega)] at h
    refine eq_p (P := fun z => wpX_byteAt _ _ _ z) (nI_1 (m_fa c n f)) ?_
    refine xx_byte (m := 2) M (by omega) (by omega) (nm_r (pk_sub z) ?_)
    refine pk_le (c (m_fa c n f + 1)) (v - c (m_ty c n (c (m_fa c n f)))) (fun z2 => ?_) (fun z2 => ?_)
    · rw [if_neg (by omega)] at h; exact h
    · rw [if_pos z2] at h
      refine eq_p (P := fun z => wpX_byteAt _ _ _ z) (show (nI (m_fa c n f) + 2) + nI (v - c (m_ty c n (c (m_fa c n f)))) = nI (m_fa c n f + 2 + (v - c (m_ty c n (c (m_fa c n f))))) from by rw [show (2 : Int32) = nI 2 from rfl, nI_add, nI_add]) ?_
      exact xx_byte (m := 2) M (by omega) (by omega) h
  · rw [if_pos z] at h
    refine eq_p (P := fun z => wpX_byteAt _ _ _ z) (show (nI (m_ty c n (c (m_fa c n f))) + 1) + nI v = nI (m_ty c n (c (m_fa c n f)) + 1 + v) from by rw [nI_1, nI_add]) ?_
    exact xx_byte (m := 2) M (by omega) (by omega) h
theorem xm_behind_l (hm : m < 3) (M : mx_ok w m c) : ∀ r e i l, i + r = 10 → r < l → e < 500 → post (nI (cn_e c r e)) → wX_behind_46 post (nI m) (gx_byteCount w) (gx_wrongPlace w) (gx_at w) (gx_frameCount w) (gx_kindCount w) (gx_valueCount w) (gx_activeCount w) (gx_goesOn w) (gx_outcome w) (gx_resultValue w) (gx_trapPlace w) (gx_fuelUsed w) (gx_firstWaiting w) (gx_waitingCount w) (gx_printCount w) (gx_code w) (gx_facts w) (gx_partner w) (gx_loaded w) (gx_globals w) (gx_memories w) (gx_frameAt w) (gx_frameHeight w) (gx_frameResult w) (gx_frameDead w) (gx_kinds w) (gx_values w) (gx_variables w) (gx_activeSlot w) (gx_activeGives w) (gx_activeFrame w) (gx_activeResume w) (gx_waiting w) (gx_prints w) l (nI e) (nI i) := by
  intro r
  induction r with
  | zero =>
    intro e i l hi hl he h
    obtain ⟨l, rfl⟩ : ∃ j, l = j + 1 := ⟨l - 1, by omega⟩
    refine pk_le 10 i (fun _ => ?_) (fun z => absurd z (by omega))
    rw [nI_1]; exact h
  | succ r ih =>
    intro e i l hi hl he h
    obtain ⟨l, rfl⟩ : ∃ j, l = j + 1 := ⟨l - 1, by omega⟩
    refine pk_le 10 i (fun z => absurd z (by omega)) (fun _ => ?_)
    refine xx_byte M hm (by omega) ?_
    rw [cn_e] at h
    refine pk_le (c e) 127 (fun z => ?_) (fun z => nm_r (nI_1 e) (nm_r (nI_1 i) ?_)) rfl rfl (by have := M.2.1 e; omega)
    · rw [if_neg (by omega)] at h
      rw [nI_1]; exact h
    · rw [if_pos z] at h
      by_cases he2 : e + 1 < 500
      · exact ih (e + 1) (i + 1) l (by omega) (by omega) he2 h
      · exact absurd z (by rw [M.2.2 e (by omega)]; omega)
theorem xm_behind (hm : m < 3) (M : mx_ok w m c) (p : Nat) (hp : p < 200) (h : post (nI (nx c p))) : wpX_behind post w (nI m) (nI p) := by
  unfold wpX_behind
  have h256 := M.2.1 p
  refine xx_byte M hm (by omega) ?_
  unfold nx at h
  refine pk_eq (c p) 9 (fun z => ?_) (fun z => ?_)
  · rw [if_pos z] at h
    refine eq_p (P := fun z => wpX_byteAt _ _ _ z) (nI_1 p) ?_
    refine xx_byte M hm (by omega) ?_
    have e : (nI p + 3) + nI (c (p + 1)) = nI (p + 3 + c (p + 1)) := by rw [show (3 : Int32) = nI 3 from rfl, nI_add, nI_add]
    exact eq_p (P := post) e h
  · rw [if_neg z] at h
    refine pk_eq (c p) 20 (fun z2 => ?_) (fun z2 => pk_eq (c p) 21 (fun z3 => ?_) (fun z3 => ?_))
    · rw [if_pos (Or.inl z2)] at h
      exact nm_r (nI_1 p) ⟨10, xm_behind_l hm M 9 (p + 1) 1 10 (by omega) (by omega) (by omega) h⟩
    · rw [if_pos (Or.inr z3)] at h
      exact nm_r (nI_1 p) ⟨10, xm_behind_l hm M 9 (p + 1) 1 10 (by omega) (by omega) (by omega) h⟩
    · rw [if_neg (by omega)] at h
      refine xx_ho (by omega) ?_
      by_cases ho : rd_ho (c p)
      · rw [if_pos ho] at h
        rw [bb_1 (decide_eq_true ho)]
        have e : nI p + 2 = nI (p + 2) := nI_add p 2
        exact br_f (by decide) (eq_p (P := post) e h)
      · rw [if_neg ho] at h
        rw [bb_0 (decide_eq_false ho)]
        exact br_t rfl (eq_p (P := post) (nI_1 p) h)
end
section
variable {u : SX} {c : Nat → Nat} {n p : Nat} {WP a : Int32} {F Pa A FH FR FD KI : Nat → Int32} {S : vt_St}
theorem x_ps {post : Int32 → SX → Prop} (M : mx_ok u 2 c) (Fx : xf_ok 44 c n F) (mp : mp_ok c n) (hn : n ≤ 140) (t : Nat) (ht : t < c 0) (S0 : vt_St) (hl0 : S0.2.1.length = S.2.1.length) : ∀ k l (S : vt_St) KI, S.2.1.length = S0.2.1.length → k ≤ c (m_ty c n t) → k < l → S.2.1 ≠ [] → S.2.2 = false → XV c S A FH FR FD KI →
    ((vt_gr (ty_r c (m_ty c n t)) (vt_ps c (m_ty c n t) k S)).2.2 = false → ∀ KI, XV c (vt_gr (ty_r c (m_ty c n t)) (vt_ps c (m_ty c n t) k S)) A FH FR FD KI → post 1 (xl u WP a (nI (vt_gr (ty_r c (m_ty c n t)) (vt_ps c (m_ty c n t) k S)).2.1.length) (nI (vt_gr (ty_r c (m_ty c n t)) (vt_ps c (m_ty c n t) k S)).1.length) F Pa A FH FR FD KI)) →
    ((vt_gr (ty_r c (m_ty c n t)) (vt_ps c (m_ty c n t) k S)).2.2 = true → ∀ kc KI, post 0 (xl u WP a (nI S0.2.1.length) kc F Pa A FH FR FD KI)) →
    wX_checkCall_83 post (nI t) (nI (m_ty c n t)) l (nI k) (gx_byteCount u) WP a (nI S.2.1.length) (nI S.1.length) (gx_valueCount u) (gx_activeCount u) (gx_goesOn u) (gx_outcome u) (gx_resultValue u) (gx_trapPlace u) (gx_fuelUsed u) (gx_firstWaiting u) (gx_waitingCount u) (gx_printCount u) (gx_code u) F Pa (gx_loaded u) (gx_globals u) (gx_memories u) A FH FR FD KI (gx_values u) (gx_variables u) (gx_activeSlot u) (gx_activeGives u) (gx_activeFrame u) (gx_activeResume u) (gx_waiting u) (gx_prints u) := by
  obtain ⟨t1, t2⟩ := mp.2.1 t ht
  have t0 := t1.1
  intro k
  induction k with
  | zero =>
    intro l S KI hS hk hl hF hb R hs hf
    obtain ⟨l, rfl⟩ : ∃ j, l = j + 1 := ⟨l - 1, by omega⟩
    refine br_t (by decide) ?_
    refine xm_resultOf (w := (xl u WP a (nI S.2.1.length) (nI S.1.length) F Pa A FH FR FD KI)) (m := 2) (by omega) M Fx mp hn t ht ?_
    refine x_gr _ (ty_r_le t1) hb R (fun h1 KI R1 => ⟨bb_nar true, hs h1 KI R1⟩) (fun h1 => ⟨bb_nar false, ?_⟩)
    rw [hS]; exact hf h1 _ _
  | succ k ih =>
    intro l S KI hS hk hl hF hb R hs hf
    obtain ⟨l, rfl⟩ : ∃ j, l = j + 1 := ⟨l - 1, by omega⟩
    have kk := t1.2.1 k (by omega)
    refine pk_le (k + 1) 0 (fun z => absurd z (by omega)) (fun _ => ?_)
    refine eq_p (P := fun z => wpX_byteAt _ _ _ z) (show nI (m_ty c n t) + nI (k + 1) = nI (m_ty c n t + 1 + k) from by rw [nI_add]; congr 1; omega) ?_
    refine xx_byte (m := 2) M (by omega) (by omega) ?_
    rw [vt_ps] at hs hf
    refine x_take1 (c (m_ty c n t + 1 + k)) kk.1 kk.2 hF hb R (fun h1 R1 => br_f (by decide) (nm_r (pk_m1 k) ?_)) (fun h1 kc => br_t rfl ?_)
    · exact ih l (vt_pl (c (m_ty c n t + 1 + k)) S) KI (by rw [fk_pl]; exact hS) (by omega) (by omega) (by rw [fk_pl]; exact hF) h1 R1 hs hf
    · rw [hS]; exact hf (fm_gr (fm_ps _ h1)) kc _
theorem x_call {post : Int32 → SX → Prop} (M : mx_ok u 2 c) (Fx : xf_ok 44 c n F) (mp : mp_ok c n) (hn : n ≤ 140) (op x : Nat) (hop : op = 11 ∨ op = 12) (hx : x < 256) (hF : S.2.1 ≠ []) (hb : S.2.2 = false) (R : XV c S A FH FR FD KI)
    (hs : (vt_call c n op x S).2.2 = false → ∀ KI, XV c (vt_call c n op x S) A FH FR FD KI → post 1 (xl u WP a (nI (vt_call c n op x S).2.1.length) (nI (vt_call c n op x S).1.length) F Pa A FH FR FD KI))
    (hf : (vt_call c n op x S).2.2 = true → ∀ kc KI, post 0 (xl u WP a (nI S.2.1.length) kc F Pa A FH FR FD KI)) : wpX_checkCall post (xl u WP a (nI S.2.1.length) (nI S.1.length) F Pa A FH FR FD KI) (nI op) (nI x) := by
  have h0 := mp.1
  have hI := mp.2.2.1
  have hFn := mp.2.2.2.1
  have wn : cl_t c n op x = none → post 0 (xl u WP a (nI S.2.1.length) (nI S.1.length) F Pa A FH FR FD KI) := by
    intro z
    refine hf ?_ _ _
    rw [vt_call, z]; exact vb_t S
  have w63 : ∀ t, t < c 0 → ∀ S1 : vt_St, S1.2.1 = S.2.1 → S1.2.2 = false → XV c S1 A FH FR FD KI → cl_t c n op x = some (m_ty c n t) → (if op = 12 then vt_pl 1 S else S) = S1 → wX_checkCall_63 post (nI t) (gx_byteCount u) WP a (nI S1.2.1.length) (nI S1.1.length) (gx_valueCount u) (gx_activeCount u) (gx_goesOn u) (gx_outcome u) (gx_resultValue u) (gx_trapPlace u) (gx_fuelUsed u) (gx_firstWaiting u) (gx_waitingCount u) (gx_printCount u) (gx_code u) F Pa (gx_loaded u) (gx_globals u) (gx_memories u) A FH FR FD KI (gx_values u) (gx_variables u) (gx_activeSlot u) (gx_activeGives u) (gx_activeFrame u) (gx_activeResume u) (gx_waiting u) (gx_prints u) := by
    intro t ht S1 e1 hb1 R1 hc eif
    obtain ⟨t1, t2⟩ := mp.2.1 t ht
    have t0 := t1.1
    unfold wX_checkCall_63
    refine eq_p (P := fun z => wpX_fact _ _ _ z) (show (8 : Int32) + nI t = nI (8 + t) from nI_add 8 t) ?_
    refine xx_fact (m := 2) (w := 8 + t) (z := nI (m_ty c n t)) (by rw [show 2 * 22 + (8 + t) = 44 + 8 + t by omega]; exact Fx.2.2.2.2.2.2.2.2.1 t ht) (by omega) (by omega) ?_
    refine xx_byte (m := 2) M (by omega) (by omega) ⟨c (m_ty c n t) + 1, ?_⟩
    have ec : vt_call c n op x S = vt_gr (ty_r c (m_ty c n t)) (vt_ps c (m_ty c n t) (c (m_ty c n t)) S1) := by
      rw [vt_call, hc]; dsimp only; rw [eif]
    rw [ec] at hs hf
    exact x_ps M Fx mp hn t ht S (S := S) rfl _ _ S1 KI (by rw [e1]) (Nat.le_refl _) (by omega) (by rw [e1]; exact hF) hb1 R1 hs hf
  have w34 : ∀ t, t < 256 → (t < c 0 → cl_t c n op x = some (m_ty c n t)) → (¬ t < c 0 → cl_t c n op x = none) → wX_checkCall_34 post (nI op) (nI t) (gx_byteCount u) WP a (nI S.2.1.length) (nI S.1.length) (gx_valueCount u) (gx_activeCount u) (gx_goesOn u) (gx_outcome u) (gx_resultValue u) (gx_trapPlace u) (gx_fuelUsed u) (gx_firstWaiting u) (gx_waitingCount u) (gx_printCount u) (gx_code u) F Pa (gx_loaded u) (gx_globals u) (gx_memories u) A FH FR FD KI (gx_values u) (gx_variables u) (gx_activeSlot u) (gx_activeGives u) (gx_activeFrame u) (gx_activeResume u) (gx_waiting u) (gx_prints u) := by
    intro t ht hc1 hc2
    unfold wX_checkCall_34
    refine xx_fact (m := 2) (w := 0) (z := nI (c 0)) (by exact Fx.1) (by omega) (by omega) ?_
    refine pk_lt t (c 0) (fun z => ?_) (fun z => wn (hc2 (by omega)))
    rcases hop with rfl | rfl
    · exact br_f (by decide) (w63 t z S rfl hb R (hc1 z) (if_neg (by decide)))
    · refine br_t rfl (x_take1 1 (by omega) (by omega) hF hb R (fun h1 R1 => br_f (by decide) (w63 t z _ (fk_pl 1 S) h1 R1 (hc1 z) (if_pos rfl))) (fun h1 kc => br_t rfl ?_))
      refine hf ?_ kc _
      rw [vt_call, hc1 z]
      exact fm_gr (fm_ps _ (by rw [if_pos rfl]; exact h1))
  rcases hop with rfl | rfl
  · refine br_t rfl ?_
    refine xx_fact (m := 2) (w := 2) (z := nI (m_I c n + m_F c n)) (by exact Fx.2.2.1) (by omega) (by omega) ?_
    refine pk_lt x (m_I c n + m_F c n) (fun z => br_t rfl ?_) (fun z => wn (by rw [cl_t, if_pos rfl, if_neg (by omega)]))
    refine xm_typeOf (w := (xl u WP a (nI S.2.1.length) (nI S.1.length) F Pa A FH FR FD KI)) (m := 2) (by omega) M Fx mp hn x z ?_
    exact w34 (c (m_fa c n x)) (M.2.1 _) (fun z2 => by rw [cl_t, if_pos rfl, if_pos ⟨z, z2⟩]) (fun z2 => by rw [cl_t, if_pos rfl, if_neg (fun y => z2 y.2)])
  · refine br_f (by decide) (br_f (by decide) ?_)
    exact w34 x hx (fun z2 => by rw [cl_t, if_neg (by decide), if_pos z2]) (fun z2 => by rw [cl_t, if_neg (by decide), if_neg z2])
end
end
section
/-! 28: the class's validation: variables, globals, memory, numbers, one instruction -/
section
variable {u : SX} {c : Nat → Nat} {n p : Nat} {WP a : Int32} {F Pa A FH FR FD KI : Nat → Int32} {S : vt_St}
theorem x_var {post : Int32 → SX → Prop} (M : mx_ok u 2 c) (Fx : xf_ok 44 c n F) (mp : mp_ok c n) (hn : n ≤ 140) (f op x : Nat) (hf1 : m_I c n ≤ f) (hf2 : f < m_I c n + m_F c n) (ht : c (m_fa c n f) < c 0) (hop : op = 15 ∨ op = 16 ∨ op = 17) (hx : x < 256) (hF : S.2.1 ≠ []) (hb : S.2.2 = false) (R : XV c S A FH FR FD KI)
    (hs : (vt_var c n f op x S).2.2 = false → ∀ KI, XV c (vt_var c n f op x S) A FH FR FD KI → post 1 (xl u WP a (nI (vt_var c n f op x S).2.1.length) (nI (vt_var c n f op x S).1.length) F Pa A FH FR FD KI))
    (hf : (vt_var c n f op x S).2.2 = true → ∀ kc KI, post 0 (xl u WP a (nI S.2.1.length) kc F Pa A FH FR FD KI)) : wpX_checkVariable post (xl u WP a (nI S.2.1.length) (nI S.1.length) F Pa A FH FR FD KI) (nI op) (nI f) (nI x) := by
  have hvk : vk c n f x ≤ 2 := by
    obtain ⟨f1, f2, f3⟩ := mp.2.2.2.2.2.1 f hf1 hf2
    obtain ⟨t1, t2⟩ := mp.2.1 _ ht
    unfold vk
    split
    · exact (t1.2.1 x (by assumption)).2
    · split
      · exact (f2 _ (by assumption)).2
      · omega
  unfold wpX_checkVariable
  refine xm_varKind (w := (xl u WP a (nI S.2.1.length) (nI S.1.length) F Pa A FH FR FD KI)) M Fx mp hn f x hf1 hf2 ht hx ?_
  refine pk_eq (vk c n f x) 0 (fun z => hf ?_ _ _) (fun z => ?_)
  · unfold vt_var
    rw [z, decide_eq_true rfl]
    rcases hop with rfl | rfl | rfl
    · rw [if_pos rfl]; exact fm_gv (vb_t S)
    · rw [if_neg (by decide), if_pos rfl]; exact fm_pl (vb_t S)
    · rw [if_neg (by decide), if_neg (by decide), if_pos rfl]; exact fm_gv (fm_pl (vb_t S))
  · unfold vt_var at hs hf
    rw [decide_eq_false z, vb_f] at hs hf
    have exk : xk (vk c n f x) = vk c n f x := if_neg z
    have gv : ∀ {post : Int32 → SX → Prop} (S1 : vt_St) KI, S1.2.2 = false → XV c S1 A FH FR FD KI → ((vt_gv (vk c n f x) S1).2.2 = false → ∀ KI, XV c (vt_gv (vk c n f x) S1) A FH FR FD KI → post 1 (xl u WP a (nI (vt_gv (vk c n f x) S1).2.1.length) (nI (vt_gv (vk c n f x) S1).1.length) F Pa A FH FR FD KI)) → ((vt_gv (vk c n f x) S1).2.2 = true → post 0 (xl u WP a (nI S1.2.1.length) (nI S1.1.length) F Pa A FH FR FD KI)) → wpX_give post (xl u WP a (nI S1.2.1.length) (nI S1.1.length) F Pa A FH FR FD KI) (nI (vk c n f x)) := by
      intro post S1 KI h1 h2 h3 h4
      have := x_gv (u := u) (WP := WP) (a := a) (F := F) (Pa := Pa) (post := post) (vk c n f x) hvk h1 h2 h3 h4
      rw [exk] at this
      exact this
    rcases hop with rfl | rfl | rfl
    · rw [if_pos rfl] at hs hf
      exact br_t rfl (gv S KI hb R (fun h1 KI R1 => ⟨bb_nar true, hs h1 KI R1⟩) (fun h1 => ⟨bb_nar false, hf h1 _ _⟩))
    · rw [if_neg (by decide), if_pos rfl] at hs hf
      exact br_f (by decide) (x_take1 _ (by omega) hvk hF hb R (fun h1 R1 => br_f (by decide) (br_t rfl (hs h1 KI R1))) (fun h1 kc => br_t rfl (hf h1 kc _)))
    · rw [if_neg (by decide), if_neg (by decide), if_pos rfl] at hs hf
      refine br_f (by decide) (x_take1 _ (by omega) hvk hF hb R (fun h1 R1 => br_f (by decide) (br_f (by decide) ?_)) (fun h1 kc => br_t rfl (hf (fm_gv h1) kc _)))
      refine gv _ KI h1 R1 (fun h2 KI R2 => br_f (by decide) (hs h2 KI R2)) (fun h2 => br_t rfl ?_)
      rw [fk_pl]; exact hf h2 _ _
theorem x_glob {post : Int32 → SX → Prop} (M : mx_ok u 2 c) (Fx : xf_ok 44 c n F) (mp : mp_ok c n) (hn : n ≤ 140) (f op x : Nat) (hop : op = 18 ∨ op = 19) (hx : x < 256) (hF : S.2.1 ≠ []) (hb : S.2.2 = false) (R : XV c S A FH FR FD KI)
    (hs : (vt_var c n f op x S).2.2 = false → ∀ KI, XV c (vt_var c n f op x S) A FH FR FD KI → post 1 (xl u WP a (nI (vt_var c n f op x S).2.1.length) (nI (vt_var c n f op x S).1.length) F Pa A FH FR FD KI))
    (hf : (vt_var c n f op x S).2.2 = true → ∀ kc KI, post 0 (xl u WP a (nI S.2.1.length) kc F Pa A FH FR FD KI)) : wpX_checkGlobal post (xl u WP a (nI S.2.1.length) (nI S.1.length) F Pa A FH FR FD KI) (nI op) (nI x) := by
  have hG := mp.2.2.2.2.2.2.1
  unfold vt_var at hs hf
  rw [if_neg (by omega), if_neg (by omega), if_neg (by omega)] at hs hf
  unfold wpX_checkGlobal
  refine xx_fact (m := 2) (w := 3) (z := nI (c (m_pG c n))) (by exact Fx.2.2.2.1) (by omega) (by omega) ?_
  refine pk_lt x (c (m_pG c n)) (fun z => ?_) (fun z => ?_)
  · rw [if_pos z] at hs hf
    obtain ⟨g1, g2, g3, g4, g5⟩ := mp.2.2.2.2.2.2.2.1 x z
    refine eq_p (P := fun z => wpX_fact _ _ _ z) (show (19 : Int32) + nI x = nI (19 + x) from nI_add 19 x) ?_
    refine xx_fact (m := 2) (w := 19 + x) (z := nI (m_ga c n x)) (by rw [show 2 * 22 + (19 + x) = 44 + 19 + x by omega]; exact Fx.2.2.2.2.2.2.2.2.2.2 x z) (by omega) (by omega) ?_
    refine xx_byte (m := 2) M (by omega) (by omega) ?_
    have exk : xk (c (m_ga c n x)) = c (m_ga c n x) := if_neg (by omega)
    rcases hop with rfl | rfl
    · rw [if_pos rfl] at hs hf
      have := x_gv (u := u) (WP := WP) (a := a) (F := F) (Pa := Pa) (post := fun r u => narrow .boolean (.int r) = .int r ∧ post r u) (c (m_ga c n x)) g2 hb R (fun h1 KI R1 => ⟨bb_nar true, hs h1 KI R1⟩) (fun h1 => ⟨bb_nar false, hf h1 _ _⟩)
      rw [exk] at this
      exact br_t rfl this
    · rw [if_neg (by decide)] at hs hf
      refine br_f (by decide) ?_
      refine eq_p (P := fun z => wpX_byteAt _ _ _ z) (nI_1 (m_ga c n x)) ?_
      refine xx_byte (m := 2) M (by omega) (by omega) ?_
      refine pk_eq (c (m_ga c n x + 1)) 1 (fun y => ?_) (fun y => ?_)
      · rw [decide_eq_false (by omega), vb_f] at hs hf
        exact x_take1 _ g1 g2 hF hb R (fun h1 R1 => br_f (by decide) (hs h1 KI R1)) (fun h1 kc => br_t rfl (hf h1 kc _))
      · refine hf (fm_pl ?_) _ _
        rw [decide_eq_true (by omega)]; exact vb_t S
  · rw [if_neg (by omega)] at hs hf
    refine hf ?_ _ _
    split
    · exact fm_gv (vb_t S)
    · exact fm_pl (vb_t S)
theorem x_acc {post : Int32 → SX → Prop} (Fx : xf_ok 44 c n F) (mp : mp_ok c n) (op : Nat) (hop : 22 ≤ op) (hop2 : op < 28) (hF : S.2.1 ≠ []) (hb : S.2.2 = false) (R : XV c S A FH FR FD KI)
    (hs : (vt_mem c n op S).2.2 = false → ∀ KI, XV c (vt_mem c n op S) A FH FR FD KI → post 1 (xl u WP a (nI (vt_mem c n op S).2.1.length) (nI (vt_mem c n op S).1.length) F Pa A FH FR FD KI))
    (hf : (vt_mem c n op S).2.2 = true → ∀ kc KI, post 0 (xl u WP a (nI S.2.1.length) kc F Pa A FH FR FD KI)) : wpX_checkAccess post (xl u WP a (nI S.2.1.length) (nI S.1.length) F Pa A FH FR FD KI) (nI op) := by
  have hm1 : c (tl_m c n (m_pG c n)) ≤ 1 := mp.2.2.2.2.2.2.2.2.2.1
  unfold vt_mem at hs hf
  rw [if_neg (by omega)] at hs hf
  unfold wpX_checkAccess
  refine xx_fact (m := 2) (w := 5) (z := nI (c (tl_m c n (m_pG c n)))) (by exact Fx.2.2.2.2.2.1) (by omega) (by omega) ?_
  refine pk_eq (c (tl_m c n (m_pG c n))) 0 (fun z => hf ?_ _ _) (fun z => ?_)
  · rw [decide_eq_true z]
    split
    · exact fm_gv (fm_pl (vb_t S))
    · exact fm_pl (fm_pl (vb_t S))
  · rw [decide_eq_false z, vb_f] at hs hf
    have w28 : ∀ k, 1 ≤ k → k ≤ 2 → (op < 25 → (if op = 24 then 2 else 1) = k) → (25 ≤ op → (if op = 27 then 2 else 1) = k) → wX_checkAccess_28 post (nI op) (nI k) (gx_byteCount u) WP a (nI S.2.1.length) (nI S.1.length) (gx_valueCount u) (gx_activeCount u) (gx_goesOn u) (gx_outcome u) (gx_resultValue u) (gx_trapPlace u) (gx_fuelUsed u) (gx_firstWaiting u) (gx_waitingCount u) (gx_printCount u) (gx_code u) F Pa (gx_loaded u) (gx_globals u) (gx_memories u) A FH FR FD KI (gx_values u) (gx_variables u) (gx_activeSlot u) (gx_activeGives u) (gx_activeFrame u) (gx_activeResume u) (gx_waiting u) (gx_prints u) := by
      intro k hk1 hk2 e1 e2
      have exk : xk k = k := if_neg (by omega)
      refine pk_lt op 25 (fun y => ?_) (fun y => ?_)
      · rw [if_pos y, e1 y] at hs hf
        refine x_take1 1 (by omega) (by omega) hF hb R (fun h1 R1 => br_f (by decide) ?_) (fun h1 kc => br_t rfl (hf (fm_gv h1) kc _))
        have := x_gv (u := u) (WP := WP) (a := a) (F := F) (Pa := Pa) (post := fun r u => (r = 0 → post 0 u) ∧ (¬ r = 0 → post 1 u)) k hk2 h1 R1 (fun h2 KI R2 => br_f (by decide) (hs h2 KI R2)) (fun h2 => br_t rfl (by rw [fk_pl]; exact hf h2 _ _))
        rw [exk] at this
        exact this
      · rw [if_neg (by omega), e2 y] at hs hf
        refine x_take1 k hk1 hk2 hF hb R (fun h1 R1 => br_f (by decide) ?_) (fun h1 kc => br_t rfl (hf (fm_pl h1) kc _))
        refine x_take1 1 (by omega) (by omega) (by rw [fk_pl]; exact hF) h1 R1 (fun h2 R2 => br_f (by decide) (hs h2 KI R2)) (fun h2 kc => br_t rfl ?_)
        rw [fk_pl]; exact hf h2 kc _
    refine pk_eq op 24 (fun y => ?_) (fun y => pk_eq op 27 (fun y2 => ?_) (fun y2 => ?_))
    · exact w28 2 (by omega) (by omega) (fun _ => if_pos y) (fun q => absurd q (by omega))
    · exact w28 2 (by omega) (by omega) (fun q => absurd q (by omega)) (fun _ => if_pos y2)
    · exact w28 1 (by omega) (by omega) (fun _ => if_neg y) (fun _ => if_neg y2)
theorem x_numr {post : Int32 → SX → Prop} (op : Nat) (hop : 28 ≤ op) (hop2 : op ≤ 66) (hF : S.2.1 ≠ []) (hb : S.2.2 = false) (R : XV c S A FH FR FD KI)
    (hs : (vt_num op S).2.2 = false → ∀ KI, XV c (vt_num op S) A FH FR FD KI → post 1 (xl u WP a (nI (vt_num op S).2.1.length) (nI (vt_num op S).1.length) F Pa A FH FR FD KI))
    (hf : (vt_num op S).2.2 = true → ∀ kc KI, post 0 (xl u WP a (nI S.2.1.length) kc F Pa A FH FR FD KI)) : wpX_checkNumeric post (xl u WP a (nI S.2.1.length) (nI S.1.length) F Pa A FH FR FD KI) (nI op) := by
  unfold vt_num at hs hf
  have gv : ∀ (k : Nat) (S1 : vt_St) KI, 1 ≤ k → k ≤ 2 → S1.2.1 = S.2.1 → S1.2.2 = false → XV c S1 A FH FR FD KI → ((vt_gv k S1).2.2 = false → ∀ KI, XV c (vt_gv k S1) A FH FR FD KI → post 1 (xl u WP a (nI (vt_gv k S1).2.1.length) (nI (vt_gv k S1).1.length) F Pa A FH FR FD KI)) → ((vt_gv k S1).2.2 = true → ∀ kc KI, post 0 (xl u WP a (nI S.2.1.length) kc F Pa A FH FR FD KI)) → wpX_give (fun r u => (r = 0 → post 0 u) ∧ (¬ r = 0 → post 1 u)) (xl u WP a (nI S1.2.1.length) (nI S1.1.length) F Pa A FH FR FD KI) (nI k) := by
    intro k S1 KI hk1 hk eF h1 h2 h3 h4
    have := x_gv (u := u) (WP := WP) (a := a) (F := F) (Pa := Pa) (post := fun r u => (r = 0 → post 0 u) ∧ (¬ r = 0 → post 1 u)) k hk h1 h2 (fun q KI R2 => br_f (by decide) (h3 q KI R2)) (fun q => br_t rfl (by rw [eF]; exact h4 q _ _))
    rw [show xk k = k from if_neg (by omega)] at this
    exact this
  -- one operand
  have w1 : ∀ k r, 1 ≤ k → k ≤ 2 → 1 ≤ r → r ≤ 2 → (op = 28 ∨ op = 46 ∨ 64 ≤ op) → (if 46 ≤ op ∧ op ≤ 64 then 2 else 1) = k → (if op < 52 then 1 else if op < 64 then 2 else if op = 64 then 1 else 2) = r → wpX_take (fun q u => (q = 0 → post 0 u) ∧ (¬ q = 0 → wpX_give (fun r u => (r = 0 → post 0 u) ∧ (¬ r = 0 → post 1 u)) u (nI r))) (xl u WP a (nI S.2.1.length) (nI S.1.length) F Pa A FH FR FD KI) (nI k) := by
    intro k r hk1 hk2 hr1 hr2 ho ek er
    rw [if_pos ho, ek, er] at hs hf
    refine x_take1 k hk1 hk2 hF hb R (fun h1 R1 => br_f (by decide) ?_) (fun h1 kc => br_t rfl (hf (fm_gv h1) kc _))
    exact gv r _ KI hr1 hr2 (fk_pl k S) h1 R1 hs hf
  refine pk_eq op 64 (fun z => ?_) (fun z => ?_)
  · exact w1 2 1 (by omega) (by omega) (by omega) (by omega) (by omega) (if_pos (by omega)) (by rw [if_neg (by omega), if_neg (by omega), if_pos z])
  · refine pk_le op 64 (fun z2 => ?_) (fun z2 => ?_)
    · -- the table of kinds
      have w81 : ∀ k pl, 1 ≤ k → k ≤ 2 → (if 46 ≤ op ∧ op ≤ 64 then 2 else 1) = k → pl + (if k = 2 then 18 else 0) = op → 28 ≤ pl → pl < 46 → wX_checkNumeric_81 post (nI k) (nI pl) (gx_byteCount u) WP a (nI S.2.1.length) (nI S.1.length) (gx_valueCount u) (gx_activeCount u) (gx_goesOn u) (gx_outcome u) (gx_resultValue u) (gx_trapPlace u) (gx_fuelUsed u) (gx_firstWaiting u) (gx_waitingCount u) (gx_printCount u) (gx_code u) F Pa (gx_loaded u) (gx_globals u) (gx_memories u) A FH FR FD KI (gx_values u) (gx_variables u) (gx_activeSlot u) (gx_activeGives u) (gx_activeFrame u) (gx_activeResume u) (gx_waiting u) (gx_prints u) := by
        intro k pl hk1 hk2 ek epl hp1 hp2
        refine pk_eq pl 28 (fun y => ?_) (fun y => ?_)
        · exact w1 k 1 hk1 hk2 (by omega) (by omega) (by split at epl <;> omega) ek (if_pos (by split at epl <;> omega))
        · have ho : ¬ (op = 28 ∨ op = 46 ∨ 64 ≤ op) := by
            split at ek <;> split at epl <;> omega
          rw [if_neg ho, ek] at hs hf
          refine x_take1 k hk1 hk2 hF hb R (fun h1 R1 => br_f (by decide) ?_) (fun h1 kc => br_t rfl (hf (fm_gv (fm_pl h1)) kc _))
          refine x_take1 k hk1 hk2 (by rw [fk_pl]; exact hF) h1 R1 (fun h2 R2 => br_f (by decide) ?_) (fun h2 kc => br_t rfl ?_)
          · have eF : (vt_pl k (vt_pl k S)).2.1 = S.2.1 := by rw [fk_pl, fk_pl]
            have e138 : ∀ r, 1 ≤ r → r ≤ 2 → (if op < 52 then 1 else if op < 64 then 2 else if op = 64 then 1 else 2) = r → wX_checkNumeric_138 post (nI r) (gx_byteCount u) WP a (nI (vt_pl k (vt_pl k S)).2.1.length) (nI (vt_pl k (vt_pl k S)).1.length) (gx_valueCount u) (gx_activeCount u) (gx_goesOn u) (gx_outcome u) (gx_resultValue u) (gx_trapPlace u) (gx_fuelUsed u) (gx_firstWaiting u) (gx_waitingCount u) (gx_printCount u) (gx_code u) F Pa (gx_loaded u) (gx_globals u) (gx_memories u) A FH FR FD KI (gx_values u) (gx_variables u) (gx_activeSlot u) (gx_activeGives u) (gx_activeFrame u) (gx_activeResume u) (gx_waiting u) (gx_prints u) := by
              intro r hr1 hr2 er
              rw [er] at hs hf
              unfold wX_checkNumeric_138
              exact gv r _ KI hr1 hr2 eF h2 R2 hs hf
            refine pk_le 34 pl (fun q => e138 k hk1 hk2 ?_) (fun q => e138 1 (by omega) (by omega) ?_)
            · have hk : k = 1 ∨ k = 2 := by omega
              rcases hk with rfl | rfl
              · rw [if_neg (by decide)] at epl
                rw [if_pos (by omega)]
              · rw [if_pos rfl] at epl
                rw [if_neg (by omega), if_pos (by omega)]
            · rw [if_pos (by split at epl <;> omega)]
          · rw [fk_pl]; exact hf (fm_gv h2) kc _
      refine pk_le 46 op (fun z3 => ?_) (fun z3 => ?_)
      · refine br_f (by decide) ?_
        have e18 : nI op - 18 = nI (op - 18) := pk_sub (b := 18) (by omega)
        show wX_checkNumeric_81 post 2 (nI op - 18) (gx_byteCount u) WP a (nI S.2.1.length) (nI S.1.length) (gx_valueCount u) (gx_activeCount u) (gx_goesOn u) (gx_outcome u) (gx_resultValue u) (gx_trapPlace u) (gx_fuelUsed u) (gx_firstWaiting u) (gx_waitingCount u) (gx_printCount u) (gx_code u) F Pa (gx_loaded u) (gx_globals u) (gx_memories u) A FH FR FD KI (gx_values u) (gx_variables u) (gx_activeSlot u) (gx_activeGives u) (gx_activeFrame u) (gx_activeResume u) (gx_waiting u) (gx_prints u)
        rw [e18]
        exact w81 2 (op - 18) (by omega) (by omega) (if_pos (by omega)) (by rw [if_pos rfl]; omega) (by omega) (by omega)
      · exact br_t rfl (w81 1 op (by omega) (by omega) (if_neg (by omega)) (by rw [if_neg (by decide), Nat.add_zero]) hop z3)
    · exact w1 1 2 (by omega) (by omega) (by omega) (by omega) (by omega) (if_neg (by omega)) (by rw [if_neg (by omega), if_neg (by omega), if_neg (by omega)])
theorem x_instr {post : Int32 → SX → Prop} {P : Nat → Nat} (M : mx_ok u 2 c) (hPa : xr_Pa Pa P) (Fx : xf_ok 44 c n F) (mp : mp_ok c n) (hn : n ≤ 140) (f : Nat) (hf1 : m_I c n ≤ f) (hf2 : f < m_I c n + m_F c n) (ht : c (m_fa c n f) < c 0)
    (ha : a = nI p) (hp : p < n) (h66 : c p ≤ 66) (h24 : 2 ≤ c p ∧ c p ≤ 4 → c (p + 1) ≤ 2) (h9 : c p = 9 → c (p + 1) ≤ 4)
    (hPo : c p = 6 → c (f_o S.2.1) = 4 → P (f_o S.2.1) < 140) (hE : c p = 6 → (c (f_o S.2.1) = 4 ∧ P (f_o S.2.1) = p ↔ f_c S.2.1 = 4)) (h54 : c p = 5 → f_c S.2.1 = 4) (hF : S.2.1 ≠ []) (hb : S.2.2 = false) (R : XV c S A FH FR FD KI)
    (hs : (v_st c n f p S).2.2 = false → ∀ kc A FH FR FD KI, ((v_st c n f p S).2.1 ≠ [] → kc = nI (v_st c n f p S).1.length ∧ XV c (v_st c n f p S) A FH FR FD KI) → post 1 (xl u WP a (nI (v_st c n f p S).2.1.length) kc F Pa A FH FR FD KI))
    (hf : (v_st c n f p S).2.2 = true → ∀ fc kc A FH FR FD KI, post 0 (xl u WP a fc kc F Pa A FH FR FD KI)) : wpX_checkInstruction post (xl u WP a (nI S.2.1.length) (nI S.1.length) F Pa A FH FR FD KI) (nI f) := by
  have h31 : c p < 2 ^ 31 := by omega
  have h256 := M.2.1
  unfold wpX_checkInstruction
  refine eq_p (P := fun z => wpX_byteAt _ _ _ z) ha ?_
  refine xx_byte (m := 2) M (by omega) (by omega) ?_
  refine eq_p (P := fun z => wpX_byteAt _ _ _ z) (show a + 1 = nI (p + 1) from by rw [ha, nI_1]) ?_
  refine xx_byte (m := 2) M (by omega) (by omega) ?_
  unfold v_st at hs hf
  -- an operation that keeps the frames
  have fin : ∀ S1 : vt_St, (S1.2.2 = false → ∀ kc A FH FR FD KI, (S1.2.1 ≠ [] → kc = nI S1.1.length ∧ XV c S1 A FH FR FD KI) → post 1 (xl u WP a (nI S1.2.1.length) kc F Pa A FH FR FD KI)) → (S1.2.2 = false → ∀ A FH FR FD KI, XV c S1 A FH FR FD KI → post 1 (xl u WP a (nI S1.2.1.length) (nI S1.1.length) F Pa A FH FR FD KI)) := by
    intro S1 h1 h2 A FH FR FD KI h3
    exact h1 h2 _ A FH FR FD KI (fun _ => ⟨rfl, h3⟩)
  have nb : ∀ r : Bool, ∀ U, post (bb_i r) U → narrow .boolean (.int (bb_i r)) = .int (bb_i r) ∧ post (bb_i r) U := fun r U h => ⟨bb_nar r, h⟩
  have k0 : c p = 0 → wpX_goDead (fun r u => narrow .boolean (.int r) = .int r ∧ post r u) (xl u WP a (nI S.2.1.length) (nI S.1.length) F Pa A FH FR FD KI) := by
    intro z; rw [if_pos z] at hs hf
    exact x_die hF R (fun FD R1 => nb true _ (fin _ hs hb _ _ _ _ _ R1))
  have k1 : c p = 1 → post 1 (xl u WP a (nI S.2.1.length) (nI S.1.length) F Pa A FH FR FD KI) := by
    intro z; rw [if_neg (by omega), if_pos z] at hs; exact fin _ hs hb _ _ _ _ _ R
  have k23 : c p = 2 ∨ c p = 3 → wX_checkInstruction_131 post (nI (c (p + 1))) (gx_byteCount u) WP a (nI S.2.1.length) (nI S.1.length) (gx_valueCount u) (gx_activeCount u) (gx_goesOn u) (gx_outcome u) (gx_resultValue u) (gx_trapPlace u) (gx_fuelUsed u) (gx_firstWaiting u) (gx_waitingCount u) (gx_printCount u) (gx_code u) F Pa (gx_loaded u) (gx_globals u) (gx_memories u) A FH FR FD KI (gx_values u) (gx_variables u) (gx_activeSlot u) (gx_activeGives u) (gx_activeFrame u) (gx_activeResume u) (gx_waiting u) (gx_prints u) := by
    intro z
    rw [if_neg (by omega), if_neg (by omega), if_pos z] at hs hf
    unfold wX_checkInstruction_131
    exact x_open (c p) (c (p + 1)) p (by omega) (h24 (by omega)) ha (by omega) (fun q => absurd q hF) (fun _ => by omega) hb R (fun h1 A FH FR FD R1 => nb true _ (fin _ hs h1 _ _ _ _ _ R1)) (fun h1 => nb false _ (hf h1 _ _ _ _ _ _ _))
  have k4 : c p = 4 → wpX_take (fun r u => (r = 0 → post 0 u) ∧ (¬ r = 0 → wpX_openChecked (fun r u => (r = 0 → post 0 u) ∧ (¬ r = 0 → post 1 u)) u (nI (c (p + 1))))) (xl u WP a (nI S.2.1.length) (nI S.1.length) F Pa A FH FR FD KI) 1 := by
    intro z
    rw [if_neg (by omega), if_neg (by omega), if_neg (by omega), if_pos z] at hs hf
    refine x_take1 1 (by omega) (by omega) hF hb R (fun h1 R1 => br_f (by decide) ?_) (fun h1 kc => br_t rfl (hf (fm_open h1) _ _ _ _ _ _ _))
    refine x_open 4 (c (p + 1)) p (by omega) (h24 (by omega)) ha (by omega) (fun q => absurd q (by rw [fk_pl]; exact hF)) (fun _ => by omega) h1 R1 (fun h2 A FH FR FD R2 => br_f (by decide) (fin _ hs h2 _ _ _ _ _ R2)) (fun h2 => br_t rfl (hf h2 _ _ _ _ _ _ _))
  have k56 : c p = 5 ∨ c p = 6 → wX_checkInstruction_159 post (nI (c p)) (gx_byteCount u) WP a (nI S.2.1.length) (nI S.1.length) (gx_valueCount u) (gx_activeCount u) (gx_goesOn u) (gx_outcome u) (gx_resultValue u) (gx_trapPlace u) (gx_fuelUsed u) (gx_firstWaiting u) (gx_waitingCount u) (gx_printCount u) (gx_code u) F Pa (gx_loaded u) (gx_globals u) (gx_memories u) A FH FR FD KI (gx_values u) (gx_variables u) (gx_activeSlot u) (gx_activeGives u) (gx_activeFrame u) (gx_activeResume u) (gx_waiting u) (gx_prints u) := by
    intro z
    rw [if_neg (by omega), if_neg (by omega), if_neg (by omega), if_neg (by omega), if_pos z] at hs hf
    unfold wX_checkInstruction_159
    exact x_end M hPa (c p) z ha (by omega) hPo hE h54 hF hb R (fun h1 kc FD KI h2 => nb true _ (hs h1 kc _ _ _ FD KI h2)) (fun h1 fc kc FD KI => nb false _ (hf h1 fc kc _ _ _ FD KI))
  have k7 : c p = 7 → wX_checkInstruction_165 post (nI (c p)) (nI (c (p + 1))) (gx_byteCount u) WP a (nI S.2.1.length) (nI S.1.length) (gx_valueCount u) (gx_activeCount u) (gx_goesOn u) (gx_outcome u) (gx_resultValue u) (gx_trapPlace u) (gx_fuelUsed u) (gx_firstWaiting u) (gx_waitingCount u) (gx_printCount u) (gx_code u) F Pa (gx_loaded u) (gx_globals u) (gx_memories u) A FH FR FD KI (gx_values u) (gx_variables u) (gx_activeSlot u) (gx_activeGives u) (gx_activeFrame u) (gx_activeResume u) (gx_waiting u) (gx_prints u) := by
    intro z
    rw [if_neg (by omega), if_neg (by omega), if_neg (by omega), if_neg (by omega), if_neg (by omega), if_pos z] at hs hf
    unfold wX_checkInstruction_165
    rw [z]
    exact x_br7 M _ (h256 _) hF hb R (fun h1 FD R1 => nb true _ (fin _ hs h1 _ _ _ _ _ R1)) (fun h1 kc => nb false _ (hf h1 _ _ _ _ _ _ _))
  have k8 : c p = 8 → wX_checkInstruction_165 post (nI (c p)) (nI (c (p + 1))) (gx_byteCount u) WP a (nI S.2.1.length) (nI S.1.length) (gx_valueCount u) (gx_activeCount u) (gx_goesOn u) (gx_outcome u) (gx_resultValue u) (gx_trapPlace u) (gx_fuelUsed u) (gx_firstWaiting u) (gx_waitingCount u) (gx_printCount u) (gx_code u) F Pa (gx_loaded u) (gx_globals u) (gx_memories u) A FH FR FD KI (gx_values u) (gx_variables u) (gx_activeSlot u) (gx_activeGives u) (gx_activeFrame u) (gx_activeResume u) (gx_waiting u) (gx_prints u) := by
    intro z
    rw [if_neg (by omega), if_neg (by omega), if_neg (by omega), if_neg (by omega), if_neg (by omega), if_neg (by omega), if_pos z] at hs hf
    unfold wX_checkInstruction_165
    rw [z]
    exact x_br8 M _ (h256 _) hF hb R (fun h1 KI R1 => nb true _ (fin _ hs h1 _ _ _ _ _ R1)) (fun h1 kc => nb false _ (hf h1 _ _ _ _ _ _ _))
  have k9 : c p = 9 → wpX_checkBranchTable (fun r u => narrow .boolean (.int r) = .int r ∧ post r u) (xl u WP a (nI S.2.1.length) (nI S.1.length) F Pa A FH FR FD KI) (nI (c (p + 1))) := by
    intro z
    rw [if_neg (by omega), if_neg (by omega), if_neg (by omega), if_neg (by omega), if_neg (by omega), if_neg (by omega), if_neg (by omega), if_pos z] at hs hf
    exact x_table M (h9 z) ha (by omega) hF hb R (fun h1 FD R1 => nb true _ (fin _ hs h1 _ _ _ _ _ R1)) (fun h1 kc => nb false _ (hf h1 _ _ _ _ _ _ _))
  have k10 : c p = 10 → wpX_take (fun r u => (r = 0 → post 0 u) ∧ (¬ r = 0 → wpX_goDead (fun r u => (r = 0 → post 0 u) ∧ (¬ r = 0 → post 1 u)) u)) (xl u WP a (nI S.2.1.length) (nI S.1.length) F Pa A FH FR FD KI) (FR 0) := by
    intro z
    rw [if_neg (by omega), if_neg (by omega), if_neg (by omega), if_neg (by omega), if_neg (by omega), if_neg (by omega), if_neg (by omega), if_neg (by omega), if_pos z] at hs hf
    rw [xv_bot _ hF R.2.1]
    refine x_take _ (sn_bot _ _ R.2.2.2.2.2) hF hb R (fun h1 R1 => br_f (by decide) ?_) (fun h1 kc => br_t rfl (hf (fm_die h1) _ _ _ _ _ _ _))
    exact x_die (by rw [fk_pr]; exact hF) R1 (fun FD R2 => br_f (by decide) (fin _ hs h1 _ _ _ _ _ R2))
  have k11 : c p = 11 ∨ c p = 12 → wX_checkInstruction_204 post (nI (c p)) (nI (c (p + 1))) (gx_byteCount u) WP a (nI S.2.1.length) (nI S.1.length) (gx_valueCount u) (gx_activeCount u) (gx_goesOn u) (gx_outcome u) (gx_resultValue u) (gx_trapPlace u) (gx_fuelUsed u) (gx_firstWaiting u) (gx_waitingCount u) (gx_printCount u) (gx_code u) F Pa (gx_loaded u) (gx_globals u) (gx_memories u) A FH FR FD KI (gx_values u) (gx_variables u) (gx_activeSlot u) (gx_activeGives u) (gx_activeFrame u) (gx_activeResume u) (gx_waiting u) (gx_prints u) := by
    intro z
    rw [if_neg (by omega), if_neg (by omega), if_neg (by omega), if_neg (by omega), if_neg (by omega), if_neg (by omega), if_neg (by omega), if_neg (by omega), if_neg (by omega), if_pos z] at hs hf
    unfold wX_checkInstruction_204
    exact x_call M Fx mp hn (c p) _ z (h256 _) hF hb R (fun h1 KI R1 => nb true _ (fin _ hs h1 _ _ _ _ _ R1)) (fun h1 kc KI => nb false _ (hf h1 _ _ _ _ _ _ _))
  have k13 : c p = 13 → wpX_takeTop (fun r u => (r = 0 → post 0 u) ∧ (¬ r = 0 → post 1 u)) (xl u WP a (nI S.2.1.length) (nI S.1.length) F Pa A FH FR FD KI) := by
    intro z
    rw [if_neg (by omega), if_neg (by omega), if_neg (by omega), if_neg (by omega), if_neg (by omega), if_neg (by omega), if_neg (by omega), if_neg (by omega), if_neg (by omega), if_neg (by omega), if_pos z] at hs hf
    refine x_top hF hb R (fun h1 R1 k1 => br_f (nI_ne0 ?_ ?_) (fin _ hs h1 _ _ _ _ _ R1)) (fun h1 _ => br_t rfl (hf h1 _ _ _ _ _ _ _))
    · unfold xk; split <;> omega
    · unfold xk; split <;> omega
  have k14 : c p = 14 → wpX_checkSelect (fun r u => narrow .boolean (.int r) = .int r ∧ post r u) (xl u WP a (nI S.2.1.length) (nI S.1.length) F Pa A FH FR FD KI) := by
    intro z
    rw [if_neg (by omega), if_neg (by omega), if_neg (by omega), if_neg (by omega), if_neg (by omega), if_neg (by omega), if_neg (by omega), if_neg (by omega), if_neg (by omega), if_neg (by omega), if_neg (by omega), if_pos z] at hs hf
    exact x_sel hF hb R (fun h1 KI R1 => nb true _ (fin _ hs h1 _ _ _ _ _ R1)) (fun h1 kc => nb false _ (hf h1 _ _ _ _ _ _ _))
  have k15 : 15 ≤ c p → c p ≤ 17 → wX_checkInstruction_229 post (nI f) (nI (c p)) (nI (c (p + 1))) (gx_byteCount u) WP a (nI S.2.1.length) (nI S.1.length) (gx_valueCount u) (gx_activeCount u) (gx_goesOn u) (gx_outcome u) (gx_resultValue u) (gx_trapPlace u) (gx_fuelUsed u) (gx_firstWaiting u) (gx_waitingCount u) (gx_printCount u) (gx_code u) F Pa (gx_loaded u) (gx_globals u) (gx_memories u) A FH FR FD KI (gx_values u) (gx_variables u) (gx_activeSlot u) (gx_activeGives u) (gx_activeFrame u) (gx_activeResume u) (gx_waiting u) (gx_prints u) := by
    intro z z2
    rw [if_neg (by omega), if_neg (by omega), if_neg (by omega), if_neg (by omega), if_neg (by omega), if_neg (by omega), if_neg (by omega), if_neg (by omega), if_neg (by omega), if_neg (by omega), if_neg (by omega), if_neg (by omega), if_pos (by omega)] at hs hf
    unfold wX_checkInstruction_229
    exact x_var M Fx mp hn f (c p) _ hf1 hf2 ht (by omega) (h256 _) hF hb R (fun h1 KI R1 => nb true _ (fin _ hs h1 _ _ _ _ _ R1)) (fun h1 kc KI => nb false _ (hf h1 _ _ _ _ _ _ _))
  have k18 : c p = 18 ∨ c p = 19 → wX_checkInstruction_237 post (nI (c p)) (nI (c (p + 1))) (gx_byteCount u) WP a (nI S.2.1.length) (nI S.1.length) (gx_valueCount u) (gx_activeCount u) (gx_goesOn u) (gx_outcome u) (gx_resultValue u) (gx_trapPlace u) (gx_fuelUsed u) (gx_firstWaiting u) (gx_waitingCount u) (gx_printCount u) (gx_code u) F Pa (gx_loaded u) (gx_globals u) (gx_memories u) A FH FR FD KI (gx_values u) (gx_variables u) (gx_activeSlot u) (gx_activeGives u) (gx_activeFrame u) (gx_activeResume u) (gx_waiting u) (gx_prints u) := by
    intro z
    rw [if_neg (by omega), if_neg (by omega), if_neg (by omega), if_neg (by omega), if_neg (by omega), if_neg (by omega), if_neg (by omega), if_neg (by omega), if_neg (by omega), if_neg (by omega), if_neg (by omega), if_neg (by omega), if_pos (by omega)] at hs hf
    unfold wX_checkInstruction_237
    exact x_glob M Fx mp hn f (c p) _ z (h256 _) hF hb R (fun h1 KI R1 => nb true _ (fin _ hs h1 _ _ _ _ _ R1)) (fun h1 kc KI => nb false _ (hf h1 _ _ _ _ _ _ _))
  have k20 : c p = 20 → wpX_give (fun r u => narrow .boolean (.int r) = .int r ∧ post r u) (xl u WP a (nI S.2.1.length) (nI S.1.length) F Pa A FH FR FD KI) 1 := by
    intro z
    rw [if_neg (by omega), if_neg (by omega), if_neg (by omega), if_neg (by omega), if_neg (by omega), if_neg (by omega), if_neg (by omega), if_neg (by omega), if_neg (by omega), if_neg (by omega), if_neg (by omega), if_neg (by omega), if_neg (by omega), if_pos (by omega)] at hs hf
    unfold vt_mem at hs hf
    rw [if_pos (by omega), z] at hs hf
    exact x_gv (S := S) 1 (by omega) hb R (fun h1 KI R1 => nb true _ (fin _ hs h1 _ _ _ _ _ R1)) (fun h1 => nb false _ (hf h1 _ _ _ _ _ _ _))
  have k21 : c p = 21 → wpX_give (fun r u => narrow .boolean (.int r) = .int r ∧ post r u) (xl u WP a (nI S.2.1.length) (nI S.1.length) F Pa A FH FR FD KI) 2 := by
    intro z
    rw [if_neg (by omega), if_neg (by omega), if_neg (by omega), if_neg (by omega), if_neg (by omega), if_neg (by omega), if_neg (by omega), if_neg (by omega), if_neg (by omega), if_neg (by omega), if_neg (by omega), if_neg (by omega), if_neg (by omega), if_pos (by omega)] at hs hf
    unfold vt_mem at hs hf
    rw [if_pos (by omega), z] at hs hf
    exact x_gv (S := S) 2 (by omega) hb R (fun h1 KI R1 => nb true _ (fin _ hs h1 _ _ _ _ _ R1)) (fun h1 => nb false _ (hf h1 _ _ _ _ _ _ _))
  refine pk_lt (c p) 0 (fun z => absurd z (by omega)) (fun _ => ?_)
  refine pk_lt 21 (c p) (fun b21 => ?_) (fun b99 => ?_)
  · rw [if_neg (by omega), if_neg (by omega), if_neg (by omega), if_neg (by omega), if_neg (by omega), if_neg (by omega), if_neg (by omega), if_neg (by omega), if_neg (by omega), if_neg (by omega), if_neg (by omega), if_neg (by omega), if_neg (by omega)] at hs hf
    refine pk_lt 27 (c p) (fun z2 => ?_) (fun z2 => ?_)
    · rw [if_neg (by omega)] at hs hf
      exact x_numr (c p) (by omega) h66 hF hb R (fun h1 KI R1 => nb true _ (fin _ hs h1 _ _ _ _ _ R1)) (fun h1 kc KI => nb false _ (hf h1 _ _ _ _ _ _ _))
    · rw [if_pos (by omega)] at hs hf
      exact x_acc Fx mp (c p) (by omega) (by omega) hF hb R (fun h1 KI R1 => nb true _ (fin _ hs h1 _ _ _ _ _ R1)) (fun h1 kc KI => nb false _ (hf h1 _ _ _ _ _ _ _))
  · exact pk_eq (c p) 0 (fun z => k0 z) (fun b0 => pk_eq (c p) 1 (fun z => k1 z) (fun b1 => pk_eq (c p) 2 (fun z => k23 (Or.inl z)) (fun b2 => pk_eq (c p) 3 (fun z => k23 (Or.inr z)) (fun b3 => pk_eq (c p) 4 (fun z => k4 z) (fun b4 => pk_eq (c p) 5 (fun z => k56 (Or.inl z)) (fun b5 => pk_eq (c p) 6 (fun z => k56 (Or.inr z)) (fun b6 => pk_eq (c p) 7 (fun z => k7 z) (fun b7 => pk_eq (c p) 8 (fun z => k8 z) (fun b8 => pk_eq (c p) 9 (fun z => k9 z) (fun b9 => pk_eq (c p) 10 (fun z => k10 z) (fun b10 => pk_eq (c p) 11 (fun z => k11 (Or.inl z)) (fun b11 => pk_eq (c p) 12 (fun z => k11 (Or.inr z)) (fun b12 => pk_eq (c p) 13 (fun z => k13 z) (fun b13 => pk_eq (c p) 14 (fun z => k14 z) (fun b14 => pk_eq (c p) 15 (fun z => k15 (by omega) (by omega)) (fun b15 => pk_eq (c p) 16 (fun z => k15 (by omega) (by omega)) (fun b16 => pk_eq (c p) 17 (fun z => k15 (by omega) (by omega)) (fun b17 => pk_eq (c p) 18 (fun z => k18 (by omega)) (fun b18 => pk_eq (c p) 19 (fun z => k18 (by omega)) (fun b19 => pk_eq (c p) 20 (fun z => k20 z) (fun b20 => pk_eq (c p) 21 (fun z => k21 z) (fun b21 => absurd b99 (by omega)) rfl rfl h31) rfl rfl h31) rfl rfl h31) rfl rfl h31) rfl rfl h31) rfl rfl h31) rfl rfl h31) rfl rfl h31) rfl rfl h31) rfl rfl h31) rfl rfl h31) rfl rfl h31) rfl rfl h31) rfl rfl h31) rfl rfl h31) rfl rfl h31) rfl rfl h31) rfl rfl h31) rfl rfl h31) rfl rfl h31) rfl rfl h31) rfl rfl h31
end
end
section
/-! 29: bodies that were read, with the final partner table; what validation keeps of it -/
theorem se_mono {c : Nat → Nat} {e : Nat} : ∀ k p d, se c k p d = some e → se c (k + 1) p d = some e := by
  intro k
  induction k with
  | zero => intro p d h; exact nomatch h
  | succ k ih =>
    intro p d h
    rw [se] at h ⊢
    by_cases h5 : d = 0 ∧ c p = 5
    · rw [if_pos h5] at h ⊢; exact h
    rw [if_neg h5] at h ⊢
    by_cases h6 : c p = 6
    · rw [if_pos h6] at h ⊢
      by_cases hd : d = 0
      · rw [if_pos hd] at h ⊢; exact h
      · rw [if_neg hd] at h ⊢; exact ih _ _ h
    · rw [if_neg h6] at h ⊢
      by_cases ho : 2 ≤ c p ∧ c p ≤ 4
      · rw [if_pos ho] at h ⊢; exact ih _ _ h
      · rw [if_neg ho] at h ⊢; exact ih _ _ h
theorem se_le {c : Nat → Nat} {e p d : Nat} : ∀ j k, se c k p d = some e → se c (k + j) p d = some e := by
  intro j
  induction j with
  | zero => intro k h; exact h
  | succ j ih => intro k h; exact se_mono _ _ _ (ih k h)
theorem SE_uni {c : Nat → Nat} {p d e e' : Nat} (h : SE c p d e) (h' : SE c p d e') : e = e' := by
  obtain ⟨k, h⟩ := h
  obtain ⟨k', h'⟩ := h'
  have a := se_le k' k h
  have b := se_le k k' h'
  rw [Nat.add_comm] at b
  exact Option.some.inj (a.symm.trans b)
theorem rd_B_end {c : Nat → Nat} {n : Nat} : ∀ k p T, n - p < k → p ≤ n → (rd_B c n k (true, p) T).1.1 = true → (rd_B c n k (true, p) T).2 = [] := by
  intro k
  induction k with
  | zero => intro p T h; omega
  | succ k ih =>
    intro p T hk hp h
    by_cases hT : T = []
    · subst hT; rw [rd_B_n]
    · rw [rd_B, if_pos ⟨rfl, hT⟩] at h ⊢
      have ok : (rd_I c n (true, p) T).1.1 = true := by
        cases e : (rd_I c n (true, p) T).1.1 with
        | true => rfl
        | false => rw [rd_B_f _ _ _ e, e] at h; exact ff_t h
      have hlt := rd_I_lt hp ok
      have e := tt_eq ok
      rw [e] at h ⊢
      exact ih _ _ (by omega) hlt.2 h
/-- a function that was read: where its body begins and ends -/
theorem rd_F_body {c : Nat → Nat} {n : Nat} (h140 : n ≤ 140) {q : Bool × Nat} (hq : q.2 ≤ n) (h : (rd_F c n q).1 = true) :
    q.2 + 2 + c (q.2 + 1) ≤ n ∧ rd_B c n 141 (true, q.2 + 2 + c (q.2 + 1)) [(0, 0, 0)] = ((true, (rd_F c n q).2), []) ∧ (∀ P, rd_FP c n q P = rd_BP c n 141 (true, q.2 + 2 + c (q.2 + 1)) [(0, 0, 0)] P) ∧ q.2 + 2 + c (q.2 + 1) ≤ (rd_F c n q).2 := by
  obtain ⟨b1, b2, b3⟩ := rd_F_ok h
  have d := rd_G_tr (rd_G_B c n 141 [(0, 0, 0)]) h
  obtain ⟨k1, k2, k3, k4, k5⟩ := rd_K_ok d
  rw [b2] at k2 k5
  dsimp only at k2 k5
  have e : rd_K c n 3 (rd_tk c n 0 255 q) = (true, q.2 + 2 + c (q.2 + 1)) := by
    rw [b2, k2, show q.2 + 1 + 1 + c (q.2 + 1) = q.2 + 2 + c (q.2 + 1) by omega]
  have hle : q.2 + 2 + c (q.2 + 1) ≤ n := by omega
  have h' : (rd_B c n 141 (true, q.2 + 2 + c (q.2 + 1)) [(0, 0, 0)]).1.1 = true := by rw [← e]; exact h
  have e2 : (rd_F c n q) = (rd_B c n 141 (true, q.2 + 2 + c (q.2 + 1)) [(0, 0, 0)]).1 := by rw [rd_F, e]
  refine ⟨hle, ?_, fun P => by rw [rd_FP, e], ?_⟩
  · refine Prod.ext ?_ (rd_B_end 141 _ _ (by omega) hle h')
    rw [← e2]
    exact tt_eq h
  · rw [e2]
    exact ((rd_G_B c n 141 [(0, 0, 0)]).1 (true, q.2 + 2 + c (q.2 + 1)) hle).1
theorem fp_low {c : Nat → Nat} {n : Nat} (h140 : n ≤ 140) {q : Bool × Nat} (hq : q.2 ≤ n) (h : (rd_F c n q).1 = true) (P : Nat → Nat) (j : Nat) (hj : j < q.2) : rd_FP c n q P j = P j := by
  obtain ⟨a1, a2, a3, a4⟩ := rd_F_body h140 hq h
  have := (ib_of (Q := rd_BP c n 141 (true, q.2 + 2 + c (q.2 + 1)) [(0, 0, 0)] P) 141 _ _ P _ a2 (by simp) a1 ⟨fun _ => rfl, fun z => absurd rfl z, fun z => absurd rfl z⟩ (fun _ _ => rfl)).2.2 j (by omega) ⟨fun z => absurd rfl z, trivial⟩
  rw [a3]
  exact this
theorem fps_low {c : Nat → Nat} {n : Nat} (h140 : n ≤ 140) : ∀ r (q : Bool × Nat) (P : Nat → Nat) j, q.2 ≤ n → (rd_it (rd_F c n) r q).1 = true → j < q.2 → rd_FPs c n r q P j = P j := by
  intro r
  induction r with
  | zero => intro q P j _ _ _; rfl
  | succ r ih =>
    intro q P j hq h hj
    rw [rd_it] at h
    have h1 := rd_G_tr (rd_G_it (rd_G_F c n) r) h
    have g := (rd_G_F c n).1 q hq
    rw [rd_FPs, ih _ _ j g.2 h (by omega), fp_low h140 hq h1 P j hj]
theorem fps_at {c : Nat → Nat} {n : Nat} (h140 : n ≤ 140) : ∀ r (q : Bool × Nat) (P : Nat → Nat) g, q.2 ≤ n → (rd_it (rd_F c n) r q).1 = true → g < r → ∀ j, j < (rd_it (rd_F c n) (g + 1) q).2 → rd_FPs c n r q P j = rd_FP c n (rd_it (rd_F c n) g q) (rd_FPs c n g q P) j := by
  intro r
  induction r with
  | zero => intro q P g _ _ hg; omega
  | succ r ih =>
    intro q P g hq h hg j hj
    rw [rd_it] at h
    have h1 := rd_G_tr (rd_G_it (rd_G_F c n) r) h
    have gF := (rd_G_F c n).1 q hq
    cases g with
    | zero => rw [rd_FPs]; exact fps_low h140 r _ _ j gF.2 h hj
    | succ g =>
      rw [rd_FPs]
      exact ih _ _ g gF.2 h (by omega) j hj
theorem m_ib {c : Nat → Nat} {n : Nat} (h140 : n ≤ 140) (h : (rd_V c n).1 = true) (P0 : Nat → Nat) (f : Nat) (hf : m_I c n ≤ f) (hf2 : f < m_I c n + m_F c n) : ib c n (m_P c n P0) 141 (m_bo c n f) [0] := by
  obtain ⟨mp, e0, e1, e2, e3, e4⟩ := mp_of h
  have ef : m_fa c n f = m_fn c n (f - m_I c n) := if_neg (by omega)
  have a := rd_it_ok (rd_G_F c n) _ _ e1 (f - m_I c n + 1) (by omega)
  rw [rd_it_s] at a
  have b := ((rd_G_it (rd_G_F c n) (f - m_I c n)).1 (true, m_pF c n + 1) e2).2
  obtain ⟨a1, a2, a3, a4⟩ := rd_F_body h140 b a
  unfold m_bo
  rw [ef]
  refine (ib_of (Q := m_P c n P0) 141 _ _ (rd_FPs c n (f - m_I c n) (true, m_pF c n + 1) P0) _ a2 (by simp) a1 ⟨fun _ => rfl, fun z => absurd rfl z, fun z => absurd rfl z⟩ (fun j hj => ?_)).1
  rw [← a3]
  exact fps_at h140 (m_F c n) _ P0 (f - m_I c n) e2 e1 (by omega) j (by rw [rd_it_s]; exact hj)
/-- what is open, by code and opener -/
abbrev co_l (F : List vt_Fr) : List (Nat × Nat) := F.map (fun x => (x.1, x.2.2.2.2))
def xi_ok (c P : Nat → Nat) (p b : Nat) : Nat → List (Nat × Nat) → Prop
  | _, [] => True
  | j, (cd, o) :: T => (T ≠ [] → (cd = 4 → SE c p j (P o)) ∧ (cd = 5 → P o < p)) ∧ (T = [] → o = b) ∧ xi_ok c P p b (j + 1) T
def hs_b (b : Nat) : List (Nat × Nat) → Prop
  | [] => False
  | (cd, o) :: T => (T ≠ [] ∧ cd = 4 ∧ o = b) ∨ hs_b b T
def jb_ok (c P : Nat → Nat) (b p : Nat) (T : List (Nat × Nat)) : Prop := b ≤ p ∧ (c b = 4 → P b < p ∨ p ≤ b ∨ hs_b b T)
def codo (c : Nat → Nat) (p : Nat) (T : List (Nat × Nat)) : List (Nat × Nat) := if 2 ≤ c p ∧ c p ≤ 4 then (c p, p) :: T else if c p = 5 then (5, (T.headD (0, 0)).2) :: T.tail else if c p = 6 then T.tail else T
theorem fo_die {S : vt_St} (h : S.2.1 ≠ []) : co_l (vt_die S).2.1 = co_l S.2.1 := by
  obtain ⟨K, F, b⟩ := S
  cases F with
  | nil => exact absurd rfl h
  | cons x F => rfl
theorem v_co {c : Nat → Nat} {n f p : Nat} {S : vt_St} (hF : S.2.1 ≠ []) (h : (v_st c n f p S).2.2 = false) : co_l (v_st c n f p S).2.1 = codo c p (co_l S.2.1) := by
  unfold v_st at h ⊢
  unfold codo
  by_cases h0 : c p = 0
  · rw [if_pos h0, if_neg (by omega), if_neg (by omega), if_neg (by omega)]; exact fo_die hF
  rw [if_neg h0] at h ⊢
  by_cases h1 : c p = 1
  · rw [if_pos h1, if_neg (by omega), if_neg (by omega), if_neg (by omega)]
  rw [if_neg h1] at h ⊢
  by_cases h2 : c p = 2 ∨ c p = 3
  · rw [if_pos h2] at h ⊢
    rw [if_pos (by omega)]
    unfold vt_open at h ⊢
    by_cases h8 : S.2.1.length = 8
    · rw [if_pos h8] at h; exact ff_t h.symm
    · rw [if_neg h8]; rfl
  rw [if_neg h2] at h ⊢
  by_cases h4 : c p = 4
  · rw [if_pos h4] at h ⊢
    rw [if_pos (by omega)]
    unfold vt_open at h ⊢
    by_cases h8 : (vt_pl 1 S).2.1.length = 8
    · rw [if_pos h8] at h; exact ff_t h.symm
    · rw [if_neg h8, fk_pl, h4]; rfl
  rw [if_neg h4] at h ⊢
  by_cases h5 : c p = 5 ∨ c p = 6
  · rw [if_pos h5] at h ⊢
    rw [if_neg (by omega)]
    obtain ⟨K, F, b⟩ := S
    cases F with
    | nil => exact absurd rfl hF
    | cons x F =>
      unfold vt_close
      by_cases z : c p = 5
      · rw [if_pos z, if_pos z]; rfl
      · have h6 : c p = 6 := by omega
        simp only [if_neg z, if_pos h6]
        by_cases hT : F = []
        · subst hT; rfl
        · rw [if_neg (by exact hT), fk_gr]; rfl
  rw [if_neg h5] at h ⊢
  rw [if_neg (show ¬ (2 ≤ c p ∧ c p ≤ 4) by omega), if_neg (show ¬ c p = 5 by omega), if_neg (show ¬ c p = 6 by omega)]
  have dd : ∀ S' : vt_St, S'.2.1 = S.2.1 → co_l (vt_die S').2.1 = co_l S.2.1 := by
    intro S' e
    rw [fo_die (by rw [e]; exact hF), e]
  repeat' split
  · exact dd _ (by rw [fk_pr, fk_ws])
  · rw [fk_gr, fk_pr, fk_ws, fk_pl]
  · exact dd _ (by rw [fk_pr, fk_tb, fk_ws, fk_pl])
  · exact dd _ (by rw [fk_pr])
  · rw [fk_call]
  · rw [fk_pl]
  · rw [fk_sel]
  · rw [fk_var]
  · rw [fk_mem]
  · rw [fk_num]
theorem xi_map {c P : Nat → Nat} {p p' b : Nat} {i i' : Nat → Nat} (hp : p ≤ p') (g : ∀ j e, SE c p (i j) e → SE c p' (i' j) e) (hi : ∀ j, i (j + 1) = i j + 1) (hi' : ∀ j, i' (j + 1) = i' j + 1) : ∀ T j, xi_ok c P p b (i j) T → xi_ok c P p' b (i' j) T := by
  intro T
  induction T with
  | nil => intro j _; trivial
  | cons x T ih =>
    intro j h
    obtain ⟨cd, o⟩ := x
    obtain ⟨h1, h2, h3⟩ := h
    refine ⟨fun z => ⟨fun y => g j _ ((h1 z).1 y), fun y => by have := (h1 z).2 y; omega⟩, h2, ?_⟩
    rw [← hi'] 
    rw [← hi] at h3
    exact ih (j + 1) h3
/-- an instruction keeps it -/
theorem xi_step {c P : Nat → Nat} {n p b : Nat} {T : List (Nat × Nat)} (hT : T ≠ []) (hlt : p < nx c p) (hpt : 2 ≤ c p ∧ c p ≤ 4 → pt_at c P p (nx c p) 0) (h54 : c p = 5 → (T.headD (0, 0)).1 = 4 ∧ T.tail ≠ []) (hx : xi_ok c P p b 0 T) (hj : jb_ok c P b p T) : xi_ok c P (nx c p) b 0 (codo c p T) ∧ jb_ok c P b (nx c p) (codo c p T) := by
  obtain ⟨j1, j2⟩ := hj
  unfold codo
  by_cases ho : 2 ≤ c p ∧ c p ≤ 4
  · rw [if_pos ho]
    obtain ⟨e1, a1, a2, a3⟩ := hpt ho
    refine ⟨⟨fun _ => ⟨fun _ => by rw [a2]; exact a1, fun z => absurd z (by omega)⟩, fun z => absurd z hT, ?_⟩, by omega, fun hc => ?_⟩
    · exact xi_map (i := fun j => j) (i' := fun j => j + 1) (by omega) (fun j e => (SE_o ho).mp) (fun _ => rfl) (fun _ => rfl) T 0 hx
    · rcases j2 hc with y | y | y
      · exact Or.inl (by omega)
      · have : p = b := by omega
        subst this
        exact Or.inr (Or.inr (Or.inl ⟨hT, hc, rfl⟩))
      · exact Or.inr (Or.inr (Or.inr y))
  · rw [if_neg ho]
    by_cases h5 : c p = 5
    · rw [if_pos h5]
      cases T with
      | nil => exact absurd rfl hT
      | cons x T =>
        obtain ⟨cd, o⟩ := x
        obtain ⟨z1, z2⟩ := h54 h5
        have z1' : cd = 4 := z1
        subst z1'
        have z2' : T ≠ [] := z2
        obtain ⟨h1, h2, h3⟩ := hx
        have hPo : P o = p := SE_uni ((h1 z2').1 rfl) (SE_5 h5)
        refine ⟨⟨fun _ => ⟨fun z => absurd z (by decide), fun _ => by show P o < nx c p; omega⟩, fun z => absurd z z2', ?_⟩, by omega, fun hc => ?_⟩
        · exact xi_map (i := fun j => j + 1) (i' := fun j => j + 1) (by omega) (fun j e => (SE_n ho (by omega) (by omega)).mp) (fun _ => rfl) (fun _ => rfl) T 0 h3
        · rcases j2 hc with y | y | ⟨y1, y2, y3⟩ | y
          · exact Or.inl (by omega)
          · have : p = b := by omega
            subst this
            omega
          · subst y3; exact Or.inl (by omega)
          · exact Or.inr (Or.inr (Or.inr y))
    · rw [if_neg h5]
      by_cases h6 : c p = 6
      · rw [if_pos h6]
        cases T with
        | nil => exact absurd rfl hT
        | cons x T =>
          obtain ⟨cd, o⟩ := x
          obtain ⟨h1, h2, h3⟩ := hx
          refine ⟨?_, by omega, fun hc => ?_⟩
          · exact xi_map (i := fun j => j + 1) (i' := fun j => j) (by omega) (fun j e => (SE_6 h6).mp) (fun _ => rfl) (fun _ => rfl) T 0 h3
          · rcases j2 hc with y | y | ⟨y1, y2, y3⟩ | y
            · exact Or.inl (by omega)
            · have : p = b := by omega
              subst this
              omega
            · have hPo : P o = p := SE_uni ((h1 y1).1 y2) (SE_e h6)
              subst y3
              exact Or.inl (by omega)
            · exact Or.inr (Or.inr y)
      · rw [if_neg h6]
        refine ⟨xi_map (i := fun j => j) (i' := fun j => j) (by omega) (fun j e => (SE_n ho h6 (by omega)).mp) (fun _ => rfl) (fun _ => rfl) T 0 hx, by omega, fun hc => ?_⟩
        rcases j2 hc with y | y | y
        · exact Or.inl (by omega)
        · have : p = b := by omega
          subst this
          omega
        · exact Or.inr (Or.inr y)
end
section
/-! 30: the class's validation: bodies, functions, imports, entries, data -/
section
variable {u : SX} {c : Nat → Nat} {n p : Nat} {WP a : Int32} {F Pa : Nat → Int32} {P : Nat → Nat}
theorem x_val_l {post : Int32 → SX → Prop} {J : Int32 → Int32 → Int32 → Int32 → Int32 → Int32 → Int32 → Int32 → Int32 → Int32 → Int64 → Int32 → Int32 → Int32 → Int32 → Int32 → (Nat → Int32) → (Nat → Int32) → (Nat → Int32) → (Nat → Int32) → (Nat → Int64) → (Nat → Int32) → (Nat → Int32) → (Nat → Int32) → (Nat → Int32) → (Nat → Int32) → (Nat → Int32) → (Nat → Int64) → (Nat → Int64) → (Nat → Int32) → (Nat → Int32) → (Nat → Int32) → (Nat → Int32) → (Nat → Int32) → (Nat → Int32) → Prop} {x1 : Int32} (M : mx_ok u 2 c) (hPa : xr_Pa Pa P) (Fx : xf_ok 44 c n F) (mp : mp_ok c n) (hn : n ≤ 140) (f : Nat) (hf1 : m_I c n ≤ f) (hf2 : f < m_I c n + m_F c n) (ht : c (m_fa c n f) < c 0) :
    ∀ k p i l (S : vt_St) (A FH FR FD KI : Nat → Int32), ib c n P k p (S.2.1.map (·.1)) → S.2.1 ≠ [] → S.2.2 = false → XV c S A FH FR FD KI → xi_ok c P p (m_bo c n f) 0 (co_l S.2.1) → jb_ok c P (m_bo c n f) p (co_l S.2.1) → i < p → k < l →
    (v_go c n f k p S = none → ∀ a fc kc A FH FR FD KI, J (nI (f + 1)) (gx_byteCount u) WP a fc kc (gx_valueCount u) (gx_activeCount u) (gx_goesOn u) (gx_outcome u) (gx_resultValue u) (gx_trapPlace u) (gx_fuelUsed u) (gx_firstWaiting u) (gx_waitingCount u) (gx_printCount u) (gx_code u) F Pa (gx_loaded u) (gx_globals u) (gx_memories u) A FH FR FD KI (gx_values u) (gx_variables u) (gx_activeSlot u) (gx_activeGives u) (gx_activeFrame u) (gx_activeResume u) (gx_waiting u) (gx_prints u)) →
    (∀ w, v_go c n f k p S = some w → ∀ fc kc A FH FR FD KI, post 0 (xl u WP (nI w) fc kc F Pa A FH FR FD KI)) →
    wX_checkFunctions_92 post J x1 (nI f) l (nI i) (gx_byteCount u) WP (nI p) (nI S.2.1.length) (nI S.1.length) (gx_valueCount u) (gx_activeCount u) (gx_goesOn u) (gx_outcome u) (gx_resultValue u) (gx_trapPlace u) (gx_fuelUsed u) (gx_firstWaiting u) (gx_waitingCount u) (gx_printCount u) (gx_code u) F Pa (gx_loaded u) (gx_globals u) (gx_memories u) A FH FR FD KI (gx_values u) (gx_variables u) (gx_activeSlot u) (gx_activeGives u) (gx_activeFrame u) (gx_activeResume u) (gx_waiting u) (gx_prints u) := by
  intro k
  induction k with
  | zero => intro p i l S A FH FR FD KI hib; exact hib.elim
  | succ k ih =>
    intro p i l S A FH FR FD KI hib hF hb R hxi hjb hip hl hs hf
    obtain ⟨l, rfl⟩ : ∃ j, l = j + 1 := ⟨l - 1, by omega⟩
    obtain ⟨i1, i2, i3, i4, i5, i6, i7⟩ := hib
    obtain ⟨x1', x2, x3⟩ := iw_of (by rw [i3]) i1
    have hlen : 0 < S.2.1.length := List.length_pos_iff.mpr hF
    have hsz : S.2.1.length ≤ 8 := R.2.2.2.1
    refine pk_le 140 i (fun z => absurd z (by omega)) (fun _ => pk_le S.2.1.length 0 (fun z => absurd z (by omega)) (fun _ => ?_))
    rw [v_go, if_neg hF] at hs hf
    have h54 : c p = 5 → f_c S.2.1 = 4 := by
      intro z
      rw [if_neg (by omega), if_pos z] at i7
      obtain ⟨K, Fr, b⟩ := S
      cases Fr with
      | nil => exact absurd rfl hF
      | cons x Fr => exact i7.1
    have htop : c p = 6 → (c (f_o S.2.1) = 4 → P (f_o S.2.1) < 140) ∧ (c (f_o S.2.1) = 4 ∧ P (f_o S.2.1) = p ↔ f_c S.2.1 = 4) := by
      intro z
      obtain ⟨K, Fr, b⟩ := S
      cases Fr with
      | nil => exact absurd rfl hF
      | cons x Fr =>
        obtain ⟨cd, g, hh, d, o⟩ := x
        obtain ⟨rk, ⟨r1, r2, r3, r4, r5, r6, r7, r8⟩, _⟩ := R
        obtain ⟨z1, z2, z3⟩ := hxi
        show (c o = 4 → P o < 140) ∧ (c o = 4 ∧ P o = p ↔ cd = 4)
        by_cases hT : Fr = []
        · subst hT
          have e : o = m_bo c n f := z2 rfl
          obtain ⟨j1, j2⟩ := hjb
          have hcd := (r6 rfl).1
          have key : c o = 4 → P o < p := by
            intro hc
            rw [e] at hc ⊢
            rcases j2 hc with y | y | y
            · exact y
            · have : p = m_bo c n f := by omega
              rw [← this] at hc; omega
            · rcases y with ⟨y, _⟩ | y
              · exact absurd rfl y
              · exact y.elim
          exact ⟨fun hc => by have := key hc; omega, fun y => by have := key y.1; omega, fun y => by omega⟩
        · have hT' : co_l Fr ≠ [] := by intro q; exact hT (List.map_eq_nil_iff.mp q)
          have y1 : cd = 4 → SE c p 0 (P o) := (z1 hT').1
          have y2 : cd = 5 → P o < p := (z1 hT').2
          have q := r7 hT
          have e4 : cd = 4 → P o = p := fun y => SE_uni (y1 y) (SE_e z)
          refine ⟨fun hc => ?_, fun y => ?_, fun y => ⟨?_, e4 y⟩⟩
          · have : cd = 4 ∨ cd = 5 := by omega
            rcases this with y | y
            · have := e4 y; omega
            · have := y2 y; omega
          · have : cd = 4 ∨ cd = 5 := by omega
            rcases this with q2 | q2
            · exact q2
            · have := y2 q2; omega
          · omega
    refine x_instr (S := S) M hPa Fx mp hn f hf1 hf2 ht rfl i1 i2 x1' (fun z => (x2 z).1) (fun z => (htop z).1) (fun z => (htop z).2) h54 hF hb R (fun h1 kc A FH FR FD KI h2 => ?_) (fun h1 fc kc A FH FR FD KI => ?_)
    · rw [if_neg (by rw [h1]; simp)] at hs hf
      refine br_f (by decide) ?_
      refine xm_behind (w := (xl u WP (nI p) (nI (v_st c n f p S).2.1.length) kc F Pa A FH FR FD KI)) (m := 2) (by omega) M p (by omega) ?_
      refine nm_r (nI_1 i) ?_
      by_cases hend : (v_st c n f p S).2.1 = []
      · obtain ⟨l, rfl⟩ : ∃ j, l = j + 1 := ⟨l - 1, by omega⟩
        have e : v_go c n f k (nx c p) (v_st c n f p S) = none := by
          cases k with
          | zero => rfl
          | succ k => rw [v_go, if_pos hend]
        refine pk_le 140 (i + 1) (fun z => absurd z (by omega)) (fun _ => br_t (by rw [hend]; decide) (nm_r (nI_1 f) ?_))
        exact hs e _ _ _ _ _ _ _ _
      · obtain ⟨h3, h4⟩ := h2 hend
        subst h3
        have hcod := v_codes hF h1
        have hco := v_co hF h1
        have hstep := xi_step (n := n) (T := co_l S.2.1) (by intro q; exact hF (List.map_eq_nil_iff.mp q)) i5 i6 (fun z => by
          have y := h54 z
          obtain ⟨K, Fr, b⟩ := S
          cases Fr with
          | nil => exact absurd rfl hF
          | cons x Fr =>
            obtain ⟨cd, g, hh, d, o⟩ := x
            obtain ⟨rk, ⟨r1, r2, r3, r4, r5, r6, r7, r8⟩, _⟩ := R
            have y' : cd = 4 := y
            refine ⟨y', fun q => ?_⟩
            have q' : Fr = [] := List.map_eq_nil_iff.mp q
            have := (r6 q').1
            omega) hxi hjb
        rw [← hco] at hstep
        have hib' : ib c n P k (nx c p) ((v_st c n f p S).2.1.map (·.1)) := by
          rw [hcod]
          unfold cod
          by_cases ho : 2 ≤ c p ∧ c p ≤ 4
          · rw [if_pos ho] at i7 ⊢; exact i7
          · rw [if_neg ho] at i7 ⊢
            by_cases h5 : c p = 5
            · rw [if_pos h5] at i7 ⊢; exact i7.2
            · rw [if_neg h5] at i7 ⊢
              by_cases h6 : c p = 6
              · rw [if_pos h6] at i7 ⊢
                rcases i7 with z | z
                · exfalso
                  apply hend
                  rw [cod, if_neg ho, if_neg h5, if_pos h6, z] at hcod
                  exact List.map_eq_nil_iff.mp hcod
                · exact z
              · rw [if_neg h6] at i7 ⊢; exact i7
        exact ih (nx c p) (i + 1) l (v_st c n f p S) A FH FR FD KI hib' hend h1 h4 hstep.1 hstep.2 (by omega) (by omega) hs hf
    · rw [if_pos h1] at hf
      exact br_t rfl (hf p rfl _ _ _ _ _ _ _)
/-- the place of the first fault of function f -/
def vf_b (c : Nat → Nat) (n f : Nat) : Option Nat := if c (m_fa c n f) < c 0 then v_go c n f 141 (m_bo c n f) (v_0 c n f) else some (m_fa c n f)
def vf_1 (c : Nat → Nat) (n : Nat) : Nat → Nat → Option Nat
  | 0, _ => none
  | r + 1, f => if vf_b c n f = none then vf_1 c n r (f + 1) else vf_b c n f
theorem xm_bodyOf {w : SX} {post : Int32 → Prop} {m : Nat} (hm : m < 3) (M : mx_ok w m c) (Fx : xf_ok (m * 22) c n (gx_facts w)) (mp : mp_ok c n) (hn : n ≤ 140) (f : Nat) (hf : f < m_I c n + m_F c n) (h : post (nI (m_bo c n f))) : wpX_bodyOf post w (nI m) (nI f) := by
  have hI := mp.2.2.1
  have hF := mp.2.2.2.1
  have h1 := mp.2.2.2.2.1 f hf
  unfold wpX_bodyOf
  refine eq_p (P := fun z => wpX_fact _ _ _ z) (show (12 : Int32) + nI f = nI (12 + f) from nI_add 12 f) ?_
  refine xx_fact (m := m) (w := 12 + f) (z := nI (m_fa c n f)) (by rw [show m * 22 + (12 + f) = m * 22 + 12 + f by omega]; exact Fx.2.2.2.2.2.2.2.2.2.1 f hf) hm (by omega) (nm_r (nI_1 _) ?_)
  refine xx_byte M hm (by omega) ?_
  have e : (nI (m_fa c n f + 1) + 1) + nI (c (m_fa c n f + 1)) = nI (m_bo c n f) := by rw [nI_1, nI_add]; rfl
  exact eq_p (P := post) e h
theorem x_fns_l {post : Int32 → SX → Prop} (M : mx_ok u 2 c) (hPa : xr_Pa Pa P) (Fx : xf_ok 44 c n F) (mp : mp_ok c n) (hn : n ≤ 140) (hib : ∀ f, m_I c n ≤ f → f < m_I c n + m_F c n → ib c n P 141 (m_bo c n f) [0]) : ∀ r f l (a fc kc : Int32) (A FH FR FD KI : Nat → Int32), f + r = m_I c n + m_F c n → m_I c n ≤ f → r < l →
    (vf_1 c n r f = none → ∀ a fc kc A FH FR FD KI, post 1 (xl u WP a fc kc F Pa A FH FR FD KI)) →
    (∀ w, vf_1 c n r f = some w → ∀ fc kc A FH FR FD KI, post 0 (xl u WP (nI w) fc kc F Pa A FH FR FD KI)) →
    wX_checkFunctions_14 post (nI (m_I c n + m_F c n)) l (nI f) (gx_byteCount u) WP a fc kc (gx_valueCount u) (gx_activeCount u) (gx_goesOn u) (gx_outcome u) (gx_resultValue u) (gx_trapPlace u) (gx_fuelUsed u) (gx_firstWaiting u) (gx_waitingCount u) (gx_printCount u) (gx_code u) F Pa (gx_loaded u) (gx_globals u) (gx_memories u) A FH FR FD KI (gx_values u) (gx_variables u) (gx_activeSlot u) (gx_activeGives u) (gx_activeFrame u) (gx_activeResume u) (gx_waiting u) (gx_prints u) := by
  have h0 := mp.1
  have hI := mp.2.2.1
  have hF := mp.2.2.2.1
  intro r
  induction r with
  | zero =>
    intro f l a fc kc A FH FR FD KI hr hf1 hl hs hf
    obtain ⟨l, rfl⟩ : ∃ j, l = j + 1 := ⟨l - 1, by omega⟩
    exact pk_le (m_I c n + m_F c n) f (fun _ => hs rfl _ _ _ _ _ _ _ _) (fun z => absurd z (by omega))
  | succ r ih =>
    intro f l a fc kc A FH FR FD KI hr hf1 hl hs hf
    obtain ⟨l, rfl⟩ : ∃ j, l = j + 1 := ⟨l - 1, by omega⟩
    have hf2 : f < m_I c n + m_F c n := by omega
    have hfa := mp.2.2.2.2.1 f hf2
    obtain ⟨b1, b2, b3⟩ := mp.2.2.2.2.2.1 f hf1 hf2
    refine pk_le (m_I c n + m_F c n) f (fun z => absurd z (by omega)) (fun _ => ?_)
    refine eq_p (P := fun z => wpX_fact _ _ _ z) (show (12 : Int32) + nI f = nI (12 + f) from nI_add 12 f) ?_
    refine xx_fact (m := 2) (w := 12 + f) (z := nI (m_fa c n f)) (by rw [show 2 * 22 + (12 + f) = 44 + 12 + f by omega]; exact Fx.2.2.2.2.2.2.2.2.2.1 f hf2) (by omega) (by omega) ?_
    refine xx_byte (m := 2) M (by omega) (by omega) ?_
    refine xx_fact (m := 2) (w := 0) (z := nI (c 0)) (by exact Fx.1) (by omega) (by omega) ?_
    rw [vf_1] at hs hf
    refine pk_lt (c (m_fa c n f)) (c 0) (fun z => ?_) (fun z => ?_) rfl rfl (by have := M.2.1 (m_fa c n f); omega)
    · have eb : vf_b c n f = v_go c n f 141 (m_bo c n f) (v_0 c n f) := if_pos z
      rw [eb] at hs hf
      refine xm_bodyOf (w := (xl u WP (nI (m_fa c n f)) fc kc F Pa A FH FR FD KI)) (m := 2) (by omega) M Fx mp hn f hf2 ?_
      refine xm_resultOf (w := (xl u WP (nI (m_bo c n f)) fc kc F Pa A FH FR FD KI)) (m := 2) (by omega) M Fx mp hn _ z ?_
      obtain ⟨t1, t2⟩ := mp.2.1 _ z
      refine x_open (S := ([], [], false)) (c := c) 0 (ty_r c (m_ty c n (c (m_fa c n f)))) (m_bo c n f) (by omega) (ty_r_le t1) rfl (by
        obtain ⟨q1, _⟩ := hib f hf1 hf2
        omega) (fun _ => ⟨rfl, rfl⟩) (fun q => absurd rfl q) rfl ⟨trivial, trivial, by simp, by simp, fun _ hk => absurd hk (by simp), trivial⟩ (fun h1 A FH FR FD R => ⟨142, ?_⟩) (fun h1 => ff_t h1)
      have hgo : v_go c n f 141 (m_bo c n f) (v_0 c n f) = none ∨ ∃ w, v_go c n f 141 (m_bo c n f) (v_0 c n f) = some w := by
        cases v_go c n f 141 (m_bo c n f) (v_0 c n f) with
        | none => exact Or.inl rfl
        | some w => exact Or.inr ⟨w, rfl⟩
      refine x_val_l M hPa Fx mp hn f hf1 hf2 z 141 (m_bo c n f) 0 142 (v_0 c n f) A FH FR FD KI (hib f hf1 hf2) (by simp [v_0]) rfl R ⟨fun q => absurd rfl q, fun _ => rfl, trivial⟩ ⟨Nat.le_refl _, fun _ => Or.inr (Or.inl (Nat.le_refl _))⟩ (by unfold m_bo; omega) (by omega) (fun h2 a fc kc A FH FR FD KI => ?_) (fun w h2 fc kc A FH FR FD KI => ?_)
      · rw [if_pos h2] at hs hf
        exact ih (f + 1) l a fc kc A FH FR FD KI (by omega) (by omega) (by omega) hs hf
      · rw [h2, if_neg (by simp)] at hf
        exact hf w rfl _ _ _ _ _ _ _
    · have eb : vf_b c n f = some (m_fa c n f) := if_neg (by omega)
      rw [eb, if_neg (by simp)] at hf
      exact hf _ rfl _ _ _ _ _ _ _
theorem x_fns {post : Int32 → SX → Prop} {fc kc : Int32} {A FH FR FD KI : Nat → Int32} (M : mx_ok u 2 c) (hPa : xr_Pa Pa P) (Fx : xf_ok 44 c n F) (mp : mp_ok c n) (hn : n ≤ 140) (hib : ∀ f, m_I c n ≤ f → f < m_I c n + m_F c n → ib c n P 141 (m_bo c n f) [0])
    (hs : vf_1 c n (m_F c n) (m_I c n) = none → ∀ a fc kc A FH FR FD KI, post 1 (xl u WP a fc kc F Pa A FH FR FD KI))
    (hf : ∀ w, vf_1 c n (m_F c n) (m_I c n) = some w → ∀ fc kc A FH FR FD KI, post 0 (xl u WP (nI w) fc kc F Pa A FH FR FD KI)) : wpX_checkFunctions post (xl u WP a fc kc F Pa A FH FR FD KI) := by
  unfold wpX_checkFunctions
  refine xx_fact (m := 2) (w := 2) (z := nI (m_I c n + m_F c n)) (by exact Fx.2.2.1) (by omega) (by omega) ?_
  refine xx_fact (m := 2) (w := 1) (z := nI (m_I c n)) (by exact Fx.2.1) (by omega) (by omega) ⟨m_F c n + 1, ?_⟩
  exact x_fns_l M hPa Fx mp hn hib (m_F c n) (m_I c n) _ _ _ _ _ _ _ _ _ rfl (Nat.le_refl _) (by omega) hs hf
/-- the first import with no such type -/
def vi_1 (c : Nat → Nat) (n : Nat) : Nat → Nat → Option Nat
  | 0, _ => none
  | r + 1, i => if c (m_fa c n i) < c 0 then vi_1 c n r (i + 1) else some (m_fa c n i)
theorem x_imps_l {post : Int32 → SX → Prop} {fc kc : Int32} {A FH FR FD KI : Nat → Int32} (M : mx_ok u 2 c) (Fx : xf_ok 44 c n F) (mp : mp_ok c n) (hn : n ≤ 140)
    (hs : vi_1 c n (m_I c n) 0 = none → ∀ a, post 1 (xl u WP a fc kc F Pa A FH FR FD KI)) (hf : ∀ w, vi_1 c n (m_I c n) 0 = some w → post 0 (xl u WP (nI w) fc kc F Pa A FH FR FD KI)) :
    ∀ r i l (a : Int32), i + r = m_I c n → r < l → vi_1 c n r i = vi_1 c n (m_I c n) 0 →
    wX_checkImports_9 post (nI (m_I c n)) (gx_byteCount u) WP fc kc (gx_valueCount u) (gx_activeCount u) (gx_goesOn u) (gx_outcome u) (gx_resultValue u) (gx_trapPlace u) (gx_fuelUsed u) (gx_firstWaiting u) (gx_waitingCount u) (gx_printCount u) (gx_code u) F Pa (gx_loaded u) (gx_globals u) (gx_memories u) A FH FR FD KI (gx_values u) (gx_variables u) (gx_activeSlot u) (gx_activeGives u) (gx_activeFrame u) (gx_activeResume u) (gx_waiting u) (gx_prints u) l (nI i) a := by
  have h0 := mp.1
  have hI := mp.2.2.1
  intro r
  induction r with
  | zero =>
    intro i l a hr hl e
    obtain ⟨l, rfl⟩ : ∃ j, l = j + 1 := ⟨l - 1, by omega⟩
    exact pk_le (m_I c n) i (fun _ => hs e.symm _) (fun z => absurd z (by omega))
  | succ r ih =>
    intro i l a hr hl e
    obtain ⟨l, rfl⟩ : ∃ j, l = j + 1 := ⟨l - 1, by omega⟩
    have hfa := mp.2.2.2.2.1 i (by omega)
    refine pk_le (m_I c n) i (fun z => absurd z (by omega)) (fun _ => ?_)
    refine eq_p (P := fun z => wpX_fact _ _ _ z) (show (12 : Int32) + nI i = nI (12 + i) from nI_add 12 i) ?_
    refine xx_fact (m := 2) (w := 12 + i) (z := nI (m_fa c n i)) (by rw [show 2 * 22 + (12 + i) = 44 + 12 + i by omega]; exact Fx.2.2.2.2.2.2.2.2.2.1 i (by omega)) (by omega) (by omega) ?_
    refine xx_byte (m := 2) M (by omega) (by omega) ?_
    refine xx_fact (m := 2) (w := 0) (z := nI (c 0)) (by exact Fx.1) (by omega) (by omega) ?_
    rw [vi_1] at e
    refine pk_lt (c (m_fa c n i)) (c 0) (fun z => nm_r (nI_1 i) ?_) (fun z => ?_) rfl rfl (by have := M.2.1 (m_fa c n i); omega)
    · rw [if_pos z] at e
      exact ih (i + 1) l _ (by omega) (by omega) e
    · rw [if_neg (by omega)] at e
      exact hf _ e.symm
theorem x_imps {post : Int32 → SX → Prop} {fc kc : Int32} {A FH FR FD KI : Nat → Int32} (M : mx_ok u 2 c) (Fx : xf_ok 44 c n F) (mp : mp_ok c n) (hn : n ≤ 140)
    (hs : vi_1 c n (m_I c n) 0 = none → ∀ a, post 1 (xl u WP a fc kc F Pa A FH FR FD KI)) (hf : ∀ w, vi_1 c n (m_I c n) 0 = some w → post 0 (xl u WP (nI w) fc kc F Pa A FH FR FD KI)) :
    wpX_checkImports post (xl u WP a fc kc F Pa A FH FR FD KI) := by
  unfold wpX_checkImports
  refine xx_fact (m := 2) (w := 1) (z := nI (m_I c n)) (by exact Fx.2.1) (by omega) (by omega) ⟨m_I c n + 1, ?_⟩
  exact x_imps_l M Fx mp hn hs hf (m_I c n) 0 _ a (by omega) (by omega) rfl
/-- the first entry that names no function -/
def ve_1 (c : Nat → Nat) (fn : Nat) : Nat → Nat → Option Nat
  | 0, _ => none
  | r + 1, p => if c p < fn ∨ c p = 255 then ve_1 c fn r (p + 1) else some p
theorem x_ents_l {post : Int32 → SX → Prop} {fc kc : Int32} {A FH FR FD KI : Nat → Int32} (M : mx_ok u 2 c) (Fx : xf_ok 44 c n F) (mp : mp_ok c n) (hn : n ≤ 140)
    (hs : ve_1 c (m_I c n + m_F c n) (c (tl_q c n (m_pG c n))) (tl_q c n (m_pG c n) + 1) = none → ∀ a, post 1 (xl u WP a fc kc F Pa A FH FR FD KI)) (hf : ∀ w, ve_1 c (m_I c n + m_F c n) (c (tl_q c n (m_pG c n))) (tl_q c n (m_pG c n) + 1) = some w → post 0 (xl u WP (nI w) fc kc F Pa A FH FR FD KI)) :
    ∀ r i l (a : Int32), i + r = c (tl_q c n (m_pG c n)) → r < l → ve_1 c (m_I c n + m_F c n) r (tl_q c n (m_pG c n) + 1 + i) = ve_1 c (m_I c n + m_F c n) (c (tl_q c n (m_pG c n))) (tl_q c n (m_pG c n) + 1) →
    wX_checkEntries_9 post (nI (c (tl_q c n (m_pG c n)))) (gx_byteCount u) WP fc kc (gx_valueCount u) (gx_activeCount u) (gx_goesOn u) (gx_outcome u) (gx_resultValue u) (gx_trapPlace u) (gx_fuelUsed u) (gx_firstWaiting u) (gx_waitingCount u) (gx_printCount u) (gx_code u) F Pa (gx_loaded u) (gx_globals u) (gx_memories u) A FH FR FD KI (gx_values u) (gx_variables u) (gx_activeSlot u) (gx_activeGives u) (gx_activeFrame u) (gx_activeResume u) (gx_waiting u) (gx_prints u) l (nI i) a := by
  have h0 := mp.1
  have hI := mp.2.2.1
  have hF := mp.2.2.2.1
  have hE : c (tl_q c n (m_pG c n)) ≤ 5 := mp.2.2.2.2.2.2.2.2.1
  have hM : tl_m c n (m_pG c n) < n := mp.2.2.2.2.2.2.2.2.2.2
  unfold tl_m at hM
  intro r
  induction r with
  | zero =>
    intro i l a hr hl e
    obtain ⟨l, rfl⟩ : ∃ j, l = j + 1 := ⟨l - 1, by omega⟩
    exact pk_le (c (tl_q c n (m_pG c n))) i (fun _ => hs e.symm _) (fun z => absurd z (by omega))
  | succ r ih =>
    intro i l a hr hl e
    obtain ⟨l, rfl⟩ : ∃ j, l = j + 1 := ⟨l - 1, by omega⟩
    refine pk_le (c (tl_q c n (m_pG c n))) i (fun z => absurd z (by omega)) (fun _ => ?_)
    refine xx_fact (m := 2) (w := 6) (z := nI (tl_q c n (m_pG c n) + 1)) (by exact Fx.2.2.2.2.2.2.1) (by omega) (by omega) ?_
    refine nm_r (nI_add _ _) ?_
    refine xx_byte (m := 2) M (by omega) (by omega) ?_
    refine xx_fact (m := 2) (w := 2) (z := nI (m_I c n + m_F c n)) (by exact Fx.2.2.1) (by omega) (by omega) ?_
    rw [ve_1] at e
    have hc := M.2.1 (tl_q c n (m_pG c n) + 1 + i)
    refine pk_lt (c (tl_q c n (m_pG c n) + 1 + i)) (m_I c n + m_F c n) (fun z => nm_r (nI_1 i) ?_) (fun z => pk_eq (c (tl_q c n (m_pG c n) + 1 + i)) 255 (fun z2 => nm_r (nI_1 i) ?_) (fun z2 => ?_))
    · rw [if_pos (Or.inl z)] at e
      exact ih (i + 1) l _ (by omega) (by omega) e
    · rw [if_pos (Or.inr z2)] at e
      exact ih (i + 1) l _ (by omega) (by omega) e
    · rw [if_neg (by omega)] at e
      exact hf _ e.symm
theorem x_ents {post : Int32 → SX → Prop} {fc kc : Int32} {A FH FR FD KI : Nat → Int32} (M : mx_ok u 2 c) (Fx : xf_ok 44 c n F) (mp : mp_ok c n) (hn : n ≤ 140)
    (hs : ve_1 c (m_I c n + m_F c n) (c (tl_q c n (m_pG c n))) (tl_q c n (m_pG c n) + 1) = none → ∀ a, post 1 (xl u WP a fc kc F Pa A FH FR FD KI)) (hf : ∀ w, ve_1 c (m_I c n + m_F c n) (c (tl_q c n (m_pG c n))) (tl_q c n (m_pG c n) + 1) = some w → post 0 (xl u WP (nI w) fc kc F Pa A FH FR FD KI)) :
    wpX_checkEntries post (xl u WP a fc kc F Pa A FH FR FD KI) := by
  unfold wpX_checkEntries
  refine xx_fact (m := 2) (w := 4) (z := nI (c (tl_q c n (m_pG c n)))) (by exact Fx.2.2.2.2.1) (by omega) (by omega) ⟨c (tl_q c n (m_pG c n)) + 1, ?_⟩
  exact x_ents_l M Fx mp hn hs hf (c (tl_q c n (m_pG c n))) 0 _ a (by omega) (by omega) rfl
/-- the first piece of data that doesn't fit -/
def vd_1 (c : Nat → Nat) : Nat → Nat → Option Nat
  | 0, _ => none
  | r + 1, p => if c p + c (p + 1) ≤ 48 then vd_1 c r (p + 2 + c (p + 1)) else some p
theorem x_data_l {post : Int32 → SX → Prop} {fc kc : Int32} {A FH FR FD KI : Nat → Int32} (M : mx_ok u 2 c) (N p0 : Nat) (hN : N ≤ 2)
    (hs : vd_1 c N p0 = none → ∀ a, post 1 (xl u WP a fc kc F Pa A FH FR FD KI)) (hf : ∀ w, vd_1 c N p0 = some w → post 0 (xl u WP (nI w) fc kc F Pa A FH FR FD KI)) :
    ∀ r i l p, i + r = N → r < l → p + 300 * r < 950 → vd_1 c r p = vd_1 c N p0 →
    wX_checkData_44 post (nI N) (gx_byteCount u) WP fc kc (gx_valueCount u) (gx_activeCount u) (gx_goesOn u) (gx_outcome u) (gx_resultValue u) (gx_trapPlace u) (gx_fuelUsed u) (gx_firstWaiting u) (gx_waitingCount u) (gx_printCount u) (gx_code u) F Pa (gx_loaded u) (gx_globals u) (gx_memories u) A FH FR FD KI (gx_values u) (gx_variables u) (gx_activeSlot u) (gx_activeGives u) (gx_activeFrame u) (gx_activeResume u) (gx_waiting u) (gx_prints u) l (nI i) (nI p) := by
  intro r
  induction r with
  | zero =>
    intro i l p hr hl hp e
    obtain ⟨l, rfl⟩ : ∃ j, l = j + 1 := ⟨l - 1, by omega⟩
    exact pk_le N i (fun _ => hs e.symm _) (fun z => absurd z (by omega))
  | succ r ih =>
    intro i l p hr hl hp e
    obtain ⟨l, rfl⟩ : ∃ j, l = j + 1 := ⟨l - 1, by omega⟩
    have h1 := M.2.1 p
    have h2 := M.2.1 (p + 1)
    refine pk_le N i (fun z => absurd z (by omega)) (fun _ => ?_)
    refine eq_p (P := fun z => wpX_byteAt _ _ _ z) (nI_1 p) ?_
    refine xx_byte (m := 2) M (by omega) (by omega) ?_
    refine xx_byte (m := 2) M (by omega) (by omega) ?_
    rw [vd_1] at e
    refine pk_le (c p + c (p + 1)) 48 (fun z => nm_r (show nI p + (2 + nI (c (p + 1))) = nI (p + 2 + c (p + 1)) from by rw [show (2 : Int32) = nI 2 from rfl, nI_add, nI_add]; congr 1; omega) (nm_r (nI_1 i) ?_)) (fun z => ?_) (nI_add _ _) rfl
    · rw [if_pos z] at e
      exact ih (i + 1) l _ (by omega) (by omega) (by omega) e
    · rw [if_neg (by omega)] at e
      exact hf _ e.symm
theorem x_data {post : Int32 → SX → Prop} {fc kc : Int32} {A FH FR FD KI : Nat → Int32} (M : mx_ok u 2 c) (Fx : xf_ok 44 c n F) (mp : mp_ok c n) (hn : n ≤ 140) (h2 : c (tl_m c n (m_pG c n)) = 1 → c (tl_m c n (m_pG c n) + 1) ≤ 2)
    (hs : (c (tl_m c n (m_pG c n)) = 1 → vd_1 c (c (tl_m c n (m_pG c n) + 1)) (tl_m c n (m_pG c n) + 2) = none) → ∀ a, post 1 (xl u WP a fc kc F Pa A FH FR FD KI))
    (hf : ∀ w, c (tl_m c n (m_pG c n)) = 1 → vd_1 c (c (tl_m c n (m_pG c n) + 1)) (tl_m c n (m_pG c n) + 2) = some w → post 0 (xl u WP (nI w) fc kc F Pa A FH FR FD KI)) :
    wpX_checkData post (xl u WP a fc kc F Pa A FH FR FD KI) := by
  have hm1 : c (tl_m c n (m_pG c n)) ≤ 1 := mp.2.2.2.2.2.2.2.2.2.1
  have hM : tl_m c n (m_pG c n) < n := mp.2.2.2.2.2.2.2.2.2.2
  unfold wpX_checkData
  refine xx_fact (m := 2) (w := 5) (z := nI (c (tl_m c n (m_pG c n)))) (by exact Fx.2.2.2.2.2.1) (by omega) (by omega) ?_
  refine pk_eq (c (tl_m c n (m_pG c n))) 0 (fun z => hs (fun y => absurd y (by omega)) _) (fun z => ?_)
  have z1 : c (tl_m c n (m_pG c n)) = 1 := by omega
  refine xx_fact (m := 2) (w := 7) (z := nI (tl_m c n (m_pG c n) + 1)) (by exact Fx.2.2.2.2.2.2.2.1) (by omega) (by omega) ?_
  refine xx_byte (m := 2) M (by omega) (by omega) (nm_r (nI_1 _) ⟨c (tl_m c n (m_pG c n) + 1) + 1, ?_⟩)
  have := h2 z1
  exact x_data_l M _ (tl_m c n (m_pG c n) + 2) this (fun y => hs (fun _ => y)) (fun w y => hf w z1 y) _ 0 _ _ (Nat.zero_add _) (by omega) (by omega) rfl
end
end
section
/-! 31: the first fault in order is the one at the least place -/
theorem rd_I_cod {c : Nat → Nat} {n p : Nat} {T : List (Nat × Nat × Nat)} (hT : T ≠ []) (h : (rd_I c n (true, p) T).1.1 = true) : (rd_I c n (true, p) T).1 = (true, nx c p) ∧ (rd_I c n (true, p) T).2.map (·.1) = cod c p (T.map (·.1)) := by
  rcases rd_tk_or c n 0 66 (true, p) with ⟨e, _, hpn, _, h66⟩ | e
  · have e1 : (rd_tk c n 0 66 (true, p)).1 = true := by rw [e]
    unfold cod
    unfold rd_I at h ⊢
    rw [if_pos e1] at h ⊢
    dsimp only at h ⊢
    by_cases ho : 2 ≤ c p ∧ c p ≤ 4
    · rw [if_pos ho] at h ⊢
      rw [if_pos ho]
      refine ⟨?_, rfl⟩
      show rd_tk c n 0 2 (true, p + 1) = _
      rw [(rd_tk_ok h).2.1, nx_2 (by omega)]
    · rw [if_neg ho] at h ⊢
      rw [if_neg ho]
      by_cases h5 : c p = 5
      · rw [if_pos h5] at h ⊢
        rw [if_pos h5, nx_1 (by omega)]
        by_cases h4 : tp_cd T = 4
        · rw [if_pos h4]
          refine ⟨rfl, ?_⟩
          cases T with
          | nil => exact absurd rfl hT
          | cons x T => rfl
        · rw [if_neg h4] at h; exact ff_t h
      · rw [if_neg h5] at h ⊢
        rw [if_neg h5]
        by_cases h6 : c p = 6
        · rw [if_pos h6, if_pos h6, nx_1 (by omega)]
          refine ⟨rfl, ?_⟩
          cases T with
          | nil => exact absurd rfl hT
          | cons x T => rfl
        · rw [if_neg h6] at h ⊢
          rw [if_neg h6]
          exact ⟨rd_R_nx h, rfl⟩
  · rw [rd_I, if_neg (by rw [e]; simp), e] at h; exact ff_t h
/-- a body's fault lies within the body -/
theorem vgo_in {c : Nat → Nat} {n f w : Nat} : ∀ k p T (S : vt_St) p', rd_B c n k (true, p) T = ((true, p'), []) → T ≠ [] → p ≤ n → T.map (·.1) = S.2.1.map (·.1) → S.2.1 ≠ [] → v_go c n f k p S = some w → p ≤ w ∧ w < p' := by
  intro k
  induction k with
  | zero => intro p T S p' _ _ _ _ _ h; exact nomatch h
  | succ k ih =>
    intro p T S p' h hT hp hc hF hv
    rw [v_go, if_neg hF] at hv
    rw [rd_B, if_pos ⟨rfl, hT⟩] at h
    have hok : (rd_I c n (true, p) T).1.1 = true := by
      cases e : (rd_I c n (true, p) T).1.1 with
      | true => rfl
      | false =>
        rw [rd_B_f _ _ _ e] at h
        have := congrArg (fun z => z.1.1) h
        dsimp only at this
        rw [e] at this
        exact ff_t this
    have hlt := rd_I_lt hp hok
    obtain ⟨e1, e2⟩ := rd_I_cod hT hok
    rw [e1] at h hlt
    dsimp only at hlt
    have hle : nx c p ≤ p' := by
      have := ((rd_G_B c n k (rd_I c n (true, p) T).2).1 (true, nx c p) hlt.2).1
      dsimp only at this
      rw [h] at this
      exact this
    cases hb : (v_st c n f p S).2.2 with
    | true =>
      rw [if_pos hb] at hv
      have := Option.some.inj hv
      omega
    | false =>
      rw [if_neg (by rw [hb]; simp)] at hv
      have hcod := v_codes hF hb
      by_cases hend : (v_st c n f p S).2.1 = []
      · have : v_go c n f k (nx c p) (v_st c n f p S) = none := by
          cases k with
          | zero => rfl
          | succ k => rw [v_go, if_pos hend]
        rw [this] at hv
        exact nomatch hv
      · have e3 : (rd_I c n (true, p) T).2.map (·.1) = (v_st c n f p S).2.1.map (·.1) := by rw [e2, hcod, hc]
        have := ih (nx c p) _ _ p' h (fun z => hend (by rw [z] at e3; exact List.map_eq_nil_iff.mp e3.symm)) hlt.2 e3 hend hv
        omega
def fs_ok (r : Option Nat) (S : Nat → Prop) (lo hi : Nat) : Prop := (r = none → ∀ x, ¬ S x) ∧ (∀ w, r = some w → S w ∧ ∀ x, S x → w ≤ x) ∧ (∀ x, S x → lo ≤ x ∧ x < hi) ∧ lo ≤ hi
def or_o (r1 r2 : Option Nat) : Option Nat := if r1 = none then r2 else r1
theorem fs_or {r1 r2 : Option Nat} {S1 S2 : Nat → Prop} {lo m hi : Nat} (h1 : fs_ok r1 S1 lo m) (h2 : fs_ok r2 S2 m hi) : fs_ok (or_o r1 r2) (fun x => S1 x ∨ S2 x) lo hi := by
  obtain ⟨a1, a2, a3, a4⟩ := h1
  obtain ⟨b1, b2, b3, b4⟩ := h2
  unfold or_o
  refine ⟨fun z x hx => ?_, fun w z => ?_, fun x hx => ?_, by omega⟩
  · by_cases e : r1 = none
    · rw [if_pos e] at z
      exact hx.elim (a1 e x) (b1 z x)
    · rw [if_neg e] at z; exact e z
  · by_cases e : r1 = none
    · rw [if_pos e] at z
      obtain ⟨c1, c2⟩ := b2 w z
      exact ⟨Or.inr c1, fun x hx => hx.elim (fun y => absurd y (a1 e x)) (c2 x)⟩
    · rw [if_neg e] at z
      obtain ⟨c1, c2⟩ := a2 w z
      exact ⟨Or.inl c1, fun x hx => hx.elim (c2 x) (fun y => by have := b3 x y; have := a3 w c1; omega)⟩
  · rcases hx with y | y
    · have := a3 x y; omega
    · have := b3 x y; omega
theorem fs_0 {lo hi : Nat} (h : lo ≤ hi) : fs_ok none (fun _ => False) lo hi := ⟨fun _ _ z => z, (fun _ z => nomatch z), fun _ z => z.elim, h⟩
theorem fs_1 {g : Prop} [Decidable g] {p hi : Nat} (h : p < hi) : fs_ok (if g then none else some p) (fun x => x = p ∧ ¬ g) p hi := by
  by_cases z : g
  · rw [if_pos z]; exact ⟨fun _ x y => y.2 z, (fun _ y => nomatch y), fun x y => absurd z y.2, by omega⟩
  · rw [if_neg z]
    exact ⟨(fun y => nomatch y), fun w y => by have := Option.some.inj y; subst this; exact ⟨⟨rfl, z⟩, fun x hx => by omega⟩, fun x y => by omega, by omega⟩
theorem fs_ext {r : Option Nat} {S S' : Nat → Prop} {lo hi : Nat} (h : fs_ok r S lo hi) (e : ∀ x, S x ↔ S' x) : fs_ok r S' lo hi := by
  obtain ⟨a1, a2, a3, a4⟩ := h
  exact ⟨fun z x hx => a1 z x ((e x).mpr hx), fun w z => ⟨(e w).mp (a2 w z).1, fun x hx => (a2 w z).2 x ((e x).mpr hx)⟩, fun x hx => a3 x ((e x).mpr hx), a4⟩
theorem fs_wid {r : Option Nat} {S : Nat → Prop} {lo hi lo' hi' : Nat} (h : fs_ok r S lo hi) (hl : lo' ≤ lo) (hh : hi ≤ hi') : fs_ok r S lo' hi' :=
  ⟨h.1, h.2.1, fun x hx => by have := h.2.2.1 x hx; omega, by have := h.2.2.2; omega⟩
section
variable {c : Nat → Nat} {n : Nat}
theorem fs_imp (h140 : n ≤ 140) (h : (rd_V c n).1 = true) : ∀ r i, i + r = m_I c n → fs_ok (vi_1 c n r i) (fun x => ∃ g, i ≤ g ∧ g < m_I c n ∧ x = m_im c n g ∧ c 0 ≤ c x) (m_im c n i) (m_pF c n + 1) := by
  obtain ⟨mp, e0, e1, e2, e3, e4⟩ := mp_of h
  have hstep : ∀ i, i < m_I c n → m_im c n (i + 1) = m_im c n i + 2 := by
    intro i hi
    have a := rd_it_ok (rd_G_J c n) _ _ e3 (i + 1) (by omega)
    rw [rd_it_s] at a
    obtain ⟨b1, b2, b3, b4⟩ := rd_n_ok _ _ (show (rd_n c n 0 255 2 (rd_it (rd_J c n) i (true, m_pI c n + 1))).1 = true from a)
    show (rd_it (rd_J c n) (i + 1) (true, m_pI c n + 1)).2 = _
    rw [rd_it_s]
    exact congrArg Prod.snd b2
  intro r
  induction r with
  | zero =>
    intro i hi
    have : i = m_I c n := by omega
    subst this
    exact fs_ext (fs_0 (by show m_pF c n ≤ _; omega)) (fun x => ⟨fun z => z.elim, fun ⟨g, a, b, _⟩ => absurd a (by omega)⟩)
  | succ r ih =>
    intro i hi
    have efa : m_fa c n i = m_im c n i := if_pos (by omega)
    have hs := hstep i (by omega)
    have i2 := ih (i + 1) (by omega)
    have key := fs_or (fs_1 (g := c (m_im c n i) < c 0) (p := m_im c n i) (hi := m_im c n (i + 1)) (by omega)) i2
    have er : vi_1 c n (r + 1) i = or_o (if c (m_im c n i) < c 0 then none else some (m_im c n i)) (vi_1 c n r (i + 1)) := by
      rw [vi_1, efa, or_o]
      by_cases z : c (m_im c n i) < c 0
      · rw [if_pos z, if_pos z, if_pos rfl]
      · rw [if_neg z, if_neg z, if_neg (by simp)]
    rw [er]
    refine fs_ext key (fun x => ⟨?_, ?_⟩)
    · rintro (⟨rfl, y⟩ | ⟨g, a, b, d, e⟩)
      · exact ⟨i, by omega, by omega, rfl, by omega⟩
      · exact ⟨g, by omega, b, d, e⟩
    · rintro ⟨g, a, b, d, e⟩
      by_cases z : g = i
      · subst z; exact Or.inl ⟨d, by rw [← d]; omega⟩
      · exact Or.inr ⟨g, by omega, b, d, e⟩
theorem fs_fun (h140 : n ≤ 140) (h : (rd_V c n).1 = true) : ∀ r f, f + r = m_I c n + m_F c n → m_I c n ≤ f → fs_ok (vf_1 c n r f) (fun x => ∃ g, f ≤ g ∧ g < m_I c n + m_F c n ∧ ((x = m_fa c n g ∧ c 0 ≤ c x) ∨ (c (m_fa c n g) < c 0 ∧ v_go c n g 141 (m_bo c n g) (v_0 c n g) = some x))) (m_fn c n (f - m_I c n)) (m_pG c n + 1) := by
  obtain ⟨mp, e0, e1, e2, e3, e4⟩ := mp_of h
  intro r
  induction r with
  | zero =>
    intro f hf hf1
    have : f - m_I c n = m_F c n := by omega
    rw [this]
    exact fs_ext (fs_0 (by show m_pG c n ≤ _; omega)) (fun x => ⟨fun z => z.elim, fun ⟨g, a, b, _⟩ => absurd a (by omega)⟩)
  | succ r ih =>
    intro f hf hf1
    have efa : m_fa c n f = m_fn c n (f - m_I c n) := if_neg (by omega)
    have i2 := ih (f + 1) (by omega) (by omega)
    rw [show f + 1 - m_I c n = f - m_I c n + 1 by omega] at i2
    have a := rd_it_ok (rd_G_F c n) _ _ e1 (f - m_I c n + 1) (by omega)
    rw [rd_it_s] at a
    have b := ((rd_G_it (rd_G_F c n) (f - m_I c n)).1 (true, m_pF c n + 1) e2).2
    obtain ⟨a1, a2, a3, a4⟩ := rd_F_body h140 b a
    have enext : m_fn c n (f - m_I c n + 1) = (rd_F c n (rd_it (rd_F c n) (f - m_I c n) (true, m_pF c n + 1))).2 := by
      show (rd_it (rd_F c n) (f - m_I c n + 1) (true, m_pF c n + 1)).2 = _
      rw [rd_it_s]
    have ebo : m_bo c n f = (rd_it (rd_F c n) (f - m_I c n) (true, m_pF c n + 1)).2 + 2 + c ((rd_it (rd_F c n) (f - m_I c n) (true, m_pF c n + 1)).2 + 1) := by rw [m_bo, efa]; rfl
    have hb : fs_ok (vf_b c n f) (fun x => (x = m_fa c n f ∧ c 0 ≤ c x) ∨ (c (m_fa c n f) < c 0 ∧ v_go c n f 141 (m_bo c n f) (v_0 c n f) = some x)) (m_fn c n (f - m_I c n)) (m_fn c n (f - m_I c n + 1)) := by
      have hfa2 : m_fa c n f = (rd_it (rd_F c n) (f - m_I c n) (true, m_pF c n + 1)).2 := by rw [efa]; rfl
      have hvin : ∀ x, v_go c n f 141 (m_bo c n f) (v_0 c n f) = some x → m_fn c n (f - m_I c n) ≤ x ∧ x < m_fn c n (f - m_I c n + 1) := by
        intro x hx
        rw [ebo] at hx
        have := vgo_in 141 _ [(0, 0, 0)] _ _ a2 (by simp) a1 (by simp [v_0]) (by simp [v_0]) hx
        rw [enext, ← efa, hfa2]
        omega
      unfold vf_b
      by_cases z : c (m_fa c n f) < c 0
      · rw [if_pos z]
        refine ⟨fun y x hx => ?_, fun w y => ⟨Or.inr ⟨z, y⟩, fun x hx => ?_⟩, fun x hx => ?_, ?_⟩
        · rcases hx with ⟨q1, q2⟩ | ⟨_, q⟩
          · rw [q1] at q2; omega
          · rw [y] at q; exact nomatch q
        · rcases hx with ⟨q1, q2⟩ | ⟨_, q⟩
          · rw [q1] at q2; omega
          · rw [y] at q; have := Option.some.inj q; omega
        · rcases hx with ⟨q1, q2⟩ | ⟨_, q⟩
          · rw [q1] at q2; omega
          · exact hvin x q
        · rw [enext, ← efa, hfa2]; omega
      · rw [if_neg z]
        refine ⟨(fun y => nomatch y), fun w y => ?_, fun x hx => ?_, ?_⟩
        · have := Option.some.inj y
          subst this
          refine ⟨Or.inl ⟨rfl, by omega⟩, fun x hx => ?_⟩
          rcases hx with ⟨q1, q2⟩ | ⟨q, _⟩
          · omega
          · exact absurd q z
        · rcases hx with ⟨q1, q2⟩ | ⟨q, _⟩
          · rw [enext]; omega
          · exact absurd q z
        · rw [enext, ← efa, hfa2]; omega
    have key := fs_or hb i2
    have er : vf_1 c n (r + 1) f = or_o (vf_b c n f) (vf_1 c n r (f + 1)) := by rw [vf_1, or_o]
    rw [er]
    refine fs_ext key (fun x => ⟨?_, ?_⟩)
    · rintro (y | ⟨g, q1, q2, q3⟩)
      · exact ⟨f, by omega, by omega, y⟩
      · exact ⟨g, by omega, q2, q3⟩
    · rintro ⟨g, q1, q2, q3⟩
      by_cases z : g = f
      · subst z; exact Or.inl q3
      · exact Or.inr ⟨g, by omega, q2, q3⟩
theorem fs_ent (fn : Nat) : ∀ r p, fs_ok (ve_1 c fn r p) (en_S c fn r p) p (p + r + 1) := by
  intro r
  induction r with
  | zero => intro p; exact fs_ext (fs_0 (by omega)) (fun x => ⟨fun z => z.elim, fun ⟨i, a, _⟩ => absurd a (by omega)⟩)
  | succ r ih =>
    intro p
    have key := fs_or (fs_1 (g := c p < fn ∨ c p = 255) (p := p) (hi := p + 1) (by omega)) (ih (p + 1))
    have er : ve_1 c fn (r + 1) p = or_o (if c p < fn ∨ c p = 255 then none else some p) (ve_1 c fn r (p + 1)) := by
      rw [ve_1, or_o]
      by_cases z : c p < fn ∨ c p = 255
      · rw [if_pos z, if_pos z, if_pos rfl]
      · rw [if_neg z, if_neg z, if_neg (by simp)]
    rw [er]
    refine fs_wid (fs_ext key (fun x => ⟨?_, ?_⟩)) (Nat.le_refl _) (by omega)
    · rintro (⟨rfl, y⟩ | ⟨i, a, b, d⟩)
      · exact ⟨0, by omega, rfl, by omega⟩
      · exact ⟨i + 1, by omega, by omega, d⟩
    · rintro ⟨i, a, b, d⟩
      cases i with
      | zero => have b' : x = p := b; subst b'; exact Or.inl ⟨rfl, by omega⟩
      | succ i => exact Or.inr ⟨i, by omega, by omega, d⟩
theorem fs_dat : ∀ r p, (rd_it (rd_D c n) r (true, p)).1 = true → fs_ok (vd_1 c r p) (md_S c n r (true, p)) p (max n (p + 1)) := by
  intro r
  induction r with
  | zero => intro p _; exact fs_ext (fs_0 (by omega)) (fun x => ⟨fun z => z.elim, fun ⟨i, a, _⟩ => absurd a (by omega)⟩)
  | succ r ih =>
    intro p h
    rw [rd_it] at h
    have h1 := rd_G_tr (rd_G_it (rd_G_D c n) r) h
    obtain ⟨a1, a2, a3, a4⟩ := rd_n_ok _ _ (show (rd_n c n 0 255 (rd_tv c n 0 8 (rd_tk c n 0 255 (true, p))) (rd_tk c n 0 8 (rd_tk c n 0 255 (true, p)))).1 = true from h1)
    obtain ⟨b1, b2, b3, b4, b5, b6⟩ := rd_tk_ok a1
    obtain ⟨d1, d2, d3, d4, d5, d6⟩ := rd_tk_ok b1
    rw [d2] at b2 b3 b5 b6
    dsimp only at b2 b3 b5 b6 d6
    have eD : rd_D c n (true, p) = (true, p + 2 + c (p + 1)) := by
      show rd_n c n 0 255 (rd_tv c n 0 8 (rd_tk c n 0 255 (true, p))) (rd_tk c n 0 8 (rd_tk c n 0 255 (true, p))) = _
      rw [a2, d2, b2, b3]
    have hle : p + 2 + c (p + 1) ≤ n := by
      have := a4 (by rw [d2, b2]; dsimp only; omega)
      rw [d2, b2, b3] at this
      exact this
    rw [eD] at h
    have key := fs_or (fs_1 (g := c p + c (p + 1) ≤ 48) (p := p) (hi := p + 2 + c (p + 1)) (by omega)) (ih _ h)
    have er : vd_1 c (r + 1) p = or_o (if c p + c (p + 1) ≤ 48 then none else some p) (vd_1 c r (p + 2 + c (p + 1))) := by
      rw [vd_1, or_o]
      by_cases z : c p + c (p + 1) ≤ 48
      · rw [if_pos z, if_pos z, if_pos rfl]
      · rw [if_neg z, if_neg z, if_neg (by simp)]
    rw [er]
    by_cases hn1 : p + 2 + c (p + 1) < n
    · refine fs_wid (fs_ext key (fun x => ⟨?_, ?_⟩)) (Nat.le_refl _) (by omega)
      · rintro (⟨rfl, y⟩ | ⟨i, a, b, d⟩)
        · exact ⟨0, by omega, rfl, by omega⟩
        · refine ⟨i + 1, by omega, ?_, d⟩
          rw [rd_it, eD]; exact b
      · rintro ⟨i, a, b, d⟩
        cases i with
        | zero => have b' : x = p := b; subst b'; exact Or.inl ⟨rfl, by omega⟩
        | succ i => rw [rd_it, eD] at b; exact Or.inr ⟨i, by omega, b, d⟩
    · -- the bytes are used up: no piece of data may follow
      have hr : r = 0 := by
        rcases Nat.eq_zero_or_pos r with z | z
        · exact z
        · obtain ⟨r, rfl⟩ : ∃ j, r = j + 1 := ⟨r - 1, by omega⟩
          rw [rd_it] at h
          have h2 := rd_G_tr (rd_G_it (rd_G_D c n) r) h
          obtain ⟨q1, _⟩ := rd_n_ok _ _ (show (rd_n c n 0 255 (rd_tv c n 0 8 (rd_tk c n 0 255 (true, p + 2 + c (p + 1)))) (rd_tk c n 0 8 (rd_tk c n 0 255 (true, p + 2 + c (p + 1))))).1 = true from h2)
          obtain ⟨q2, _⟩ := rd_tk_ok q1
          obtain ⟨_, _, _, _, _, q3⟩ := rd_tk_ok q2
          dsimp only at q3
          omega
      subst hr
      have k2 := fs_or (fs_1 (g := c p + c (p + 1) ≤ 48) (p := p) (hi := max n (p + 1)) (by omega)) (fs_0 (lo := max n (p + 1)) (hi := max n (p + 1)) (Nat.le_refl _))
      refine fs_ext k2 (fun x => ⟨?_, ?_⟩)
      · rintro (⟨rfl, y⟩ | y)
        · exact ⟨0, by omega, rfl, by omega⟩
        · exact y.elim
      · rintro ⟨i, a, b, d⟩
        have : i = 0 := by omega
        subst this
        have b' : x = p := b
        subst b'
        exact Or.inl ⟨rfl, by omega⟩
end
end
section
/-! 32: linking; the copy into a slot -/
theorem sg_same {c c' : Nat → Nat} {t t' : Nat} (h : ty_ok c t) (h' : ty_ok c' t') : (∀ i, i < 2 + c t + c (t + 1 + c t) → c (t + i) = c' (t' + i)) ↔ sg c t = sg c' t' := by
  constructor
  · intro e
    have e0 := e 0 (by omega)
    rw [Nat.add_zero, Nat.add_zero] at e0
    have er := e (1 + c t) (by omega)
    rw [show t + (1 + c t) = t + 1 + c t by omega, show t' + (1 + c t) = t' + 1 + c t by omega] at er
    unfold sg
    rw [← e0, ← er]
    have hk : ∀ k, k < c t → c (t + 1 + k) = c' (t' + 1 + k) := by
      intro k hk
      have := e (1 + k) (by omega)
      rw [show t + (1 + k) = t + 1 + k by omega, show t' + (1 + k) = t' + 1 + k by omega] at this
      exact this
    have hl : ∀ r i p p' x, (∀ k, k < r → c (p + k) = c' (p' + k)) → sg_l c r i p x = sg_l c' r i p' x := by
      intro r
      induction r with
      | zero => intro i p p' x _; rfl
      | succ r ih =>
        intro i p p' x hh
        rw [sg_l, sg_l]
        have h0 := hh 0 (by omega)
        rw [Nat.add_zero, Nat.add_zero] at h0
        rw [h0]
        exact ih _ _ _ _ (fun k hk2 => by have := hh (k + 1) (by omega); rw [show p + (k + 1) = p + 1 + k by omega, show p' + (k + 1) = p' + 1 + k by omega] at this; exact this)
    rw [hl (c t) 0 (t + 1) (t' + 1) (c t) hk]
    congr 1
    by_cases z : c (t + 1 + c t) = 0
    · rw [if_pos z, if_pos z]
    · rw [if_neg z, if_neg z]
      have := e (2 + c t) (by omega)
      rw [show t + (2 + c t) = t + 1 + c t + 1 by omega, show t' + (2 + c t) = t' + 1 + c t + 1 by omega] at this
      rw [this]
  · intro e i hi
    obtain ⟨n1, n2, n3⟩ := sg_np h
    obtain ⟨m1, m2, m3⟩ := sg_np h'
    rw [e] at n1 n2 n3
    have e0 : c t = c' t' := n1.symm.trans m1
    have er : ty_r c t = ty_r c' t' := n2.symm.trans m2
    have hres : c (t + 1 + c t) = c' (t' + 1 + c t) ∧ (c (t + 1 + c t) = 1 → c (t + 1 + c t + 1) = c' (t' + 1 + c t + 1)) := by
      unfold ty_r at er
      rw [← e0] at er
      have a1 := h.2.2.1
      have a2 := h.2.2.2
      have b1 := h'.2.2.1
      have b2 := h'.2.2.2
      rw [← e0] at b1 b2
      by_cases z : c (t + 1 + c t) = 0
      · rw [if_pos z] at er
        by_cases z2 : c' (t' + 1 + c t) = 0
        · exact ⟨by omega, fun q => absurd q (by omega)⟩
        · rw [if_neg z2] at er
          have := b2 (by omega)
          omega
      · rw [if_neg z] at er
        by_cases z2 : c' (t' + 1 + c t) = 0
        · rw [if_pos z2] at er
          have := a2 (by omega)
          omega
        · rw [if_neg z2] at er
          exact ⟨by omega, fun _ => er⟩
    have h1 := h.2.2.1
    have hcase : i = 0 ∨ (1 ≤ i ∧ i ≤ c t) ∨ i = 1 + c t ∨ (i = 2 + c t ∧ c (t + 1 + c t) = 1) := by omega
    rcases hcase with z | z | z | z
    · subst z; exact e0
    · obtain ⟨k, rfl⟩ : ∃ k, i = 1 + k := ⟨i - 1, by omega⟩
      rw [show t + (1 + k) = t + 1 + k by omega, show t' + (1 + k) = t' + 1 + k by omega, ← n3 k (by omega), ← m3 k (by omega)]
    · rw [z, show t + (1 + c t) = t + 1 + c t by omega, show t' + (1 + c t) = t' + 1 + c t by omega]; exact hres.1
    · rw [z.1, show t + (2 + c t) = t + 1 + c t + 1 by omega, show t' + (2 + c t) = t' + 1 + c t + 1 by omega]; exact hres.2 z.2
section
variable {w : SX} {c c' : Nat → Nat} {n n' m m' : Nat} {post : Int32 → Prop}
theorem xm_same_l (hm : m < 3) (hm' : m' < 3) (M : mx_ok w m c) (M' : mx_ok w m' c') (t t' N : Nat) (ht : t < 200) (ht' : t' < 200) (hN : N < 20) (b : Bool) (hb : (b = true ↔ ∀ i, i < N → c (t + i) = c' (t' + i))) (h : post (bb_i b)) : ∀ r i l, i + r = N → r < l → (∀ j, j < i → c (t + j) = c' (t' + j)) →
    wX_sameType_54 post (nI m) (nI m') (nI t) (nI t') (nI N) (gx_byteCount w) (gx_wrongPlace w) (gx_at w) (gx_frameCount w) (gx_kindCount w) (gx_valueCount w) (gx_activeCount w) (gx_goesOn w) (gx_outcome w) (gx_resultValue w) (gx_trapPlace w) (gx_fuelUsed w) (gx_firstWaiting w) (gx_waitingCount w) (gx_printCount w) (gx_code w) (gx_facts w) (gx_partner w) (gx_loaded w) (gx_globals w) (gx_memories w) (gx_frameAt w) (gx_frameHeight w) (gx_frameResult w) (gx_frameDead w) (gx_kinds w) (gx_values w) (gx_variables w) (gx_activeSlot w) (gx_activeGives w) (gx_activeFrame w) (gx_activeResume w) (gx_waiting w) (gx_prints w) l (nI i) := by
  intro r
  induction r with
  | zero =>
    intro i l hi hl hj
    obtain ⟨l, rfl⟩ : ∃ j, l = j + 1 := ⟨l - 1, by omega⟩
    refine pk_le N i (fun _ => ?_) (fun z => absurd z (by omega))
    have : b = true := hb.mpr (fun j hj2 => hj j (by omega))
    rw [bb_1 this] at h; exact h
  | succ r ih =>
    intro i l hi hl hj
    obtain ⟨l, rfl⟩ : ∃ j, l = j + 1 := ⟨l - 1, by omega⟩
    refine pk_le N i (fun z => absurd z (by omega)) (fun _ => ?_)
    refine eq_p (P := fun z => wpX_byteAt _ _ _ z) (nI_add t i) ?_
    refine xx_byte M hm (by omega) ?_
    refine eq_p (P := fun z => wpX_byteAt _ _ _ z) (nI_add t' i) ?_
    refine xx_byte M' hm' (by omega) ?_
    refine pk_eq (c (t + i)) (c' (t' + i)) (fun z => nm_r (nI_1 i) ?_) (fun z => ?_) rfl rfl (by have := M.2.1 (t + i); omega) (by have := M'.2.1 (t' + i); omega)
    · refine ih (i + 1) l (by omega) (by omega) (fun j hj2 => ?_)
      rcases Nat.lt_or_ge j i with q | q
      · exact hj j q
      · rw [show j = i by omega]; exact z
    · have : b = false := by
        cases b with
        | false => rfl
        | true => exact absurd (hb.mp rfl i (by omega)) z
      rw [bb_0 this] at h; exact h
theorem xm_same (hm : m < 3) (hm' : m' < 3) (M : mx_ok w m c) (M' : mx_ok w m' c') (Fx : xf_ok (m * 22) c n (gx_facts w)) (Fx' : xf_ok (m' * 22) c' n' (gx_facts w)) (mp : mp_ok c n) (mp' : mp_ok c' n') (hn : n ≤ 140) (hn' : n' ≤ 140) (a a' : Nat) (ha : a < c 0) (ha' : a' < c' 0)
    (h : post (bb_i (decide (sg c (m_ty c n a) = sg c' (m_ty c' n' a'))))) : wpX_sameType post w (nI m) (nI a) (nI m') (nI a') := by
  obtain ⟨t1, t2⟩ := mp.2.1 a ha
  obtain ⟨s1, s2⟩ := mp'.2.1 a' ha'
  have h0 := mp.1
  have h0' := mp'.1
  have t0 := t1.1
  have tr := t1.2.2.1
  unfold wpX_sameType
  refine eq_p (P := fun z => wpX_fact _ _ _ z) (show (8 : Int32) + nI a = nI (8 + a) from nI_add 8 a) ?_
  refine xx_fact (m := m) (w := 8 + a) (z := nI (m_ty c n a)) (by rw [show m * 22 + (8 + a) = m * 22 + 8 + a by omega]; exact Fx.2.2.2.2.2.2.2.2.1 a ha) hm (by omega) ?_
  refine eq_p (P := fun z => wpX_fact _ _ _ z) (show (8 : Int32) + nI a' = nI (8 + a') from nI_add 8 a') ?_
  refine xx_fact (m := m') (w := 8 + a') (z := nI (m_ty c' n' a')) (by rw [show m' * 22 + (8 + a') = m' * 22 + 8 + a' by omega]; exact Fx'.2.2.2.2.2.2.2.2.1 a' ha') hm' (by omega) ?_
  refine xx_byte M hm (by omega) ?_
  refine eq_p (P := fun z => wpX_byteAt _ _ _ z) (show (nI (m_ty c n a) + 1) + nI (c (m_ty c n a)) = nI (m_ty c n a + 1 + c (m_ty c n a)) from by rw [nI_1, nI_add]) ?_
  refine xx_byte M hm (by omega) (nm_r (show (2 + nI (c (m_ty c n a))) + nI (c (m_ty c n a + 1 + c (m_ty c n a))) = nI (2 + c (m_ty c n a) + c (m_ty c n a + 1 + c (m_ty c n a))) from by rw [show (2 : Int32) = nI 2 from rfl, nI_add, nI_add]) ⟨2 + c (m_ty c n a) + c (m_ty c n a + 1 + c (m_ty c n a)) + 1, ?_⟩)
  refine xm_same_l hm hm' M M' _ _ _ (by omega) (by omega) (by omega) (decide (sg c (m_ty c n a) = sg c' (m_ty c' n' a'))) ?_ h _ 0 _ (Nat.zero_add _) (by omega) (fun j hj => absurd hj (by omega))
  rw [decide_eq_true_iff]
  exact (sg_same t1 s1).symm
end
/-- an import fits -/
def lk_ok (slot : Nat) (l0 : Bool) (c : Nat → Nat) (n : Nat) (c0 : Nat → Nat) (n0 : Nat) (k : Nat) : Prop :=
  if c (m_im c n k + 1) = 16 then sg c (m_ty c n (c (m_im c n k))) = 5
  else if c (m_im c n k + 1) = 17 then sg c (m_ty c n (c (m_im c n k))) = 256
  else slot = 1 ∧ c (m_im c n k + 1) < 7 ∧ l0 = true ∧ c (m_im c n k + 1) < m_I c0 n0 + m_F c0 n0 ∧ sg c0 (m_ty c0 n0 (c0 (m_fa c0 n0 (c (m_im c n k + 1))))) = sg c (m_ty c n (c (m_im c n k)))
theorem sg_5 {c : Nat → Nat} {t : Nat} (h : ty_ok c t) : sg c t = 5 ↔ c t = 1 ∧ c (t + 1) = 1 ∧ c (t + 2) = 0 := by
  obtain ⟨n1, n2, n3⟩ := sg_np h
  have hr := h.2.2.2
  have h3 := h.2.2.1
  constructor
  · intro e
    have e0 : c t = 1 := by omega
    have k0 := n3 0 (by omega)
    rw [e] at k0 n2
    have k1 : c (t + 1) = 1 := by simpa using k0.symm
    refine ⟨e0, k1, ?_⟩
    unfold ty_r at n2
    rw [e0] at n2 hr h3
    rw [show t + 1 + 1 = t + 2 by omega] at n2 hr h3
    by_cases z : c (t + 2) = 0
    · exact z
    · rw [if_neg z] at n2
      have := hr (by omega)
      omega
  · rintro ⟨e0, e1, e2⟩
    unfold sg
    rw [e0]
    simp only [sg_l]
    rw [e1, show t + 1 + 1 = t + 2 by omega, if_pos e2]
theorem sg_256 {c : Nat → Nat} {t : Nat} (h : ty_ok c t) : sg c t = 256 ↔ c t = 0 ∧ c (t + 1) = 1 ∧ c (t + 2) = 1 := by
  obtain ⟨n1, n2, n3⟩ := sg_np h
  have hr := h.2.2.2
  have h3 := h.2.2.1
  constructor
  · intro e
    have e0 : c t = 0 := by omega
    rw [e] at n2
    unfold ty_r at n2
    rw [e0, Nat.add_zero] at n2 h3
    by_cases z : c (t + 1) = 0
    · rw [if_pos z] at n2; omega
    · rw [if_neg z] at n2
      exact ⟨e0, by omega, by rw [show t + 2 = t + 1 + 1 by omega]; omega⟩
  · rintro ⟨e0, e1, e2⟩
    unfold sg
    rw [e0]
    simp only [sg_l, Nat.add_zero]
    rw [if_neg (by omega), show t + 1 + 1 = t + 2 by omega, e2]
section
variable {w : SX} {c c0 : Nat → Nat} {n n0 : Nat} {post : Int32 → Prop}
theorem xm_fits (M : mx_ok w 2 c) (Fx : xf_ok 44 c n (gx_facts w)) (mp : mp_ok c n) (hn : n ≤ 140) (s : Nat) (hs : s < 2) (l0 : Bool) (hl : gx_loaded w 0 = bb_i l0) (H0 : l0 = true → mx_ok w 0 c0 ∧ xf_ok 0 c0 n0 (gx_facts w) ∧ mp_ok c0 n0 ∧ n0 ≤ 140 ∧ ∀ f, f < m_I c0 n0 + m_F c0 n0 → c0 (m_fa c0 n0 f) < c0 0) (k : Nat) (hk : k < m_I c n) (ht : c (m_im c n k) < c 0)
    (h1 : lk_ok s l0 c n c0 n0 k → post 1) (h2 : ¬ lk_ok s l0 c n c0 n0 k → post 0) : wpX_fits post w (nI s) (nI (c (m_im c n k))) (nI (c (m_im c n k + 1))) := by
  obtain ⟨t1, t2⟩ := mp.2.1 _ ht
  have h0 := mp.1
  have t0 := t1.1
  have h256 := M.2.1
  unfold lk_ok at h1 h2
  unfold wpX_fits
  refine eq_p (P := fun z => wpX_fact _ _ _ z) (show (8 : Int32) + nI (c (m_im c n k)) = nI (8 + c (m_im c n k)) from nI_add 8 _) ?_
  refine xx_fact (m := 2) (w := 8 + c (m_im c n k)) (z := nI (m_ty c n (c (m_im c n k)))) (by rw [show 2 * 22 + (8 + c (m_im c n k)) = 44 + 8 + c (m_im c n k) by omega]; exact Fx.2.2.2.2.2.2.2.2.1 _ ht) (by omega) (by omega) ?_
  refine xx_byte (m := 2) M (by omega) (by omega) ?_
  refine eq_p (P := fun z => wpX_byteAt _ _ _ z) (nI_1 (m_ty c n (c (m_im c n k)))) ?_
  refine xx_byte (m := 2) M (by omega) (by omega) ?_
  refine eq_p (P := fun z => wpX_byteAt _ _ _ z) (show nI (m_ty c n (c (m_im c n k))) + 2 = nI (m_ty c n (c (m_im c n k)) + 2) from nI_add _ 2) ?_
  refine xx_byte (m := 2) M (by omega) (by omega) ?_
  generalize et : m_ty c n (c (m_im c n k)) = t at *
  have b0 := h256 t
  have b1 := h256 (t + 1)
  have b2 := h256 (t + 2)
  have bw := h256 (m_im c n k + 1)
  generalize ew : c (m_im c n k + 1) = wh at *
  refine pk_eq wh 16 (fun z => ?_) (fun z => ?_)
  · rw [if_pos z, sg_5 t1] at h1 h2
    refine pk_eq (c t) 1 (fun y => pk_eq (c (t + 1)) 1 (fun y1 => pk_eq (c (t + 2)) 0 (fun y2 => h1 ⟨y, y1, y2⟩) (fun y2 => h2 (fun q => y2 q.2.2))) (fun y1 => h2 (fun q => y1 q.2.1))) (fun y => h2 (fun q => y q.1))
  · rw [if_neg z] at h1 h2
    refine pk_eq wh 17 (fun z2 => ?_) (fun z2 => ?_)
    · rw [if_pos z2, sg_256 t1] at h1 h2
      refine pk_eq (c t) 0 (fun y => pk_eq (c (t + 1)) 1 (fun y1 => pk_eq (c (t + 2)) 1 (fun y2 => h1 ⟨y, y1, y2⟩) (fun y2 => h2 (fun q => y2 q.2.2))) (fun y1 => h2 (fun q => y1 q.2.1))) (fun y => h2 (fun q => y q.1))
    · rw [if_neg z2] at h1 h2
      refine pk_eq s 1 (fun y => pk_lt 6 wh (fun y1 => h2 (fun q => by omega)) (fun y1 => ?_)) (fun y => h2 (fun q => y q.1))
      cases l0 with
      | false => exact br_t hl (h2 (fun q => ff_t q.2.2.1))
      | true =>
        obtain ⟨M0, Fx0, mp0, hn0, hv0⟩ := H0 rfl
        refine br_f (fun q => absurd (hl.symm.trans q) (by decide)) ?_
        have hI0 := mp0.2.2.1
        have hF0 := mp0.2.2.2.1
        refine xx_fact (m := 0) (w := 2) (z := nI (m_I c0 n0 + m_F c0 n0)) (by exact Fx0.2.2.1) (by omega) (by omega) ?_
        refine pk_lt wh (m_I c0 n0 + m_F c0 n0) (fun y2 => ?_) (fun y2 => h2 (fun q => by omega))
        refine xm_typeOf (w := w) (m := 0) (by omega) M0 Fx0 mp0 hn0 wh y2 ?_
        refine xm_same (w := w) (m := 2) (m' := 0) (by omega) (by omega) M M0 Fx Fx0 mp mp0 hn hn0 _ _ ht (hv0 wh y2) ⟨bb_nar _, ?_⟩
        rw [et]
        by_cases q : sg c t = sg c0 (m_ty c0 n0 (c0 (m_fa c0 n0 wh)))
        · rw [bb_1 (decide_eq_true q)]; exact h1 ⟨y, by omega, rfl, y2, q.symm⟩
        · rw [bb_0 (decide_eq_false q)]; exact h2 (fun r => q r.2.2.2.2.symm)
end
-- the first import that doesn't fit
section
variable {u : SX} {c c0 : Nat → Nat} {n n0 : Nat} {WP a fc kc : Int32} {F Pa A FH FR FD KI : Nat → Int32}
theorem x_links_l {post : Int32 → SX → Prop} (M : mx_ok u 2 c) (Fx : xf_ok 44 c n F) (mp : mp_ok c n) (hn : n ≤ 140) (s : Nat) (hs : s < 2) (l0 : Bool) (hl : gx_loaded u 0 = bb_i l0) (H0 : l0 = true → mx_ok u 0 c0 ∧ xf_ok 0 c0 n0 F ∧ mp_ok c0 n0 ∧ n0 ≤ 140 ∧ ∀ f, f < m_I c0 n0 + m_F c0 n0 → c0 (m_fa c0 n0 f) < c0 0) (hv : ∀ k, k < m_I c n → c (m_im c n k) < c 0)
    (h1 : (∀ k, k < m_I c n → lk_ok s l0 c n c0 n0 k) → ∀ a, post 1 (xl u WP a fc kc F Pa A FH FR FD KI)) (h2 : ∀ k, k < m_I c n → ¬ lk_ok s l0 c n c0 n0 k → (∀ j, j < k → lk_ok s l0 c n c0 n0 j) → post 0 (xl u WP (nI (m_im c n k + 1)) fc kc F Pa A FH FR FD KI)) :
    ∀ r i l (a : Int32), i + r = m_I c n → r < l → (∀ j, j < i → lk_ok s l0 c n c0 n0 j) →
    wX_checkLinks_9 post (nI s) (nI (m_I c n)) (gx_byteCount u) WP fc kc (gx_valueCount u) (gx_activeCount u) (gx_goesOn u) (gx_outcome u) (gx_resultValue u) (gx_trapPlace u) (gx_fuelUsed u) (gx_firstWaiting u) (gx_waitingCount u) (gx_printCount u) (gx_code u) F Pa (gx_loaded u) (gx_globals u) (gx_memories u) A FH FR FD KI (gx_values u) (gx_variables u) (gx_activeSlot u) (gx_activeGives u) (gx_activeFrame u) (gx_activeResume u) (gx_waiting u) (gx_prints u) l (nI i) a := by
  have h0 := mp.1
  have hI := mp.2.2.1
  intro r
  induction r with
  | zero =>
    intro i l a hr hl2 hj
    obtain ⟨l, rfl⟩ : ∃ j, l = j + 1 := ⟨l - 1, by omega⟩
    exact pk_le (m_I c n) i (fun _ => h1 (fun k hk => hj k (by omega)) _) (fun z => absurd z (by omega))
  | succ r ih =>
    intro i l a hr hl2 hj
    obtain ⟨l, rfl⟩ : ∃ j, l = j + 1 := ⟨l - 1, by omega⟩
    have hi : i < m_I c n := by omega
    have efa : m_fa c n i = m_im c n i := if_pos hi
    have hfa := mp.2.2.2.2.1 i (by omega)
    rw [efa] at hfa
    refine pk_le (m_I c n) i (fun z => absurd z (by omega)) (fun _ => ?_)
    refine eq_p (P := fun z => wpX_fact _ _ _ z) (show (12 : Int32) + nI i = nI (12 + i) from nI_add 12 i) ?_
    refine xx_fact (m := 2) (w := 12 + i) (z := nI (m_im c n i)) (by rw [show 2 * 22 + (12 + i) = 44 + 12 + i by omega, ← efa]; exact Fx.2.2.2.2.2.2.2.2.2.1 i (by omega)) (by omega) (by omega) (nm_r (nI_1 _) ?_)
    refine xm_typeOf (w := (xl u WP (nI (m_im c n i + 1)) fc kc F Pa A FH FR FD KI)) (m := 2) (by omega) M Fx mp hn i (by omega) ?_
    rw [efa]
    refine xx_byte (m := 2) M (by omega) (by omega) ?_
    refine xm_fits (w := (xl u WP (nI (m_im c n i + 1)) fc kc F Pa A FH FR FD KI)) (c0 := c0) (n0 := n0) M Fx mp hn s hs l0 hl H0 i hi (hv i hi) (fun z => br_f (by decide) (nm_r (nI_1 i) ?_)) (fun z => br_t rfl (h2 i hi z hj))
    refine ih (i + 1) l _ (by omega) (by omega) (fun j hj2 => ?_)
    rcases Nat.lt_or_ge j i with q | q
    · exact hj j q
    · rw [show j = i by omega]; exact z
theorem x_links {post : Int32 → SX → Prop} (M : mx_ok u 2 c) (Fx : xf_ok 44 c n F) (mp : mp_ok c n) (hn : n ≤ 140) (s : Nat) (hs : s < 2) (l0 : Bool) (hl : gx_loaded u 0 = bb_i l0) (H0 : l0 = true → mx_ok u 0 c0 ∧ xf_ok 0 c0 n0 F ∧ mp_ok c0 n0 ∧ n0 ≤ 140 ∧ ∀ f, f < m_I c0 n0 + m_F c0 n0 → c0 (m_fa c0 n0 f) < c0 0) (hv : ∀ k, k < m_I c n → c (m_im c n k) < c 0)
    (h1 : (∀ k, k < m_I c n → lk_ok s l0 c n c0 n0 k) → ∀ a, post 1 (xl u WP a fc kc F Pa A FH FR FD KI)) (h2 : ∀ k, k < m_I c n → ¬ lk_ok s l0 c n c0 n0 k → (∀ j, j < k → lk_ok s l0 c n c0 n0 j) → post 0 (xl u WP (nI (m_im c n k + 1)) fc kc F Pa A FH FR FD KI)) :
    wpX_checkLinks post (xl u WP a fc kc F Pa A FH FR FD KI) (nI s) := by
  unfold wpX_checkLinks
  refine xx_fact (m := 2) (w := 1) (z := nI (m_I c n)) (by exact Fx.2.1) (by omega) (by omega) ⟨m_I c n + 1, ?_⟩
  exact x_links_l M Fx mp hn s hs l0 hl H0 hv h1 h2 (m_I c n) 0 _ a (by omega) (by omega) (fun j hj => absurd hj (by omega))
end
-- the constant at a place, by the class
section
variable {w : SX} {c : Nat → Nat} {m : Nat} {post : Int64 → Prop}
theorem xm_c88 (kind : Nat) (hk : kind < 256) (x : Int64) (h : post (if kind = 1 then x.toInt32.toInt64 else x)) : wX_constAt_88 post (nI kind) x (gx_byteCount w) (gx_wrongPlace w) (gx_at w) (gx_frameCount w) (gx_kindCount w) (gx_valueCount w) (gx_activeCount w) (gx_goesOn w) (gx_outcome w) (gx_resultValue w) (gx_trapPlace w) (gx_fuelUsed w) (gx_firstWaiting w) (gx_waitingCount w) (gx_printCount w) (gx_code w) (gx_facts w) (gx_partner w) (gx_loaded w) (gx_globals w) (gx_memories w) (gx_frameAt w) (gx_frameHeight w) (gx_frameResult w) (gx_frameDead w) (gx_kinds w) (gx_values w) (gx_variables w) (gx_activeSlot w) (gx_activeGives w) (gx_activeFrame w) (gx_activeResume w) (gx_waiting w) (gx_prints w) := by
  refine pk_eq kind 1 (fun z => ?_) (fun z => ?_)
  · rw [if_pos z] at h; exact h
  · rw [if_neg z] at h; exact h
theorem xm_c62 (kind : Nat) (hk : kind < 256) (x : Int64) (i b : Nat) (hi : i < 100) (h : post (cv_fin kind x i b)) : wX_constAt_62 post (nI kind) x (nI (7 * i)) (nI b) (gx_byteCount w) (gx_wrongPlace w) (gx_at w) (gx_frameCount w) (gx_kindCount w) (gx_valueCount w) (gx_activeCount w) (gx_goesOn w) (gx_outcome w) (gx_resultValue w) (gx_trapPlace w) (gx_fuelUsed w) (gx_firstWaiting w) (gx_waitingCount w) (gx_printCount w) (gx_code w) (gx_facts w) (gx_partner w) (gx_loaded w) (gx_globals w) (gx_memories w) (gx_frameAt w) (gx_frameHeight w) (gx_frameResult w) (gx_frameDead w) (gx_kinds w) (gx_values w) (gx_variables w) (gx_activeSlot w) (gx_activeGives w) (gx_activeFrame w) (gx_activeResume w) (gx_waiting w) (gx_prints w) := by
  refine br_c (fun z => xm_c88 kind hk x ?_) (fun z => pk_le 64 (7 * i) (fun z2 => xm_c88 kind hk x ?_) (fun z2 => nm_e (xm_c88 kind hk _ ?_)))
  · rw [cv_fin, if_neg (show ¬ (7 * i < 64 ∧ ¬ (nI b &&& 64) = 0) from fun y => y.2 z)] at h; exact h
  · rw [cv_fin, if_neg (show ¬ (7 * i < 64 ∧ ¬ (nI b &&& 64) = 0) by omega)] at h; exact h
  · rw [cv_fin, if_pos (show 7 * i < 64 ∧ ¬ (nI b &&& 64) = 0 from ⟨z2, z⟩)] at h; exact h
theorem xm_const_l (hm : m < 3) (M : mx_ok w m c) (p kind : Nat) (hp : p < 500) (hk : kind < 256) : ∀ r i l x b, i + r = 10 → r < l → 127 < b → b < 256 → (∃ j, j < r ∧ c (p + i + j) ≤ 127) → post (cv c kind r (p + i) x i) → wX_constAt_14 post (nI m) (nI p) (nI kind) (gx_byteCount w) (gx_wrongPlace w) (gx_at w) (gx_frameCount w) (gx_kindCount w) (gx_valueCount w) (gx_activeCount w) (gx_goesOn w) (gx_outcome w) (gx_resultValue w) (gx_trapPlace w) (gx_fuelUsed w) (gx_firstWaiting w) (gx_waitingCount w) (gx_printCount w) (gx_code w) (gx_facts w) (gx_partner w) (gx_loaded w) (gx_globals w) (gx_memories w) (gx_frameAt w) (gx_frameHeight w) (gx_frameResult w) (gx_frameDead w) (gx_kinds w) (gx_values w) (gx_variables w) (gx_activeSlot w) (gx_activeGives w) (gx_activeFrame w) (gx_activeResume w) (gx_waiting w) (gx_prints w) l x (nI (7 * i)) (nI b) (nI i) := by
  intro r
  induction r with
  | zero => intro i l x b hi hl hb hb2 ⟨j, hj, _⟩; omega
  | succ r ih =>
    intro i l x b hi hl hb hb2 hex h
    obtain ⟨l, rfl⟩ : ∃ j, l = j + 1 := ⟨l - 1, by omega⟩
    refine pk_le 10 i (fun z => absurd z (by omega)) (fun _ => pk_le b 127 (fun z => absurd z (by omega)) (fun _ => ?_))
    refine eq_p (P := fun z => wpX_byteAt _ _ _ z) (nI_add p i) ?_
    refine xx_byte M hm (by omega) (nm_e (nm_r (show nI (7 * i) + 7 = nI (7 * (i + 1)) from nI_add (7 * i) 7) (nm_r (nI_1 i) ?_)))
    rw [cv] at h
    by_cases h4 : 127 < c (p + i)
    · rw [if_pos h4] at h
      refine ih (i + 1) l _ (c (p + i)) (by omega) (by omega) h4 (M.2.1 _) ?_ h
      obtain ⟨j, hj, hj2⟩ := hex
      cases j with
      | zero => rw [Nat.add_zero] at hj2; omega
      | succ j => exact ⟨j, by omega, by rw [show p + (i + 1) + j = p + i + (j + 1) by omega]; exact hj2⟩
    · rw [if_neg h4] at h
      obtain ⟨l, rfl⟩ : ∃ j, l = j + 1 := ⟨l - 1, by omega⟩
      have hb3 := M.2.1 (p + i)
      refine pk_le 10 (i + 1) (fun _ => xm_c62 kind hk _ (i + 1) _ (by omega) h) (fun _ => pk_le (c (p + i)) 127 (fun _ => xm_c62 kind hk _ (i + 1) _ (by omega) h) (fun z => absurd z h4))
theorem xm_const (hm : m < 3) (M : mx_ok w m c) (p kind : Nat) (hp : p < 500) (hk : kind < 256) (hex : ∃ j, j < 10 ∧ c (p + j) ≤ 127) (h : post (cv c kind 10 p 0 0)) : wpX_constAt post w (nI m) (nI p) (nI kind) :=
  ⟨11, xm_const_l hm M p kind hp hk 10 0 11 0 128 (by omega) (by omega) (by omega) (by omega) (by rw [Nat.add_zero]; exact hex) h⟩
end
theorem rd_C_ex {c : Nat → Nat} {n : Nat} : ∀ k p, (rd_C c n k (true, p)).1 = true → ∃ j, j < k ∧ c (p + j) ≤ 127 := by
  intro k
  induction k with
  | zero => intro p h; exact ff_t h
  | succ k ih =>
    intro p h
    rw [rd_C] at h
    generalize (if k = 0 then 127 else 255) = hb at h
    rcases rd_tk_or c n 0 hb (true, p) with ⟨e, _, _, _, h5⟩ | e
    · rw [e] at h
      dsimp only at h
      by_cases h4 : 127 < c p
      · rw [if_pos ⟨rfl, h4⟩] at h
        obtain ⟨j, hj, hj2⟩ := ih (p + 1) h
        exact ⟨j + 1, by omega, by rw [show p + (j + 1) = p + 1 + j by omega]; exact hj2⟩
      · exact ⟨0, by omega, by rw [Nat.add_zero]; omega⟩
    · rw [e, if_neg (fun z => ff_t z.1)] at h; exact ff_t h
end
section
/-! 33: the class's copy into a slot: bytes, facts, partners, globals, memory -/
def mx_c (CO : Nat → Int32) (m : Nat) (c : Nat → Nat) : Prop := (∀ i, i < 140 → CO (m * 140 + i) = nI (c i)) ∧ (∀ i, c i < 256) ∧ ∀ i, 140 ≤ i → c i = 0
section
variable {x_byteCount x_wrongPlace x_at x_frameCount x_kindCount x_valueCount x_activeCount x_goesOn x_outcome x_trapPlace x_fuelUsed x_firstWaiting x_waitingCount x_printCount : Int32} {x_resultValue : Int64} {x_code x_facts x_partner x_loaded x_memories x_frameAt x_frameHeight x_frameResult x_frameDead x_kinds x_activeSlot x_activeGives x_activeFrame x_activeResume x_waiting x_prints : Nat → Int32} {x_globals x_values x_variables : Nat → Int64}
variable {c : Nat → Nat} {n s : Nat}
theorem x_cp61 {post : SX → Prop} {CO PA : Nat → Int32} (hs : s < 2) : ∀ r i l (FA : Nat → Int32), i + r = 22 → r < l →
    (∀ FA', fr_i (s * 22) (s * 22 + 22) FA FA' → (∀ j, i ≤ j → j < 22 → FA' (s * 22 + j) = FA (44 + j)) → (∀ j, j < i → FA' (s * 22 + j) = FA (s * 22 + j)) → post (x_byteCount, x_wrongPlace, x_at, x_frameCount, x_kindCount, x_valueCount, x_activeCount, x_goesOn, x_outcome, x_resultValue, x_trapPlace, x_fuelUsed, x_firstWaiting, x_waitingCount, x_printCount, CO, FA', PA, x_loaded, x_globals, x_memories, x_frameAt, x_frameHeight, x_frameResult, x_frameDead, x_kinds, x_values, x_variables, x_activeSlot, x_activeGives, x_activeFrame, x_activeResume, x_waiting, x_prints)) →
    wX_copyDraft_61 post (nI s) x_byteCount x_wrongPlace x_at x_frameCount x_kindCount x_valueCount x_activeCount x_goesOn x_outcome x_resultValue x_trapPlace x_fuelUsed x_firstWaiting x_waitingCount x_printCount l (nI i) CO FA PA x_loaded x_globals x_memories x_frameAt x_frameHeight x_frameResult x_frameDead x_kinds x_values x_variables x_activeSlot x_activeGives x_activeFrame x_activeResume x_waiting x_prints := by
  intro r
  induction r with
  | zero =>
    intro i l FA hi hl h
    obtain ⟨l, rfl⟩ : ∃ j, l = j + 1 := ⟨l - 1, by omega⟩
    exact pk_le 22 i (fun _ => h FA (fun _ _ => rfl) (fun j a b => absurd a (by omega)) (fun _ _ => rfl)) (fun z => absurd z (by omega))
  | succ r ih =>
    intro i l FA hi hl h
    obtain ⟨l, rfl⟩ : ∃ j, l = j + 1 := ⟨l - 1, by omega⟩
    refine pk_le 22 i (fun z => absurd z (by omega)) (fun _ => ?_)
    have e1 : (44 : Int32) + nI i = nI (44 + i) := nI_add 44 i
    have e2 : nI s * 22 + nI i = nI (s * 22 + i) := by rw [show (22 : Int32) = nI 22 from rfl, pk_mul, nI_add]
    refine ⟨pk_in (44 + i) 66 (by omega) e1, pk_in (s * 22 + i) 66 (by omega) e2, nm_r (show upd FA (nI s * 22 + nI i).toNatClampNeg (FA ((44 : Int32) + nI i).toNatClampNeg) = upd FA (s * 22 + i) (FA (44 + i)) from by rw [pk_cl (s * 22 + i) e2, pk_cl (44 + i) e1]) (nm_r (nI_1 i) ?_)⟩
    refine ih (i + 1) l _ (by omega) (by omega) (fun FA' f1 f2 f3 => h FA' (fun j hj => (f1 j hj).trans (pk_un (by omega))) (fun j a b => ?_) (fun j a => (f3 j (by omega)).trans (pk_un (by omega))))
    by_cases hj : j = i
    · subst hj; rw [f3 j (by omega), pk_us]
    · rw [f2 j (by omega) b, pk_un (by omega)]
theorem x_copy {post : SX → Prop} (hs : s < 2)
    (h : ∀ CO FA PA, fr_i (s * 140) (s * 140 + 140) x_code CO → (∀ i, i < 140 → CO (s * 140 + i) = x_code (280 + i)) → fr_i (s * 140) (s * 140 + 140) x_partner PA → (∀ i, i < 140 → PA (s * 140 + i) = x_partner (280 + i)) → fr_i (s * 22) (s * 22 + 22) x_facts FA → (∀ i, i < 22 → FA (s * 22 + i) = x_facts (44 + i)) → post (x_byteCount, x_wrongPlace, x_at, x_frameCount, x_kindCount, x_valueCount, x_activeCount, x_goesOn, x_outcome, x_resultValue, x_trapPlace, x_fuelUsed, x_firstWaiting, x_waitingCount, x_printCount, CO, FA, PA, x_loaded, x_globals, x_memories, x_frameAt, x_frameHeight, x_frameResult, x_frameDead, x_kinds, x_values, x_variables, x_activeSlot, x_activeGives, x_activeFrame, x_activeResume, x_waiting, x_prints)) :
    wpX_copyDraft post (x_byteCount, x_wrongPlace, x_at, x_frameCount, x_kindCount, x_valueCount, x_activeCount, x_goesOn, x_outcome, x_resultValue, x_trapPlace, x_fuelUsed, x_firstWaiting, x_waitingCount, x_printCount, x_code, x_facts, x_partner, x_loaded, x_globals, x_memories, x_frameAt, x_frameHeight, x_frameResult, x_frameDead, x_kinds, x_values, x_variables, x_activeSlot, x_activeGives, x_activeFrame, x_activeResume, x_waiting, x_prints) (nI s) := by
  have key : ∀ r i l (CO PA : Nat → Int32), i + r = 140 → r < l →
      (∀ CO' PA', fr_i (s * 140) (s * 140 + 140) CO CO' → (∀ j, i ≤ j → j < 140 → CO' (s * 140 + j) = CO (280 + j)) → (∀ j, j < i → CO' (s * 140 + j) = CO (s * 140 + j)) → fr_i (s * 140) (s * 140 + 140) PA PA' → (∀ j, i ≤ j → j < 140 → PA' (s * 140 + j) = PA (280 + j)) → (∀ j, j < i → PA' (s * 140 + j) = PA (s * 140 + j)) →
        ∃ n61, wX_copyDraft_61 post (nI s) x_byteCount x_wrongPlace x_at x_frameCount x_kindCount x_valueCount x_activeCount x_goesOn x_outcome x_resultValue x_trapPlace x_fuelUsed x_firstWaiting x_waitingCount x_printCount n61 0 CO' x_facts PA' x_loaded x_globals x_memories x_frameAt x_frameHeight x_frameResult x_frameDead x_kinds x_values x_variables x_activeSlot x_activeGives x_activeFrame x_activeResume x_waiting x_prints) →
      wX_copyDraft_2 post (nI s) x_byteCount x_wrongPlace x_at x_frameCount x_kindCount x_valueCount x_activeCount x_goesOn x_outcome x_resultValue x_trapPlace x_fuelUsed x_firstWaiting x_waitingCount x_printCount l (nI i) CO x_facts PA x_loaded x_globals x_memories x_frameAt x_frameHeight x_frameResult x_frameDead x_kinds x_values x_variables x_activeSlot x_activeGives x_activeFrame x_activeResume x_waiting x_prints := by
    intro r
    induction r with
    | zero =>
      intro i l CO PA hi hl h
      obtain ⟨l, rfl⟩ : ∃ j, l = j + 1 := ⟨l - 1, by omega⟩
      exact pk_le 140 i (fun _ => h CO PA (fun _ _ => rfl) (fun j a b => absurd a (by omega)) (fun _ _ => rfl) (fun _ _ => rfl) (fun j a b => absurd a (by omega)) (fun _ _ => rfl)) (fun z => absurd z (by omega))
    | succ r ih =>
      intro i l CO PA hi hl h
      obtain ⟨l, rfl⟩ : ∃ j, l = j + 1 := ⟨l - 1, by omega⟩
      refine pk_le 140 i (fun z => absurd z (by omega)) (fun _ => ?_)
      have e1 : (280 : Int32) + nI i = nI (280 + i) := nI_add 280 i
      have e2 : nI s * 140 + nI i = nI (s * 140 + i) := by rw [show (140 : Int32) = nI 140 from rfl, pk_mul, nI_add]
      refine ⟨pk_in (280 + i) 420 (by omega) e1, pk_in (s * 140 + i) 420 (by omega) e2, nm_r (show upd CO (nI s * 140 + nI i).toNatClampNeg (CO ((280 : Int32) + nI i).toNatClampNeg) = upd CO (s * 140 + i) (CO (280 + i)) from by rw [pk_cl (s * 140 + i) e2, pk_cl (280 + i) e1]) ⟨pk_in (280 + i) 420 (by omega) e1, pk_in (s * 140 + i) 420 (by omega) e2, nm_r (show upd PA (nI s * 140 + nI i).toNatClampNeg (PA ((280 : Int32) + nI i).toNatClampNeg) = upd PA (s * 140 + i) (PA (280 + i)) from by rw [pk_cl (s * 140 + i) e2, pk_cl (280 + i) e1]) (nm_r (nI_1 i) ?_)⟩⟩
      refine ih (i + 1) l _ _ (by omega) (by omega) (fun CO' PA' f1 f2 f3 g1 g2 g3 => h CO' PA' (fun j hj => (f1 j hj).trans (pk_un (by omega))) (fun j a b => ?_) (fun j a => (f3 j (by omega)).trans (pk_un (by omega))) (fun j hj => (g1 j hj).trans (pk_un (by omega))) (fun j a b => ?_) (fun j a => (g3 j (by omega)).trans (pk_un (by omega))))
      · by_cases hj : j = i
        · subst hj; rw [f3 j (by omega), pk_us]
        · rw [f2 j (by omega) b, pk_un (by omega)]
      · by_cases hj : j = i
        · subst hj; rw [g3 j (by omega), pk_us]
        · rw [g2 j (by omega) b, pk_un (by omega)]
  refine ⟨141, key 140 0 141 x_code x_partner (by omega) (by omega) (fun CO PA f1 f2 _ g1 g2 _ => ⟨23, ?_⟩)⟩
  exact x_cp61 hs 22 0 23 x_facts (by omega) (by omega) (fun FA k1 k2 _ => h CO FA PA f1 (fun i hi => f2 i (by omega) hi) g1 (fun i hi => g2 i (by omega) hi) k1 (fun i hi => k2 i (by omega) hi))
theorem x_setG {post : SX → Prop} (hs : s < 2) (M : mx_c x_code s c) (Fx : xf_ok (s * 22) c n x_facts) (mp : mp_ok c n) (hn : n ≤ 140)
    (h : ∀ GL, fr_l (s * 3) (s * 3 + 3) x_globals GL → (∀ g, g < c (m_pG c n) → GL (s * 3 + g) = cv c (c (m_ga c n g)) 10 (m_ga c n g + 2) 0 0) → post (x_byteCount, x_wrongPlace, x_at, x_frameCount, x_kindCount, x_valueCount, x_activeCount, x_goesOn, x_outcome, x_resultValue, x_trapPlace, x_fuelUsed, x_firstWaiting, x_waitingCount, x_printCount, x_code, x_facts, x_partner, x_loaded, GL, x_memories, x_frameAt, x_frameHeight, x_frameResult, x_frameDead, x_kinds, x_values, x_variables, x_activeSlot, x_activeGives, x_activeFrame, x_activeResume, x_waiting, x_prints)) : wpX_setGlobals post (x_byteCount, x_wrongPlace, x_at, x_frameCount, x_kindCount, x_valueCount, x_activeCount, x_goesOn, x_outcome, x_resultValue, x_trapPlace, x_fuelUsed, x_firstWaiting, x_waitingCount, x_printCount, x_code, x_facts, x_partner, x_loaded, x_globals, x_memories, x_frameAt, x_frameHeight, x_frameResult, x_frameDead, x_kinds, x_values, x_variables, x_activeSlot, x_activeGives, x_activeFrame, x_activeResume, x_waiting, x_prints) (nI s) := by
  have hG := mp.2.2.2.2.2.2.1
  have key : ∀ r i l (GL : Nat → Int64), i + r = c (m_pG c n) → r < l →
      (∀ GL', fr_l (s * 3) (s * 3 + 3) GL GL' → (∀ j, i ≤ j → j < c (m_pG c n) → GL' (s * 3 + j) = cv c (c (m_ga c n j)) 10 (m_ga c n j + 2) 0 0) → (∀ j, j < i → GL' (s * 3 + j) = GL (s * 3 + j)) → post (x_byteCount, x_wrongPlace, x_at, x_frameCount, x_kindCount, x_valueCount, x_activeCount, x_goesOn, x_outcome, x_resultValue, x_trapPlace, x_fuelUsed, x_firstWaiting, x_waitingCount, x_printCount, x_code, x_facts, x_partner, x_loaded, GL', x_memories, x_frameAt, x_frameHeight, x_frameResult, x_frameDead, x_kinds, x_values, x_variables, x_activeSlot, x_activeGives, x_activeFrame, x_activeResume, x_waiting, x_prints)) →
      wX_setGlobals_9 post (nI s) (nI (c (m_pG c n))) x_byteCount x_wrongPlace x_at x_frameCount x_kindCount x_valueCount x_activeCount x_goesOn x_outcome x_resultValue x_trapPlace x_fuelUsed x_firstWaiting x_waitingCount x_printCount l (nI i) x_code x_facts x_partner x_loaded GL x_memories x_frameAt x_frameHeight x_frameResult x_frameDead x_kinds x_values x_variables x_activeSlot x_activeGives x_activeFrame x_activeResume x_waiting x_prints := by
    intro r
    induction r with
    | zero =>
      intro i l GL hi hl h
      obtain ⟨l, rfl⟩ : ∃ j, l = j + 1 := ⟨l - 1, by omega⟩
      exact pk_le (c (m_pG c n)) i (fun _ => h GL (fun _ _ => rfl) (fun j a b => absurd a (by omega)) (fun _ _ => rfl)) (fun z => absurd z (by omega))
    | succ r ih =>
      intro i l GL hi hl h
      obtain ⟨l, rfl⟩ : ∃ j, l = j + 1 := ⟨l - 1, by omega⟩
      obtain ⟨g1, g2, g3, g4, g5⟩ := mp.2.2.2.2.2.2.2.1 i (by omega)
      refine pk_le (c (m_pG c n)) i (fun z => absurd z (by omega)) (fun _ => ?_)
      refine eq_p (P := fun z => wpX_fact _ _ _ z) (show (19 : Int32) + nI i = nI (19 + i) from nI_add 19 i) ?_
      refine xx_fact (m := s) (w := 19 + i) (z := nI (m_ga c n i)) (by rw [show s * 22 + (19 + i) = s * 22 + 19 + i by omega]; exact Fx.2.2.2.2.2.2.2.2.2.2 i (by omega)) (by omega) (by omega) ?_
      refine xx_byte (u := (x_byteCount, x_wrongPlace, x_at, x_frameCount, x_kindCount, x_valueCount, x_activeCount, x_goesOn, x_outcome, x_resultValue, x_trapPlace, x_fuelUsed, x_firstWaiting, x_waitingCount, x_printCount, x_code, x_facts, x_partner, x_loaded, GL, x_memories, x_frameAt, x_frameHeight, x_frameResult, x_frameDead, x_kinds, x_values, x_variables, x_activeSlot, x_activeGives, x_activeFrame, x_activeResume, x_waiting, x_prints)) (m := s) M (by omega) (by omega) ?_
      refine eq_p (P := fun z => wpX_constAt _ _ _ z _) (show nI (m_ga c n i) + 2 = nI (m_ga c n i + 2) from nI_add _ 2) ?_
      refine xm_const (w := (x_byteCount, x_wrongPlace, x_at, x_frameCount, x_kindCount, x_valueCount, x_activeCount, x_goesOn, x_outcome, x_resultValue, x_trapPlace, x_fuelUsed, x_firstWaiting, x_waitingCount, x_printCount, x_code, x_facts, x_partner, x_loaded, GL, x_memories, x_frameAt, x_frameHeight, x_frameResult, x_frameDead, x_kinds, x_values, x_variables, x_activeSlot, x_activeGives, x_activeFrame, x_activeResume, x_waiting, x_prints)) (m := s) (by omega) M _ _ (by omega) (by omega) ?_ ?_
      · obtain ⟨j, hj, hj2⟩ := rd_C_ex _ _ g5
        exact ⟨j, by split at hj <;> omega, hj2⟩
      · have e2 : nI s * 3 + nI i = nI (s * 3 + i) := by rw [show (3 : Int32) = nI 3 from rfl, pk_mul, nI_add]
        refine ⟨pk_in (s * 3 + i) 6 (by omega) e2, nm_r (show vp_updL GL (nI s * 3 + nI i).toNatClampNeg _ = vp_updL GL (s * 3 + i) (cv c (c (m_ga c n i)) 10 (m_ga c n i + 2) 0 0) from by rw [pk_cl (s * 3 + i) e2]) (nm_r (nI_1 i) ?_)⟩
        refine ih (i + 1) l _ (by omega) (by omega) (fun GL' f1 f2 f3 => h GL' (fun j hj => (f1 j hj).trans (pk_uLn (by omega))) (fun j a b => ?_) (fun j a => (f3 j (by omega)).trans (pk_uLn (by omega))))
        by_cases hj : j = i
        · subst hj; rw [f3 j (by omega), pk_uLs]
        · exact f2 j (by omega) b
  unfold wpX_setGlobals
  refine xx_fact (m := s) (w := 3) (z := nI (c (m_pG c n))) (by exact Fx.2.2.2.1) (by omega) (by omega) ⟨c (m_pG c n) + 1, ?_⟩
  exact key (c (m_pG c n)) 0 _ x_globals (by omega) (by omega) (fun GL f1 f2 _ => h GL f1 (fun g hg => f2 g (by omega) hg))
theorem x_setM {post : SX → Prop} (hs : s < 2) (M : mx_c x_code s c) (Fx : xf_ok (s * 22) c n x_facts) (mp : mp_ok c n) (hn : n ≤ 140) (hD : c (tl_m c n (m_pG c n)) = 1 → c (tl_m c n (m_pG c n) + 1) ≤ 2 ∧ (rd_it (rd_D c n) (c (tl_m c n (m_pG c n) + 1)) (true, tl_m c n (m_pG c n) + 2)).1 = true)
    (h : ∀ ME, fr_i (s * 48) (s * 48 + 48) x_memories ME → (∀ j, j < 48 → ME (s * 48 + j) = nI (tl_mem c n (m_pG c n) j)) → post (x_byteCount, x_wrongPlace, x_at, x_frameCount, x_kindCount, x_valueCount, x_activeCount, x_goesOn, x_outcome, x_resultValue, x_trapPlace, x_fuelUsed, x_firstWaiting, x_waitingCount, x_printCount, x_code, x_facts, x_partner, x_loaded, x_globals, ME, x_frameAt, x_frameHeight, x_frameResult, x_frameDead, x_kinds, x_values, x_variables, x_activeSlot, x_activeGives, x_activeFrame, x_activeResume, x_waiting, x_prints)) : wpX_setMemory post (x_byteCount, x_wrongPlace, x_at, x_frameCount, x_kindCount, x_valueCount, x_activeCount, x_goesOn, x_outcome, x_resultValue, x_trapPlace, x_fuelUsed, x_firstWaiting, x_waitingCount, x_printCount, x_code, x_facts, x_partner, x_loaded, x_globals, x_memories, x_frameAt, x_frameHeight, x_frameResult, x_frameDead, x_kinds, x_values, x_variables, x_activeSlot, x_activeGives, x_activeFrame, x_activeResume, x_waiting, x_prints) (nI s) := by
  have hm1 : c (tl_m c n (m_pG c n)) ≤ 1 := mp.2.2.2.2.2.2.2.2.2.1
  have hMn : tl_m c n (m_pG c n) < n := mp.2.2.2.2.2.2.2.2.2.2
  have h256 := M.2.1
  -- one piece of data
  have k91 : ∀ {J : Int32 → Int32 → (Nat → Int32) → (Nat → Int32) → (Nat → Int32) → (Nat → Int32) → (Nat → Int64) → (Nat → Int32) → (Nat → Int32) → (Nat → Int32) → (Nat → Int32) → (Nat → Int32) → (Nat → Int32) → (Nat → Int64) → (Nat → Int64) → (Nat → Int32) → (Nat → Int32) → (Nat → Int32) → (Nat → Int32) → (Nat → Int32) → (Nat → Int32) → Prop} (x4 : Int32) (p i5 off len : Nat), p < 400 → off < 256 → len < 256 → ∀ r i l (ME : Nat → Int32), i + r = len → r < l →
      (∀ ME', fr_i (s * 48) (s * 48 + 48) ME ME' → (∀ j, j < 48 → ME' (s * 48 + j) = if off + i ≤ j ∧ j < off + len then nI (c (p + 2 + (j - off))) else ME (s * 48 + j)) → J (nI (p + 2 + len)) (nI (i5 + 1)) x_code x_facts x_partner x_loaded x_globals ME' x_frameAt x_frameHeight x_frameResult x_frameDead x_kinds x_values x_variables x_activeSlot x_activeGives x_activeFrame x_activeResume x_waiting x_prints) →
      wX_setMemory_91 post J (nI s) (nI (s * 48)) (nI p) x4 (nI i5) (nI off) (nI len) x_byteCount x_wrongPlace x_at x_frameCount x_kindCount x_valueCount x_activeCount x_goesOn x_outcome x_resultValue x_trapPlace x_fuelUsed x_firstWaiting x_waitingCount x_printCount l (nI i) x_code x_facts x_partner x_loaded x_globals ME x_frameAt x_frameHeight x_frameResult x_frameDead x_kinds x_values x_variables x_activeSlot x_activeGives x_activeFrame x_activeResume x_waiting x_prints := by
    intro J x4 p i5 off len hp ho hl4
    have w137 : ∀ ME, J (nI (p + 2 + len)) (nI (i5 + 1)) x_code x_facts x_partner x_loaded x_globals ME x_frameAt x_frameHeight x_frameResult x_frameDead x_kinds x_values x_variables x_activeSlot x_activeGives x_activeFrame x_activeResume x_waiting x_prints → wX_setMemory_137 post J (nI s) (nI (s * 48)) (nI p) x4 (nI i5) (nI len) x_byteCount x_wrongPlace x_at x_frameCount x_kindCount x_valueCount x_activeCount x_goesOn x_outcome x_resultValue x_trapPlace x_fuelUsed x_firstWaiting x_waitingCount x_printCount x_code x_facts x_partner x_loaded x_globals ME x_frameAt x_frameHeight x_frameResult x_frameDead x_kinds x_values x_variables x_activeSlot x_activeGives x_activeFrame x_activeResume x_waiting x_prints := by
      intro ME q
      exact nm_r (show nI p + (2 + nI len) = nI (p + 2 + len) from by rw [show (2 : Int32) = nI 2 from rfl, nI_add, nI_add]; congr 1; omega) (nm_r (nI_1 i5) q)
    intro r
    induction r with
    | zero =>
      intro i l ME hi hl h
      obtain ⟨l, rfl⟩ : ∃ j, l = j + 1 := ⟨l - 1, by omega⟩
      refine pk_le len i (fun _ => w137 ME (h ME (fun _ _ => rfl) (fun j hj => ?_))) (fun z => absurd z (by omega))
      rw [if_neg (by omega)]
    | succ r ih =>
      intro i l ME hi hl h
      obtain ⟨l, rfl⟩ : ∃ j, l = j + 1 := ⟨l - 1, by omega⟩
      refine pk_le len i (fun z => absurd z (by omega)) (fun _ => pk_le 48 (off + i) (fun z => w137 ME (h ME (fun _ _ => rfl) (fun j hj => ?_))) (fun z => ?_) rfl (nI_add off i))
      · rw [if_neg (by omega)]
      · refine eq_p (P := fun z => wpX_byteAt _ _ _ z) (show (nI p + 2) + nI i = nI (p + 2 + i) from by rw [show (2 : Int32) = nI 2 from rfl, nI_add, nI_add]) ?_
        refine xx_byte (u := (x_byteCount, x_wrongPlace, x_at, x_frameCount, x_kindCount, x_valueCount, x_activeCount, x_goesOn, x_outcome, x_resultValue, x_trapPlace, x_fuelUsed, x_firstWaiting, x_waitingCount, x_printCount, x_code, x_facts, x_partner, x_loaded, x_globals, ME, x_frameAt, x_frameHeight, x_frameResult, x_frameDead, x_kinds, x_values, x_variables, x_activeSlot, x_activeGives, x_activeFrame, x_activeResume, x_waiting, x_prints)) (m := s) M (by omega) (by omega) ?_
        have e2 : (nI (s * 48) + nI off) + nI i = nI (s * 48 + off + i) := by rw [nI_add, nI_add]
        refine ⟨pk_in (s * 48 + off + i) 96 (by omega) e2, nm_r (show upd ME ((nI (s * 48) + nI off) + nI i).toNatClampNeg _ = upd ME (s * 48 + off + i) (nI (c (p + 2 + i))) from by rw [pk_cl (s * 48 + off + i) e2]) (nm_r (nI_1 i) ?_)⟩
        refine ih (i + 1) l _ (by omega) (by omega) (fun ME' f1 f2 => h ME' (fun j hj => (f1 j hj).trans (pk_un (by omega))) (fun j hj => ?_))
        rw [f2 j hj]
        by_cases hj2 : j = off + i
        · rw [if_neg (by omega), if_pos (by omega), show s * 48 + j = s * 48 + off + i by omega, pk_us, show p + 2 + (j - off) = p + 2 + i by omega]
        · rw [pk_un (by omega)]
          by_cases hj3 : off + (i + 1) ≤ j ∧ j < off + len
          · rw [if_pos hj3, if_pos (by omega)]
          · rw [if_neg hj3, if_neg (by omega)]
  have k63 : ∀ N r i l p (ME : Nat → Int32) (md : Nat → Nat), N ≤ 2 → i + r = N → r < l → p < 200 → (rd_it (rd_D c n) r (true, p)).1 = true → (∀ j, j < 48 → ME (s * 48 + j) = nI (md j)) →
      (∀ ME', fr_i (s * 48) (s * 48 + 48) ME ME' → (∀ j, j < 48 → ME' (s * 48 + j) = nI (md_k c n r (true, p) md j)) → post (x_byteCount, x_wrongPlace, x_at, x_frameCount, x_kindCount, x_valueCount, x_activeCount, x_goesOn, x_outcome, x_resultValue, x_trapPlace, x_fuelUsed, x_firstWaiting, x_waitingCount, x_printCount, x_code, x_facts, x_partner, x_loaded, x_globals, ME', x_frameAt, x_frameHeight, x_frameResult, x_frameDead, x_kinds, x_values, x_variables, x_activeSlot, x_activeGives, x_activeFrame, x_activeResume, x_waiting, x_prints)) →
      wX_setMemory_63 post (nI s) (nI (s * 48)) (nI N) x_byteCount x_wrongPlace x_at x_frameCount x_kindCount x_valueCount x_activeCount x_goesOn x_outcome x_resultValue x_trapPlace x_fuelUsed x_firstWaiting x_waitingCount x_printCount l (nI p) (nI i) x_code x_facts x_partner x_loaded x_globals ME x_frameAt x_frameHeight x_frameResult x_frameDead x_kinds x_values x_variables x_activeSlot x_activeGives x_activeFrame x_activeResume x_waiting x_prints := by
    intro N r
    induction r with
    | zero =>
      intro i l p ME md hN hi hl hp hok hM h
      obtain ⟨l, rfl⟩ : ∃ j, l = j + 1 := ⟨l - 1, by omega⟩
      exact pk_le N i (fun _ => h ME (fun _ _ => rfl) hM) (fun z => absurd z (by omega))
    | succ r ih =>
      intro i l p ME md hN hi hl hp hok hM h
      obtain ⟨l, rfl⟩ : ∃ j, l = j + 1 := ⟨l - 1, by omega⟩
      rw [rd_it] at hok
      have h1 := rd_G_tr (rd_G_it (rd_G_D c n) r) hok
      obtain ⟨a1, a2, a3, a4⟩ := rd_n_ok _ _ (show (rd_n c n 0 255 (rd_tv c n 0 8 (rd_tk c n 0 255 (true, p))) (rd_tk c n 0 8 (rd_tk c n 0 255 (true, p)))).1 = true from h1)
      obtain ⟨b1, b2, b3, b4, b5, b6⟩ := rd_tk_ok a1
      obtain ⟨d1, d2, d3, d4, d5, d6⟩ := rd_tk_ok b1
      rw [d2] at b2 b3 b5 b6
      dsimp only at b2 b3 b5 b6 d6
      have eD : rd_D c n (true, p) = (true, p + 2 + c (p + 1)) := by
        show rd_n c n 0 255 (rd_tv c n 0 8 (rd_tk c n 0 255 (true, p))) (rd_tk c n 0 8 (rd_tk c n 0 255 (true, p))) = _
        rw [a2, d2, b2, b3]
      have hle : p + 2 + c (p + 1) ≤ n := by
        have := a4 (by rw [d2, b2]; dsimp only; omega)
        rw [d2, b2, b3] at this
        exact this
      rw [eD] at hok
      refine pk_le N i (fun z => absurd z (by omega)) (fun _ => ?_)
      refine xx_byte (u := (x_byteCount, x_wrongPlace, x_at, x_frameCount, x_kindCount, x_valueCount, x_activeCount, x_goesOn, x_outcome, x_resultValue, x_trapPlace, x_fuelUsed, x_firstWaiting, x_waitingCount, x_printCount, x_code, x_facts, x_partner, x_loaded, x_globals, ME, x_frameAt, x_frameHeight, x_frameResult, x_frameDead, x_kinds, x_values, x_variables, x_activeSlot, x_activeGives, x_activeFrame, x_activeResume, x_waiting, x_prints)) (m := s) M (by omega) (by omega) ?_
      refine eq_p (P := fun z => wpX_byteAt _ _ _ z) (nI_1 p) ?_
      refine xx_byte (u := (x_byteCount, x_wrongPlace, x_at, x_frameCount, x_kindCount, x_valueCount, x_activeCount, x_goesOn, x_outcome, x_resultValue, x_trapPlace, x_fuelUsed, x_firstWaiting, x_waitingCount, x_printCount, x_code, x_facts, x_partner, x_loaded, x_globals, ME, x_frameAt, x_frameHeight, x_frameResult, x_frameDead, x_kinds, x_values, x_variables, x_activeSlot, x_activeGives, x_activeFrame, x_activeResume, x_waiting, x_prints)) (m := s) M (by omega) (by omega) ⟨c (p + 1) + 1, ?_⟩
      refine k91 (nI N) p i (c p) (c (p + 1)) (by omega) (h256 _) (h256 _) (c (p + 1)) 0 _ ME (Nat.zero_add _) (by omega) (fun ME' f1 f2 => ?_)
      refine ih (i + 1) l (p + 2 + c (p + 1)) ME' (md_w c p md) hN (by omega) (by omega) (by omega) hok (fun j hj => ?_) (fun ME2 g1 g2 => h ME2 (fun j hj => (g1 j hj).trans (f1 j hj)) (fun j hj => ?_))
      · rw [f2 j hj, md_w, Nat.add_zero]
        by_cases q : c p ≤ j ∧ j < c p + c (p + 1)
        · rw [if_pos q, if_pos q]
        · rw [if_neg q, if_neg q]; exact hM j hj
      · rw [g2 j hj, md_k, eD]
  have k7 : ∀ r i l (ME : Nat → Int32), i + r = 48 → r < l →
      (∀ ME', fr_i (s * 48) (s * 48 + 48) ME ME' → (∀ j, i ≤ j → j < 48 → ME' (s * 48 + j) = 0) → (∀ j, j < i → ME' (s * 48 + j) = ME (s * 48 + j)) → wX_setMemory_7 post (nI s) (nI (s * 48)) x_byteCount x_wrongPlace x_at x_frameCount x_kindCount x_valueCount x_activeCount x_goesOn x_outcome x_resultValue x_trapPlace x_fuelUsed x_firstWaiting x_waitingCount x_printCount 1 48 x_code x_facts x_partner x_loaded x_globals ME' x_frameAt x_frameHeight x_frameResult x_frameDead x_kinds x_values x_variables x_activeSlot x_activeGives x_activeFrame x_activeResume x_waiting x_prints) →
      wX_setMemory_7 post (nI s) (nI (s * 48)) x_byteCount x_wrongPlace x_at x_frameCount x_kindCount x_valueCount x_activeCount x_goesOn x_outcome x_resultValue x_trapPlace x_fuelUsed x_firstWaiting x_waitingCount x_printCount l (nI i) x_code x_facts x_partner x_loaded x_globals ME x_frameAt x_frameHeight x_frameResult x_frameDead x_kinds x_values x_variables x_activeSlot x_activeGives x_activeFrame x_activeResume x_waiting x_prints := by
    intro r
    induction r with
    | zero =>
      intro i l ME hi hl h
      obtain ⟨l, rfl⟩ : ∃ j, l = j + 1 := ⟨l - 1, by omega⟩
      have h' := h ME (fun _ _ => rfl) (fun j a b => absurd a (by omega)) (fun _ _ => rfl)
      have hi' : i = 48 := by omega
      subst hi'
      exact pk_le 48 48 (fun z => h'.1 (nI_le (a := 48) (b := 48) z (by decide))) (fun z => absurd z (by omega))
    | succ r ih =>
      intro i l ME hi hl h
      obtain ⟨l, rfl⟩ : ∃ j, l = j + 1 := ⟨l - 1, by omega⟩
      refine pk_le 48 i (fun z => absurd z (by omega)) (fun _ => ?_)
      have e : nI (s * 48) + nI i = nI (s * 48 + i) := nI_add _ _
      refine ⟨pk_in (s * 48 + i) 96 (by omega) e, nm_r (show upd ME (nI (s * 48) + nI i).toNatClampNeg 0 = upd ME (s * 48 + i) 0 from by rw [pk_cl (s * 48 + i) e]) (nm_r (nI_1 i) ?_)⟩
      refine ih (i + 1) l _ (by omega) (by omega) (fun ME' f1 f2 f3 => h ME' (fun j hj => (f1 j hj).trans (pk_un (by omega))) (fun j a b => ?_) (fun j a => (f3 j (by omega)).trans (pk_un (by omega))))
      by_cases hj : j = i
      · subst hj; rw [f3 j (by omega), pk_us]
      · exact f2 j (by omega) b
  refine nm_r (show nI s * 48 = nI (s * 48) from pk_mul s 48) ⟨49, ?_⟩
  refine k7 48 0 49 x_memories (by omega) (by omega) (fun ME f1 f2 _ => br_t (by decide) ?_)
  refine xx_fact (m := s) (w := 7) (z := nI (tl_m c n (m_pG c n) + 1)) (by exact Fx.2.2.2.2.2.2.2.1) (by omega) (by omega) ?_
  refine xx_fact (m := s) (w := 5) (z := nI (c (tl_m c n (m_pG c n)))) (by exact Fx.2.2.2.2.2.1) (by omega) (by omega) ?_
  refine pk_eq (c (tl_m c n (m_pG c n))) 0 (fun z => nm_r (nI_1 _) ⟨1, ?_⟩) (fun z => ?_)
  · refine k63 0 0 0 1 (tl_m c n (m_pG c n) + 1 + 1) ME (fun _ => 0) (by omega) (by omega) (by omega) (by omega) rfl (fun j hj => f2 j (by omega) hj) (fun ME' g1 g2 => h ME' (fun j hj => (g1 j hj).trans (f1 j hj)) (fun j hj => ?_))
    rw [g2 j hj, tl_mem, if_neg (by omega)]; rfl
  · have z1 : c (tl_m c n (m_pG c n)) = 1 := by omega
    obtain ⟨d1, d2⟩ := hD z1
    refine xx_byte (u := (x_byteCount, x_wrongPlace, x_at, x_frameCount, x_kindCount, x_valueCount, x_activeCount, x_goesOn, x_outcome, x_resultValue, x_trapPlace, x_fuelUsed, x_firstWaiting, x_waitingCount, x_printCount, x_code, x_facts, x_partner, x_loaded, x_globals, ME, x_frameAt, x_frameHeight, x_frameResult, x_frameDead, x_kinds, x_values, x_variables, x_activeSlot, x_activeGives, x_activeFrame, x_activeResume, x_waiting, x_prints)) (m := s) M (by omega) (by omega) (nm_r (nI_1 _) ⟨c (tl_m c n (m_pG c n) + 1) + 1, ?_⟩)
    refine k63 (c (tl_m c n (m_pG c n) + 1)) (c (tl_m c n (m_pG c n) + 1)) 0 _ (tl_m c n (m_pG c n) + 1 + 1) ME (fun _ => 0) d1 (Nat.zero_add _) (by omega) (by omega) d2 (fun j hj => f2 j (by omega) hj) (fun ME' g1 g2 => h ME' (fun j hj => (g1 j hj).trans (f1 j hj)) (fun j hj => ?_))
    rw [g2 j hj, tl_mem, if_pos z1]
end
end
section
/-! 34: the reference's load -/
/-- the other modules' parts stay -/
def yr_fr (m : Nat) (TY TS IM FU SI WH TA LA GL GK GF : Nat → Int32) (GV : Nat → Int64) (EN EA H M TY' TS' IM' FU' SI' WH' TA' LA' GL' GK' GF' : Nat → Int32) (GV' : Nat → Int64) (EN' EA' H' M' : Nat → Int32) : Prop :=
  (∀ j, j ≠ m → TY' j = TY j) ∧ fr_i (4 * m) (4 * m + 4) TS TS' ∧ i2_fr m IM FU SI WH TA LA IM' FU' SI' WH' TA' LA' ∧ tl_fr m GL GK GF GV EN EA H M GL' GK' GF' GV' EN' EA' H' M'
/-- all faults of a module that was read -/
def m_Sr (c : Nat → Nat) (n x : Nat) : Prop :=
  ((ft_S c (c 0) (rd_J c n) (m_I c n) (true, m_pI c n + 1) x ∨ ft_S c (c 0) (rd_F c n) (m_F c n) (true, m_pF c n + 1) x) ∨ en_S c (m_I c n + m_F c n) (c (tl_q c n (m_pG c n))) (tl_q c n (m_pG c n) + 1) x) ∨ me_S c n (tl_m c n (m_pG c n)) x
def m_Sb (c : Nat → Nat) (n lo hi x : Nat) : Prop := ∃ f, lo ≤ f ∧ f < hi ∧ c (m_fa c n f) < c 0 ∧ v_go c n f 141 (m_bo c n f) (v_0 c n f) = some x
/-- what ry_ok says, in the words of validation -/
theorem yw_of {c : Nat → Nat} {n : Nat} {L : Int32} {TY TS IM FU SI WH TA LA GL GK GF EN EA H M : Nat → Int32} {GV : Nat → Int64} (h : (rd_V c n).1 = true) (R : ry_ok 2 c n L TY TS IM FU SI WH TA LA GL GK GF GV EN EA H M) :
    yw_ok c n TY TS FU SI LA GL GK GF H ∧ IM 2 = nI (m_I c n) ∧ (∀ k, k < m_I c n → SI (14 + k) = sg_i c (c 0) (m_ty c n) (m_im c n k) ∧ TA (14 + k) = nI (m_im c n k) ∧ WH (6 + k) = nI (c (m_im c n k + 1))) ∧ lm L (m_Sr c n) := by
  obtain ⟨mp, _⟩ := mp_of h
  obtain ⟨r1, r2, r3, i1, i2, i3, f1, f2, f3, t1, t2, t3, t4, t5, t6, t7, t8, t9⟩ := R
  refine ⟨⟨r1, fun t ht => (r3 t ht).1, f1, fun f hf => ?_, fun f hf hf2 => ?_, t1, fun g hg => ?_, t7⟩, i1, fun k hk => ?_, t8⟩
  · by_cases z : f < m_I c n
    · have := (i3 f z).1
      rw [Nat.zero_add] at this
      rw [m_fa, if_pos z]; exact this
    · have := (f3 (f - m_I c n) (show f - m_I c n < m_F c n by omega)).1
      rw [show c (m_pI c n) + (f - m_I c n) = f from by show m_I c n + _ = f; omega] at this
      rw [m_fa, if_neg z]; exact this
  · have := (f3 (f - m_I c n) (show f - m_I c n < m_F c n by omega)).2.2
    rw [show c (m_pI c n) + (f - m_I c n) = f from by show m_I c n + _ = f; omega] at this
    rw [m_fa, if_neg (by omega)]; exact this
  · have := t3 g hg
    rw [Nat.zero_add] at this
    exact ⟨this.1, this.2.1⟩
  · have := i3 k hk
    rw [Nat.zero_add] at this
    exact this
theorem lm_v {L : Int32} {S : Nat → Prop} (h : lm L S) : ∃ l, L = nI l ∧ l ≤ 1000 := by
  obtain ⟨l, a, b, _⟩ := h; exact ⟨l, a, b⟩
section
variable {y_count y_place y_m y_pos y_wrong y_least y_top y_frames y_invalid y_sp y_labels y_active y_fuel y_outcome y_trappedAt y_used y_waits y_printed : Int32} {y_constant y_result : Int64} {y_bytes y_there y_types y_typeSig y_imports y_functions y_sig y_what y_typeAt y_localsAt y_globals y_globalKind y_globalFree y_entries y_entriesAt y_hasMemory y_memory y_nest y_kinds y_shape y_gives y_height y_dead y_labelAt y_labelHeight y_labelGives y_callModule y_callFunction y_callBack y_callBase y_callLabels y_waiting y_prints : Nat → Int32} {y_globalValue y_stack : Nat → Int64}
variable {c c0 : Nat → Nat} {n n0 s : Nat}
/-- one more candidate -/
theorem y_81 {post : Int32 → SY → Prop} {J : Int32 → Int32 → Int32 → Int32 → Int32 → Int32 → Int64 → Int32 → Int32 → Int32 → Int32 → Int32 → Int32 → Int32 → Int32 → Int32 → Int32 → Int64 → Int32 → Int32 → Int32 → (Nat → Int32) → (Nat → Int32) → (Nat → Int32) → (Nat → Int32) → (Nat → Int32) → (Nat → Int32) → (Nat → Int32) → (Nat → Int32) → (Nat → Int32) → (Nat → Int32) → (Nat → Int32) → (Nat → Int32) → (Nat → Int32) → (Nat → Int64) → (Nat → Int32) → (Nat → Int32) → (Nat → Int32) → (Nat → Int32) → (Nat → Int32) → (Nat → Int32) → (Nat → Int32) → (Nat → Int32) → (Nat → Int32) → (Nat → Int32) → (Nat → Int64) → (Nat → Int32) → (Nat → Int32) → (Nat → Int32) → (Nat → Int32) → (Nat → Int32) → (Nat → Int32) → (Nat → Int32) → (Nat → Int32) → (Nat → Int32) → (Nat → Int32) → Prop} {x1 : Int32} (f z : Nat) (hz : z ≤ 1000) (S : Nat → Prop) (hL : lm y_place S) (S' : Nat → Prop) (hS : ∀ x, S' x ↔ S x ∨ (z < 1000 ∧ x = z)) (h : ∀ PL, lm PL S' → J (nI (f + 1)) y_count PL y_m y_pos y_wrong y_constant y_least y_top y_frames y_invalid y_sp y_labels y_active y_fuel y_outcome y_trappedAt y_result y_used y_waits y_printed y_bytes y_there y_types y_typeSig y_imports y_functions y_sig y_what y_typeAt y_localsAt y_globals y_globalKind y_globalFree y_globalValue y_entries y_entriesAt y_hasMemory y_memory y_nest y_kinds y_shape y_gives y_height y_dead y_stack y_labelAt y_labelHeight y_labelGives y_callModule y_callFunction y_callBack y_callBase y_callLabels y_waiting y_prints) : wY_load_81 post J x1 (nI f) (nI z) y_count y_place y_m y_pos y_wrong y_constant y_least y_top y_frames y_invalid y_sp y_labels y_active y_fuel y_outcome y_trappedAt y_result y_used y_waits y_printed y_bytes y_there y_types y_typeSig y_imports y_functions y_sig y_what y_typeAt y_localsAt y_globals y_globalKind y_globalFree y_globalValue y_entries y_entriesAt y_hasMemory y_memory y_nest y_kinds y_shape y_gives y_height y_dead y_stack y_labelAt y_labelHeight y_labelGives y_callModule y_callFunction y_callBack y_callBase y_callLabels y_waiting y_prints := by
  obtain ⟨l, e, hl, hd, hf⟩ := hL
  subst e
  refine pk_le l z (fun y => nm_r (nI_1 f) (h _ ⟨l, rfl, hl, ?_, fun x hx => ?_⟩)) (fun y => nm_r (nI_1 f) (h _ ⟨z, rfl, hz, ?_, fun x hx => ?_⟩))
  · exact hd.imp id (fun q => (hS l).mpr (Or.inl q))
  · rcases (hS x).mp hx with q | q
    · exact hf x q
    · omega
  · exact Or.inr ((hS z).mpr (Or.inr ⟨by omega, rfl⟩))
  · rcases (hS x).mp hx with q | q
    · have := hf x q; omega
    · omega
theorem y_48 {post : Int32 → SY → Prop} {P : Nat → Nat} (C : cy_ok y_count y_m y_bytes 2 c n) (mp : mp_ok c n) (W : yw_ok c n y_types y_typeSig y_functions y_sig y_localsAt y_globals y_globalKind y_globalFree y_hasMemory) (hib : ∀ f, m_I c n ≤ f → f < m_I c n + m_F c n → ib c n P 141 (m_bo c n f) [0]) (S : Nat → Prop) (x1 : Int32) :
    ∀ r f l (PL a : Int32) (k : Int64) (tp fr iv : Int32) (KI SH GI HE DE : Nat → Int32), f + r = m_I c n + m_F c n → m_I c n ≤ f → r < l → lm PL (fun x => S x ∨ m_Sb c n (m_I c n) f x) →
    (∀ PL a k tp fr iv KI SH GI HE DE, lm PL (fun x => S x ∨ m_Sb c n (m_I c n) (m_I c n + m_F c n) x) →
      ((1000 ≤ PL → (∃ n115 : Nat, wY_load_115 post x1 y_count y_m a (bb_w true) k y_least tp fr iv y_sp y_labels y_active y_fuel y_outcome y_trappedAt y_result y_used y_waits y_printed y_bytes y_there y_types y_typeSig y_imports y_functions y_sig y_what y_typeAt y_localsAt y_globals y_globalKind y_globalFree y_globalValue y_entries y_entriesAt y_hasMemory y_memory y_nest KI SH GI HE DE y_stack y_labelAt y_labelHeight y_labelGives y_callModule y_callFunction y_callBack y_callBase y_callLabels y_waiting y_prints n115 0 PL)) ∧ (¬ 1000 ≤ PL → post 2 (y_count, PL, y_m, a, bb_w true, k, y_least, tp, fr, iv, y_sp, y_labels, y_active, y_fuel, y_outcome, y_trappedAt, y_result, y_used, y_waits, y_printed, y_bytes, y_there, y_types, y_typeSig, y_imports, y_functions, y_sig, y_what, y_typeAt, y_localsAt, y_globals, y_globalKind, y_globalFree, y_globalValue, y_entries, y_entriesAt, y_hasMemory, y_memory, y_nest, KI, SH, GI, HE, DE, y_stack, y_labelAt, y_labelHeight, y_labelGives, y_callModule, y_callFunction, y_callBack, y_callBase, y_callLabels, y_waiting, y_prints)))) →
    wY_load_48 post x1 l (nI f) y_count PL y_m a (bb_w true) k y_least tp fr iv y_sp y_labels y_active y_fuel y_outcome y_trappedAt y_result y_used y_waits y_printed y_bytes y_there y_types y_typeSig y_imports y_functions y_sig y_what y_typeAt y_localsAt y_globals y_globalKind y_globalFree y_globalValue y_entries y_entriesAt y_hasMemory y_memory y_nest KI SH GI HE DE y_stack y_labelAt y_labelHeight y_labelGives y_callModule y_callFunction y_callBack y_callBase y_callLabels y_waiting y_prints := by
  obtain ⟨w1, w2, w3, w4, w5, w6, w7, w8⟩ := id W
  have hI := mp.2.2.1
  have hFn := mp.2.2.2.1
  intro r
  induction r with
  | zero =>
    intro f l PL a k tp fr iv KI SH GI HE DE hr hf1 hl hL h
    obtain ⟨l, rfl⟩ : ∃ j, l = j + 1 := ⟨l - 1, by omega⟩
    have : f = m_I c n + m_F c n := by omega
    subst this
    exact pk_le (m_I c n + m_F c n) (m_I c n + m_F c n) (fun _ => h PL a k tp fr iv KI SH GI HE DE hL) (fun z => absurd z (by omega)) w3 rfl
  | succ r ih =>
    intro f l PL a k tp fr iv KI SH GI HE DE hr hf1 hl hL h
    obtain ⟨l, rfl⟩ : ∃ j, l = j + 1 := ⟨l - 1, by omega⟩
    have hf2 : f < m_I c n + m_F c n := by omega
    have e14 : (14 : Int32) + nI f = nI (14 + f) := nI_add 14 f
    have es : y_sig ((14 : Int32) + nI f).toNatClampNeg = sg_i c (c 0) (m_ty c n) (m_fa c n f) := by rw [pk_cl (14 + f) e14]; exact w4 f hf2
    refine pk_le (m_I c n + m_F c n) f (fun z => absurd z (by omega)) (fun _ => ⟨pk_in (14 + f) 21 (by omega) e14, ?_⟩) w3 rfl
    have hSb : ∀ (r1 : Option Nat), (c (m_fa c n f) < c 0 → v_go c n f 141 (m_bo c n f) (v_0 c n f) = r1) → (¬ c (m_fa c n f) < c 0 → r1 = none) → (∀ w, r1 = some w → w < 1000) → ∀ x, (S x ∨ m_Sb c n (m_I c n) (f + 1) x) ↔ ((S x ∨ m_Sb c n (m_I c n) f x) ∨ (r1.getD 1000 < 1000 ∧ x = r1.getD 1000)) := by
      intro r1 h1 h2 h3 x
      constructor
      · rintro (q | ⟨g, q1, q2, q3, q4⟩)
        · exact Or.inl (Or.inl q)
        · by_cases z : g = f
          · subst z
            rw [h1 q3] at q4
            subst q4
            have := h3 x rfl
            exact Or.inr ⟨this, rfl⟩
          · exact Or.inl (Or.inr ⟨g, q1, by omega, q3, q4⟩)
      · rintro ((q | ⟨g, q1, q2, q3, q4⟩) | ⟨q1, q2⟩)
        · exact Or.inl q
        · exact Or.inr ⟨g, q1, by omega, q3, q4⟩
        · cases r1 with
          | none => exact absurd q1 (by show ¬ 1000 < 1000; omega)
          | some w =>
            have q2' : x = w := q2
            subst q2'
            by_cases z : c (m_fa c n f) < c 0
            · exact Or.inr ⟨f, hf1, by omega, z, h1 z⟩
            · exact nomatch (h2 z)
    by_cases z : c (m_fa c n f) < c 0
    · have es2 : y_sig ((14 : Int32) + nI f).toNatClampNeg = nI (sg c (m_ty c n (c (m_fa c n f)))) := by rw [es, sg_i, if_pos z]
      have hsg := sg_lt (mp.2.1 _ z).1
      refine br_t (by rw [es2]; exact nI_pos' (by omega)) ?_
      refine y_validate C mp W f hf1 hf2 z 141 (hib f hf1 hf2) (fun a k tp fr iv KI SH GI HE DE => ?_)
      have hw : ∀ w, v_go c n f 141 (m_bo c n f) (v_0 c n f) = some w → w < 1000 := by
        intro w hw
        have hn := C.2.1
        have key : ∀ k p (S : vt_St) T, ib c n P k p T → T = S.2.1.map (·.1) → v_go c n f k p S = some w → w < n := by
          intro k
          induction k with
          | zero => intro p S T _ _ q; exact nomatch q
          | succ k ih2 =>
            intro p S T hi hT q
            rw [v_go] at q
            by_cases hF : S.2.1 = []
            · rw [if_pos hF] at q; exact nomatch q
            rw [if_neg hF] at q
            obtain ⟨i1, i2, i3, i4, i5, i6, i7⟩ := hi
            cases hb : (v_st c n f p S).2.2 with
            | true => rw [if_pos hb] at q; have := Option.some.inj q; omega
            | false =>
              rw [if_neg (by rw [hb]; simp)] at q
              have hcod := v_codes hF hb
              by_cases hend : (v_st c n f p S).2.1 = []
              · have : v_go c n f k (nx c p) (v_st c n f p S) = none := by
                  cases k with
                  | zero => rfl
                  | succ k => rw [v_go, if_pos hend]
                rw [this] at q; exact nomatch q
              · refine ih2 (nx c p) _ (cod c p T) ?_ (by rw [hT]; exact hcod.symm) q
                subst hT
                unfold cod
                by_cases ho : 2 ≤ c p ∧ c p ≤ 4
                · rw [if_pos ho] at i7 ⊢; exact i7
                · rw [if_neg ho] at i7 ⊢
                  by_cases h5 : c p = 5
                  · rw [if_pos h5] at i7 ⊢; exact i7.2
                  · rw [if_neg h5] at i7 ⊢
                    by_cases h6 : c p = 6
                    · rw [if_pos h6] at i7 ⊢
                      rcases i7 with y | y
                      · exfalso
                        apply hend
                        rw [cod, if_neg ho, if_neg h5, if_pos h6, y] at hcod
                        exact List.map_eq_nil_iff.mp hcod
                      · exact y
                    · rw [if_neg h6] at i7 ⊢; exact i7
        have := key 141 _ _ _ (hib f hf1 hf2) rfl hw
        omega
      have hle : (v_go c n f 141 (m_bo c n f) (v_0 c n f)).getD 1000 ≤ 1000 := by
        cases e : v_go c n f 141 (m_bo c n f) (v_0 c n f) with
        | none => exact Nat.le_refl _
        | some w => have := hw w e; show w ≤ 1000; omega
      exact y_81 f _ hle _ hL (fun x => S x ∨ m_Sb c n (m_I c n) (f + 1) x) (hSb _ (fun _ => rfl) (fun y => absurd z y) hw) (fun PL hL' => ih (f + 1) l PL a k tp fr iv KI SH GI HE DE (by omega) (by omega) (by omega) hL' h)
    · have es2 : y_sig ((14 : Int32) + nI f).toNatClampNeg = -1 := by rw [es, sg_i, if_neg z]
      refine br_f (by rw [es2]; decide) ?_
      exact y_81 f 1000 (Nat.le_refl _) _ hL (fun x => S x ∨ m_Sb c n (m_I c n) (f + 1) x) (hSb none (fun y => absurd y z) (fun _ => rfl) (fun w q => nomatch q)) (fun PL hL' => ih (f + 1) l PL a k tp fr iv KI SH GI HE DE (by omega) (by omega) (by omega) hL' h)
theorem y_linked {post : Int32 → Prop} (mp : mp_ok c n) (s : Nat) (hs : s < 2) (l0 : Bool) (hl : y_there 0 = bb_i l0) (H0 : l0 = true → y_functions 0 = nI (m_I c0 n0 + m_F c0 n0) ∧ mp_ok c0 n0 ∧ (∀ f, f < m_I c0 n0 + m_F c0 n0 → c0 (m_fa c0 n0 f) < c0 0 ∧ y_sig f = nI (sg c0 (m_ty c0 n0 (c0 (m_fa c0 n0 f)))))) (k : Nat) (hk : k < m_I c n) (ht : c (m_im c n k) < c 0) (h256 : ∀ i, c i < 256)
    (eS : y_sig (14 + k) = sg_i c (c 0) (m_ty c n) (m_im c n k)) (eW : y_what (6 + k) = nI (c (m_im c n k + 1)))
    (h1 : lk_ok s l0 c n c0 n0 k → post 1) (h2 : ¬ lk_ok s l0 c n c0 n0 k → post 0) : wpY_linked post (y_count, y_place, y_m, y_pos, y_wrong, y_constant, y_least, y_top, y_frames, y_invalid, y_sp, y_labels, y_active, y_fuel, y_outcome, y_trappedAt, y_result, y_used, y_waits, y_printed, y_bytes, y_there, y_types, y_typeSig, y_imports, y_functions, y_sig, y_what, y_typeAt, y_localsAt, y_globals, y_globalKind, y_globalFree, y_globalValue, y_entries, y_entriesAt, y_hasMemory, y_memory, y_nest, y_kinds, y_shape, y_gives, y_height, y_dead, y_stack, y_labelAt, y_labelHeight, y_labelGives, y_callModule, y_callFunction, y_callBack, y_callBase, y_callLabels, y_waiting, y_prints) (nI s) (nI k) := by
  have hI := mp.2.2.1
  obtain ⟨t1, t2⟩ := mp.2.1 _ ht
  have hsg := sg_lt t1
  have bw := h256 (m_im c n k + 1)
  unfold lk_ok at h1 h2
  have e6 : (6 : Int32) + nI k = nI (6 + k) := nI_add 6 k
  have e14 : (14 : Int32) + nI k = nI (14 + k) := nI_add 14 k
  refine ⟨pk_in (6 + k) 9 (by omega) e6, nm_r (show y_what ((6 : Int32) + nI k).toNatClampNeg = nI (c (m_im c n k + 1)) from by rw [pk_cl (6 + k) e6]; exact eW) ⟨pk_in (14 + k) 21 (by omega) e14, nm_r (show y_sig ((14 : Int32) + nI k).toNatClampNeg = nI (sg c (m_ty c n (c (m_im c n k)))) from by rw [pk_cl (14 + k) e14, eS, sg_i, if_pos ht]) ?_⟩⟩
  generalize sg c (m_ty c n (c (m_im c n k))) = sv at *
  generalize c (m_im c n k + 1) = wh at *
  refine pk_eq wh 16 (fun z => ?_) (fun z => ?_)
  · rw [if_pos z] at h1 h2
    exact pk_eq sv 5 h1 h2
  · rw [if_neg z] at h1 h2
    refine pk_eq wh 17 (fun z2 => ?_) (fun z2 => ?_)
    · rw [if_pos z2] at h1 h2
      exact pk_eq sv 256 h1 h2
    · rw [if_neg z2] at h1 h2
      refine pk_eq s 1 (fun y => pk_le 7 wh (fun y1 => h2 (fun q => by omega)) (fun y1 => ?_)) (fun y => h2 (fun q => y q.1))
      cases l0 with
      | false => exact br_t hl (h2 (fun q => ff_t q.2.2.1))
      | true =>
        obtain ⟨f1, mp0, f2⟩ := H0 rfl
        have hI0 := mp0.2.2.1
        have hF0 := mp0.2.2.2.1
        refine br_f (fun q => absurd (hl.symm.trans q) (by decide)) ?_
        refine pk_le (m_I c0 n0 + m_F c0 n0) wh (fun y2 => h2 (fun q => by omega)) (fun y2 => ⟨pk_in wh 21 (by omega), ?_⟩) f1 rfl
        obtain ⟨g1, g2⟩ := f2 wh y2
        have hsg0 := sg_lt (mp0.2.1 _ g1).1
        refine pk_eq (sg c0 (m_ty c0 n0 (c0 (m_fa c0 n0 wh)))) sv (fun q => h1 ⟨y, y1, rfl, y2, q⟩) (fun q => h2 (fun r => q r.2.2.2.2)) (by rw [pk_cl wh]; exact g2) rfl
theorem y_115 {post : Int32 → SY → Prop} (hIM : y_imports 2 = nI (m_I c n)) (mp : mp_ok c n) (hs : s < 2) (hn : n ≤ 140) (l0 : Bool) (hl : y_there 0 = bb_i l0) (H0 : l0 = true → y_functions 0 = nI (m_I c0 n0 + m_F c0 n0) ∧ mp_ok c0 n0 ∧ (∀ f, f < m_I c0 n0 + m_F c0 n0 → c0 (m_fa c0 n0 f) < c0 0 ∧ y_sig f = nI (sg c0 (m_ty c0 n0 (c0 (m_fa c0 n0 f)))))) (hv : ∀ k, k < m_I c n → c (m_im c n k) < c 0) (h256 : ∀ i, c i < 256)
    (hK : ∀ k, k < m_I c n → y_sig (14 + k) = sg_i c (c 0) (m_ty c n) (m_im c n k) ∧ y_typeAt (14 + k) = nI (m_im c n k) ∧ y_what (6 + k) = nI (c (m_im c n k + 1)))
    (h3 : ∀ k, k < m_I c n → ¬ lk_ok s l0 c n c0 n0 k → (∀ j, j < k → lk_ok s l0 c n c0 n0 j) → post 3 (y_count, nI (m_im c n k + 1), y_m, y_pos, y_wrong, y_constant, y_least, y_top, y_frames, y_invalid, y_sp, y_labels, y_active, y_fuel, y_outcome, y_trappedAt, y_result, y_used, y_waits, y_printed, y_bytes, y_there, y_types, y_typeSig, y_imports, y_functions, y_sig, y_what, y_typeAt, y_localsAt, y_globals, y_globalKind, y_globalFree, y_globalValue, y_entries, y_entriesAt, y_hasMemory, y_memory, y_nest, y_kinds, y_shape, y_gives, y_height, y_dead, y_stack, y_labelAt, y_labelHeight, y_labelGives, y_callModule, y_callFunction, y_callBack, y_callBase, y_callLabels, y_waiting, y_prints))
    (h4 : (∀ k, k < m_I c n → lk_ok s l0 c n c0 n0 k) → ∃ n164, wY_load_164 post (nI s) y_count (-1) y_m y_pos y_wrong y_constant y_least y_top y_frames y_invalid y_sp y_labels y_active y_fuel y_outcome y_trappedAt y_result y_used y_waits y_printed n164 0 y_bytes y_there y_types y_typeSig y_imports y_functions y_sig y_what y_typeAt y_localsAt y_globals y_globalKind y_globalFree y_globalValue y_entries y_entriesAt y_hasMemory y_memory y_nest y_kinds y_shape y_gives y_height y_dead y_stack y_labelAt y_labelHeight y_labelGives y_callModule y_callFunction y_callBack y_callBase y_callLabels y_waiting y_prints) :
    ∀ r i l (PL : Int32), i + r = m_I c n → r < l → (∀ j, j < i → lk_ok s l0 c n c0 n0 j) → wY_load_115 post (nI s) y_count y_m y_pos y_wrong y_constant y_least y_top y_frames y_invalid y_sp y_labels y_active y_fuel y_outcome y_trappedAt y_result y_used y_waits y_printed y_bytes y_there y_types y_typeSig y_imports y_functions y_sig y_what y_typeAt y_localsAt y_globals y_globalKind y_globalFree y_globalValue y_entries y_entriesAt y_hasMemory y_memory y_nest y_kinds y_shape y_gives y_height y_dead y_stack y_labelAt y_labelHeight y_labelGives y_callModule y_callFunction y_callBack y_callBase y_callLabels y_waiting y_prints l (nI i) PL := by
  have hI := mp.2.2.1
  intro r
  induction r with
  | zero =>
    intro i l PL hr hl2 hj
    obtain ⟨l, rfl⟩ : ∃ j, l = j + 1 := ⟨l - 1, by omega⟩
    exact pk_le (m_I c n) i (fun _ => h4 (fun k hk => hj k (by omega))) (fun z => absurd z (by omega)) hIM rfl
  | succ r ih =>
    intro i l PL hr hl2 hj
    obtain ⟨l, rfl⟩ : ∃ j, l = j + 1 := ⟨l - 1, by omega⟩
    have hi : i < m_I c n := by omega
    obtain ⟨k1, k2, k3⟩ := hK i hi
    have e14 : (14 : Int32) + nI i = nI (14 + i) := nI_add 14 i
    refine pk_le (m_I c n) i (fun z => absurd z (by omega)) (fun _ => ⟨pk_in (14 + i) 21 (by omega) e14, nm_r (show y_typeAt ((14 : Int32) + nI i).toNatClampNeg + 1 = nI (m_im c n i + 1) from by rw [pk_cl (14 + i) e14, k2, nI_1]) ?_⟩) hIM rfl
    refine y_linked (c0 := c0) (n0 := n0) mp s hs l0 hl H0 i hi (hv i hi) h256 k1 k3 (fun z => br_f (by decide) (nm_r (nI_1 i) ?_)) (fun z => br_t rfl (h3 i hi z hj))
    refine ih (i + 1) l _ (by omega) (by omega) (fun j hj2 => ?_)
    rcases Nat.lt_or_ge j i with q | q
    · exact hj j q
    · rw [show j = i by omega]; exact z
theorem y_164 {post : Int32 → SY → Prop} (hs : s < 2) (hn : y_count = nI n) (h140 : n ≤ 140) (h256 : ∀ i, c i < 256) (hD : ∀ i, i < n → y_bytes (280 + i) = nI (c i))
    (h : ∀ BY k L TY TS IM FU SI TA LA WH NE GL GK GF GV EN EA H M TH, fr_i (140 * s) (140 * s + 140) y_bytes BY → (∀ i, i < n → BY (140 * s + i) = nI (c i)) →
      yr_fr s y_types y_typeSig y_imports y_functions y_sig y_what y_typeAt y_localsAt y_globals y_globalKind y_globalFree y_globalValue y_entries y_entriesAt y_hasMemory y_memory TY TS IM FU SI WH TA LA GL GK GF GV EN EA H M →
      ((rd_V c n).1 = true → ry_ok s c n L TY TS IM FU SI WH TA LA GL GK GF GV EN EA H M) → TH s = bb_i true → (s = 0 → TH 1 = bb_i false) → (s = 1 → TH 0 = y_there 0) →
      post 0 (y_count, y_place, nI s, nI (rd_V c n).2, bb_w (rd_V c n).1, k, L, y_top, y_frames, y_invalid, y_sp, y_labels, y_active, y_fuel, y_outcome, y_trappedAt, y_result, y_used, y_waits, y_printed, BY, TH, TY, TS, IM, FU, SI, WH, TA, LA, GL, GK, GF, GV, EN, EA, H, M, NE, y_kinds, y_shape, y_gives, y_height, y_dead, y_stack, y_labelAt, y_labelHeight, y_labelGives, y_callModule, y_callFunction, y_callBack, y_callBase, y_callLabels, y_waiting, y_prints)) :
    ∀ r i l (BY : Nat → Int32), i + r = n → r < l → fr_i (140 * s) (140 * s + 140) y_bytes BY → (∀ j, j < i → BY (140 * s + j) = nI (c j)) → wY_load_164 post (nI s) y_count y_place y_m y_pos y_wrong y_constant y_least y_top y_frames y_invalid y_sp y_labels y_active y_fuel y_outcome y_trappedAt y_result y_used y_waits y_printed l (nI i) BY y_there y_types y_typeSig y_imports y_functions y_sig y_what y_typeAt y_localsAt y_globals y_globalKind y_globalFree y_globalValue y_entries y_entriesAt y_hasMemory y_memory y_nest y_kinds y_shape y_gives y_height y_dead y_stack y_labelAt y_labelHeight y_labelGives y_callModule y_callFunction y_callBack y_callBase y_callLabels y_waiting y_prints := by
  intro r
  induction r with
  | zero =>
    intro i l BY hi hl hf hb
    obtain ⟨l, rfl⟩ : ∃ j, l = j + 1 := ⟨l - 1, by omega⟩
    have hi' : i = n := by omega
    subst hi'
    refine pk_le i i (fun _ => ?_) (fun z => absurd z (by omega)) hn rfl
    refine y_read (m := s) (c := c) (n := i) ⟨hn, h140, rfl, by omega, hb, h256⟩ (fun k L TY TS IM FU SI TA LA WH NE GL GK GF GV EN EA H M f1 f2 f3 f4 f5 => ⟨pk_in s 3 (by omega), nm_r (show upd y_there (nI s).toNatClampNeg (vp_nar .boolean 1) = upd y_there s (bb_i true) from by rw [pk_cl s]; rfl) ?_⟩)
    refine pk_eq s 0 (fun z => nm_r (show upd (upd y_there s (bb_i true)) 1 (vp_nar .boolean 0) = upd (upd y_there s (bb_i true)) 1 (bb_i false) from rfl) ?_) (fun z => ?_)
    · exact h BY k L TY TS IM FU SI TA LA WH NE GL GK GF GV EN EA H M _ hf hb ⟨f1, f2, f3, f4⟩ f5 (by rw [pk_un (by omega), pk_us]) (fun _ => pk_us) (fun y => absurd y (by omega))
    · exact h BY k L TY TS IM FU SI TA LA WH NE GL GK GF GV EN EA H M _ hf hb ⟨f1, f2, f3, f4⟩ f5 pk_us (fun y => absurd y z) (fun _ => pk_un (by omega))
  | succ r ih =>
    intro i l BY hi hl hf hb
    obtain ⟨l, rfl⟩ : ∃ j, l = j + 1 := ⟨l - 1, by omega⟩
    have e1 : (280 : Int32) + nI i = nI (280 + i) := nI_add 280 i
    have e2 : 140 * nI s + nI i = nI (140 * s + i) := by rw [show (140 : Int32) = nI 140 from rfl, pk_mul, nI_add]
    have hci := h256 i
    refine pk_le n i (fun z => absurd z (by omega)) (fun _ => ⟨pk_in (280 + i) 420 (by omega) e1, pk_in (140 * s + i) 420 (by omega) e2, nm_r (show upd BY (140 * nI s + nI i).toNatClampNeg (vp_nar .short (BY ((280 : Int32) + nI i).toNatClampNeg)) = upd BY (140 * s + i) (nI (c i)) from ?_) (nm_r (nI_1 i) ?_)⟩) hn rfl
    · rw [pk_cl (140 * s + i) e2, pk_cl (280 + i) e1, hf (280 + i) (by omega), hD i (by omega), nr_s' (by omega)]
    · refine ih (i + 1) l _ (by omega) (by omega) (fun j hj => (pk_un (by omega)).trans (hf j hj)) (fun j hj => ?_)
      by_cases z : j = i
      · subst z; exact pk_us
      · rw [pk_un (by omega)]; exact hb j (by omega)
end
end
section
/-! 35: the reference's load, as a whole; the class's load -/
/-- slot s has the same parts in both -/
def yg_s (s : Nat) (TY TS IM FU SI WH TA LA GL GK GF : Nat → Int32) (GV : Nat → Int64) (EN EA H M : Nat → Int32) (TY' TS' IM' FU' SI' WH' TA' LA' GL' GK' GF' : Nat → Int32) (GV' : Nat → Int64) (EN' EA' H' M' : Nat → Int32) : Prop :=
  TY' s = TY s ∧
  (∀ j, 4 * s ≤ j → j < 4 * s + 4 → TS' j = TS j) ∧
  IM' s = IM s ∧
  FU' s = FU s ∧
  (∀ j, 7 * s ≤ j → j < 7 * s + 7 → SI' j = SI j) ∧
  (∀ j, 3 * s ≤ j → j < 3 * s + 3 → WH' j = WH j) ∧
  (∀ j, 7 * s ≤ j → j < 7 * s + 7 → TA' j = TA j) ∧
  (∀ j, 7 * s ≤ j → j < 7 * s + 7 → LA' j = LA j) ∧
  GL' s = GL s ∧
  (∀ j, 3 * s ≤ j → j < 3 * s + 3 → GK' j = GK j) ∧
  (∀ j, 3 * s ≤ j → j < 3 * s + 3 → GF' j = GF j) ∧
  (∀ j, 3 * s ≤ j → j < 3 * s + 3 → GV' j = GV j) ∧
  EN' s = EN s ∧
  EA' s = EA s ∧
  H' s = H s ∧
  (∀ j, 48 * s ≤ j → j < 48 * s + 48 → M' j = M j)
theorem yg_r {s : Nat} {TY TS IM FU SI WH TA LA GL GK GF : Nat → Int32} {GV : Nat → Int64} {EN EA H M : Nat → Int32} : yg_s s TY TS IM FU SI WH TA LA GL GK GF GV EN EA H M TY TS IM FU SI WH TA LA GL GK GF GV EN EA H M := ⟨rfl, fun _ _ _ => rfl, rfl, rfl, fun _ _ _ => rfl, fun _ _ _ => rfl, fun _ _ _ => rfl, fun _ _ _ => rfl, rfl, fun _ _ _ => rfl, fun _ _ _ => rfl, fun _ _ _ => rfl, rfl, rfl, rfl, fun _ _ _ => rfl⟩
theorem yg_t {s : Nat} {TY TS IM FU SI WH TA LA GL GK GF : Nat → Int32} {GV : Nat → Int64} {EN EA H M : Nat → Int32} {TY' TS' IM' FU' SI' WH' TA' LA' GL' GK' GF' : Nat → Int32} {GV' : Nat → Int64} {EN' EA' H' M' : Nat → Int32} {TY2 TS2 IM2 FU2 SI2 WH2 TA2 LA2 GL2 GK2 GF2 : Nat → Int32} {GV2 : Nat → Int64} {EN2 EA2 H2 M2 : Nat → Int32} (h : yg_s s TY TS IM FU SI WH TA LA GL GK GF GV EN EA H M TY' TS' IM' FU' SI' WH' TA' LA' GL' GK' GF' GV' EN' EA' H' M') (h2 : yg_s s TY' TS' IM' FU' SI' WH' TA' LA' GL' GK' GF' GV' EN' EA' H' M' TY2 TS2 IM2 FU2 SI2 WH2 TA2 LA2 GL2 GK2 GF2 GV2 EN2 EA2 H2 M2) : yg_s s TY TS IM FU SI WH TA LA GL GK GF GV EN EA H M TY2 TS2 IM2 FU2 SI2 WH2 TA2 LA2 GL2 GK2 GF2 GV2 EN2 EA2 H2 M2 := by
  obtain ⟨e0, e1, e2, e3, e4, e5, e6, e7, e8, e9, e10, e11, e12, e13, e14, e15⟩ := h
  obtain ⟨g0, g1, g2, g3, g4, g5, g6, g7, g8, g9, g10, g11, g12, g13, g14, g15⟩ := h2
  exact ⟨g0.trans e0, fun j x y => (g1 j x y).trans (e1 j x y), g2.trans e2, g3.trans e3, fun j x y => (g4 j x y).trans (e4 j x y), fun j x y => (g5 j x y).trans (e5 j x y), fun j x y => (g6 j x y).trans (e6 j x y), fun j x y => (g7 j x y).trans (e7 j x y), g8.trans e8, fun j x y => (g9 j x y).trans (e9 j x y), fun j x y => (g10 j x y).trans (e10 j x y), fun j x y => (g11 j x y).trans (e11 j x y), g12.trans e12, g13.trans e13, g14.trans e14, fun j x y => (g15 j x y).trans (e15 j x y)⟩
theorem yg_of {s m : Nat} {TY TS IM FU SI WH TA LA GL GK GF : Nat → Int32} {GV : Nat → Int64} {EN EA H M : Nat → Int32} {TY' TS' IM' FU' SI' WH' TA' LA' GL' GK' GF' : Nat → Int32} {GV' : Nat → Int64} {EN' EA' H' M' : Nat → Int32} (h : yr_fr m TY TS IM FU SI WH TA LA GL GK GF GV EN EA H M TY' TS' IM' FU' SI' WH' TA' LA' GL' GK' GF' GV' EN' EA' H' M') (hs : s ≠ m) : yg_s s TY TS IM FU SI WH TA LA GL GK GF GV EN EA H M TY' TS' IM' FU' SI' WH' TA' LA' GL' GK' GF' GV' EN' EA' H' M' := by
  obtain ⟨a1, a2, ⟨b1, b2, b3, b4, b5, b6⟩, ⟨c1, c2, c3, c4, c5, c6, c7, c8⟩⟩ := h
  have hd : ∀ w j, w * s ≤ j → j < w * s + w → ¬ (w * m ≤ j ∧ j < w * m + w) := by
    intro w j h1 h2 ⟨h3, h4⟩
    rcases Nat.lt_or_ge s m with q | q
    · have : w * s + w ≤ w * m := by rw [← Nat.mul_succ]; exact Nat.mul_le_mul_left w q
      omega
    · have : w * m + w ≤ w * s := by rw [← Nat.mul_succ]; exact Nat.mul_le_mul_left w (by omega)
      omega
  exact ⟨a1 s hs, fun j x y => a2 j (hd 4 j x y), b1 s hs, b2 s hs, fun j x y => b3 j (hd 7 j x y), fun j x y => b4 j (hd 3 j x y), fun j x y => b5 j (hd 7 j x y), fun j x y => b6 j (hd 7 j x y), c1 s hs, fun j x y => c2 j (hd 3 j x y), fun j x y => c3 j (hd 3 j x y), fun j x y => c4 j (hd 3 j x y), c5 s hs, c6 s hs, c7 s hs, fun j x y => c8 j (hd 48 j x y)⟩
section
variable {y_count y_place y_m y_pos y_wrong y_least y_top y_frames y_invalid y_sp y_labels y_active y_fuel y_outcome y_trappedAt y_used y_waits y_printed : Int32} {y_constant y_result : Int64} {y_bytes y_there y_types y_typeSig y_imports y_functions y_sig y_what y_typeAt y_localsAt y_globals y_globalKind y_globalFree y_entries y_entriesAt y_hasMemory y_memory y_nest y_kinds y_shape y_gives y_height y_dead y_labelAt y_labelHeight y_labelGives y_callModule y_callFunction y_callBack y_callBase y_callLabels y_waiting y_prints : Nat → Int32} {y_globalValue y_stack : Nat → Int64}
variable {c c0 : Nat → Nat} {n n0 s : Nat}
theorem y_load {post : Int32 → SY → Prop} (hn : y_count = nI n) (h140 : n ≤ 140) (h256 : ∀ i, c i < 256) (hD : ∀ i, i < n → y_bytes (280 + i) = nI (c i)) (hs : s < 2) (l0 : Bool) (hl : y_there 0 = bb_i l0)
    (H0 : l0 = true → y_functions 0 = nI (m_I c0 n0 + m_F c0 n0) ∧ mp_ok c0 n0 ∧ (∀ f, f < m_I c0 n0 + m_F c0 n0 → c0 (m_fa c0 n0 f) < c0 0 ∧ y_sig f = nI (sg c0 (m_ty c0 n0 (c0 (m_fa c0 n0 f))))))
    (h1 : (rd_V c n).1 = false → ∀ j1 j2 j3 jk j4 j5 j6 j7 NE KI SH GI HE DE TY TS IM FU SI WH TA LA GL GK GF GV EN EA H M, (∀ s', s' < 2 → yg_s s' y_types y_typeSig y_imports y_functions y_sig y_what y_typeAt y_localsAt y_globals y_globalKind y_globalFree y_globalValue y_entries y_entriesAt y_hasMemory y_memory TY TS IM FU SI WH TA LA GL GK GF GV EN EA H M) → post 1 (y_count, nI (rd_V c n).2, j1, j2, j3, jk, j4, j5, j6, j7, y_sp, y_labels, y_active, y_fuel, y_outcome, y_trappedAt, y_result, y_used, y_waits, y_printed, y_bytes, y_there, TY, TS, IM, FU, SI, WH, TA, LA, GL, GK, GF, GV, EN, EA, H, M, NE, KI, SH, GI, HE, DE, y_stack, y_labelAt, y_labelHeight, y_labelGives, y_callModule, y_callFunction, y_callBack, y_callBase, y_callLabels, y_waiting, y_prints))
    (h2 : (rd_V c n).1 = true → ∀ l, l < 1000 → lm (nI l) (fun x => m_Sr c n x ∨ m_Sb c n (m_I c n) (m_I c n + m_F c n) x) → ∀ j1 j2 j3 jk j4 j5 j6 j7 NE KI SH GI HE DE TY TS IM FU SI WH TA LA GL GK GF GV EN EA H M, (∀ s', s' < 2 → yg_s s' y_types y_typeSig y_imports y_functions y_sig y_what y_typeAt y_localsAt y_globals y_globalKind y_globalFree y_globalValue y_entries y_entriesAt y_hasMemory y_memory TY TS IM FU SI WH TA LA GL GK GF GV EN EA H M) → post 2 (y_count, nI l, j1, j2, j3, jk, j4, j5, j6, j7, y_sp, y_labels, y_active, y_fuel, y_outcome, y_trappedAt, y_result, y_used, y_waits, y_printed, y_bytes, y_there, TY, TS, IM, FU, SI, WH, TA, LA, GL, GK, GF, GV, EN, EA, H, M, NE, KI, SH, GI, HE, DE, y_stack, y_labelAt, y_labelHeight, y_labelGives, y_callModule, y_callFunction, y_callBack, y_callBase, y_callLabels, y_waiting, y_prints))
    (h3 : (rd_V c n).1 = true → (∀ x, ¬ (m_Sr c n x ∨ m_Sb c n (m_I c n) (m_I c n + m_F c n) x)) → ∀ k, k < m_I c n → ¬ lk_ok s l0 c n c0 n0 k → (∀ j, j < k → lk_ok s l0 c n c0 n0 j) → ∀ j1 j2 j3 jk j4 j5 j6 j7 NE KI SH GI HE DE TY TS IM FU SI WH TA LA GL GK GF GV EN EA H M, (∀ s', s' < 2 → yg_s s' y_types y_typeSig y_imports y_functions y_sig y_what y_typeAt y_localsAt y_globals y_globalKind y_globalFree y_globalValue y_entries y_entriesAt y_hasMemory y_memory TY TS IM FU SI WH TA LA GL GK GF GV EN EA H M) → post 3 (y_count, nI (m_im c n k + 1), j1, j2, j3, jk, j4, j5, j6, j7, y_sp, y_labels, y_active, y_fuel, y_outcome, y_trappedAt, y_result, y_used, y_waits, y_printed, y_bytes, y_there, TY, TS, IM, FU, SI, WH, TA, LA, GL, GK, GF, GV, EN, EA, H, M, NE, KI, SH, GI, HE, DE, y_stack, y_labelAt, y_labelHeight, y_labelGives, y_callModule, y_callFunction, y_callBack, y_callBase, y_callLabels, y_waiting, y_prints))
    (h4 : (rd_V c n).1 = true → (∀ x, ¬ (m_Sr c n x ∨ m_Sb c n (m_I c n) (m_I c n + m_F c n) x)) → (∀ k, k < m_I c n → lk_ok s l0 c n c0 n0 k) → ∀ j1 j2 j3 jk j4 j5 j6 j7 NE KI SH GI HE DE TY TS IM FU SI WH TA LA GL GK GF GV EN EA H M BY TH, (∀ s', s' < 2 → s' ≠ s → yg_s s' y_types y_typeSig y_imports y_functions y_sig y_what y_typeAt y_localsAt y_globals y_globalKind y_globalFree y_globalValue y_entries y_entriesAt y_hasMemory y_memory TY TS IM FU SI WH TA LA GL GK GF GV EN EA H M) → fr_i (140 * s) (140 * s + 140) y_bytes BY → (∀ i, i < n → BY (140 * s + i) = nI (c i)) →
      ry_ok s c n j4 TY TS IM FU SI WH TA LA GL GK GF GV EN EA H M → TH s = bb_i true → (s = 0 → TH 1 = bb_i false) → (s = 1 → TH 0 = y_there 0) → post 0 (y_count, -1, j1, j2, j3, jk, j4, j5, j6, j7, y_sp, y_labels, y_active, y_fuel, y_outcome, y_trappedAt, y_result, y_used, y_waits, y_printed, BY, TH, TY, TS, IM, FU, SI, WH, TA, LA, GL, GK, GF, GV, EN, EA, H, M, NE, KI, SH, GI, HE, DE, y_stack, y_labelAt, y_labelHeight, y_labelGives, y_callModule, y_callFunction, y_callBack, y_callBase, y_callLabels, y_waiting, y_prints)) :
    wpY_load post (y_count, y_place, y_m, y_pos, y_wrong, y_constant, y_least, y_top, y_frames, y_invalid, y_sp, y_labels, y_active, y_fuel, y_outcome, y_trappedAt, y_result, y_used, y_waits, y_printed, y_bytes, y_there, y_types, y_typeSig, y_imports, y_functions, y_sig, y_what, y_typeAt, y_localsAt, y_globals, y_globalKind, y_globalFree, y_globalValue, y_entries, y_entriesAt, y_hasMemory, y_memory, y_nest, y_kinds, y_shape, y_gives, y_height, y_dead, y_stack, y_labelAt, y_labelHeight, y_labelGives, y_callModule, y_callFunction, y_callBack, y_callBase, y_callLabels, y_waiting, y_prints) (nI s) := by
  refine pk_lt s 0 (fun z => absurd z (by omega)) (fun _ => pk_le s 1 (fun _ => ?_) (fun z => absurd z (by omega)))
  have C2 : cy_ok y_count (nI 2) y_bytes 2 c n := ⟨hn, h140, rfl, by omega, hD, h256⟩
  refine y_read (m := 2) (c := c) (n := n) C2 (fun k L TY TS IM FU SI TA LA WH NE GL GK GF GV EN EA H M f1 f2 f3 f4 f5 => ?_)
  have hfr : yr_fr 2 y_types y_typeSig y_imports y_functions y_sig y_what y_typeAt y_localsAt y_globals y_globalKind y_globalFree y_globalValue y_entries y_entriesAt y_hasMemory y_memory TY TS IM FU SI WH TA LA GL GK GF GV EN EA H M := ⟨f1, f2, f3, f4⟩
  have hyg : ∀ s', s' < 2 → yg_s s' y_types y_typeSig y_imports y_functions y_sig y_what y_typeAt y_localsAt y_globals y_globalKind y_globalFree y_globalValue y_entries y_entriesAt y_hasMemory y_memory TY TS IM FU SI WH TA LA GL GK GF GV EN EA H M := fun s' h' => yg_of hfr (by omega)
  cases hok : (rd_V c n).1 with
  | false =>
    refine br_f bw_f ?_
    have := h1 hok (nI 2) (nI (rd_V c n).2) (bb_w (rd_V c n).1) k L y_top y_frames y_invalid NE y_kinds y_shape y_gives y_height y_dead TY TS IM FU SI WH TA LA GL GK GF GV EN EA H M hyg
    rw [hok] at this
    exact this
  | true =>
    have R := f5 hok
    obtain ⟨mp, e0, e1, e2, e3, e4⟩ := mp_of hok
    obtain ⟨W, hIM, hK, hL⟩ := yw_of hok R
    have hib := fun f hf hf2 => m_ib h140 hok (fun _ => 0) f hf hf2
    refine br_t rfl (nm_r hIM ⟨m_F c n + 1, ?_⟩)
    refine y_48 (P := m_P c n (fun _ => 0)) C2 mp W hib (m_Sr c n) (nI s) (m_F c n) (m_I c n) _ L _ _ _ _ _ _ _ _ _ _ rfl (Nat.le_refl _) (by omega) (lm_ext hL (fun x => ⟨Or.inl, fun q => q.elim id (fun ⟨f, a, b, _⟩ => absurd a (by omega))⟩)) (fun PL a k tp fr iv KI SH GI HE DE hPL => ?_)
    obtain ⟨l, rfl, hl1, hd, hf⟩ := id hPL
    refine pk_le 1000 l (fun z => ⟨m_I c n + 1, ?_⟩) (fun z => h2 hok l z hPL _ _ _ _ _ _ _ _ _ _ _ _ _ _ TY TS IM FU SI WH TA LA GL GK GF GV EN EA H M hyg)
    have hno : ∀ x, ¬ (m_Sr c n x ∨ m_Sb c n (m_I c n) (m_I c n + m_F c n) x) := by
      intro x hx
      have := hf x hx
      have hx2 : x < n + 2 := by
        rcases hx with hx | ⟨f, a1, a2, a3, a4⟩
        · rcases hx with ((⟨g, q1, q2, q3⟩ | ⟨g, q1, q2, q3⟩) | ⟨i, q1, q2, q3⟩) | ⟨q0, g, q1, q2, q3⟩
          · have := ((rd_G_it (rd_G_J c n) g).1 (true, m_pI c n + 1) e4).2; omega
          · have := ((rd_G_it (rd_G_F c n) g).1 (true, m_pF c n + 1) e2).2; omega
          · have hE := mp.2.2.2.2.2.2.2.2.2.2
            unfold tl_m at hE
            omega
          · have hE := mp.2.2.2.2.2.2.2.2.2.2
            have := ((rd_G_it (rd_G_D c n) g).1 (true, tl_m c n (m_pG c n) + 2))
            by_cases hq : tl_m c n (m_pG c n) + 2 ≤ n
            · have := (this hq).2; omega
            · cases g with
              | zero => have q2' : x = tl_m c n (m_pG c n) + 2 := q2; omega
              | succ g =>
                exfalso
                have hbig : ∀ r p, n < p → (rd_it (rd_D c n) r (false, p)).2 = p := by
                  intro r p hp
                  rw [(rd_G_it (rd_G_D c n) r).2 (false, p) rfl]
                have ef : rd_D c n (true, tl_m c n (m_pG c n) + 2) = (false, tl_m c n (m_pG c n) + 2) := by
                  unfold rd_D
                  have e : rd_tk c n 0 255 (true, tl_m c n (m_pG c n) + 2) = (false, tl_m c n (m_pG c n) + 2) := rd_tk_n (by omega)
                  rw [e, rd_tk_f rfl, rd_tv_f rfl]; rfl
                have hx3 : x = tl_m c n (m_pG c n) + 2 := by rw [q2, rd_it, ef]; exact hbig _ _ (by omega)
                omega
        · have hfa := mp.2.2.2.2.2.1 f a1 a2
          have ef : m_fa c n f = m_fn c n (f - m_I c n) := if_neg (by omega)
          have a := rd_it_ok (rd_G_F c n) _ _ e1 (f - m_I c n + 1) (by omega)
          rw [rd_it_s] at a
          have b := ((rd_G_it (rd_G_F c n) (f - m_I c n)).1 (true, m_pF c n + 1) e2).2
          obtain ⟨v1, v2, v3, v4⟩ := rd_F_body h140 b a
          have hbo : m_bo c n f = (rd_it (rd_F c n) (f - m_I c n) (true, m_pF c n + 1)).2 + 2 + c ((rd_it (rd_F c n) (f - m_I c n) (true, m_pF c n + 1)).2 + 1) := by rw [m_bo, ef]; rfl
          rw [hbo] at a4
          have := vgo_in 141 _ [(0, 0, 0)] _ _ v2 (by simp) v1 (by simp [v_0]) (by simp [v_0]) a4
          have := ((rd_G_F c n).1 _ b).2
          omega
      omega
    have hv : ∀ k, k < m_I c n → c (m_im c n k) < c 0 := by
      intro k hk
      refine Classical.byContradiction (fun q => hno _ (Or.inl (Or.inl (Or.inl (Or.inl ⟨k, hk, rfl, ?_⟩)))))
      show c 0 ≤ c (m_im c n k)
      omega
    refine y_115 (c0 := c0) (n0 := n0) hIM mp hs h140 l0 hl ?_ hv h256 hK (fun k hk z2 z3 => h3 hok hno k hk z2 z3 _ _ _ _ _ _ _ _ _ _ _ _ _ _ TY TS IM FU SI WH TA LA GL GK GF GV EN EA H M hyg) (fun hall => ⟨n + 1, ?_⟩) (m_I c n) 0 _ _ (by omega) (by omega) (fun j hj => absurd hj (by omega))
    · intro q
      obtain ⟨g1, g2, g3⟩ := H0 q
      have hI0 := g2.2.2.1
      have hF0 := g2.2.2.2.1
      obtain ⟨y1, y2, y3, y4, y5, _⟩ := hyg 0 (by omega)
      exact ⟨y4.trans g1, g2, fun f hf => ⟨(g3 f hf).1, (y5 f (by omega) (by omega)).trans (g3 f hf).2⟩⟩
    · refine y_164 (c := c) (n := n) hs hn h140 h256 hD (fun BY k' L' TY' TS' IM' FU' SI' TA' LA' WH' NE' GL' GK' GF' GV' EN' EA' H' M' TH b1 b2 b3 b4 b5 b6 b7 => ?_) n 0 _ y_bytes (by omega) (by omega) (fun _ _ => rfl) (fun j hj => absurd hj (by omega))
      exact h4 hok hno hall (nI s) _ _ k' L' _ _ _ NE' _ _ _ _ _ TY' TS' IM' FU' SI' WH' TA' LA' GL' GK' GF' GV' EN' EA' H' M' BY TH (fun s' h' hne => yg_t (hyg s' h') (yg_of b3 hne)) b1 b2 (b4 hok) b5 b6 b7
end
end
section
/-! 36: the class's load, as a whole; both find the same fault -/
abbrev xd (u : SX) (z0 : Int32) (z1 : Int32) (z2 : Int32) (z3 : Int32) (z4 : Nat → Int32) (z5 : Nat → Int32) (z6 : Nat → Int32) (z7 : Nat → Int32) (z8 : Nat → Int64) (z9 : Nat → Int32) (z10 : Nat → Int32) (z11 : Nat → Int32) (z12 : Nat → Int32) (z13 : Nat → Int32) (z14 : Nat → Int32) : SX := (gx_byteCount u, z0, z1, z2, z3, gx_valueCount u, gx_activeCount u, gx_goesOn u, gx_outcome u, gx_resultValue u, gx_trapPlace u, gx_fuelUsed u, gx_firstWaiting u, gx_waitingCount u, gx_printCount u, z4, z5, z6, z7, z8, z9, z10, z11, z12, z13, z14, gx_values u, gx_variables u, gx_activeSlot u, gx_activeGives u, gx_activeFrame u, gx_activeResume u, gx_waiting u, gx_prints u)
def vd_a (c : Nat → Nat) (n : Nat) : Option Nat := if c (tl_m c n (m_pG c n)) = 1 then vd_1 c (c (tl_m c n (m_pG c n) + 1)) (tl_m c n (m_pG c n) + 2) else none
def v_all (c : Nat → Nat) (n : Nat) : Option Nat := or_o (vi_1 c n (m_I c n) 0) (or_o (vf_1 c n (m_F c n) (m_I c n)) (or_o (ve_1 c (m_I c n + m_F c n) (c (tl_q c n (m_pG c n))) (tl_q c n (m_pG c n) + 1)) (vd_a c n)))
/-- the data of a module that was read -/
theorem m_data {c : Nat → Nat} {n : Nat} (h : (rd_V c n).1 = true) (h1 : c (tl_m c n (m_pG c n)) = 1) : c (tl_m c n (m_pG c n) + 1) ≤ 2 ∧ (rd_it (rd_D c n) (c (tl_m c n (m_pG c n) + 1)) (true, tl_m c n (m_pG c n) + 2)).1 = true := by
  obtain ⟨o1, o2, o3, o4⟩ := rd_V_ok h
  have eV : rd_V c n = rd_X c n (rd_it (rd_T c n) (c 0) (true, 1)) := by rw [rd_V, o1, o2]
  have e1 : rd_it (rd_T c n) (c 0) (true, 1) = (true, m_pI c n) := tt_eq o4
  rw [e1] at eV
  obtain ⟨q1, q2, q3, q4, q5⟩ := rd_X_ok (q := (true, m_pI c n)) (by rw [← eV]; exact h)
  dsimp only at q2 q3 q4
  rw [q2, q3] at q5
  have e2 : rd_it (rd_J c n) (m_I c n) (true, m_pI c n + 1) = (true, m_pF c n) := tt_eq q5
  have eV2 : rd_V c n = rd_Y c n (true, m_pF c n) := by rw [eV, rd_X, q2, q3, ← e2]; rfl
  obtain ⟨r1, r2, r3, r4, r5⟩ := rd_Y_ok (q := (true, m_pF c n)) (by rw [← eV2]; exact h)
  dsimp only at r2 r3 r4
  rw [r2, r3] at r5
  have e3 : rd_it (rd_F c n) (m_F c n) (true, m_pF c n + 1) = (true, m_pG c n) := tt_eq r5
  have eV3 : rd_V c n = rd_Z c n (true, m_pG c n) := by rw [eV2, rd_Y, r2, r3, ← e3]; rfl
  obtain ⟨t1, t2, t3, t4⟩ := rd_Z_ok (q := (true, m_pG c n)) (by rw [← eV3]; exact h)
  dsimp only at t2 t3 t4
  have eV4 : rd_V c n = rd_E c n (rd_it (rd_g c n) (c (m_pG c n)) (true, m_pG c n + 1)) := by rw [eV3, rd_Z, t2, t3]
  have hE := h
  rw [eV4] at hE
  obtain ⟨w1, w2, w3⟩ := rd_e_ok hE
  have w4 : (rd_n c n 0 255 (rd_tv c n 0 5 (rd_it (rd_g c n) (c (m_pG c n)) (true, m_pG c n + 1))) (rd_tk c n 0 5 (rd_it (rd_g c n) (c (m_pG c n)) (true, m_pG c n + 1)))).1 = true := by
    cases e : (rd_n c n 0 255 (rd_tv c n 0 5 (rd_it (rd_g c n) (c (m_pG c n)) (true, m_pG c n + 1))) (rd_tk c n 0 5 (rd_it (rd_g c n) (c (m_pG c n)) (true, m_pG c n + 1)))).1 with
    | true => rfl
    | false => rw [rd_M_f e, e] at w1; exact ff_t w1
  obtain ⟨x1, x2, x3, x4⟩ := rd_n_ok _ _ w4
  obtain ⟨y1, y2, y3, y4, y5, y6⟩ := rd_tk_ok x1
  have eM : rd_n c n 0 255 (rd_tv c n 0 5 (rd_it (rd_g c n) (c (m_pG c n)) (true, m_pG c n + 1))) (rd_tk c n 0 5 (rd_it (rd_g c n) (c (m_pG c n)) (true, m_pG c n + 1))) = (true, tl_m c n (m_pG c n)) := by
    rw [x2, y2, y3]; rfl
  rw [eM] at w1
  have hm : (rd_tk c n 0 1 (true, tl_m c n (m_pG c n))).1 = true := by
    cases e : (rd_tk c n 0 1 (true, tl_m c n (m_pG c n))).1 with
    | true => rfl
    | false =>
      have : rd_tv c n 0 1 (true, tl_m c n (m_pG c n)) = 0 := by
        unfold rd_tv; split
        · rename_i hc; rw [rd_tk, if_pos hc] at e; exact ff_t e.symm
        · rfl
      rw [rd_M, this, if_neg (by decide), e] at w1
      exact ff_t w1
  obtain ⟨z1, z2, z3, z4, z5, z6⟩ := rd_tk_ok hm
  dsimp only at z2 z3
  rw [rd_M, z3, if_pos h1, z2] at w1
  obtain ⟨v1, v2, v3, v4, v5, v6⟩ := rd_tk_ok (rd_G_tr (rd_G_it (rd_G_D c n) _) w1)
  dsimp only at v2 v3 v5
  rw [v2, v3] at w1
  exact ⟨v5, w1⟩
theorem fs_all {c : Nat → Nat} {n : Nat} (h140 : n ≤ 140) (h : (rd_V c n).1 = true) : fs_ok (v_all c n) (fun x => m_Sr c n x ∨ m_Sb c n (m_I c n) (m_I c n + m_F c n) x) 0 1000 := by
  obtain ⟨mp, e0, e1, e2, e3, e4⟩ := mp_of h
  have hMn : tl_m c n (m_pG c n) < n := mp.2.2.2.2.2.2.2.2.2.2
  have hG1 : m_pG c n ≤ n := by
    have := ((rd_G_it (rd_G_F c n) (m_F c n)).1 (true, m_pF c n + 1) e2).2; exact this
  have hq : m_pG c n + 1 ≤ tl_q c n (m_pG c n) := by
    by_cases z : m_pG c n + 1 ≤ n
    · exact ((rd_G_it (rd_G_g c n) (c (m_pG c n))).1 (true, m_pG c n + 1) z).1
    · unfold tl_m at hMn
      have mono : ∀ r p, p ≤ (rd_it (rd_g c n) r (true, p)).2 ∨ True := fun _ _ => Or.inr trivial
      -- the globals' count is read, so it lies within
      exfalso
      have : (rd_it (rd_g c n) (c (m_pG c n)) (true, m_pG c n + 1)).2 = tl_q c n (m_pG c n) := rfl
      have hlt : tl_q c n (m_pG c n) + 1 < n := by omega
      have hG0 := mp.2.2.2.2.2.2.1
      have hnot : ∀ r q, n < q → (rd_it (rd_g c n) r (false, q)).2 = q := by
        intro r q hq
        rw [(rd_G_it (rd_G_g c n) r).2 (false, q) rfl]
      have hall : ∀ r q, n ≤ q → (rd_it (rd_g c n) r (true, q)).2 = q := by
        intro r
        induction r with
        | zero => intro q _; rfl
        | succ r ih =>
          intro q hq
          rw [rd_it]
          have e : rd_g c n (true, q) = (false, q) := by
            unfold rd_g
            have e5 : rd_tk c n 1 2 (true, q) = (false, q) := rd_tk_n (by omega)
            rw [e5, rd_tk_f rfl]
            exact (rd_G_C c n _ (by split <;> omega)).2 _ rfl
          rw [e, (rd_G_it (rd_G_g c n) r).2 (false, q) rfl]
      have h2 := hall (c (m_pG c n)) (m_pG c n + 1) (by omega)
      rw [this] at h2
      omega
  have f1 := fs_imp h140 h (m_I c n) 0 (by omega)
  have f2 := fs_fun h140 h (m_F c n) (m_I c n) rfl (Nat.le_refl _)
  rw [Nat.sub_self] at f2
  have f2' : m_fn c n 0 = m_pF c n + 1 := rfl
  rw [f2'] at f2
  have f3 := fs_wid (fs_ent (c := c) (m_I c n + m_F c n) (c (tl_q c n (m_pG c n))) (tl_q c n (m_pG c n) + 1)) (lo' := m_pG c n + 1) (hi' := tl_m c n (m_pG c n) + 1) (by omega) (by unfold tl_m; omega)
  have f4 : fs_ok (vd_a c n) (me_S c n (tl_m c n (m_pG c n))) (tl_m c n (m_pG c n) + 1) 1000 := by
    unfold vd_a
    by_cases z : c (tl_m c n (m_pG c n)) = 1
    · rw [if_pos z]
      obtain ⟨d1, d2⟩ := m_data h z
      refine fs_wid (fs_ext (fs_dat (n := n) _ _ d2) (fun x => ⟨fun q => ⟨z, q⟩, fun q => q.2⟩)) (by omega) (by omega)
    · rw [if_neg z]
      exact fs_ext (fs_0 (by omega)) (fun x => ⟨fun q => q.elim, fun q => absurd q.1 z⟩)
  refine fs_wid (fs_ext (fs_or f1 (fs_or f2 (fs_or f3 f4))) (fun x => ⟨?_, ?_⟩)) (by omega) (Nat.le_refl _)
  · rintro (⟨g, a1, a2, a3, a4⟩ | ⟨g, a1, a2, (⟨a3, a4⟩ | ⟨a3, a4⟩)⟩ | a | a)
    · exact Or.inl (Or.inl (Or.inl (Or.inl ⟨g, a2, a3, a4⟩)))
    · refine Or.inl (Or.inl (Or.inl (Or.inr ⟨g - m_I c n, by omega, ?_, a4⟩)))
      rw [a3, m_fa, if_neg (by omega)]; rfl
    · exact Or.inr ⟨g, a1, a2, a3, a4⟩
    · exact Or.inl (Or.inl (Or.inr a))
    · exact Or.inl (Or.inr a)
  · rintro ((((⟨g, a1, a2, a3⟩ | ⟨g, a1, a2, a3⟩) | a) | a) | ⟨f, a1, a2, a3, a4⟩)
    · exact Or.inl ⟨g, by omega, a1, a2, a3⟩
    · refine Or.inr (Or.inl ⟨m_I c n + g, by omega, by omega, Or.inl ⟨?_, a3⟩⟩)
      rw [m_fa, if_neg (by omega), Nat.add_sub_cancel_left]; exact a2
    · exact Or.inr (Or.inr (Or.inl a))
    · exact Or.inr (Or.inr (Or.inr a))
    · exact Or.inr (Or.inl ⟨f, a1, a2, Or.inr ⟨a3, a4⟩⟩)
theorem or_n {r1 r2 : Option Nat} : or_o r1 r2 = none ↔ r1 = none ∧ r2 = none := by
  unfold or_o
  by_cases z : r1 = none
  · rw [if_pos z]; exact ⟨fun h => ⟨z, h⟩, fun h => h.2⟩
  · rw [if_neg z]; exact ⟨fun h => absurd h z, fun h => h.1⟩
theorem or_s1 {r1 r2 : Option Nat} {w : Nat} (h : r1 = some w) : or_o r1 r2 = some w := by unfold or_o; rw [h]; rfl
theorem or_s2 {r1 r2 : Option Nat} (h : r1 = none) : or_o r1 r2 = r2 := by unfold or_o; rw [if_pos h]
theorem xf_ext {b : Nat} {c : Nat → Nat} {n : Nat} {F F' : Nat → Int32} (mp : mp_ok c n) (h : xf_ok b c n F) (e : ∀ j, b ≤ j → j < b + 22 → F' j = F j) : xf_ok b c n F' := by
  have h0 := mp.1
  have hI := mp.2.2.1
  have hFn := mp.2.2.2.1
  have hG := mp.2.2.2.2.2.2.1
  obtain ⟨a0, a1, a2, a3, a4, a5, a6, a7, a8, a9, a10⟩ := h
  exact ⟨by rw [e b (by omega) (by omega)]; exact a0, by rw [e _ (by omega) (by omega)]; exact a1, by rw [e _ (by omega) (by omega)]; exact a2, by rw [e _ (by omega) (by omega)]; exact a3, by rw [e _ (by omega) (by omega)]; exact a4, by rw [e _ (by omega) (by omega)]; exact a5, by rw [e _ (by omega) (by omega)]; exact a6, by rw [e _ (by omega) (by omega)]; exact a7, fun t ht => by rw [e _ (by omega) (by omega)]; exact a8 t ht, fun f hf => by rw [e _ (by omega) (by omega)]; exact a9 f hf, fun g hg => by rw [e _ (by omega) (by omega)]; exact a10 g hg⟩
theorem xf_mv {b b' : Nat} {c : Nat → Nat} {n : Nat} {F F' : Nat → Int32} (mp : mp_ok c n) (h : xf_ok b c n F) (e : ∀ j, j < 22 → F' (b' + j) = F (b + j)) : xf_ok b' c n F' := by
  have h0 := mp.1
  have hI := mp.2.2.1
  have hFn := mp.2.2.2.1
  have hG := mp.2.2.2.2.2.2.1
  obtain ⟨a0, a1, a2, a3, a4, a5, a6, a7, a8, a9, a10⟩ := h
  exact ⟨by have := e 0 (by omega); rw [Nat.add_zero, Nat.add_zero] at this; rw [this]; exact a0, by rw [e 1 (by omega)]; exact a1, by rw [e 2 (by omega)]; exact a2, by rw [e 3 (by omega)]; exact a3, by rw [e 4 (by omega)]; exact a4, by rw [e 5 (by omega)]; exact a5, by rw [e 6 (by omega)]; exact a6, by rw [e 7 (by omega)]; exact a7, fun t ht => by rw [Nat.add_assoc, e (8 + t) (by omega), ← Nat.add_assoc]; exact a8 t ht, fun f hf => by rw [Nat.add_assoc, e (12 + f) (by omega), ← Nat.add_assoc]; exact a9 f hf, fun g hg => by rw [Nat.add_assoc, e (19 + g) (by omega), ← Nat.add_assoc]; exact a10 g hg⟩
section
variable {u : SX} {c c0 : Nat → Nat} {n n0 s : Nat}
theorem x_load {post : Int32 → SX → Prop} (C : cx_ok u c n) (hs : s < 2) (l0 : Bool) (hl : gx_loaded u 0 = bb_i l0) (H0 : l0 = true → mx_ok u 0 c0 ∧ xf_ok 0 c0 n0 (gx_facts u) ∧ mp_ok c0 n0 ∧ n0 ≤ 140 ∧ ∀ f, f < m_I c0 n0 + m_F c0 n0 → c0 (m_fa c0 n0 f) < c0 0)
    (h1 : (rd_V c n).1 = false → ∀ a fc kc F P A FH FR FD KI, xr_fr 44 66 (gx_facts u) F → xr_fr 280 420 (gx_partner u) P → post 1 (xd u (nI (rd_V c n).2) a fc kc (gx_code u) F P (gx_loaded u) (gx_globals u) (gx_memories u) A FH FR FD KI))
    (h2 : (rd_V c n).1 = true → ∀ w, v_all c n = some w → ∀ a fc kc F P A FH FR FD KI, xr_fr 44 66 (gx_facts u) F → xr_fr 280 420 (gx_partner u) P → post 2 (xd u (nI w) a fc kc (gx_code u) F P (gx_loaded u) (gx_globals u) (gx_memories u) A FH FR FD KI))
    (h3 : (rd_V c n).1 = true → v_all c n = none → ∀ k, k < m_I c n → ¬ lk_ok s l0 c n c0 n0 k → (∀ j, j < k → lk_ok s l0 c n c0 n0 j) → ∀ a fc kc F P A FH FR FD KI, xr_fr 44 66 (gx_facts u) F → xr_fr 280 420 (gx_partner u) P → post 3 (xd u (nI (m_im c n k + 1)) a fc kc (gx_code u) F P (gx_loaded u) (gx_globals u) (gx_memories u) A FH FR FD KI))
    (h4 : (rd_V c n).1 = true → v_all c n = none → (∀ k, k < m_I c n → lk_ok s l0 c n c0 n0 k) → ∀ a fc kc F P A FH FR FD KI CO FA PA LO GL ME Pn, xr_fr 44 66 (gx_facts u) F → xr_fr 280 420 (gx_partner u) P → xr_Pa P (m_P c n Pn) →
      fr_i (s * 140) (s * 140 + 140) (gx_code u) CO → (∀ i, i < 140 → CO (s * 140 + i) = gx_code u (280 + i)) → fr_i (s * 140) (s * 140 + 140) P PA → (∀ i, i < 140 → PA (s * 140 + i) = P (280 + i)) → fr_i (s * 22) (s * 22 + 22) F FA → xf_ok (s * 22) c n FA →
      fr_l (s * 3) (s * 3 + 3) (gx_globals u) GL → (∀ g, g < c (m_pG c n) → GL (s * 3 + g) = cv c (c (m_ga c n g)) 10 (m_ga c n g + 2) 0 0) → fr_i (s * 48) (s * 48 + 48) (gx_memories u) ME → (∀ j, j < 48 → ME (s * 48 + j) = nI (tl_mem c n (m_pG c n) j)) →
      LO s = bb_i true → (s = 0 → LO 1 = bb_i false) → (s = 1 → LO 0 = gx_loaded u 0) → post 0 (xd u (-1) a fc kc CO FA PA LO GL ME A FH FR FD KI)) :
    wpX_load post u (nI s) := by
  have h140 := C.2.1
  have M := C.2.2
  refine xl_read C hs (fun hb fc F P A f1 f2 => h1 hb _ _ _ F P A _ _ _ _ f1 f2) (fun hok fc F P A Pn f1 f2 Fx hPa => ?_)
  obtain ⟨mp, e0, e1, e2, e3, e4⟩ := mp_of hok
  have hib := fun f hf hf2 => m_ib h140 hok Pn f hf hf2
  refine br_f (by decide) (br_t (show nI n = gx_byteCount u from C.1.symm) ?_)
  have bad : ∀ w, v_all c n = some w → ∀ fc kc A FH FR FD KI, wX_load_119 post (nI s) (gx_byteCount u) (gx_wrongPlace u) (nI w) fc kc (gx_valueCount u) (gx_activeCount u) (gx_goesOn u) (gx_outcome u) (gx_resultValue u) (gx_trapPlace u) (gx_fuelUsed u) (gx_firstWaiting u) (gx_waitingCount u) (gx_printCount u) (gx_code u) F P (gx_loaded u) (gx_globals u) (gx_memories u) A FH FR FD KI (gx_values u) (gx_variables u) (gx_activeSlot u) (gx_activeGives u) (gx_activeFrame u) (gx_activeResume u) (gx_waiting u) (gx_prints u) := by
    intro w hw fc kc A FH FR FD KI
    exact br_t rfl (h2 hok w hw _ fc kc F P A FH FR FD KI f1 f2)
  refine x_imps (WP := gx_wrongPlace u) M Fx mp h140 (fun v1 a => br_f (by decide) ?_) (fun w v1 => br_t rfl (bad w (or_s1 v1) _ _ _ _ _ _ _))
  refine x_fns (WP := gx_wrongPlace u) M hPa Fx mp h140 hib (fun v2 a fc kc A FH FR FD KI => br_f (by decide) ?_) (fun w v2 fc kc A FH FR FD KI => br_t rfl (bad w (by unfold v_all; rw [or_s2 v1]; exact or_s1 v2) _ _ _ _ _ _ _))
  refine x_ents (WP := gx_wrongPlace u) M Fx mp h140 (fun v3 a => br_f (by decide) ?_) (fun w v3 => br_t rfl (bad w (by unfold v_all; rw [or_s2 v1, or_s2 v2]; exact or_s1 v3) _ _ _ _ _ _ _))
  refine x_data (WP := gx_wrongPlace u) M Fx mp h140 (fun z => (m_data hok z).1) (fun v4 a => br_f (by decide) ?_) (fun w z v4 => br_t rfl (bad w (by unfold v_all; rw [or_s2 v1, or_s2 v2, or_s2 v3, vd_a, if_pos z]; exact v4) _ _ _ _ _ _ _))
  have hnone : v_all c n = none := by
    unfold v_all
    rw [or_s2 v1, or_s2 v2, or_s2 v3, vd_a]
    by_cases z : c (tl_m c n (m_pG c n)) = 1
    · rw [if_pos z]; exact v4 z
    · rw [if_neg z]
  have hv : ∀ k, k < m_I c n → c (m_im c n k) < c 0 := by
    intro k hk
    refine Classical.byContradiction (fun q => ?_)
    exact (fs_imp h140 hok (m_I c n) 0 (by omega)).1 v1 _ ⟨k, by omega, hk, rfl, by omega⟩
  refine br_f (by decide) ?_
  have hF0 : l0 = true → mx_ok u 0 c0 ∧ xf_ok 0 c0 n0 F ∧ mp_ok c0 n0 ∧ n0 ≤ 140 ∧ ∀ f, f < m_I c0 n0 + m_F c0 n0 → c0 (m_fa c0 n0 f) < c0 0 := by
    intro q
    obtain ⟨g1, g2, g3, g4, g5⟩ := H0 q
    exact ⟨g1, xf_ext g3 g2 (fun j _ hj => f1 j (by omega)), g3, g4, g5⟩
  refine x_links (WP := gx_wrongPlace u) (c0 := c0) (n0 := n0) M Fx mp h140 s hs l0 hl hF0 hv (fun hall a => br_f (by decide) ?_) (fun k hk z1 z2 => br_t rfl (h3 hok hnone k hk z1 z2 _ _ _ F P _ _ _ _ _ f1 f2))
  refine x_copy hs (fun CO FA PA k1 k2 k3 k4 k5 k6 => ?_)
  have Mc : mx_c CO s c := ⟨fun i hi => (k2 i hi).trans (M.1 i hi), M.2.1, M.2.2⟩
  have Fxs : xf_ok (s * 22) c n FA := xf_mv mp Fx k6
  refine x_setG hs Mc Fxs mp h140 (fun GL g1 g2 => ?_)
  refine x_setM hs Mc Fxs mp h140 (fun z => m_data hok z) (fun ME m1 m2 => ⟨pk_in s 2 hs, nm_r (show upd (gx_loaded u) (nI s).toNatClampNeg (vp_nar .boolean 1) = upd (gx_loaded u) s (bb_i true) from by rw [pk_cl s]; rfl) ?_⟩)
  refine pk_eq s 0 (fun z => nm_r (show upd (upd (gx_loaded u) s (bb_i true)) 1 (vp_nar .boolean 0) = upd (upd (gx_loaded u) s (bb_i true)) 1 (bb_i false) from rfl) ?_) (fun z => ?_)
  · exact h4 hok hnone hall _ _ _ F P _ _ _ _ _ CO FA PA _ GL ME Pn f1 f2 hPa k1 k2 k3 k4 k5 Fxs g1 g2 m1 m2 (by rw [pk_un (by omega), pk_us]) (fun _ => pk_us) (fun y => absurd y (by omega))
  · exact h4 hok hnone hall _ _ _ F P _ _ _ _ _ CO FA PA _ GL ME Pn f1 f2 hPa k1 k2 k3 k4 k5 Fxs g1 g2 m1 m2 pk_us (fun y => absurd y z) (fun _ => pk_un (by omega))
end
end
section
/-! 37: the relation, and the small methods -/
/-- an int lies as a long of the same number -/
def sx64 (x : Int64) : Prop := x.toInt32.toInt64 = x
def sx_ok (s : Nat) (c : Nat → Nat) (n : Nat) (P : Nat → Nat) (CO FA PA : Nat → Int32) : Prop := mx_c CO s c ∧ xf_ok (s * 22) c n FA ∧ ∀ i, i < 140 → PA (s * 140 + i) = nI (P i)
def sm_ok (c : Nat → Nat) (n : Nat) (P : Nat → Nat) : Prop := n ≤ 140 ∧ (rd_V c n).1 = true ∧ v_all c n = none ∧ ∀ f, m_I c n ≤ f → f < m_I c n + m_F c n → ib c n P 141 (m_bo c n f) [0]
def sk_ok (s : Nat) (c : Nat → Nat) (n : Nat) (BY TY TS IM FN SI WH LA GL EN EA HM : Nat → Int32) : Prop :=
  (∀ i, i < n → BY (140 * s + i) = nI (c i)) ∧ TY s = nI (c 0) ∧ (∀ t, t < c 0 → TS (4 * s + t) = nI (sg c (m_ty c n t))) ∧ IM s = nI (m_I c n) ∧ FN s = nI (m_I c n + m_F c n) ∧ (∀ f, f < m_I c n + m_F c n → SI (7 * s + f) = sg_i c (c 0) (m_ty c n) (m_fa c n f)) ∧
  (∀ k, k < m_I c n → WH (3 * s + k) = nI (c (m_im c n k + 1))) ∧ (∀ f, m_I c n ≤ f → f < m_I c n + m_F c n → LA (7 * s + f) = nI (m_fa c n f + 1)) ∧ GL s = nI (c (m_pG c n)) ∧ EN s = nI (c (tl_q c n (m_pG c n))) ∧ EA s = nI (tl_q c n (m_pG c n) + 1) ∧ HM s = nI (c (tl_m c n (m_pG c n)))
def sd_ok (s : Nat) (c : Nat → Nat) (n : Nat) (XG YG : Nat → Int64) (XM YM : Nat → Int32) : Prop :=
  (∀ g, g < c (m_pG c n) → XG (s * 3 + g) = YG (3 * s + g) ∧ (c (m_ga c n g) = 1 → sx64 (XG (s * 3 + g)))) ∧ ∀ j, j < 48 → ∃ b, b < 256 ∧ XM (s * 48 + j) = nI b ∧ YM (48 * s + j) = sb_v b
def sl_ok (s : Nat) (c : Nat → Nat) (n : Nat) (P : Nat → Nat) (CO FA PA : Nat → Int32) (XG : Nat → Int64) (XM BY TY TS IM FN SI WH LA GL : Nat → Int32) (YG : Nat → Int64) (EN EA HM YM : Nat → Int32) : Prop :=
  sm_ok c n P ∧ sx_ok s c n P CO FA PA ∧ sk_ok s c n BY TY TS IM FN SI WH LA GL EN EA HM ∧ sd_ok s c n XG YG XM YM
def wq_ok (FW WC WT : Int32) (WA WB : Nat → Int32) : Prop := ∃ w f, WC = nI w ∧ WT = nI w ∧ w ≤ 8 ∧ FW = nI f ∧ f < 8 ∧ ∀ i, i < w → WA ((f + i) % 8) = WB i
def rl_ok (BC WP : Int32) (RV : Int64) (TP FU FW WC PC : Int32) (CO FA PA LO : Nat → Int32) (XG : Nat → Int64) (XM WA PR : Nat → Int32) (CT PL TR : Int32) (RS : Int64) (US WT PD : Int32) (BY TH TY TS IM FN SI WH LA GL : Nat → Int32) (YG : Nat → Int64) (EN EA HM YM WB PB : Nat → Int32) : Prop :=
  ∃ n cd b0 b1 c0 n0 P0 c1 n1 P1, BC = nI n ∧ CT = nI n ∧ n ≤ 140 ∧ mx_c CO 2 cd ∧ (∀ i, i < n → BY (280 + i) = nI (cd i)) ∧ WP = PL ∧ RV = RS ∧ TP = TR ∧ FU = US ∧ PC = PD ∧ PR = PB ∧ wq_ok FW WC WT WA WB ∧
    LO 0 = bb_i b0 ∧ TH 0 = bb_i b0 ∧ LO 1 = bb_i b1 ∧ TH 1 = bb_i b1 ∧
    (b0 = true → sl_ok 0 c0 n0 P0 CO FA PA XG XM BY TY TS IM FN SI WH LA GL YG EN EA HM YM ∧ ∀ k, k < m_I c0 n0 → lk_ok 0 false c0 n0 c0 n0 k) ∧
    (b1 = true → sl_ok 1 c1 n1 P1 CO FA PA XG XM BY TY TS IM FN SI WH LA GL YG EN EA HM YM ∧ ∀ k, k < m_I c1 n1 → lk_ok 1 b0 c1 n1 c0 n0 k)
def i_Rel (_ : Nat) (u : SX) (v : SY) : Prop := rl_ok (gx_byteCount u) (gx_wrongPlace u) (gx_resultValue u) (gx_trapPlace u) (gx_fuelUsed u) (gx_firstWaiting u) (gx_waitingCount u) (gx_printCount u) (gx_code u) (gx_facts u) (gx_partner u) (gx_loaded u) (gx_globals u) (gx_memories u) (gx_waiting u) (gx_prints u) (gy_count v) (gy_place v) (gy_trappedAt v) (gy_result v) (gy_used v) (gy_waits v) (gy_printed v) (gy_bytes v) (gy_there v) (gy_types v) (gy_typeSig v) (gy_imports v) (gy_functions v) (gy_sig v) (gy_what v) (gy_localsAt v) (gy_globals v) (gy_globalValue v) (gy_entries v) (gy_entriesAt v) (gy_hasMemory v) (gy_memory v) (gy_waiting v) (gy_prints v)
theorem i_up {k : Nat} {u : SX} {v : SY} (h : i_Rel k u v) : i_Rel (k + 9) u v := h
theorem i_vc0 : wpX_init (fun u => wpY_init (fun v => i_Rel 0 u v)) :=
  ⟨0, fun _ => 0, false, false, fun _ => 0, 0, fun _ => 0, fun _ => 0, 0, fun _ => 0, rfl, rfl, by omega, ⟨fun _ _ => rfl, fun _ => show (0 : Nat) < 256 by omega, fun _ _ => rfl⟩, fun i hi => absurd hi (by omega), rfl, rfl, rfl, rfl, rfl, rfl, ⟨0, 0, rfl, rfl, by omega, rfl, by omega, fun i hi => absurd hi (by omega)⟩, rfl, rfl, rfl, rfl, fun z => ff_t z, fun z => ff_t z⟩
theorem i_vc_place {k : Nat} {u : SX} {v : SY} (I : i_Rel k u v) (hk : k + 9 ≤ 4608) : wpX_place (fun r => wpY_place (fun r' => r' = r ∧ i_Rel (k + 9) u v) v) u := by
  obtain ⟨n, cd, b0, b1, c0, n0, P0, c1, n1, P1, h1, h2, h3, h4, h5, h6, h7⟩ := id I
  exact ⟨h6.symm, I⟩
theorem i_vc_result {k : Nat} {u : SX} {v : SY} (I : i_Rel k u v) (hk : k + 9 ≤ 4608) : wpX_result (fun r => wpY_result (fun r' => r' = r ∧ i_Rel (k + 9) u v) v) u := by
  obtain ⟨n, cd, b0, b1, c0, n0, P0, c1, n1, P1, h1, h2, h3, h4, h5, h6, h7, h8⟩ := id I
  exact ⟨h7.symm, I⟩
theorem i_vc_trappedAt {k : Nat} {u : SX} {v : SY} (I : i_Rel k u v) (hk : k + 9 ≤ 4608) : wpX_trappedAt (fun r => wpY_trappedAt (fun r' => r' = r ∧ i_Rel (k + 9) u v) v) u := by
  obtain ⟨n, cd, b0, b1, c0, n0, P0, c1, n1, P1, h1, h2, h3, h4, h5, h6, h7, h8, h9⟩ := id I
  exact ⟨h8.symm, I⟩
theorem i_vc_used {k : Nat} {u : SX} {v : SY} (I : i_Rel k u v) (hk : k + 9 ≤ 4608) : wpX_used (fun r => wpY_used (fun r' => r' = r ∧ i_Rel (k + 9) u v) v) u := by
  obtain ⟨n, cd, b0, b1, c0, n0, P0, c1, n1, P1, h1, h2, h3, h4, h5, h6, h7, h8, h9, h10⟩ := id I
  exact ⟨h9.symm, I⟩
theorem i_vc_clear {k : Nat} {u : SX} {v : SY} (I : i_Rel k u v) (hk : k + 9 ≤ 4608) : wpX_clear (fun r u' => wpY_clear (fun r' v' => r' = r ∧ i_Rel (k + 9) u' v') v) u := by
  obtain ⟨n, cd, b0, b1, c0, n0, P0, c1, n1, P1, h1, h2, h3, h4, h5, h6, h7, h8, h9, h10, h11, h12, h13, h14, h15, h16, h17, h18⟩ := id I
  exact ⟨h2.trans h1.symm, 0, cd, b0, b1, c0, n0, P0, c1, n1, P1, rfl, rfl, by omega, h4, fun i hi => absurd hi (by omega), h6, h7, h8, h9, h10, h11, h12, h13, h14, h15, h16, h17, h18⟩
theorem i_vc_printed {k : Nat} {u : SX} {v : SY} (I : i_Rel k u v) (hk : k + 9 ≤ 4608) (v1 : Int32) : wpX_printed (fun r => wpY_printed (fun r' => r' = r ∧ i_Rel (k + 9) u v) v v1) u v1 := by
  obtain ⟨n, cd, b0, b1, c0, n0, P0, c1, n1, P1, h1, h2, h3, h4, h5, h6, h7, h8, h9, h10, h11, h12⟩ := id I
  have hin : ∀ x : Int32, vp_in (x &&& 15) 16 := fun x => pk_andIn x 4 (by decide) (by omega)
  refine br_c (fun z => br_t z ⟨h10.symm, I⟩) (fun z => br_c (fun z1 => br_f z (br_t z1 ⟨rfl, I⟩)) (fun z1 => br_c (fun z2 => br_f z (br_f z1 (br_t ?_ ⟨rfl, I⟩))) (fun z2 => br_c (fun z3 => ⟨hin _, br_f z (br_f z1 (br_f ?_ (br_t ?_ ⟨hin _, ?_, I⟩)))⟩) (fun z3 => br_f z (br_f z1 (br_f ?_ (br_f ?_ ⟨rfl, I⟩)))))))
  · rcases pk_ix v1 (n := 16) (by decide) with q | q | ⟨j, q1, rfl⟩
    · exact absurd q z1
    · exact Int32.lt_of_lt_of_le (by decide) q
    · exact absurd z2 (nI_ge (b := 16) q1 (by decide))
  · intro q
    obtain ⟨j, hj, rfl⟩ := nI_of z1
    have z2' : ¬ nI 16 ≤ nI j := z2
    have q' : nI 15 < nI j := q
    rw [nI_leI (by decide) hj] at z2'
    rw [nI_ltI (by decide) hj] at q'
    omega
  · have z3' : v1 < gx_printCount u := z3
    rw [h10] at z3'
    exact z3'
  · have e : gy_prints v (((gy_printed v - 1) - v1) &&& 15).toNatClampNeg = gx_prints u (((gx_printCount u - 1) - v1) &&& 15).toNatClampNeg := by rw [h10, h11]
    exact e
  · intro q
    obtain ⟨j, hj, rfl⟩ := nI_of z1
    have z2' : ¬ nI 16 ≤ nI j := z2
    have q' : nI 15 < nI j := q
    rw [nI_leI (by decide) hj] at z2'
    rw [nI_ltI (by decide) hj] at q'
    omega
  · intro q
    have q' : v1 < gy_printed v := q
    rw [← h10] at q'
    exact z3 q'
theorem i_vc_feed {k : Nat} {u : SX} {v : SY} (I : i_Rel k u v) (hk : k + 9 ≤ 4608) (v1 : Int32) : wpX_feed (fun r u' => wpY_feed (fun r' v' => r' = r ∧ i_Rel (k + 9) u' v') v v1) u v1 := by
  obtain ⟨n, cd, b0, b1, c0, n0, P0, c1, n1, P1, h1, h2, h3, h4, h5, h6, h7, h8, h9, h10, h11, ⟨w, f, w1, w2, w3, w4, w5, w6⟩, hr⟩ := id I
  refine pk_lt w 8 (fun z => ⟨by decide, ?_⟩) (fun z => ?_) w1
  · have e : gx_firstWaiting u + gx_waitingCount u = nI (f + w) := by rw [w4, w1, nI_add]
    have e2 : (gx_firstWaiting u + gx_waitingCount u) - (gx_firstWaiting u + gx_waitingCount u) / 8 * 8 = nI ((f + w) % 8) := by rw [e]; exact pk_rem (d := 8) (by omega) (by omega) (by omega)
    refine ⟨pk_in ((f + w) % 8) 8 (by omega) e2, nm_r (show upd (gx_waiting u) ((gx_firstWaiting u + gx_waitingCount u) - (gx_firstWaiting u + gx_waitingCount u) / 8 * 8).toNatClampNeg v1 = upd (gx_waiting u) ((f + w) % 8) v1 from by rw [pk_cl ((f + w) % 8) e2]) (nm_r (show gx_waitingCount u + 1 = nI (w + 1) from by rw [w1, nI_1]) ?_)⟩
    refine pk_eq w 8 (fun y => absurd y (by omega)) (fun _ => nm_r (show gy_waits v + 1 = nI (w + 1) from by rw [w2, nI_1]) ⟨pk_in w 8 z w2, nm_r (show upd (gy_waiting v) (gy_waits v).toNatClampNeg v1 = upd (gy_waiting v) w v1 from by rw [pk_cl w w2]) ?_⟩) w2 rfl
    have hw : ∀ i, i < w + 1 → upd (gx_waiting u) ((f + w) % 8) v1 ((f + i) % 8) = upd (gy_waiting v) w v1 i := by
      intro i hi
      by_cases q : i = w
      · subst q; rw [pk_us, pk_us]
      · rw [pk_un (by omega), pk_un q]; exact w6 i (by omega)
    exact ⟨rfl, n, cd, b0, b1, c0, n0, P0, c1, n1, P1, h1, h2, h3, h4, h5, h6, h7, h8, h9, h10, h11, ⟨w + 1, f, rfl, rfl, by omega, w4, w5, hw⟩, hr⟩
  · have : w = 8 := by omega
    exact pk_eq w 8 (fun _ => ⟨rfl, I⟩) (fun y => absurd this y) w2 rfl
theorem sl_put {s : Nat} {c : Nat → Nat} {n : Nat} {P : Nat → Nat} {CO FA PA CO' : Nat → Int32} {XG : Nat → Int64} {XM BY BY' TY TS IM FN SI WH LA GL : Nat → Int32} {YG : Nat → Int64} {EN EA HM YM : Nat → Int32} (hs : s < 2) (h : sl_ok s c n P CO FA PA XG XM BY TY TS IM FN SI WH LA GL YG EN EA HM YM) (e1 : ∀ j, j < 280 → CO' j = CO j) (e2 : ∀ j, j < 280 → BY' j = BY j) : sl_ok s c n P CO' FA PA XG XM BY' TY TS IM FN SI WH LA GL YG EN EA HM YM := by
  obtain ⟨a, ⟨b1, b2, b3⟩, ⟨d1, d2⟩, e⟩ := h
  have h140 := a.1
  exact ⟨a, ⟨⟨fun i hi => by rw [e1 _ (by omega)]; exact b1.1 i hi, b1.2⟩, b2, b3⟩, ⟨fun i hi => by rw [e2 _ (by omega)]; exact d1 i hi, d2⟩, e⟩
theorem i_vc_put {k : Nat} {u : SX} {v : SY} (I : i_Rel k u v) (hk : k + 9 ≤ 4608) (v1 : Int32) : wpX_put (fun r u' => wpY_put (fun r' v' => r' = r ∧ i_Rel (k + 9) u' v') v v1) u v1 := by
  obtain ⟨n, cd, b0, b1, c0, n0, P0, c1, n1, P1, h1, h2, h3, h4, h5, h6, h7, h8, h9, h10, h11, h12, h13, h14, h15, h16, h17, h18⟩ := id I
  refine br_c (fun z => br_t z ⟨rfl, I⟩) (fun z => br_c (fun z1 => br_f z (br_t z1 ⟨rfl, I⟩)) (fun z1 => ?_))
  obtain ⟨b, hb, rfl⟩ := nI_of z
  have hb2 : b < 256 := by
    have z1' : ¬ nI 255 < nI b := z1
    rw [nI_ltI (by decide) hb] at z1'
    omega
  refine pk_lt n 140 (fun y => ?_) (fun y => ?_) h1
  · have e1 : (280 : Int32) + gx_byteCount u = nI (280 + n) := by rw [h1]; exact nI_add 280 n
    have e2 : (280 : Int32) + gy_count v = nI (280 + n) := by rw [h2]; exact nI_add 280 n
    refine ⟨pk_in (280 + n) 420 (by omega) e1, nm_r (show upd (gx_code u) ((280 : Int32) + gx_byteCount u).toNatClampNeg (nI b) = upd (gx_code u) (280 + n) (nI b) from by rw [pk_cl (280 + n) e1]) (nm_r (show gx_byteCount u + 1 = nI (n + 1) from by rw [h1, nI_1]) ?_)⟩
    refine br_f z (br_f z1 (pk_eq n 140 (fun q => absurd q (by omega)) (fun _ => nm_r (show gy_count v + 1 = nI (n + 1) from by rw [h2, nI_1]) ⟨pk_in (280 + n) 420 (by omega) e2, nm_r (show upd (gy_bytes v) ((280 : Int32) + gy_count v).toNatClampNeg (vp_nar .short (nI b).toInt16.toInt32) = upd (gy_bytes v) (280 + n) (nI b) from by rw [pk_cl (280 + n) e2, nr_s (by omega)]) ?_⟩) h2 rfl))
    have q1 : mx_c (upd (gx_code u) (280 + n) (nI b)) 2 (up_n cd n b) := by
      refine ⟨fun i hi => ?_, fun i => ?_, fun i hi => ?_⟩
      · by_cases q : i = n
        · subst q; rw [up_s]; exact pk_us
        · rw [up_d q, pk_un (by omega)]; exact h4.1 i hi
      · by_cases q : i = n
        · subst q; rw [up_s]; exact hb2
        · rw [up_d q]; exact h4.2.1 i
      · rw [up_d (by omega)]; exact h4.2.2 i hi
    have q2 : ∀ i, i < n + 1 → upd (gy_bytes v) (280 + n) (nI b) (280 + i) = nI (up_n cd n b i) := by
      intro i hi
      by_cases q : i = n
      · subst q; rw [up_s]; exact pk_us
      · rw [up_d q, pk_un (by omega)]; exact h5 i (by omega)
    exact ⟨rfl, n + 1, up_n cd n b, b0, b1, c0, n0, P0, c1, n1, P1, rfl, rfl, by omega, q1, q2, h6, h7, h8, h9, h10, h11, h12, h13, h14, h15, h16, fun q => ⟨sl_put (by omega) (h17 q).1 (fun j hj => pk_un (by omega)) (fun j hj => pk_un (by omega)), (h17 q).2⟩, fun q => ⟨sl_put (by omega) (h18 q).1 (fun j hj => pk_un (by omega)) (fun j hj => pk_un (by omega)), (h18 q).2⟩⟩
  · have : n = 140 := by omega
    exact br_f z (br_f z1 (pk_eq n 140 (fun _ => ⟨rfl, I⟩) (fun q => absurd this q) h2 rfl))
end
section
/-! 38: memory, global, load -/
theorem rl_slot {k : Nat} {u : SX} {v : SY} (I : i_Rel k u v) (s : Nat) (hs : s < 2) : ∃ b c n P, gx_loaded u s = bb_i b ∧ gy_there v s = bb_i b ∧ (b = true → sl_ok s c n P (gx_code u) (gx_facts u) (gx_partner u) (gx_globals u) (gx_memories u) (gy_bytes v) (gy_types v) (gy_typeSig v) (gy_imports v) (gy_functions v) (gy_sig v) (gy_what v) (gy_localsAt v) (gy_globals v) (gy_globalValue v) (gy_entries v) (gy_entriesAt v) (gy_hasMemory v) (gy_memory v)) := by
  obtain ⟨n, cd, b0, b1, c0, n0, P0, c1, n1, P1, h1, h2, h3, h4, h5, h6, h7, h8, h9, h10, h11, h12, h13, h14, h15, h16, h17, h18⟩ := I
  have : s = 0 ∨ s = 1 := by omega
  rcases this with rfl | rfl
  · exact ⟨b0, c0, n0, P0, h13, h14, fun q => (h17 q).1⟩
  · exact ⟨b1, c1, n1, P1, h15, h16, fun q => (h18 q).1⟩
theorem sb_255 : ∀ b, b < 256 → sb_v b &&& 255 = nI b := by decide +kernel
theorem sl_case (v1 : Int32) : (∃ s, s < 2 ∧ v1 = nI s) ∨ (¬ v1 = 0 ∧ ¬ v1 = 1 ∧ (v1 < 0 ∨ (¬ v1 < 0 ∧ 1 < v1))) := by
  by_cases z : v1 < 0
  · exact Or.inr ⟨fun q => by subst q; exact absurd z (by decide), fun q => by subst q; exact absurd z (by decide), Or.inl z⟩
  · obtain ⟨j, hj, rfl⟩ := nI_of z
    by_cases z2 : j < 2
    · exact Or.inl ⟨j, z2, rfl⟩
    · exact Or.inr ⟨fun q => by have := (nI_eq (b := 0) hj (by decide)).mp q; omega, fun q => by have := (nI_eq (b := 1) hj (by decide)).mp q; omega, Or.inr ⟨z, nI_lt (a := 1) (by omega) hj⟩⟩
theorem xs_1 {post : Int32 → Prop} {s : Nat} (hs : s < 2) (h : post 1) : wpX_isSlot post (nI s) := by
  have : s = 0 ∨ s = 1 := by omega
  rcases this with rfl | rfl
  · exact br_t rfl h
  · exact br_f (by decide) (br_t rfl h)
theorem i_vc_memory {k : Nat} {u : SX} {v : SY} (I : i_Rel k u v) (hk : k + 9 ≤ 4608) (v1 : Int32) (v2 : Int32) : wpX_memory (fun r => wpY_memory (fun r' => r' = r ∧ i_Rel (k + 9) u v) v v1 v2) u v1 v2 := by
  unfold wpX_memory
  rcases sl_case v1 with ⟨s, hs, rfl⟩ | ⟨z0, z1, z2⟩
  · obtain ⟨b, c, n, P, e1, e2, e3⟩ := rl_slot I s hs
    have eX : gx_loaded u (nI s).toNatClampNeg = bb_i b := by rw [pk_cl s]; exact e1
    have eY : gy_there v (nI s).toNatClampNeg = bb_i b := by rw [pk_cl s]; exact e2
    have ny : ∀ {r : Int32}, _ → wpY_memory (fun r' => r' = r ∧ i_Rel (k + 9) u v) v (nI s) v2 := fun h => br_f (nI_pos (by omega)) (br_f (nI_nlt (b := s) (a := 1) (by omega) (by decide)) ⟨pk_in s 3 (by omega), h⟩)
    refine xs_1 hs (br_f (by decide) ⟨pk_in s 2 hs, ?_⟩)
    cases b with
    | false => exact br_t eX (ny (br_t eY ⟨rfl, I⟩))
    | true =>
      obtain ⟨⟨a1, a2, a3, a4⟩, ⟨b1, b2, b3⟩, ⟨d1, d2, d3, d4, d5, d6, d7, d8, d9, d10, d11, d12⟩, ⟨f1, f2⟩⟩ := e3 rfl
      obtain ⟨mp, _⟩ := mp_of a2
      have hm1 : c (tl_m c n (m_pG c n)) ≤ 1 := mp.2.2.2.2.2.2.2.2.2.1
      have eH : gy_hasMemory v (nI s).toNatClampNeg = nI (c (tl_m c n (m_pG c n))) := by rw [pk_cl s]; exact d12
      have nt : ¬ gy_there v (nI s).toNatClampNeg = 0 := by rw [eY]; decide
      have nX : ¬ gx_loaded u (nI s).toNatClampNeg = 0 := by rw [eX]; decide
      refine br_f nX ?_
      refine xx_fact (m := s) (w := 5) (z := nI (c (tl_m c n (m_pG c n)))) (by exact b2.2.2.2.2.2.1) (by omega) (by omega) ?_
      have ny2 : ∀ {r : Int32}, _ → wpY_memory (fun r' => r' = r ∧ i_Rel (k + 9) u v) v (nI s) v2 := fun h => ny (br_f nt ⟨pk_in s 3 (by omega), h⟩)
      refine pk_eq (c (tl_m c n (m_pG c n))) 0 (fun z => ny2 (br_t (eH.trans (by rw [z]; rfl)) ⟨rfl, I⟩)) (fun z => ?_)
      have nh : ¬ gy_hasMemory v (nI s).toNatClampNeg = 0 := by rw [eH]; exact nI_ne0 (by omega) (by omega)
      refine br_c (fun y => ny2 (br_f nh (br_t y ⟨rfl, I⟩))) (fun y => ?_)
      obtain ⟨j, hj, rfl⟩ := nI_of y
      refine pk_lt j 48 (fun q => ?_) (fun q => ny2 (br_f nh (br_f y (br_f (fun x => by have x' : nI j ≤ nI 47 := x; rw [nI_leI hj (by decide)] at x'; omega) ⟨rfl, I⟩))))
      have ex : nI s * 48 + nI j = nI (s * 48 + j) := by rw [show (48 : Int32) = nI 48 from rfl, pk_mul, nI_add]
      have ey : 48 * nI s + nI j = nI (48 * s + j) := by rw [show (48 : Int32) = nI 48 from rfl, pk_mul, nI_add]
      refine ⟨pk_in (s * 48 + j) 96 (by omega) ex, ny2 (br_f nh (br_f y (br_t (by show nI j ≤ nI 47; rw [nI_leI hj (by decide)]; omega) ⟨pk_in (48 * s + j) 144 (by omega) ey, ?_, I⟩)))⟩
      obtain ⟨b, hb, g1, g2⟩ := f2 j q
      show (gy_memory v (48 * nI s + nI j).toNatClampNeg &&& 255) = gx_memories u (nI s * 48 + nI j).toNatClampNeg
      rw [pk_cl (48 * s + j) ey, pk_cl (s * 48 + j) ex, g1, g2, sb_255 b hb]
  · refine br_f z0 (br_f z1 (br_t rfl ?_))
    rcases z2 with z2 | ⟨z2, z3⟩
    · exact br_t z2 ⟨rfl, I⟩
    · exact br_f z2 (br_t z3 ⟨rfl, I⟩)
theorem i_vc_global {k : Nat} {u : SX} {v : SY} (I : i_Rel k u v) (hk : k + 9 ≤ 4608) (v1 : Int32) (v2 : Int32) : wpX_global (fun r => wpY_global (fun r' => r' = r ∧ i_Rel (k + 9) u v) v v1 v2) u v1 v2 := by
  unfold wpX_global
  rcases sl_case v1 with ⟨s, hs, rfl⟩ | ⟨z0, z1, z2⟩
  · obtain ⟨b, c, n, P, e1, e2, e3⟩ := rl_slot I s hs
    have eX : gx_loaded u (nI s).toNatClampNeg = bb_i b := by rw [pk_cl s]; exact e1
    have eY : gy_there v (nI s).toNatClampNeg = bb_i b := by rw [pk_cl s]; exact e2
    have ny : ∀ {r : Int64}, _ → wpY_global (fun r' => r' = r ∧ i_Rel (k + 9) u v) v (nI s) v2 := fun h => br_f (nI_pos (by omega)) (br_f (nI_nlt (b := s) (a := 1) (by omega) (by decide)) ⟨pk_in s 3 (by omega), h⟩)
    refine xs_1 hs (br_f (by decide) ⟨pk_in s 2 hs, ?_⟩)
    cases b with
    | false => exact br_t eX (ny (br_t eY ⟨rfl, I⟩))
    | true =>
      obtain ⟨⟨a1, a2, a3, a4⟩, ⟨b1, b2, b3⟩, ⟨d1, d2, d3, d4, d5, d6, d7, d8, d9, d10, d11, d12⟩, ⟨f1, f2⟩⟩ := e3 rfl
      obtain ⟨mp, _⟩ := mp_of a2
      have hG := mp.2.2.2.2.2.2.1
      have eG : gy_globals v (nI s).toNatClampNeg = nI (c (m_pG c n)) := by rw [pk_cl s]; exact d9
      have nt : ¬ gy_there v (nI s).toNatClampNeg = 0 := by rw [eY]; decide
      have nX : ¬ gx_loaded u (nI s).toNatClampNeg = 0 := by rw [eX]; decide
      refine br_f nX (br_c (fun y => ny (br_f nt (br_t y ⟨rfl, I⟩))) (fun y => ?_))
      refine xx_fact (m := s) (w := 3) (z := nI (c (m_pG c n))) (by exact b2.2.2.2.1) (by omega) (by omega) ?_
      obtain ⟨j, hj, rfl⟩ := nI_of y
      have ex : nI s * 3 + nI j = nI (s * 3 + j) := by rw [show (3 : Int32) = nI 3 from rfl, pk_mul, nI_add]
      have ey : 3 * nI s + nI j = nI (3 * s + j) := by rw [show (3 : Int32) = nI 3 from rfl, pk_mul, nI_add]
      refine pk_lt j (c (m_pG c n)) (fun q => ⟨pk_in (s * 3 + j) 6 (by omega) ex, ny (br_f nt (br_f y ⟨pk_in s 3 (by omega), pk_lt j (c (m_pG c n)) (fun _ => ⟨pk_in (3 * s + j) 9 (by omega) ey, ?_, I⟩) (fun x => absurd q (by omega)) rfl eG⟩))⟩) (fun q => ny (br_f nt (br_f y ⟨pk_in s 3 (by omega), pk_lt j (c (m_pG c n)) (fun x => absurd x (by omega)) (fun _ => ⟨rfl, I⟩) rfl eG⟩)))
      show gy_globalValue v (3 * nI s + nI j).toNatClampNeg = gx_globals u (nI s * 3 + nI j).toNatClampNeg
      rw [pk_cl (3 * s + j) ey, pk_cl (s * 3 + j) ex]
      exact (f1 j q).1.symm
  · refine br_f z0 (br_f z1 (br_t rfl ?_))
    rcases z2 with z2 | ⟨z2, z3⟩
    · exact br_t z2 ⟨rfl, I⟩
    · exact br_f z2 (br_t z3 ⟨rfl, I⟩)
/-- a module that is there has types for all its functions -/
theorem sm_ty {c : Nat → Nat} {n : Nat} {P : Nat → Nat} (h : sm_ok c n P) : ∀ f, f < m_I c n + m_F c n → c (m_fa c n f) < c 0 := by
  obtain ⟨a1, a2, a3, a4⟩ := h
  have hno := (fs_all a1 a2).1 a3
  intro f hf
  refine Classical.byContradiction (fun q => ?_)
  by_cases z : f < m_I c n
  · refine hno (m_im c n f) (Or.inl (Or.inl (Or.inl (Or.inl ⟨f, z, rfl, ?_⟩))))
    rw [m_fa, if_pos z] at q; omega
  · refine hno (m_fn c n (f - m_I c n)) (Or.inl (Or.inl (Or.inl (Or.inr ⟨f - m_I c n, by omega, rfl, ?_⟩))))
    rw [m_fa, if_neg z] at q; omega
theorem sk_fr {s : Nat} {c : Nat → Nat} {n : Nat} {BY BY' : Nat → Int32} {TY TS IM FU SI WH TA LA GL GK GF EN EA H M TY' TS' IM' FU' SI' WH' TA' LA' GL' GK' GF' EN' EA' H' M' : Nat → Int32} {GV GV' : Nat → Int64} (mp : mp_ok c n) (h : sk_ok s c n BY TY TS IM FU SI WH LA GL EN EA H) (g : yg_s s TY TS IM FU SI WH TA LA GL GK GF GV EN EA H M TY' TS' IM' FU' SI' WH' TA' LA' GL' GK' GF' GV' EN' EA' H' M') (hb : ∀ i, i < n → BY' (140 * s + i) = BY (140 * s + i)) : sk_ok s c n BY' TY' TS' IM' FU' SI' WH' LA' GL' EN' EA' H' := by
  have h0 := mp.1
  have hI := mp.2.2.1
  have hFn := mp.2.2.2.1
  obtain ⟨d1, d2, d3, d4, d5, d6, d7, d8, d9, d10, d11, d12⟩ := h
  obtain ⟨g0, g1, g2, g3, g4, g5, g6, g7, g8, g9, g10, g11, g12, g13, g14, g15⟩ := g
  exact ⟨fun i hi => (hb i hi).trans (d1 i hi), g0.trans d2, fun t ht => (g1 _ (by omega) (by omega)).trans (d3 t ht), g2.trans d4, g3.trans d5, fun f hf => (g4 _ (by omega) (by omega)).trans (d6 f hf), fun k hk => (g5 _ (by omega) (by omega)).trans (d7 k hk), fun f hf hf2 => (g7 _ (by omega) (by omega)).trans (d8 f hf hf2), g8.trans d9, g12.trans d10, g13.trans d11, g14.trans d12⟩
theorem sl_fr {s : Nat} {c : Nat → Nat} {n : Nat} {P : Nat → Nat} {CO FA PA CO' FA' PA' : Nat → Int32} {XG XG' : Nat → Int64} {XM XM' BY BY' : Nat → Int32} {TY TS IM FU SI WH TA LA GL GK GF EN EA H M TY' TS' IM' FU' SI' WH' TA' LA' GL' GK' GF' EN' EA' H' M' : Nat → Int32} {GV GV' : Nat → Int64} (h : sl_ok s c n P CO FA PA XG XM BY TY TS IM FU SI WH LA GL GV EN EA H M)
    (g : yg_s s TY TS IM FU SI WH TA LA GL GK GF GV EN EA H M TY' TS' IM' FU' SI' WH' TA' LA' GL' GK' GF' GV' EN' EA' H' M') (hb : ∀ i, i < n → BY' (140 * s + i) = BY (140 * s + i)) (x1 : ∀ i, i < 140 → CO' (s * 140 + i) = CO (s * 140 + i)) (x2 : ∀ i, i < 22 → FA' (s * 22 + i) = FA (s * 22 + i)) (x3 : ∀ i, i < 140 → PA' (s * 140 + i) = PA (s * 140 + i)) (x4 : ∀ i, i < 3 → XG' (s * 3 + i) = XG (s * 3 + i)) (x5 : ∀ i, i < 48 → XM' (s * 48 + i) = XM (s * 48 + i)) :
    sl_ok s c n P CO' FA' PA' XG' XM' BY' TY' TS' IM' FU' SI' WH' LA' GL' GV' EN' EA' H' M' := by
  obtain ⟨a, ⟨b1, b2, b3⟩, d, ⟨f1, f2⟩⟩ := h
  obtain ⟨mp, _⟩ := mp_of a.2.1
  have hG := mp.2.2.2.2.2.2.1
  refine ⟨a, ⟨⟨fun i hi => (x1 i hi).trans (b1.1 i hi), b1.2⟩, xf_mv mp b2 x2, fun i hi => (x3 i hi).trans (b3 i hi)⟩, sk_fr mp d g hb, fun g' hg => ?_, fun j hj => ?_⟩
  · obtain ⟨q1, q2⟩ := f1 g' hg
    have e : GV' (3 * s + g') = GV (3 * s + g') := g.2.2.2.2.2.2.2.2.2.2.2.1 _ (by omega) (by omega)
    rw [x4 g' (by omega), e]
    exact ⟨q1, q2⟩
  · obtain ⟨b, q1, q2, q3⟩ := f2 j hj
    have e : M' (48 * s + j) = M (48 * s + j) := g.2.2.2.2.2.2.2.2.2.2.2.2.2.2.2 _ (by omega) (by omega)
    exact ⟨b, q1, (x5 j hj).trans q2, e.trans q3⟩
end
section
/-! 39: load -/
theorem sx_i (x : Int64) : sx64 x.toInt32.toInt64 := by unfold sx64; simp
theorem cv_sx {c : Nat → Nat} : ∀ r p x i, (∃ j, j < r ∧ c (p + j) ≤ 127) → sx64 (cv c 1 r p x i) := by
  intro r
  induction r with
  | zero => intro p x i ⟨j, hj, _⟩; omega
  | succ r ih =>
    intro p x i ⟨j, hj, hj2⟩
    rw [cv]
    by_cases h4 : 127 < c p
    · rw [if_pos h4]
      cases j with
      | zero => rw [Nat.add_zero] at hj2; omega
      | succ j => exact ih _ _ _ ⟨j, by omega, by rw [show p + 1 + j = p + (j + 1) by omega]; exact hj2⟩
    · rw [if_neg h4, cv_fin, if_pos rfl]
      exact sx_i _
theorem md_lt {c : Nat → Nat} {n : Nat} (h : ∀ i, c i < 256) : ∀ r q M, (∀ j, M j < 256) → ∀ j, md_k c n r q M j < 256 := by
  intro r
  induction r with
  | zero => intro q M hM j; exact hM j
  | succ r ih =>
    intro q M hM j
    rw [md_k]
    refine ih _ _ (fun i => ?_) j
    unfold md_w
    split
    · exact h _
    · exact hM i
theorem tm_lt {c : Nat → Nat} {n p : Nat} (h : ∀ i, c i < 256) (j : Nat) : tl_mem c n p j < 256 := by
  unfold tl_mem
  split
  · exact md_lt h _ _ _ (fun _ => (show (0 : Nat) < 256 by omega)) j
  · exact (show (0 : Nat) < 256 by omega)
theorem lk_0 {b b' : Bool} {c c1 c2 : Nat → Nat} {n n1 n2 k : Nat} (h : lk_ok 0 b c n c1 n1 k) : lk_ok 0 b' c n c2 n2 k := by
  unfold lk_ok at h ⊢
  split
  · rename_i z; rw [if_pos z] at h; exact h
  · rename_i z
    rw [if_neg z] at h
    split
    · rename_i z2; rw [if_pos z2] at h; exact h
    · rename_i z2; rw [if_neg z2] at h; exact absurd h.1 (by decide)
theorem sk_of {s : Nat} {c : Nat → Nat} {n : Nat} {L : Int32} {BY TY TS IM FU SI WH TA LA GL GK GF EN EA H M : Nat → Int32} {GV : Nat → Int64} (R : ry_ok s c n L TY TS IM FU SI WH TA LA GL GK GF GV EN EA H M) (hb : ∀ i, i < n → BY (140 * s + i) = nI (c i)) :
    sk_ok s c n BY TY TS IM FU SI WH LA GL EN EA H ∧ (∀ g, g < c (m_pG c n) → GV (3 * s + g) = cv c (c (m_ga c n g)) 10 (m_ga c n g + 2) 0 0) ∧ ∀ j, j < 48 → M (48 * s + j) = sb_v (tl_mem c n (m_pG c n) j) := by
  obtain ⟨r1, r2, r3, i1, i2, i3, f1, f2, f3, t1, t2, t3, t4, t5, t6, t7, t8, t9⟩ := R
  refine ⟨⟨hb, r1, fun t ht => (r3 t ht).1, i1, f1, fun f hf => ?_, fun k hk => ?_, fun f hf hf2 => ?_, t1, t4, t5, t7⟩, fun g hg => ?_, t9⟩
  · by_cases z : f < m_I c n
    · have := (i3 f z).1
      rw [Nat.zero_add] at this
      rw [m_fa, if_pos z]; exact this
    · have := (f3 (f - m_I c n) (show f - m_I c n < m_F c n by omega)).1
      rw [show c (m_pI c n) + (f - m_I c n) = f from by show m_I c n + _ = f; omega] at this
      rw [m_fa, if_neg z]; exact this
  · have := (i3 k hk).2.2
    rw [Nat.zero_add] at this
    exact this
  · have := (f3 (f - m_I c n) (show f - m_I c n < m_F c n by omega)).2.2
    rw [show c (m_pI c n) + (f - m_I c n) = f from by show m_I c n + _ = f; omega] at this
    rw [m_fa, if_neg (by omega)]; exact this
  · have := (t3 g hg).2.2
    rw [Nat.zero_add] at this
    exact this
theorem i_vc_load {k : Nat} {u : SX} {v : SY} (I : i_Rel k u v) (hk : k + 9 ≤ 4608) (v1 : Int32) : wpX_load (fun r u' => wpY_load (fun r' v' => r' = r ∧ i_Rel (k + 9) u' v') v v1) u v1 := by
  rcases sl_case v1 with ⟨s, hs, rfl⟩ | ⟨z0, z1, z2⟩
  · obtain ⟨y_count, y_place, y_m, y_pos, y_wrong, y_constant, y_least, y_top, y_frames, y_invalid, y_sp, y_labels, y_active, y_fuel, y_outcome, y_trappedAt, y_result, y_used, y_waits, y_printed, y_bytes, y_there, y_types, y_typeSig, y_imports, y_functions, y_sig, y_what, y_typeAt, y_localsAt, y_globals, y_globalKind, y_globalFree, y_globalValue, y_entries, y_entriesAt, y_hasMemory, y_memory, y_nest, y_kinds, y_shape, y_gives, y_height, y_dead, y_stack, y_labelAt, y_labelHeight, y_labelGives, y_callModule, y_callFunction, y_callBack, y_callBase, y_callLabels, y_waiting, y_prints⟩ := v
    obtain ⟨n, cd, b0, b1, c0, n0, P0, c1, n1, P1, h1, h2, h3, h4, h5, h6, h7, h8, h9, h10, h11, h12, h13, h14, h15, h16, h17, h18⟩ := id I
    have C : cx_ok u cd n := ⟨h1, h3, h4⟩
    have H0x : b0 = true → mx_ok u 0 c0 ∧ xf_ok 0 c0 n0 (gx_facts u) ∧ mp_ok c0 n0 ∧ n0 ≤ 140 ∧ ∀ f, f < m_I c0 n0 + m_F c0 n0 → c0 (m_fa c0 n0 f) < c0 0 := by
      intro q
      obtain ⟨a, b, d, e⟩ := (h17 q).1
      exact ⟨b.1, b.2.1, (mp_of a.2.1).1, a.1, sm_ty a⟩
    have H0y : b0 = true → y_functions 0 = nI (m_I c0 n0 + m_F c0 n0) ∧ mp_ok c0 n0 ∧ (∀ f, f < m_I c0 n0 + m_F c0 n0 → c0 (m_fa c0 n0 f) < c0 0 ∧ y_sig f = nI (sg c0 (m_ty c0 n0 (c0 (m_fa c0 n0 f))))) := by
      intro q
      obtain ⟨a, b, d, e⟩ := (h17 q).1
      refine ⟨d.2.2.2.2.1, (mp_of a.2.1).1, fun f hf => ⟨sm_ty a f hf, ?_⟩⟩
      have := d.2.2.2.2.2.1 f hf
      rw [Nat.mul_zero, Nat.zero_add, sg_i, if_pos (sm_ty a f hf)] at this
      exact this
    have hfail : ∀ (PL : Int32) a fc kc F P A FH FR FD KX j1 j2 j3 jk j4 j5 j6 j7 NE KI SH GI HE DE TY TS IM FU SI WH TA LA GL GK GF GV EN EA H M, xr_fr 44 66 (gx_facts u) F → xr_fr 280 420 (gx_partner u) P → (∀ s', s' < 2 → yg_s s' y_types y_typeSig y_imports y_functions y_sig y_what y_typeAt y_localsAt y_globals y_globalKind y_globalFree y_globalValue y_entries y_entriesAt y_hasMemory y_memory TY TS IM FU SI WH TA LA GL GK GF GV EN EA H M) →
        i_Rel (k + 9) (xd u PL a fc kc (gx_code u) F P (gx_loaded u) (gx_globals u) (gx_memories u) A FH FR FD KX) (y_count, PL, j1, j2, j3, jk, j4, j5, j6, j7, y_sp, y_labels, y_active, y_fuel, y_outcome, y_trappedAt, y_result, y_used, y_waits, y_printed, y_bytes, y_there, TY, TS, IM, FU, SI, WH, TA, LA, GL, GK, GF, GV, EN, EA, H, M, NE, KI, SH, GI, HE, DE, y_stack, y_labelAt, y_labelHeight, y_labelGives, y_callModule, y_callFunction, y_callBack, y_callBase, y_callLabels, y_waiting, y_prints) := by
      intro PL a fc kc F P A FH FR FD KX j1 j2 j3 jk j4 j5 j6 j7 NE KI SH GI HE DE TY TS IM FU SI WH TA LA GL GK GF GV EN EA H M f1 f2 g
      exact ⟨n, cd, b0, b1, c0, n0, P0, c1, n1, P1, h1, h2, h3, h4, h5, rfl, h7, h8, h9, h10, h11, h12, h13, h14, h15, h16,
        fun q => ⟨sl_fr (h17 q).1 (g 0 (by omega)) (fun _ _ => rfl) (fun _ _ => rfl) (fun i hi => f1 _ (by omega)) (fun i hi => f2 _ (by omega)) (fun _ _ => rfl) (fun _ _ => rfl), (h17 q).2⟩,
        fun q => ⟨sl_fr (h18 q).1 (g 1 (by omega)) (fun _ _ => rfl) (fun _ _ => rfl) (fun i hi => f1 _ (by omega)) (fun i hi => f2 _ (by omega)) (fun _ _ => rfl) (fun _ _ => rfl), (h18 q).2⟩⟩
    refine x_load C hs b0 h13 H0x (fun hb a fc kc F P A FH FR FD KX f1 f2 => ?_) (fun hok w hw a fc kc F P A FH FR FD KX f1 f2 => ?_) (fun hok hno kk hk1 hk2 hk3 a fc kc F P A FH FR FD KX f1 f2 => ?_) (fun hok hno hall a fc kc F P A FH FR FD KX CO FA PA LO XG XM Pn f1 f2 hPa k1 k2 k3 k4 k5 Fxs g1 g2 m1 m2 l1 l2 l3 => ?_)
    · exact y_load h2 h3 h4.2.1 h5 hs b0 h14 H0y (fun _ j1 j2 j3 jk j4 j5 j6 j7 NE KI SH GI HE DE TY TS IM FU SI WH TA LA GL GK GF GV EN EA H M g => ⟨rfl, hfail _ _ _ _ _ _ _ _ _ _ _ j1 j2 j3 jk j4 j5 j6 j7 NE KI SH GI HE DE TY TS IM FU SI WH TA LA GL GK GF GV EN EA H M f1 f2 g⟩) (fun q => absurd (hb.symm.trans q) (by decide)) (fun q => absurd (hb.symm.trans q) (by decide)) (fun q => absurd (hb.symm.trans q) (by decide))
    · obtain ⟨s1, s2, s3, s4⟩ := fs_all h3 hok
      obtain ⟨w1, w2⟩ := s2 w hw
      refine y_load h2 h3 h4.2.1 h5 hs b0 h14 H0y (fun q => absurd (hok.symm.trans q) (by decide)) (fun _ l hl hL j1 j2 j3 jk j4 j5 j6 j7 NE KI SH GI HE DE TY TS IM FU SI WH TA LA GL GK GF GV EN EA H M g => ?_) (fun _ q => absurd w1 (q w)) (fun _ q => absurd w1 (q w))
      have : l = w := by
        obtain ⟨l', e, hl1, hd, hf⟩ := hL
        have el : l = l' := (nI_eq (by omega) (by omega)).mp e
        subst el
        have := hf w w1
        rcases hd with hd | hd
        · omega
        · have := w2 l hd; omega
      subst this
      exact ⟨rfl, hfail _ _ _ _ _ _ _ _ _ _ _ j1 j2 j3 jk j4 j5 j6 j7 NE KI SH GI HE DE TY TS IM FU SI WH TA LA GL GK GF GV EN EA H M f1 f2 g⟩
    · obtain ⟨s1, s2, s3, s4⟩ := fs_all h3 hok
      have hn := s1 hno
      refine y_load h2 h3 h4.2.1 h5 hs b0 h14 H0y (fun q => absurd (hok.symm.trans q) (by decide)) (fun _ l hl hL => ?_) (fun _ _ k' q1 q2 q3 j1 j2 j3 jk j4 j5 j6 j7 NE KI SH GI HE DE TY TS IM FU SI WH TA LA GL GK GF GV EN EA H M g => ?_) (fun _ _ q => absurd (q kk hk1) hk2)
      · obtain ⟨l', e, hl1, hd, hf⟩ := hL
        have el : l = l' := (nI_eq (by omega) (by omega)).mp e
        subst el
        rcases hd with hd | hd
        · omega
        · exact absurd hd (hn l)
      · have : k' = kk := by
          rcases Nat.lt_trichotomy k' kk with q | q | q
          · exact absurd (hk3 k' q) q2
          · exact q
          · exact absurd (q3 kk q) hk2
        subst this
        exact ⟨rfl, hfail _ _ _ _ _ _ _ _ _ _ _ j1 j2 j3 jk j4 j5 j6 j7 NE KI SH GI HE DE TY TS IM FU SI WH TA LA GL GK GF GV EN EA H M f1 f2 g⟩
    · obtain ⟨s1, s2, s3, s4⟩ := fs_all h3 hok
      have hn := s1 hno
      obtain ⟨mp, _⟩ := mp_of hok
      refine y_load h2 h3 h4.2.1 h5 hs b0 h14 H0y (fun q => absurd (hok.symm.trans q) (by decide)) (fun _ l hl hL => ?_) (fun _ _ k' q1 q2 q3 => absurd (hall k' q1) q2) (fun _ _ _ j1 j2 j3 jk j4 j5 j6 j7 NE KI SH GI HE DE TY TS IM FU SI WH TA LA GL GK GF GV EN EA H M BY TH g b1' b2' R t1 t2 t3 => ⟨rfl, ?_⟩)
      · obtain ⟨l', e, hl1, hd, hf⟩ := hL
        have el : l = l' := (nI_eq (by omega) (by omega)).mp e
        subst el
        rcases hd with hd | hd
        · omega
        · exact absurd hd (hn l)
      · obtain ⟨q1, q2, q3⟩ := sk_of R b2'
        have hnew : sl_ok s cd n (m_P cd n Pn) CO FA PA XG XM BY TY TS IM FU SI WH LA GL GV EN EA H M := by
          refine ⟨⟨h3, hok, hno, fun f hf hf2 => m_ib h3 hok Pn f hf hf2⟩, ⟨⟨fun i hi => (k2 i hi).trans (h4.1 i hi), h4.2⟩, Fxs, fun i hi => (k4 i hi).trans (hPa i hi)⟩, q1, fun g hg => ⟨(g2 g hg).trans (q2 g hg).symm, fun y => ?_⟩, fun j hj => ⟨_, tm_lt h4.2.1 j, m2 j hj, q3 j hj⟩⟩
          rw [g2 g hg, y]
          have := (mp.2.2.2.2.2.2.2.1 g hg).2.2.2.2
          obtain ⟨j, hj, hj2⟩ := rd_C_ex _ _ this
          exact cv_sx _ _ _ _ ⟨j, by split at hj <;> omega, hj2⟩
        have hd : mx_c CO 2 cd := ⟨fun i hi => by rw [k1 _ (by omega)]; exact h4.1 i hi, h4.2⟩
        have hdy : ∀ i, i < n → BY (280 + i) = nI (cd i) := fun i hi => by rw [b1' _ (by omega)]; exact h5 i hi
        have hs2 : s = 0 ∨ s = 1 := by omega
        rcases hs2 with rfl | rfl
        · exact ⟨n, cd, true, false, cd, n, m_P cd n Pn, c1, n1, P1, h1, h2, h3, hd, hdy, rfl, h7, h8, h9, h10, h11, h12, l1, t1, l2 rfl, t2 rfl, fun _ => ⟨hnew, fun k hk => lk_0 (hall k hk)⟩, fun q => ff_t q⟩
        · refine ⟨n, cd, b0, true, c0, n0, P0, cd, n, m_P cd n Pn, h1, h2, h3, hd, hdy, rfl, h7, h8, h9, h10, h11, h12, (l3 rfl).trans h13, (t3 rfl).trans h14, l1, t1, fun q => ⟨sl_fr (h17 q).1 (g 0 (by omega) (by omega)) (fun i hi => b1' _ ?_) (fun i hi => k1 _ (by omega)) (fun i hi => (k5 _ (by omega)).trans (f1 _ (by omega))) (fun i hi => (k3 _ (by omega)).trans (f2 _ (by omega))) (fun i hi => g1 _ (by omega)) (fun i hi => m1 _ (by omega)), (h17 q).2⟩, fun _ => ⟨hnew, hall⟩⟩
          have := (h17 q).1.1.1
          omega
  · unfold wpX_load
    refine br_f z0 (br_f z1 (br_t rfl ?_))
    rcases z2 with z2 | ⟨z2, z3⟩
    · exact br_t z2 ⟨rfl, I⟩
    · refine br_f z2 (br_f (fun q => ?_) ⟨rfl, I⟩)
      exact absurd (Int32.lt_of_lt_of_le z3 q) (by decide)
end
section
/-! 40: what validation says of a body that runs -/
/-- the lowest h kinds -/
def lo (h : Nat) (K : List Nat) : List Nat := K.drop (K.length - h)
theorem lo_len {h : Nat} {K : List Nat} (e : h ≤ K.length) : (lo h K).length = h := by unfold lo; rw [List.length_drop]; omega
theorem lo_cons {h x : Nat} {K : List Nat} (e : h ≤ K.length) : lo h (x :: K) = lo h K := by
  unfold lo
  rw [List.length_cons, show K.length + 1 - h = (K.length - h) + 1 by omega]
  rfl
theorem lo_self (K : List Nat) : lo K.length K = K := by unfold lo; rw [Nat.sub_self]; rfl
theorem lo_tail {h : Nat} {K : List Nat} (e : h < K.length) : lo h K.tail = lo h K := by
  cases K with
  | nil => exact absurd e (Nat.not_lt_zero _)
  | cons x K => rw [List.length_cons] at e; exact (lo_cons (K := K) (x := x) (by omega)).symm
theorem lo_lo {h h' : Nat} {K : List Nat} (e : h ≤ h') (e' : h' ≤ K.length) : lo h (lo h' K) = lo h K := by
  unfold lo
  rw [List.length_drop, List.drop_drop]
  congr 1
  omega
theorem lo_le {h h' : Nat} {K K' : List Nat} (e : h ≤ h') (e1 : h' ≤ K.length) (e2 : h' ≤ K'.length) (q : lo h' K' = lo h' K) : lo h K' = lo h K := by
  rw [← lo_lo e e2, q, lo_lo e e1]
theorem lo_eq {h : Nat} {K K' : List Nat} (e : K'.length = h) (q : lo h K' = lo h K) : K' = lo h K := by
  rw [← q, ← e, lo_self]
/-- what an instruction leaves alone -/
def kp (S S' : vt_St) : Prop := S'.2.1 = S.2.1 ∧ (f_h S.2.1 ≤ S.1.length → f_h S.2.1 ≤ S'.1.length ∧ lo (f_h S.2.1) S'.1 = lo (f_h S.2.1) S.1)
theorem kp_r (S : vt_St) : kp S S := ⟨rfl, fun h => ⟨h, rfl⟩⟩
theorem kp_t {S S' S'' : vt_St} (a : kp S S') (b : kp S' S'') : kp S S'' := by
  obtain ⟨a1, a2⟩ := a
  obtain ⟨b1, b2⟩ := b
  rw [a1] at b2
  refine ⟨b1.trans a1, fun h => ?_⟩
  obtain ⟨x1, x2⟩ := a2 h
  obtain ⟨y1, y2⟩ := b2 x1
  exact ⟨y1, y2.trans x2⟩
theorem kp_pl (k : Nat) (S : vt_St) : kp S (vt_pl k S) := by
  refine ⟨fk_pl k S, fun h => ?_⟩
  unfold vt_pl
  split
  · exact ⟨h, rfl⟩
  · rename_i z
    have : f_h S.2.1 < S.1.length := by omega
    refine ⟨?_, lo_tail this⟩
    show f_h S.2.1 ≤ S.1.tail.length
    rw [List.length_tail]
    omega
theorem kp_gv (k : Nat) (S : vt_St) : kp S (vt_gv k S) := by
  refine ⟨fk_gv k S, fun h => ?_⟩
  unfold vt_gv
  split
  · exact ⟨h, rfl⟩
  · refine ⟨?_, lo_cons h⟩
    show f_h S.2.1 ≤ (k :: S.1).length
    rw [List.length_cons]
    omega
theorem kp_pr (k : Nat) (S : vt_St) : kp S (vt_pr k S) := by unfold vt_pr; split; exact kp_r S; exact kp_pl k S
theorem kp_gr (k : Nat) (S : vt_St) : kp S (vt_gr k S) := by unfold vt_gr; split; exact kp_r S; exact kp_gv k S
theorem kp_bad (S : vt_St) (b : Bool) : kp S (vt_bad S b) := ⟨rfl, fun h => ⟨h, rfl⟩⟩
theorem kp_ws (d : Nat) (S : vt_St) : kp S (vt_ws d S) := kp_bad S _
theorem kp_ps (c : Nat → Nat) (t : Nat) : ∀ k S, kp S (vt_ps c t k S) := by
  intro k
  induction k with
  | zero => intro S; exact kp_r S
  | succ k ih => intro S; rw [vt_ps]; exact kp_t (kp_pl _ S) (ih _)
theorem kp_tb (c : Nat → Nat) (w : Nat) : ∀ r p S, kp S (vt_tb c w r p S) := by
  intro r
  induction r with
  | zero => intro p S; exact kp_r S
  | succ r ih => intro p S; rw [vt_tb]; exact kp_t (kp_t (kp_ws _ S) (kp_bad _ _)) (ih _ _)
theorem kp_call (c : Nat → Nat) (n op x : Nat) (S : vt_St) : kp S (vt_call c n op x S) := by
  unfold vt_call
  split
  · exact kp_bad S _
  · refine kp_t ?_ (kp_gr _ _)
    refine kp_t ?_ (kp_ps _ _ _ _)
    split
    · exact kp_pl 1 S
    · exact kp_r S
theorem kp_var (c : Nat → Nat) (n f op x : Nat) (S : vt_St) : kp S (vt_var c n f op x S) := by
  unfold vt_var
  repeat' split
  all_goals first
    | exact kp_t (kp_bad S _) (kp_gv _ _)
    | exact kp_t (kp_bad S _) (kp_pl _ _)
    | exact kp_t (kp_t (kp_bad S _) (kp_pl _ _)) (kp_gv _ _)
    | exact kp_gv _ _
theorem kp_mem (c : Nat → Nat) (n op : Nat) (S : vt_St) : kp S (vt_mem c n op S) := by
  unfold vt_mem
  split
  · exact kp_gv _ _
  · split
    · exact kp_t (kp_t (kp_bad S _) (kp_pl _ _)) (kp_gv _ _)
    · exact kp_t (kp_t (kp_bad S _) (kp_pl _ _)) (kp_pl _ _)
theorem kp_num (op : Nat) (S : vt_St) : kp S (vt_num op S) := by
  unfold vt_num
  refine kp_t ?_ (kp_gv _ _)
  split
  · exact kp_pl _ _
  · exact kp_t (kp_pl _ _) (kp_pl _ _)
theorem kp_sel (S : vt_St) : kp S (vt_sel S) := kp_t (kp_t (kp_t (kp_pl _ _) (kp_pl _ _)) (kp_pl _ _)) (kp_gv _ _)
/-- heights that nest -/
def hn : Nat → List vt_Fr → Prop
  | _, [] => True
  | t, (_, _, h, _, _) :: F => h ≤ t ∧ hn h F
theorem hn_top {t : Nat} {F : List vt_Fr} (h : hn t F) : f_h F ≤ t := by
  cases F with
  | nil => exact Nat.zero_le t
  | cons x F => obtain ⟨a, b, d, e, g⟩ := x; exact h.1
theorem hn_tail {t : Nat} {F : List vt_Fr} (h : hn t F) : hn (f_h F) F.tail := by
  cases F with
  | nil => trivial
  | cons x F => obtain ⟨a, b, d, e, g⟩ := x; exact h.2
theorem hn_mono {t t' : Nat} {F : List vt_Fr} (h : hn t F) (e : f_h F ≤ t') : hn t' F := by
  cases F with
  | nil => trivial
  | cons x F => obtain ⟨a, b, d, e, g⟩ := x; exact ⟨e, h.2⟩
theorem hn_drop : ∀ (F : List vt_Fr) t d, hn t F → f_h (F.drop d) ≤ f_h F := by
  intro F
  induction F with
  | nil => intro t d _; rw [List.drop_nil]; exact Nat.le_refl _
  | cons x F ih =>
    intro t d h
    obtain ⟨a, b, hh, e, g⟩ := x
    cases d with
    | zero => exact Nat.le_refl _
    | succ d =>
      have := ih hh d h.2
      have e2 := hn_top h.2
      show f_h (F.drop d) ≤ hh
      omega
theorem fr_eta {F : List vt_Fr} (h : F ≠ []) : F = (f_c F, f_g F, f_h F, f_d F, f_o F) :: F.tail := by
  cases F with
  | nil => exact absurd rfl h
  | cons x F => rfl
theorem st_eta (S : vt_St) (h : S.2.2 = false) : S = (S.1, S.2.1, false) := by
  obtain ⟨K, F, b⟩ := S
  have : b = false := h
  rw [this]
/-- what becomes of kinds and frames -/
theorem bf_pl {k : Nat} {S : vt_St} (h : (vt_pl k S).2.2 = false) : S.2.2 = false := by
  cases e : S.2.2 with
  | false => rfl
  | true => rw [fm_pl e] at h; exact ff_t h.symm
theorem bf_pr {k : Nat} {S : vt_St} (h : (vt_pr k S).2.2 = false) : S.2.2 = false := by
  cases e : S.2.2 with
  | false => rfl
  | true => rw [fm_pr e] at h; exact ff_t h.symm
theorem bf_gv {k : Nat} {S : vt_St} (h : (vt_gv k S).2.2 = false) : S.2.2 = false := by
  cases e : S.2.2 with
  | false => rfl
  | true => rw [fm_gv e] at h; exact ff_t h.symm
theorem bf_gr {k : Nat} {S : vt_St} (h : (vt_gr k S).2.2 = false) : S.2.2 = false := by
  cases e : S.2.2 with
  | false => rfl
  | true => rw [fm_gr e] at h; exact ff_t h.symm
theorem bf_bad {S : vt_St} {b : Bool} (h : (vt_bad S b).2.2 = false) : S.2.2 = false ∧ b = false := by
  have h' : (S.2.2 || b) = false := h
  rw [Bool.or_eq_false_iff] at h'
  exact h'
theorem vl_o {c : Nat → Nat} {n f p : Nat} {K : List Nat} {F : List vt_Fr} (ho : 2 ≤ c p ∧ c p ≤ 4) (hh : f_h F ≤ K.length) (ok : (v_st c n f p (K, F, false)).2.2 = false) :
    ∃ K', v_st c n f p (K, F, false) = (K', (c p, c (p + 1), K'.length, false, p) :: F, false) ∧ f_h F ≤ K'.length ∧ lo (f_h F) K' = lo (f_h F) K ∧ F.length ≠ 8 ∧ (c p ≠ 4 → K' = K) ∧ (c p = 4 → vt_pl 1 (K, F, false) = (K', F, false)) := by
  unfold v_st at ok ⊢
  rw [if_neg (by omega), if_neg (by omega)] at ok ⊢
  by_cases h2 : c p = 2 ∨ c p = 3
  · rw [if_pos h2] at ok ⊢
    unfold vt_open at ok ⊢
    by_cases h8 : F.length = 8
    · rw [if_pos h8] at ok; exact ff_t ok.symm
    · rw [if_neg h8] at ok ⊢
      exact ⟨K, rfl, hh, rfl, h8, fun _ => rfl, fun z => absurd z (by omega)⟩
  · rw [if_neg h2, if_pos (by omega)] at ok ⊢
    have h4 : c p = 4 := by omega
    obtain ⟨a1, a2⟩ := kp_pl 1 (K, F, false)
    obtain ⟨a3, a4⟩ := a2 hh
    unfold vt_open at ok ⊢
    rw [a1] at ok ⊢
    dsimp only at ok a1 a3 a4 ⊢
    by_cases h8 : F.length = 8
    · rw [if_pos h8] at ok; exact ff_t ok.symm
    · rw [if_neg h8] at ok ⊢
      have ok' : (vt_pl 1 (K, F, false)).2.2 = false := ok
      have e := st_eta _ ok'
      rw [a1] at e
      refine ⟨(vt_pl 1 (K, F, false)).1, ?_, a3, a4, h8, fun z => absurd h4 z, fun _ => e⟩
      rw [ok', h4]
theorem vl_c {op : Nat} {K : List Nat} {F : List vt_Fr} (hh : f_h F ≤ K.length) (ok : (vt_cl op (K, F, false)).2.2 = false) :
    vt_pr (f_g F) (K, F, false) = (lo (f_h F) K, F, false) ∧ (vt_cl op (K, F, false)).1 = lo (f_h F) K ∧ (op = 6 → f_c F = 4 → f_g F = 0) := by
  unfold vt_cl at ok ⊢
  dsimp only at ok ⊢
  obtain ⟨b1, b2⟩ := bf_bad ok
  have b3 := of_decide_eq_false b2
  obtain ⟨a1, a2⟩ := kp_pr (f_g F) (K, F, false)
  obtain ⟨a3, a4⟩ := a2 hh
  dsimp only at a1 a3 a4
  have e1 : (vt_pr (f_g F) (K, F, false)).1.length = f_h F := by omega
  have e2 := lo_eq e1 a4
  refine ⟨?_, e2, fun h6 h4 => by omega⟩
  have e := st_eta _ b1
  rw [a1, e2] at e
  exact e
theorem vl_5 {c : Nat → Nat} {n f p : Nat} {K : List Nat} {F : List vt_Fr} (h5 : c p = 5) (hh : f_h F ≤ K.length) (ok : (v_st c n f p (K, F, false)).2.2 = false) :
    v_st c n f p (K, F, false) = (lo (f_h F) K, (5, f_g F, f_h F, false, f_o F) :: F.tail, false) ∧ vt_pr (f_g F) (K, F, false) = (lo (f_h F) K, F, false) := by
  unfold v_st at ok ⊢
  rw [if_neg (by omega), if_neg (by omega), if_neg (by omega), if_neg (by omega), if_pos (by omega)] at ok ⊢
  unfold vt_close at ok ⊢
  rw [if_pos h5, h5] at ok ⊢
  dsimp only at ok ⊢
  obtain ⟨a1, a2, _⟩ := vl_c hh ok
  rw [a2, ok]
  exact ⟨rfl, a1⟩
theorem vl_6 {c : Nat → Nat} {n f p : Nat} {K : List Nat} {F : List vt_Fr} (h6 : c p = 6) (hh : f_h F ≤ K.length) (ok : (v_st c n f p (K, F, false)).2.2 = false) :
    (F.tail = [] → (v_st c n f p (K, F, false)).2.1 = []) ∧ (F.tail ≠ [] → v_st c n f p (K, F, false) = vt_gr (f_g F) (lo (f_h F) K, F.tail, false)) ∧ (f_c F = 4 → f_g F = 0) ∧ vt_pr (f_g F) (K, F, false) = (lo (f_h F) K, F, false) := by
  unfold v_st at ok ⊢
  rw [if_neg (by omega), if_neg (by omega), if_neg (by omega), if_neg (by omega), if_pos (by omega)] at ok ⊢
  unfold vt_close at ok ⊢
  rw [if_neg (by omega), h6] at ok ⊢
  dsimp only at ok ⊢
  by_cases hT : F.tail = []
  · rw [if_pos hT] at ok ⊢
    obtain ⟨a1, a2, a3⟩ := vl_c hh ok
    exact ⟨fun _ => rfl, fun z => absurd hT z, a3 rfl, a1⟩
  · rw [if_neg hT] at ok ⊢
    have ok' := bf_gr ok
    obtain ⟨a1, a2, a3⟩ := vl_c hh ok'
    have ok2 : (vt_cl 6 (K, F, false)).2.2 = false := ok'
    refine ⟨fun z => absurd z hT, fun _ => ?_, a3 rfl, a1⟩
    rw [a2, ok2]
theorem vl_d {S S' : vt_St} (k : kp S S') (hF : S.2.1 ≠ []) (hh : f_h S.2.1 ≤ S.1.length) (ok : (vt_die S').2.2 = false) :
    ∃ K', vt_die S' = (K', (f_c S.2.1, f_g S.2.1, f_h S.2.1, true, f_o S.2.1) :: S.2.1.tail, false) ∧ f_h S.2.1 ≤ K'.length ∧ lo (f_h S.2.1) K' = lo (f_h S.2.1) S.1 := by
  obtain ⟨k1, k2⟩ := k
  obtain ⟨k3, k4⟩ := k2 hh
  have ok' : S'.2.2 = false := ok
  refine ⟨lo (f_h S.2.1) S'.1, ?_, ?_, ?_⟩
  · unfold vt_die lo
    rw [k1, ok']
  · rw [lo_len k3]; exact Nat.le_refl _
  · rw [lo_lo (Nat.le_refl _) k3, k4]
theorem vl_k {S S' : vt_St} (k : kp S S') (hF : S.2.1 ≠ []) (hh : f_h S.2.1 ≤ S.1.length) (ok : S'.2.2 = false) :
    ∃ K' b, S' = (K', (f_c S.2.1, f_g S.2.1, f_h S.2.1, b, f_o S.2.1) :: S.2.1.tail, false) ∧ f_h S.2.1 ≤ K'.length ∧ lo (f_h S.2.1) K' = lo (f_h S.2.1) S.1 := by
  obtain ⟨k1, k2⟩ := k
  obtain ⟨k3, k4⟩ := k2 hh
  refine ⟨S'.1, f_d S.2.1, ?_, k3, k4⟩
  have e := st_eta _ ok
  rw [k1] at e
  rw [← fr_eta hF]
  exact e
theorem vl_n {c : Nat → Nat} {n f p : Nat} {K : List Nat} {F : List vt_Fr} (ho : ¬ (2 ≤ c p ∧ c p ≤ 4)) (h5 : c p ≠ 5) (h6 : c p ≠ 6) (hF : F ≠ []) (hh : f_h F ≤ K.length) (ok : (v_st c n f p (K, F, false)).2.2 = false) :
    ∃ K' b, v_st c n f p (K, F, false) = (K', (f_c F, f_g F, f_h F, b, f_o F) :: F.tail, false) ∧ f_h F ≤ K'.length ∧ lo (f_h F) K' = lo (f_h F) K := by
  have dd : ∀ S', kp (K, F, false) S' → (vt_die S').2.2 = false → ∃ K' b, vt_die S' = (K', (f_c F, f_g F, f_h F, b, f_o F) :: F.tail, false) ∧ f_h F ≤ K'.length ∧ lo (f_h F) K' = lo (f_h F) K := by
    intro S' k o
    obtain ⟨K', a⟩ := vl_d k hF hh o
    exact ⟨K', true, a⟩
  have kk : ∀ S', kp (K, F, false) S' → S'.2.2 = false → ∃ K' b, S' = (K', (f_c F, f_g F, f_h F, b, f_o F) :: F.tail, false) ∧ f_h F ≤ K'.length ∧ lo (f_h F) K' = lo (f_h F) K := fun S' k o => vl_k k hF hh o
  unfold v_st at ok ⊢
  by_cases h0 : c p = 0
  · rw [if_pos h0] at ok ⊢; exact dd _ (kp_r _) ok
  rw [if_neg h0] at ok ⊢
  by_cases h1 : c p = 1
  · rw [if_pos h1] at ok ⊢; exact kk _ (kp_r _) ok
  rw [if_neg h1, if_neg (by omega), if_neg (by omega), if_neg (by omega)] at ok ⊢
  by_cases h7 : c p = 7
  · rw [if_pos h7] at ok ⊢; exact dd _ (kp_t (kp_ws _ _) (kp_pr _ _)) ok
  rw [if_neg h7] at ok ⊢
  by_cases h8 : c p = 8
  · rw [if_pos h8] at ok ⊢; exact kk _ (kp_t (kp_t (kp_t (kp_pl _ _) (kp_ws _ _)) (kp_pr _ _)) (kp_gr _ _)) ok
  rw [if_neg h8] at ok ⊢
  by_cases h9 : c p = 9
  · rw [if_pos h9] at ok ⊢; exact dd _ (kp_t (kp_t (kp_t (kp_pl _ _) (kp_ws _ _)) (kp_tb _ _ _ _ _)) (kp_pr _ _)) ok
  rw [if_neg h9] at ok ⊢
  by_cases h10 : c p = 10
  · rw [if_pos h10] at ok ⊢; exact dd _ (kp_pr _ _) ok
  rw [if_neg h10] at ok ⊢
  by_cases h11 : c p = 11 ∨ c p = 12
  · rw [if_pos h11] at ok ⊢; exact kk _ (kp_call _ _ _ _ _) ok
  rw [if_neg h11] at ok ⊢
  by_cases h13 : c p = 13
  · rw [if_pos h13] at ok ⊢; exact kk _ (kp_pl _ _) ok
  rw [if_neg h13] at ok ⊢
  by_cases h14 : c p = 14
  · rw [if_pos h14] at ok ⊢; exact kk _ (kp_sel _) ok
  rw [if_neg h14] at ok ⊢
  by_cases h15 : c p < 20
  · rw [if_pos h15] at ok ⊢; exact kk _ (kp_var _ _ _ _ _ _) ok
  rw [if_neg h15] at ok ⊢
  by_cases h20 : c p < 28
  · rw [if_pos h20] at ok ⊢; exact kk _ (kp_mem _ _ _ _) ok
  rw [if_neg h20] at ok ⊢
  exact kk _ (kp_num _ _) ok
/-- from p at S validation runs through -/
def wk (c : Nat → Nat) (n : Nat) (P : Nat → Nat) (f : Nat) : Nat → Nat → vt_St → Prop
  | 0, _, _ => False
  | k + 1, p, S => S.2.1 ≠ [] ∧ S.2.2 = false ∧ p < n ∧ c p ≤ 66 ∧ rd_R c n (c p) (true, p + 1) = (true, nx c p) ∧ nx c p ≤ n ∧ p < nx c p ∧ (2 ≤ c p ∧ c p ≤ 4 → pt_at c P p (nx c p) 0) ∧ (c p = 5 → S.2.1.tail ≠ [] ∧ f_c S.2.1 = 4 ∧ P (f_o S.2.1) = p) ∧ (v_st c n f p S).2.2 = false ∧ ((v_st c n f p S).2.1 = [] ∨ wk c n P f k (nx c p) (v_st c n f p S))
theorem gr_st {g : Nat} {K : List Nat} {F : List vt_Fr} (h : (vt_gr g (K, F, false)).2.2 = false) : ∃ K', vt_gr g (K, F, false) = (K', F, false) ∧ (g = 0 → K' = K) ∧ (g ≠ 0 → K' = g :: K ∧ K.length ≠ 20) := by
  unfold vt_gr vt_gv at h ⊢
  by_cases z : g = 0
  · rw [if_pos z]; exact ⟨K, rfl, fun _ => rfl, fun y => absurd z y⟩
  · rw [if_neg z] at h ⊢
    by_cases w : K.length = 20
    · rw [if_pos w] at h; exact ff_t h.symm
    · rw [if_neg w]; exact ⟨g :: K, rfl, fun y => absurd y z, fun _ => ⟨rfl, w⟩⟩
theorem gr_lo {g h : Nat} {K K' : List Nat} {F : List vt_Fr} (e : h ≤ K.length) (q : (g = 0 → K' = K) ∧ (g ≠ 0 → K' = g :: K ∧ K.length ≠ 20)) : h ≤ K'.length ∧ lo h K' = lo h K := by
  by_cases z : g = 0
  · rw [q.1 z]; exact ⟨e, rfl⟩
  · rw [(q.2 z).1]; exact ⟨by rw [List.length_cons]; omega, lo_cons e⟩
/-- out of a frame: what follows its END is validated with the frame closed -/
theorem wk_exit {c P : Nat → Nat} {n f : Nat} : ∀ k p K F d e, wk c n P f k p (K, F, false) → hn K.length F → SC c p d e → F.drop (d + 1) ≠ [] → ∃ k', wk c n P f k' (e + 1) (vt_gr (f_g (F.drop d)) (lo (f_h (F.drop d)) K, F.drop (d + 1), false)) := by
  intro k
  induction k with
  | zero => intro p K F d e h; exact h.elim
  | succ k ih =>
    intro p K F d e h hN hS hD
    obtain ⟨hF, _, _, _, _, _, _, _, _, ok, hw⟩ := h
    dsimp only at hF
    have hh := hn_top hN
    have hTn : F.tail ≠ [] := by
      intro z
      cases F with
      | nil => exact hF rfl
      | cons x F =>
        have z' : F = [] := z
        subst z'
        exact hD (by simp)
    have eD : ∀ i, F.drop (i + 1) = F.tail.drop i := by
      intro i
      cases F with
      | nil => exact absurd rfl hF
      | cons x F => rfl
    by_cases ho : 2 ≤ c p ∧ c p ≤ 4
    · obtain ⟨K', e1, e2, e3, _⟩ := vl_o ho hh ok
      rw [e1] at hw
      rcases hw with z | hw
      · exact absurd z (by simp)
      obtain ⟨k', w⟩ := ih (nx c p) K' _ (d + 1) e hw ⟨Nat.le_refl _, hn_mono hN e2⟩ ((SC_o ho).mp hS) hD
      rw [List.drop_succ_cons, List.drop_succ_cons] at w
      rw [lo_le (hn_drop F _ d hN) hh e2 e3] at w
      exact ⟨k', w⟩
    · by_cases h5 : c p = 5
      · obtain ⟨e1, _⟩ := vl_5 h5 hh ok
        rw [e1] at hw
        rcases hw with z | hw
        · exact absurd z (by simp)
        obtain ⟨k', w⟩ := ih (nx c p) _ _ d e hw ⟨by rw [lo_len hh]; exact Nat.le_refl _, hn_tail hN⟩ ((SC_n ho (by omega)).mp hS) (by rw [List.drop_succ_cons, ← eD]; exact hD)
        rw [List.drop_succ_cons, ← eD] at w
        cases d with
        | zero =>
          rw [List.drop_zero] at w ⊢
          have w' : wk c n P f k' (e + 1) (vt_gr (f_g F) (lo (f_h F) (lo (f_h F) K), F.drop (0 + 1), false)) := w
          rw [lo_lo (Nat.le_refl _) hh] at w'
          exact ⟨k', w'⟩
        | succ d =>
          rw [List.drop_succ_cons, ← eD, lo_lo (hn_drop F _ (d + 1) hN) hh] at w
          exact ⟨k', w⟩
      · by_cases h6 : c p = 6
        · obtain ⟨_, e1, _, _⟩ := vl_6 h6 hh ok
          rw [e1 hTn] at hw ok
          have enx : nx c p = p + 1 := nx_1 (by omega)
          rcases hw with z | hw
          · rw [fk_gr] at z; exact absurd z hTn
          cases d with
          | zero =>
            have := SC_uni hS (SC_e h6)
            subst this
            rw [enx] at hw
            rw [eD 0]
            exact ⟨k, hw⟩
          | succ d =>
            obtain ⟨K', g1, g2⟩ := gr_st ok
            obtain ⟨g3, g4⟩ := gr_lo (F := F) (h := f_h F) (by rw [lo_len hh]; exact Nat.le_refl _) g2
            rw [lo_lo (Nat.le_refl _) hh] at g4
            rw [g1] at hw
            have hle := hn_top (hn_tail hN)
            obtain ⟨k', w⟩ := ih (nx c p) K' F.tail d e hw (hn_mono (hn_tail hN) (by omega)) ((SC_6 h6).mp hS) (by rw [← eD]; exact hD)
            rw [← eD, ← eD, lo_le (hn_drop F _ (d + 1) hN) hh g3 g4] at w
            exact ⟨k', w⟩
        · obtain ⟨K', b, e1, e2, e3⟩ := vl_n ho h5 h6 hF hh ok
          rw [e1] at hw
          rcases hw with z | hw
          · exact absurd z (by simp)
          obtain ⟨k', w⟩ := ih (nx c p) _ _ d e hw ⟨e2, hn_tail hN⟩ ((SC_n ho h6).mp hS) (by rw [List.drop_succ_cons, ← eD]; exact hD)
          rw [List.drop_succ_cons, ← eD] at w
          cases d with
          | zero =>
            rw [List.drop_zero] at w ⊢
            have w' : wk c n P f k' (e + 1) (vt_gr (f_g F) (lo (f_h F) K', F.drop (0 + 1), false)) := w
            rw [e3] at w'
            exact ⟨k', w'⟩
          | succ d =>
            rw [List.drop_succ_cons, ← eD, lo_le (hn_drop F _ (d + 1) hN) hh e2 e3] at w
            exact ⟨k', w⟩
/-- an IF that isn't taken: its ELSE, or its END -/
theorem wk_alt {c P : Nat → Nat} {n f : Nat} : ∀ k p K F d e, wk c n P f k p (K, F, false) → hn K.length F → SE c p d e → f_c (F.drop d) = 4 → F.drop (d + 1) ≠ [] → (c e = 5 → ∃ k', wk c n P f k' (e + 1) (lo (f_h (F.drop d)) K, (5, f_g (F.drop d), f_h (F.drop d), false, f_o (F.drop d)) :: F.drop (d + 1), false)) ∧ (c e = 6 → f_g (F.drop d) = 0) := by
  intro k
  induction k with
  | zero => intro p K F d e h; exact h.elim
  | succ k ih =>
    intro p K F d e h hN hS hC hD
    obtain ⟨hF, _, _, _, _, _, _, _, _, ok, hw⟩ := h
    dsimp only at hF
    have hh := hn_top hN
    have hTn : F.tail ≠ [] := by
      intro z
      cases F with
      | nil => exact hF rfl
      | cons x F =>
        have z' : F = [] := z
        subst z'
        exact hD (by simp)
    have eD : ∀ i, F.drop (i + 1) = F.tail.drop i := by
      intro i
      cases F with
      | nil => exact absurd rfl hF
      | cons x F => rfl
    by_cases ho : 2 ≤ c p ∧ c p ≤ 4
    · obtain ⟨K', e1, e2, e3, _⟩ := vl_o ho hh ok
      rw [e1] at hw
      rcases hw with z | hw
      · exact absurd z (by simp)
      have w := ih (nx c p) K' _ (d + 1) e hw ⟨Nat.le_refl _, hn_mono hN e2⟩ ((SE_o ho).mp hS) hC hD
      rw [List.drop_succ_cons, List.drop_succ_cons] at w
      rw [lo_le (hn_drop F _ d hN) hh e2 e3] at w
      exact w
    · by_cases h5 : c p = 5
      · obtain ⟨e1, _⟩ := vl_5 h5 hh ok
        rw [e1] at hw
        have enx : nx c p = p + 1 := nx_1 (by omega)
        rcases hw with z | hw
        · exact absurd z (by simp)
        cases d with
        | zero =>
          have := SE_uni hS (SE_5 h5)
          subst this
          rw [enx] at hw
          refine ⟨fun _ => ?_, fun z => absurd z (by omega)⟩
          rw [List.drop_zero, eD 0]
          exact ⟨k, hw⟩
        | succ d =>
          have w := ih (nx c p) _ _ (d + 1) e hw ⟨by rw [lo_len hh]; exact Nat.le_refl _, hn_tail hN⟩ ((SE_n ho (by omega) (by omega)).mp hS) (by rw [List.drop_succ_cons, ← eD]; exact hC) (by rw [List.drop_succ_cons, ← eD]; exact hD)
          rw [List.drop_succ_cons, List.drop_succ_cons, ← eD, ← eD, lo_lo (hn_drop F _ (d + 1) hN) hh] at w
          exact w
      · by_cases h6 : c p = 6
        · obtain ⟨_, e1, e0, _⟩ := vl_6 h6 hh ok
          rw [e1 hTn] at hw ok
          rcases hw with z | hw
          · rw [fk_gr] at z; exact absurd z hTn
          cases d with
          | zero =>
            have := SE_uni hS (SE_e h6)
            subst this
            exact ⟨fun z => absurd z (by omega), fun _ => e0 hC⟩
          | succ d =>
            obtain ⟨K', g1, g2⟩ := gr_st ok
            obtain ⟨g3, g4⟩ := gr_lo (F := F) (h := f_h F) (by rw [lo_len hh]; exact Nat.le_refl _) g2
            rw [lo_lo (Nat.le_refl _) hh] at g4
            rw [g1] at hw
            have hle := hn_top (hn_tail hN)
            have w := ih (nx c p) K' F.tail d e hw (hn_mono (hn_tail hN) (by omega)) ((SE_6 h6).mp hS) (by rw [← eD]; exact hC) (by rw [← eD]; exact hD)
            rw [← eD, ← eD, lo_le (hn_drop F _ (d + 1) hN) hh g3 g4] at w
            exact w
        · obtain ⟨K', b, e1, e2, e3⟩ := vl_n ho h5 h6 hF hh ok
          rw [e1] at hw
          rcases hw with z | hw
          · exact absurd z (by simp)
          cases d with
          | zero =>
            have w := ih (nx c p) _ _ 0 e hw ⟨e2, hn_tail hN⟩ ((SE_n ho h6 (by omega)).mp hS) hC (by rw [List.drop_succ_cons, ← eD]; exact hD)
            rw [List.drop_zero, List.drop_succ_cons, ← eD] at w
            have w' : (c e = 5 → ∃ k', wk c n P f k' (e + 1) (lo (f_h F) K', (5, f_g F, f_h F, false, f_o F) :: F.drop (0 + 1), false)) ∧ (c e = 6 → f_g F = 0) := w
            rw [e3] at w'
            exact w'
          | succ d =>
            have w := ih (nx c p) _ _ (d + 1) e hw ⟨e2, hn_tail hN⟩ ((SE_n ho h6 (by omega)).mp hS) (by rw [List.drop_succ_cons, ← eD]; exact hC) (by rw [List.drop_succ_cons, ← eD]; exact hD)
            rw [List.drop_succ_cons, List.drop_succ_cons, ← eD, ← eD, lo_le (hn_drop F _ (d + 1) hN) hh e2 e3] at w
            exact w
/-- the lowest frame is the body's -/
def lw : List Nat → Prop
  | [] => True
  | cd :: T => (T = [] → cd = 0) ∧ lw T
theorem wk_of {c P : Nat → Nat} {n f b : Nat} : ∀ k p (S : vt_St), S.2.2 = false → ib c n P k p (S.2.1.map (·.1)) → v_go c n f k p S = none → S.2.1 ≠ [] → lw (S.2.1.map (·.1)) → xi_ok c P p b 0 (co_l S.2.1) → jb_ok c P b p (co_l S.2.1) → wk c n P f k p S := by
  intro k
  induction k with
  | zero => intro p S _ h; exact h.elim
  | succ k ih =>
    intro p S hb h hg hF hl hx hj
    obtain ⟨i1, i2, i3, i4, i5, i6, i7⟩ := h
    rw [v_go, if_neg hF] at hg
    have ok : (v_st c n f p S).2.2 = false := by
      cases e : (v_st c n f p S).2.2 with
      | false => rfl
      | true => rw [if_pos e] at hg; exact nomatch hg
    rw [if_neg (by rw [ok]; decide)] at hg
    have hcd := v_codes hF ok
    have hco := v_co hF ok
    have h54 : c p = 5 → f_c S.2.1 = 4 ∧ S.2.1.tail ≠ [] := by
      intro h5
      rw [if_neg (by omega), if_pos h5] at i7
      cases e : S.2.1 with
      | nil => exact absurd e hF
      | cons x F =>
        rw [e] at i7 hl
        refine ⟨i7.1, fun z => ?_⟩
        have z' : F = [] := z
        subst z'
        have a := hl.1 rfl
        have b := i7.1
        simp only [List.map_cons, List.map_nil, List.headD_cons] at a b
        omega
    refine ⟨hF, hb, i1, i2, i3, i4, i5, i6, fun h5 => ?_, ok, ?_⟩
    · obtain ⟨a1, a2⟩ := h54 h5
      refine ⟨a2, a1, ?_⟩
      cases e : S.2.1 with
      | nil => exact absurd e hF
      | cons x F =>
        obtain ⟨cd, g, hh, dd, o⟩ := x
        rw [e] at hx a1 a2
        have z1 : cd = 4 := a1
        have z2 : F.map (fun x => (x.1, x.2.2.2.2)) ≠ [] := by
          intro z; exact a2 (List.map_eq_nil_iff.mp z)
        exact SE_uni ((hx.1 z2).1 z1) (SE_5 h5)
    · by_cases hE : (v_st c n f p S).2.1 = []
      · exact Or.inl hE
      refine Or.inr (ih _ _ ok ?_ hg hE ?_ ?_ ?_)
      · rw [hcd]
        unfold cod
        by_cases ho : 2 ≤ c p ∧ c p ≤ 4
        · rw [if_pos ho] at i7 ⊢; exact i7
        · rw [if_neg ho] at i7 ⊢
          by_cases h5 : c p = 5
          · rw [if_pos h5] at i7 ⊢; exact i7.2
          · rw [if_neg h5] at i7 ⊢
            by_cases h6 : c p = 6
            · rw [if_pos h6] at i7 ⊢
              rcases i7 with z | z
              · exfalso
                have : (v_st c n f p S).2.1.map (·.1) = [] := by rw [hcd, cod, if_neg ho, if_neg h5, if_pos h6]; exact z
                exact hE (List.map_eq_nil_iff.mp this)
              · exact z
            · rw [if_neg h6] at i7 ⊢; exact i7
      · rw [hcd]
        unfold cod
        have hm : S.2.1.map (·.1) ≠ [] := fun z => hF (List.map_eq_nil_iff.mp z)
        split
        · exact ⟨fun z => absurd z hm, hl⟩
        · split
          · rename_i h5
            obtain ⟨a1, a2⟩ := h54 h5
            cases e : S.2.1 with
            | nil => exact absurd e hF
            | cons x F =>
              rw [e] at hl a2
              refine ⟨fun z => absurd (List.map_eq_nil_iff.mp z) a2, hl.2⟩
          · split
            · cases e : S.2.1 with
              | nil => exact absurd e hF
              | cons x F => rw [e] at hl; exact hl.2
            · exact hl
      · have hT : co_l S.2.1 ≠ [] := fun z => hF (List.map_eq_nil_iff.mp z)
        have q := xi_step (n := n) hT i5 i6 (fun h5 => ?_) hx hj
        · rw [hco]; exact q.1
        · obtain ⟨a1, a2⟩ := h54 h5
          cases e : S.2.1 with
          | nil => exact absurd e hF
          | cons x F =>
            rw [e] at a1 a2
            exact ⟨a1, fun z => a2 (List.map_eq_nil_iff.mp z)⟩
      · have hT : co_l S.2.1 ≠ [] := fun z => hF (List.map_eq_nil_iff.mp z)
        have q := xi_step (n := n) hT i5 i6 (fun h5 => ?_) hx hj
        · rw [hco]; exact q.2
        · obtain ⟨a1, a2⟩ := h54 h5
          cases e : S.2.1 with
          | nil => exact absurd e hF
          | cons x F =>
            rw [e] at a1 a2
            exact ⟨a1, fun z => a2 (List.map_eq_nil_iff.mp z)⟩
end
section
/-! 41: scans that run through; what a body that runs finds on its stack -/
/-- a scan from p, d levels up, that stops at e (with b: at an ELSE too) -/
def sv (c : Nat → Nat) (n : Nat) (b : Bool) : Nat → Nat → Nat → Nat → Prop
  | 0, p, d, e => p < n ∧ d = 0 ∧ e = p ∧ (c p = 6 ∨ (b = true ∧ c p = 5))
  | k + 1, p, d, e => p < n ∧ c p ≤ 66 ∧ rd_R c n (c p) (true, p + 1) = (true, nx c p) ∧ nx c p ≤ n ∧ p < nx c p ∧ ¬ (d = 0 ∧ (c p = 6 ∨ (b = true ∧ c p = 5))) ∧ sv c n b k (nx c p) (if 2 ≤ c p ∧ c p ≤ 4 then d + 1 else if c p = 6 then d - 1 else d) e
theorem sv_of {c P : Nat → Nat} {n f : Nat} (b : Bool) : ∀ k p (S : vt_St) d, wk c n P f k p S → d < S.2.1.length → ∃ j e, sv c n b j p d e ∧ j < k := by
  intro k
  induction k with
  | zero => intro p S d h; exact h.elim
  | succ k ih =>
    intro p S d h hd
    obtain ⟨hF, _, i1, i2, i3, i4, i5, _, _, ok, hw⟩ := h
    by_cases hs : d = 0 ∧ (c p = 6 ∨ (b = true ∧ c p = 5))
    · exact ⟨0, p, ⟨i1, hs.1, rfl, hs.2⟩, by omega⟩
    · have hcd := v_codes hF ok
      have hl : (v_st c n f p S).2.1.length = (cod c p (S.2.1.map (·.1))).length := by rw [← hcd, List.length_map]
      have hl0 : (S.2.1.map (·.1)).length = S.2.1.length := List.length_map ..
      have hlt : (if 2 ≤ c p ∧ c p ≤ 4 then d + 1 else if c p = 6 then d - 1 else d) < (v_st c n f p S).2.1.length := by
        rw [hl]
        unfold cod
        by_cases ho : 2 ≤ c p ∧ c p ≤ 4
        · rw [if_pos ho, if_pos ho, List.length_cons]; omega
        · rw [if_neg ho, if_neg ho]
          by_cases h5 : c p = 5
          · rw [if_pos h5, if_neg (by omega), List.length_cons, List.length_tail]; omega
          · rw [if_neg h5]
            by_cases h6 : c p = 6
            · rw [if_pos h6, if_pos h6, List.length_tail]
              have : d ≠ 0 := fun z => hs ⟨z, Or.inl h6⟩
              omega
            · rw [if_neg h6, if_neg h6]; omega
      rcases hw with z | hw
      · rw [z] at hlt; exact absurd hlt (Nat.not_lt_zero _)
      · obtain ⟨j, e, q1, q2⟩ := ih _ _ _ hw hlt
        exact ⟨j + 1, e, ⟨i1, i2, i3, i4, i5, hs, q1⟩, by omega⟩
theorem sv_SC {c : Nat → Nat} {n : Nat} : ∀ k p d e, sv c n false k p d e → SC c p d e ∧ c e = 6 ∧ e < n ∧ p ≤ e := by
  intro k
  induction k with
  | zero =>
    intro p d e h
    obtain ⟨h1, h2, h3, h4⟩ := h
    subst h2
    rw [h3]
    have : c p = 6 := by
      rcases h4 with z | z
      · exact z
      · exact ff_t z.1
    exact ⟨SC_e this, this, h1, Nat.le_refl _⟩
  | succ k ih =>
    intro p d e h
    obtain ⟨h1, h2, h3, h4, hlt, h5, h6⟩ := h
    obtain ⟨a1, a2, a3, a4⟩ := ih _ _ _ h6
    refine ⟨?_, a2, a3, by omega⟩
    by_cases ho : 2 ≤ c p ∧ c p ≤ 4
    · rw [if_pos ho] at a1; exact (SC_o ho).mpr a1
    · rw [if_neg ho] at a1
      by_cases z : c p = 6
      · rw [if_pos z] at a1
        obtain ⟨d, rfl⟩ : ∃ i, d = i + 1 := ⟨d - 1, by have : d ≠ 0 := fun y => h5 ⟨y, Or.inl z⟩; omega⟩
        rw [Nat.add_sub_cancel] at a1
        exact (SC_6 z).mpr a1
      · rw [if_neg z] at a1; exact (SC_n ho z).mpr a1
theorem sv_SE {c : Nat → Nat} {n : Nat} : ∀ k p d e, sv c n true k p d e → SE c p d e ∧ (c e = 6 ∨ c e = 5) ∧ e < n ∧ p ≤ e := by
  intro k
  induction k with
  | zero =>
    intro p d e h
    obtain ⟨h1, h2, h3, h4⟩ := h
    subst h2
    rw [h3]
    rcases h4 with z | ⟨_, z⟩
    · exact ⟨SE_e z, Or.inl z, h1, Nat.le_refl _⟩
    · exact ⟨SE_5 z, Or.inr z, h1, Nat.le_refl _⟩
  | succ k ih =>
    intro p d e h
    obtain ⟨h1, h2, h3, h4, hlt, h5, h6⟩ := h
    obtain ⟨a1, a2, a3, a4⟩ := ih _ _ _ h6
    refine ⟨?_, a2, a3, by omega⟩
    by_cases ho : 2 ≤ c p ∧ c p ≤ 4
    · rw [if_pos ho] at a1; exact (SE_o ho).mpr a1
    · rw [if_neg ho] at a1
      by_cases z : c p = 6
      · rw [if_pos z] at a1
        obtain ⟨d, rfl⟩ : ∃ i, d = i + 1 := ⟨d - 1, by have : d ≠ 0 := fun y => h5 ⟨y, Or.inl z⟩; omega⟩
        rw [Nat.add_sub_cancel] at a1
        exact (SE_6 z).mpr a1
      · rw [if_neg z] at a1; exact (SE_n ho z (fun y => h5 ⟨y.1, Or.inr ⟨rfl, y.2⟩⟩)).mpr a1
/-- a kind and a value -/
abbrev ev : Type := Nat × Int64
abbrev ek (E : List ev) : List Nat := E.map (·.1)
def tv : List ev → Prop
  | [] => True
  | (k, v) :: E => k ≠ 0 ∧ (k = 1 → sx64 v) ∧ tv E
theorem ek_len (E : List ev) : (ek E).length = E.length := List.length_map ..
theorem tv_drop : ∀ (E : List ev) j, tv E → tv (E.drop j) := by
  intro E
  induction E with
  | nil => intro j _; rw [List.drop_nil]; trivial
  | cons x E ih =>
    intro j h
    obtain ⟨k, v⟩ := x
    cases j with
    | zero => exact h
    | succ j => exact ih j h.2.2
theorem ek_drop (E : List ev) (j : Nat) : ek (E.drop j) = (ek E).drop j := List.map_drop ..
/-- the lowest h -/
def le_ (h : Nat) (E : List ev) : List ev := E.drop (E.length - h)
theorem le_len {h : Nat} {E : List ev} (e : h ≤ E.length) : (le_ h E).length = h := by unfold le_; rw [List.length_drop]; omega
theorem ek_le (h : Nat) (E : List ev) : ek (le_ h E) = lo h (ek E) := by unfold le_ lo; rw [ek_drop, ek_len]
theorem le_tv {h : Nat} {E : List ev} (q : tv E) : tv (le_ h E) := tv_drop _ _ q
theorem le_cons {h : Nat} {x : ev} {E : List ev} (e : h ≤ E.length) : le_ h (x :: E) = le_ h E := by
  unfold le_
  rw [List.length_cons, show E.length + 1 - h = (E.length - h) + 1 by omega]
  rfl
theorem le_self (E : List ev) : le_ E.length E = E := by unfold le_; rw [Nat.sub_self]; rfl
theorem le_eq {h : Nat} {E : List ev} (e : E.length = h) : le_ h E = E := by rw [← e]; exact le_self E
/-- where nothing is dead -/
theorem pe {k : Nat} {E : List ev} {F : List vt_Fr} (h : (vt_pl k (ek E, F, false)).2.2 = false) (hd : f_d F = false) (hz : tv E) (hh : f_h F ≤ E.length) :
    ∃ x v E', E = (x, v) :: E' ∧ f_h F ≤ E'.length ∧ (k ≠ 0 → x = k) ∧ vt_pl k (ek E, F, false) = (ek E', F, false) ∧ x ≠ 0 ∧ (x = 1 → sx64 v) ∧ tv E' ∧ vt_px k (ek E, F, false) = x := by
  unfold vt_pl at h ⊢
  unfold vt_px
  by_cases z : (ek E).length = f_h F
  · rw [if_pos z] at h
    dsimp only at h
    rw [hd] at h
    exact ff_t h.symm
  · rw [if_neg z] at h ⊢
    rw [if_neg z]
    rw [ek_len] at z
    cases E with
    | nil => exact absurd (Nat.le_antisymm (Nat.zero_le _) hh) z
    | cons y E =>
      obtain ⟨x, v⟩ := y
      obtain ⟨t1, t2, t3⟩ := hz
      rw [List.length_cons] at z hh
      dsimp only at h
      have h' : (false || pl_f x k) = false := h
      rw [Bool.false_or] at h'
      refine ⟨x, v, E, rfl, by omega, fun hk => ?_, ?_, t1, t2, t3, rfl⟩
      · unfold pl_f at h'
        by_cases w : x ≠ 0 ∧ k ≠ 0 ∧ x ≠ k
        · rw [if_pos w] at h'; exact ff_t h'.symm
        · by_cases q : x = k
          · exact q
          · exact absurd ⟨t1, hk, q⟩ w
      · show (ek E, F, false || pl_f x k) = _
        rw [h']; rfl
theorem ge {k : Nat} {K : List Nat} {F : List vt_Fr} (h : (vt_gv k (K, F, false)).2.2 = false) : K.length ≠ 20 ∧ vt_gv k (K, F, false) = (k :: K, F, false) := by
  unfold vt_gv at h ⊢
  by_cases z : K.length = 20
  · rw [if_pos z] at h; exact ff_t h.symm
  · rw [if_neg z]; exact ⟨z, rfl⟩
/-- a frame and those below it: what follows each is validated -/
def fo (c : Nat → Nat) (n : Nat) (P : Nat → Nat) (f : Nat) : List Nat → List vt_Fr → Prop
  | _, [] => True
  | K, (cd, g, h, dd, o) :: F => dd = false ∧ h ≤ K.length ∧ g ≤ 2 ∧ (F = [] → cd = 0 ∧ h = 0) ∧
    (F ≠ [] → 2 ≤ cd ∧ cd ≤ 5 ∧ c o = (if cd = 5 then 4 else cd) ∧ g = c (o + 1) ∧ o + 2 ≤ n ∧ pt_at c P o (o + 2) 0 ∧ (∃ j e, sv c n false j (o + 2) 0 e ∧ ∃ k, wk c n P f k (e + 1) (vt_gr g (lo h K, F, false))) ∧
      (cd = 3 → ∃ k, wk c n P f k (o + 2) (lo h K, (cd, g, h, dd, o) :: F, false))) ∧ fo c n P f (lo h K) F
theorem fo_ext {c : Nat → Nat} {n : Nat} {P : Nat → Nat} {f : Nat} {K K' : List Nat} {F : List vt_Fr} (h : fo c n P f K F) (e1 : f_h F ≤ K'.length) (e2 : lo (f_h F) K' = lo (f_h F) K) : fo c n P f K' F := by
  cases F with
  | nil => trivial
  | cons x F =>
    obtain ⟨cd, g, hh, dd, o⟩ := x
    obtain ⟨a1, a2, a3, a4, a5, a6⟩ := h
    have e2' : lo hh K' = lo hh K := e2
    refine ⟨a1, e1, a3, a4, ?_, ?_⟩
    · rw [e2']; exact a5
    · rw [e2']; exact a6
theorem fo_hn {c : Nat → Nat} {n : Nat} {P : Nat → Nat} {f : Nat} : ∀ (F : List vt_Fr) K, fo c n P f K F → hn K.length F := by
  intro F
  induction F with
  | nil => intro K _; trivial
  | cons x F ih =>
    intro K h
    obtain ⟨cd, g, hh, dd, o⟩ := x
    obtain ⟨a1, a2, a3, a4, a5, a6⟩ := h
    have := ih _ a6
    rw [lo_len a2] at this
    exact ⟨a2, this⟩
theorem fo_d {c : Nat → Nat} {n : Nat} {P : Nat → Nat} {f : Nat} {K : List Nat} {F : List vt_Fr} (h : fo c n P f K F) : f_d F = false := by
  cases F with
  | nil => rfl
  | cons x F => obtain ⟨cd, g, hh, dd, o⟩ := x; exact h.1
theorem fo_h {c : Nat → Nat} {n : Nat} {P : Nat → Nat} {f : Nat} {K : List Nat} {F : List vt_Fr} (h : fo c n P f K F) : f_h F ≤ K.length := hn_top (fo_hn F K h)
theorem fo_tail {c : Nat → Nat} {n : Nat} {P : Nat → Nat} {f : Nat} {K : List Nat} {F : List vt_Fr} (h : fo c n P f K F) : fo c n P f (lo (f_h F) K) F.tail := by
  cases F with
  | nil => trivial
  | cons x F => obtain ⟨cd, g, hh, dd, o⟩ := x; exact h.2.2.2.2.2
/-- frame d -/
theorem fo_drop {c : Nat → Nat} {n : Nat} {P : Nat → Nat} {f : Nat} : ∀ (F : List vt_Fr) K d, fo c n P f K F → fo c n P f (lo (f_h (F.drop d)) K) (F.drop d) ∧ f_h (F.drop d) ≤ K.length := by
  intro F
  induction F with
  | nil => intro K d _; rw [List.drop_nil]; exact ⟨trivial, Nat.zero_le _⟩
  | cons x F ih =>
    intro K d h
    cases d with
    | zero =>
      have hh := fo_h h
      refine ⟨fo_ext h (by rw [List.drop_zero, lo_len hh]; exact Nat.le_refl _) ?_, hh⟩
      rw [List.drop_zero, lo_lo (Nat.le_refl _) hh]
    | succ d =>
      have hh := fo_h h
      obtain ⟨a1, a2⟩ := ih _ d (fo_tail h)
      rw [lo_len hh] at a2
      rw [List.drop_succ_cons]
      rw [lo_lo a2 hh] at a1
      exact ⟨a1, by omega⟩
theorem wk_n {c P : Nat → Nat} {n f k p : Nat} {S : vt_St} (h : wk c n P f k p S) : p < n ∧ c p ≤ 66 ∧ nx c p ≤ n ∧ p < nx c p ∧ rd_R c n (c p) (true, p + 1) = (true, nx c p) ∧ S.2.2 = false ∧ S.2.1 ≠ [] := by
  cases k with
  | zero => exact h.elim
  | succ k => exact ⟨h.2.2.1, h.2.2.2.1, h.2.2.2.2.2.1, h.2.2.2.2.2.2.1, h.2.2.2.2.1, h.2.1, h.1⟩
theorem wk_s {c P : Nat → Nat} {n f k p : Nat} {S : vt_St} (h : wk c n P f k p S) : (v_st c n f p S).2.2 = false ∧ ((v_st c n f p S).2.1 = [] ∨ ∃ k', wk c n P f k' (nx c p) (v_st c n f p S)) := by
  cases k with
  | zero => exact h.elim
  | succ k =>
    obtain ⟨_, _, _, _, _, _, _, _, _, ok, hw⟩ := h
    exact ⟨ok, hw.imp id (fun z => ⟨k, z⟩)⟩
/-- an opener at p: the frame that it makes is as it must be, and what is inside is validated -/
theorem fo_open {c P : Nat → Nat} {n f k p : Nat} {K : List Nat} {F : List vt_Fr} (w : wk c n P f k p (K, F, false)) (hfo : fo c n P f K F) (ho : 2 ≤ c p ∧ c p ≤ 4) :
    ∃ K', (c p ≠ 4 → K' = K) ∧ (c p = 4 → vt_pl 1 (K, F, false) = (K', F, false)) ∧ F.length ≠ 8 ∧ f_h F ≤ K'.length ∧ lo (f_h F) K' = lo (f_h F) K ∧ nx c p = p + 2 ∧ c (p + 1) ≤ 2 ∧ pt_at c P p (p + 2) 0 ∧ fo c n P f K' ((c p, c (p + 1), K'.length, false, p) :: F) ∧ ∃ k', wk c n P f k' (p + 2) (K', (c p, c (p + 1), K'.length, false, p) :: F, false) := by
  cases k with
  | zero => exact w.elim
  | succ k =>
    obtain ⟨hF, _, i1, i2, i3, i4, i5, i6, _, ok, hw⟩ := w
    have hh := fo_h hfo
    have hN := fo_hn F K hfo
    have enx : nx c p = p + 2 := nx_2 (by omega)
    obtain ⟨K', e1, e2, e3, e4, e5, e6⟩ := vl_o ho hh ok
    rw [e1, enx] at hw
    rw [enx] at i6 i4
    have hpt := i6 ho
    have hg : c (p + 1) ≤ 2 := by
      rw [rd_R, if_pos ho] at i3
      exact (rd_tk_ok (show (rd_tk c n 0 2 (true, p + 1)).1 = true by rw [i3])).2.2.2.2.1
    rcases hw with z | hw
    · exact absurd z (by simp)
    refine ⟨K', e5, e6, e4, e2, e3, enx, hg, hpt, ⟨rfl, Nat.le_refl _, hg, fun z => absurd z hF, fun _ => ⟨by omega, by omega, ?_, rfl, i4, hpt, ?_, fun _ => ?_⟩, ?_⟩, k, hw⟩
    · rw [if_neg (by omega)]
    · obtain ⟨j, e, q1, q2⟩ := sv_of false k _ _ 0 hw (by simp)
      have q3 := sv_SC _ _ _ _ q1
      obtain ⟨k', w'⟩ := wk_exit k _ _ _ 0 e hw ⟨Nat.le_refl _, hn_mono hN e2⟩ q3.1 hF
      exact ⟨j, e, q1, k', w'⟩
    · rw [lo_self]; exact ⟨k, hw⟩
    · rw [lo_self]; exact fo_ext hfo e2 e3
end
section
/-! 42: the relation while a run goes on -/
/-- an activation: slot, function, number of variables, result, place, values, variables, frames -/
abbrev ac : Type := Nat × Nat × Nat × Nat × Nat × List ev × (Nat → Int64) × List vt_Fr
def vb : List ac → Nat
  | [] => 0
  | (_, _, _, _, _, E, _, _) :: R => vb R + E.length
def fb : List ac → Nat
  | [] => 0
  | (_, _, _, _, _, _, _, F) :: R => fb R + F.length
def yb : List ac → Nat
  | [] => 0
  | (_, _, nv, _, _, E, _, _) :: R => yb R + nv + E.length
def a_p : List ac → Nat
  | [] => 0
  | (_, _, _, _, p, _, _, _) :: _ => p
def a_s : List ac → Nat
  | [] => 0
  | (s, _, _, _, _, _, _, _) :: _ => s
def el_ok (V : Nat → Int64) (b : Nat) : List ev → Prop
  | [] => True
  | x :: E => V (b + E.length) = x.2 ∧ el_ok V b E
def xfr (FA FH : Nat → Int32) (b v : Nat) : List vt_Fr → Prop
  | [] => True
  | (_, _, h, _, o) :: F => FA (b + F.length) = nI o ∧ FH (b + F.length) = nI (v + h) ∧ xfr FA FH b v F
def yfr (LA LH LG : Nat → Int32) (b v : Nat) : List vt_Fr → Prop
  | [] => True
  | (cd, g, h, _, o) :: F => LA (b + F.length) = (if F = [] then -1 else nI o) ∧ LH (b + F.length) = nI (v + h) ∧ LG (b + F.length) = nI (if cd = 3 then 0 else g) ∧ yfr LA LH LG b v F
def xa_ok (FA FH : Nat → Int32) (V VR : Nat → Int64) (AS AG AF : Nat → Int32) : List ac → Prop
  | [] => True
  | (s, _, nv, g, _, E, L, F) :: R => el_ok V (vb R) E ∧ (∀ v, v < nv → VR (R.length * 6 + v) = L v) ∧ xfr FA FH (fb R) (vb R) F ∧ AS R.length = nI s ∧ AG R.length = nI g ∧ AF R.length = nI (fb R) ∧ xa_ok FA FH V VR AS AG AF R
def ar_ok (AR : Nat → Int32) : List ac → Prop
  | [] => True
  | (_, _, _, _, p, _, _, _) :: R => AR R.length = nI p ∧ ar_ok AR R
def ya_ok (ST : Nat → Int64) (LA LH LG CM CF CB CS CL : Nat → Int32) : List ac → Prop
  | [] => True
  | (s, f, nv, _, _, E, L, F) :: R => el_ok ST (yb R + nv) E ∧ (∀ v, v < nv → ST (yb R + v) = L v) ∧ yfr LA LH LG (fb R) (yb R + nv) F ∧ CM R.length = nI s ∧ CF R.length = nI f ∧ CS R.length = nI (yb R) ∧ CL R.length = nI (fb R) ∧ CB R.length = nI (a_p R) ∧ ya_ok ST LA LH LG CM CF CB CS CL R
theorem el_ext {V V' : Nat → Int64} {b : Nat} : ∀ E : List ev, el_ok V b E → (∀ j, b ≤ j → j < b + E.length → V' j = V j) → el_ok V' b E := by
  intro E
  induction E with
  | nil => intro _ _; trivial
  | cons x E ih =>
    intro h e
    obtain ⟨h1, h2⟩ := h
    simp only [List.length_cons] at e
    exact ⟨by rw [e _ (by omega) (by omega)]; exact h1, ih h2 (fun j a b => e j a (by omega))⟩
theorem el_drop {V : Nat → Int64} {b : Nat} : ∀ (E : List ev) j, el_ok V b E → el_ok V b (E.drop j) := by
  intro E
  induction E with
  | nil => intro j _; rw [List.drop_nil]; trivial
  | cons x E ih =>
    intro j h
    cases j with
    | zero => exact h
    | succ j => exact ih j h.2
theorem el_push {V : Nat → Int64} {b : Nat} {E : List ev} {k : Nat} {v : Int64} (h : el_ok V b E) : el_ok (vp_updL V (b + E.length) v) b ((k, v) :: E) := ⟨pk_uLs, el_ext E h (fun j _ hj => pk_uLn (by omega))⟩
theorem xfr_ext {FA FH FA' FH' : Nat → Int32} {b v : Nat} : ∀ F : List vt_Fr, xfr FA FH b v F → (∀ j, b ≤ j → j < b + F.length → FA' j = FA j) → (∀ j, b ≤ j → j < b + F.length → FH' j = FH j) → xfr FA' FH' b v F := by
  intro F
  induction F with
  | nil => intro _ _ _; trivial
  | cons x F ih =>
    intro h e1 e2
    obtain ⟨cd, g, hh, dd, o⟩ := x
    obtain ⟨h1, h2, h3⟩ := h
    simp only [List.length_cons] at e1 e2
    exact ⟨by rw [e1 _ (by omega) (by omega)]; exact h1, by rw [e2 _ (by omega) (by omega)]; exact h2, ih h3 (fun j a b => e1 j a (by omega)) (fun j a b => e2 j a (by omega))⟩
theorem xfr_drop {FA FH : Nat → Int32} {b v : Nat} : ∀ (F : List vt_Fr) j, xfr FA FH b v F → xfr FA FH b v (F.drop j) := by
  intro F
  induction F with
  | nil => intro j _; rw [List.drop_nil]; trivial
  | cons x F ih =>
    intro j h
    cases j with
    | zero => exact h
    | succ j => obtain ⟨cd, g, hh, dd, o⟩ := x; exact ih j h.2.2
theorem xfr_at {FA FH : Nat → Int32} {b v : Nat} {F : List vt_Fr} (h : xfr FA FH b v F) (hF : F ≠ []) : FA (b + (F.length - 1)) = nI (f_o F) ∧ FH (b + (F.length - 1)) = nI (v + f_h F) := by
  cases F with
  | nil => exact absurd rfl hF
  | cons x F => obtain ⟨cd, g, hh, dd, o⟩ := x; exact ⟨h.1, h.2.1⟩
theorem yfr_ext {LA LH LG LA' LH' LG' : Nat → Int32} {b v : Nat} : ∀ F : List vt_Fr, yfr LA LH LG b v F → (∀ j, b ≤ j → j < b + F.length → LA' j = LA j) → (∀ j, b ≤ j → j < b + F.length → LH' j = LH j) → (∀ j, b ≤ j → j < b + F.length → LG' j = LG j) → yfr LA' LH' LG' b v F := by
  intro F
  induction F with
  | nil => intro _ _ _ _; trivial
  | cons x F ih =>
    intro h e1 e2 e3
    obtain ⟨cd, g, hh, dd, o⟩ := x
    obtain ⟨h1, h2, h3, h4⟩ := h
    simp only [List.length_cons] at e1 e2 e3
    exact ⟨by rw [e1 _ (by omega) (by omega)]; exact h1, by rw [e2 _ (by omega) (by omega)]; exact h2, by rw [e3 _ (by omega) (by omega)]; exact h3, ih h4 (fun j a b => e1 j a (by omega)) (fun j a b => e2 j a (by omega)) (fun j a b => e3 j a (by omega))⟩
theorem yfr_drop {LA LH LG : Nat → Int32} {b v : Nat} : ∀ (F : List vt_Fr) j, yfr LA LH LG b v F → yfr LA LH LG b v (F.drop j) := by
  intro F
  induction F with
  | nil => intro j _; rw [List.drop_nil]; trivial
  | cons x F ih =>
    intro j h
    cases j with
    | zero => exact h
    | succ j => obtain ⟨cd, g, hh, dd, o⟩ := x; exact ih j h.2.2.2
theorem yfr_at {LA LH LG : Nat → Int32} {b v : Nat} {F : List vt_Fr} (h : yfr LA LH LG b v F) (hF : F ≠ []) : LA (b + (F.length - 1)) = (if F.tail = [] then -1 else nI (f_o F)) ∧ LH (b + (F.length - 1)) = nI (v + f_h F) ∧ LG (b + (F.length - 1)) = nI (if f_c F = 3 then 0 else f_g F) := by
  cases F with
  | nil => exact absurd rfl hF
  | cons x F => obtain ⟨cd, g, hh, dd, o⟩ := x; exact ⟨h.1, h.2.1, h.2.2.1⟩
theorem xa_ext {FA FH FA' FH' : Nat → Int32} {V VR V' VR' : Nat → Int64} {AS AG AF AS' AG' AF' : Nat → Int32} : ∀ R : List ac, xa_ok FA FH V VR AS AG AF R → (∀ j, j < fb R → FA' j = FA j) → (∀ j, j < fb R → FH' j = FH j) → (∀ j, j < vb R → V' j = V j) → (∀ j, j < R.length * 6 → VR' j = VR j) → (∀ j, j < R.length → AS' j = AS j) → (∀ j, j < R.length → AG' j = AG j) → (∀ j, j < R.length → AF' j = AF j) → (∀ a, a ∈ R → a.2.2.1 ≤ 6) → xa_ok FA' FH' V' VR' AS' AG' AF' R := by
  intro R
  induction R with
  | nil => intro _ _ _ _ _ _ _ _ _; trivial
  | cons a R ih =>
    intro h e1 e2 e3 e4 e5 e6 e7 e8
    obtain ⟨s, f, nv, g, p, E, L, F⟩ := a
    obtain ⟨h1, h2, h3, h4, h5, h6, h7⟩ := h
    have hnv : nv ≤ 6 := e8 _ (List.mem_cons_self ..)
    simp only [fb, vb, List.length_cons] at e1 e2 e3 e4 e5 e6 e7
    refine ⟨el_ext E h1 (fun j _ b => e3 j b), fun v hv => ?_, xfr_ext F h3 (fun j _ b => e1 j b) (fun j _ b => e2 j b), ?_, ?_, ?_, ih h7 (fun j b => e1 j (by omega)) (fun j b => e2 j (by omega)) (fun j b => e3 j (by omega)) (fun j b => e4 j (by omega)) (fun j b => e5 j (by omega)) (fun j b => e6 j (by omega)) (fun j b => e7 j (by omega)) (fun a ha => e8 a (List.mem_cons_of_mem _ ha))⟩
    · rw [e4 _ (by omega)]; exact h2 v hv
    · rw [e5 _ (by omega)]; exact h4
    · rw [e6 _ (by omega)]; exact h5
    · rw [e7 _ (by omega)]; exact h6
theorem ar_ext {AR AR' : Nat → Int32} : ∀ R : List ac, ar_ok AR R → (∀ j, j < R.length → AR' j = AR j) → ar_ok AR' R := by
  intro R
  induction R with
  | nil => intro _ _; trivial
  | cons a R ih =>
    intro h e
    obtain ⟨s, f, nv, g, p, E, L, F⟩ := a
    simp only [List.length_cons] at e
    exact ⟨by rw [e _ (by omega)]; exact h.1, ih h.2 (fun j b => e j (by omega))⟩
theorem ya_ext {ST ST' : Nat → Int64} {LA LH LG CM CF CB CS CL LA' LH' LG' CM' CF' CB' CS' CL' : Nat → Int32} : ∀ R : List ac, ya_ok ST LA LH LG CM CF CB CS CL R → (∀ j, j < yb R → ST' j = ST j) → (∀ j, j < fb R → LA' j = LA j) → (∀ j, j < fb R → LH' j = LH j) → (∀ j, j < fb R → LG' j = LG j) → (∀ j, j < R.length → CM' j = CM j) → (∀ j, j < R.length → CF' j = CF j) → (∀ j, j < R.length → CB' j = CB j) → (∀ j, j < R.length → CS' j = CS j) → (∀ j, j < R.length → CL' j = CL j) → ya_ok ST' LA' LH' LG' CM' CF' CB' CS' CL' R := by
  intro R
  induction R with
  | nil => intro _ _ _ _ _ _ _ _ _ _; trivial
  | cons a R ih =>
    intro h e1 e2 e3 e4 e5 e6 e7 e8 e9
    obtain ⟨s, f, nv, g, p, E, L, F⟩ := a
    obtain ⟨h1, h2, h3, h4, h5, h6, h7, h8, h9⟩ := h
    simp only [fb, yb, List.length_cons] at e1 e2 e3 e4 e5 e6 e7 e8 e9
    refine ⟨el_ext E h1 (fun j _ b => e1 j b), fun v hv => ?_, yfr_ext F h3 (fun j _ b => e2 j b) (fun j _ b => e3 j b) (fun j _ b => e4 j b), ?_, ?_, ?_, ?_, ?_, ih h9 (fun j b => e1 j (by omega)) (fun j b => e2 j (by omega)) (fun j b => e3 j (by omega)) (fun j b => e4 j (by omega)) (fun j b => e5 j (by omega)) (fun j b => e6 j (by omega)) (fun j b => e7 j (by omega)) (fun j b => e8 j (by omega)) (fun j b => e9 j (by omega))⟩
    · rw [e1 _ (by omega)]; exact h2 v hv
    · rw [e5 _ (by omega)]; exact h4
    · rw [e6 _ (by omega)]; exact h5
    · rw [e8 _ (by omega)]; exact h6
    · rw [e9 _ (by omega)]; exact h7
    · rw [e7 _ (by omega)]; exact h8
/-- number of variables, and result, of a function -/
def nvf (c : Nat → Nat) (n f : Nat) : Nat := c (m_ty c n (c (m_fa c n f))) + c (m_fa c n f + 1)
def rsf (c : Nat → Nat) (n f : Nat) : Nat := ty_r c (m_ty c n (c (m_fa c n f)))
section
variable (B : Nat → Bool) (C : Nat → Nat → Nat) (N : Nat → Nat) (PP : Nat → Nat → Nat)
def a_ok (pend s f nv g p : Nat) (E : List ev) (L : Nat → Int64) (F : List vt_Fr) : Prop :=
  s < 2 ∧ B s = true ∧ m_I (C s) (N s) ≤ f ∧ f < m_I (C s) (N s) + m_F (C s) (N s) ∧ (nv = nvf (C s) (N s) f ∧ nv ≤ 6) ∧ (g = rsf (C s) (N s) f ∧ g ≤ 2) ∧ tv E ∧ E.length ≤ 20 ∧ F ≠ [] ∧ F.length ≤ 8 ∧ fo (C s) (N s) (PP s) f (ek E) F ∧ f_b F = g ∧ (∃ k, wk (C s) (N s) (PP s) f k p (vt_gr pend (ek E, F, false))) ∧ (∀ v, v < nv → vk (C s) (N s) f v = 1 → sx64 (L v)) ∧ p < 140
def ch_ok (g0 : Nat) : Nat → List ac → Prop
  | pend, [] => pend = g0
  | pend, (s, f, nv, g, p, E, L, F) :: R => a_ok B C N PP pend s f nv g p E L F ∧ ch_ok g0 g R
theorem ch_le {g0 : Nat} : ∀ (R : List ac) pend, ch_ok B C N PP g0 pend R → vb R ≤ 20 * R.length ∧ fb R ≤ 8 * R.length ∧ yb R ≤ 26 * R.length ∧ (∀ a, a ∈ R → a.2.2.1 ≤ 6) ∧ a_p R < 140 := by
  intro R
  induction R with
  | nil => intro _ _; exact ⟨Nat.le_refl _, Nat.le_refl _, Nat.le_refl _, fun a ha => absurd ha (List.not_mem_nil), by show 0 < 140; omega⟩
  | cons a R ih =>
    intro pend h
    obtain ⟨s, f, nv, g, p, E, L, F⟩ := a
    obtain ⟨⟨a1, a2, a3, a4, ⟨a5, a5'⟩, a6, a7, a8, a9, a10, a11, a12, a13, a14, a15⟩, h2⟩ := h
    obtain ⟨i1, i2, i3, i4, i5⟩ := ih g h2
    simp only [vb, fb, yb, List.length_cons, a_p]
    refine ⟨by omega, by omega, by omega, fun a ha => ?_, a15⟩
    rcases List.mem_cons.mp ha with rfl | ha
    · exact a5'
    · exact i4 a ha
/-- the world: what outlives a run -/
def wo_ok (n : Nat) (cd : Nat → Nat) (x_byteCount : Int32) (x_wrongPlace : Int32) (x_firstWaiting : Int32) (x_waitingCount : Int32) (x_printCount : Int32) (x_code : Nat → Int32) (x_facts : Nat → Int32) (x_partner : Nat → Int32) (x_loaded : Nat → Int32) (x_globals : Nat → Int64) (x_memories : Nat → Int32) (x_waiting : Nat → Int32) (x_prints : Nat → Int32) (y_count : Int32) (y_place : Int32) (y_waits : Int32) (y_printed : Int32) (y_bytes : Nat → Int32) (y_there : Nat → Int32) (y_types : Nat → Int32) (y_typeSig : Nat → Int32) (y_imports : Nat → Int32) (y_functions : Nat → Int32) (y_sig : Nat → Int32) (y_what : Nat → Int32) (y_localsAt : Nat → Int32) (y_globals : Nat → Int32) (y_globalValue : Nat → Int64) (y_entries : Nat → Int32) (y_entriesAt : Nat → Int32) (y_hasMemory : Nat → Int32) (y_memory : Nat → Int32) (y_waiting : Nat → Int32) (y_prints : Nat → Int32) : Prop :=
  x_byteCount = nI n ∧ y_count = nI n ∧ n ≤ 140 ∧ mx_c x_code 2 cd ∧ (∀ i, i < n → y_bytes (280 + i) = nI (cd i)) ∧ x_wrongPlace = y_place ∧ x_printCount = y_printed ∧ x_prints = y_prints ∧ wq_ok x_firstWaiting x_waitingCount y_waits x_waiting y_waiting ∧ (∀ s, s < 2 → x_loaded s = bb_i (B s) ∧ y_there s = bb_i (B s)) ∧
  (∀ s, s < 2 → B s = true → sm_ok (C s) (N s) (PP s) ∧ sx_ok s (C s) (N s) (PP s) x_code x_facts x_partner ∧ sk_ok s (C s) (N s) y_bytes y_types y_typeSig y_imports y_functions y_sig y_what y_localsAt y_globals y_entries y_entriesAt y_hasMemory ∧ ∀ k, k < m_I (C s) (N s) → lk_ok s (B 0) (C s) (N s) (C 0) (N 0) k) ∧
  ∀ s, s < 2 → B s = true → sd_ok s (C s) (N s) x_globals y_globalValue x_memories y_memory
def xp_ok (A : List ac) (x_at : Int32) (x_frameCount : Int32) (x_valueCount : Int32) (x_activeCount : Int32) (x_frameAt : Nat → Int32) (x_frameHeight : Nat → Int32) (x_values : Nat → Int64) (x_variables : Nat → Int64) (x_activeSlot : Nat → Int32) (x_activeGives : Nat → Int32) (x_activeFrame : Nat → Int32) (x_activeResume : Nat → Int32) : Prop :=
  x_at = nI (a_p A) ∧ x_frameCount = nI (fb A) ∧ x_valueCount = nI (vb A) ∧ x_activeCount = nI A.length ∧ xa_ok x_frameAt x_frameHeight x_values x_variables x_activeSlot x_activeGives x_activeFrame A ∧ ar_ok x_activeResume A.tail
def yp_ok (A : List ac) (y_m : Int32) (y_sp : Int32) (y_labels : Int32) (y_active : Int32) (y_stack : Nat → Int64) (y_labelAt : Nat → Int32) (y_labelHeight : Nat → Int32) (y_labelGives : Nat → Int32) (y_callModule : Nat → Int32) (y_callFunction : Nat → Int32) (y_callBack : Nat → Int32) (y_callBase : Nat → Int32) (y_callLabels : Nat → Int32) : Prop :=
  y_m = nI (a_s A) ∧ y_sp = nI (yb A) ∧ y_labels = nI (fb A) ∧ y_active = nI A.length ∧ ya_ok y_stack y_labelAt y_labelHeight y_labelGives y_callModule y_callFunction y_callBack y_callBase y_callLabels A
def fu_ok (fu : Nat) (x y : Int32) : Prop := x = nI fu ∧ y = nI (120 - fu) ∧ fu ≤ 120
/-- a run that goes on -/
def rn (n : Nat) (cd : Nat → Nat) (g0 : Nat) (A : List ac) (fu : Nat) (x_byteCount : Int32) (x_wrongPlace : Int32) (x_at : Int32) (x_frameCount : Int32) (x_valueCount : Int32) (x_activeCount : Int32) (x_outcome : Int32) (x_resultValue : Int64) (x_trapPlace : Int32) (x_fuelUsed : Int32) (x_firstWaiting : Int32) (x_waitingCount : Int32) (x_printCount : Int32) (x_code : Nat → Int32) (x_facts : Nat → Int32) (x_partner : Nat → Int32) (x_loaded : Nat → Int32) (x_globals : Nat → Int64) (x_memories : Nat → Int32) (x_frameAt : Nat → Int32) (x_frameHeight : Nat → Int32) (x_values : Nat → Int64) (x_variables : Nat → Int64) (x_activeSlot : Nat → Int32) (x_activeGives : Nat → Int32) (x_activeFrame : Nat → Int32) (x_activeResume : Nat → Int32) (x_waiting : Nat → Int32) (x_prints : Nat → Int32) (y_count : Int32) (y_place : Int32) (y_m : Int32) (y_sp : Int32) (y_labels : Int32) (y_active : Int32) (y_fuel : Int32) (y_outcome : Int32) (y_trappedAt : Int32) (y_waits : Int32) (y_printed : Int32) (y_bytes : Nat → Int32) (y_there : Nat → Int32) (y_types : Nat → Int32) (y_typeSig : Nat → Int32) (y_imports : Nat → Int32) (y_functions : Nat → Int32) (y_sig : Nat → Int32) (y_what : Nat → Int32) (y_localsAt : Nat → Int32) (y_globals : Nat → Int32) (y_globalValue : Nat → Int64) (y_entries : Nat → Int32) (y_entriesAt : Nat → Int32) (y_hasMemory : Nat → Int32) (y_memory : Nat → Int32) (y_stack : Nat → Int64) (y_labelAt : Nat → Int32) (y_labelHeight : Nat → Int32) (y_labelGives : Nat → Int32) (y_callModule : Nat → Int32) (y_callFunction : Nat → Int32) (y_callBack : Nat → Int32) (y_callBase : Nat → Int32) (y_callLabels : Nat → Int32) (y_waiting : Nat → Int32) (y_prints : Nat → Int32) : Prop :=
  wo_ok B C N PP n cd x_byteCount x_wrongPlace x_firstWaiting x_waitingCount x_printCount x_code x_facts x_partner x_loaded x_globals x_memories x_waiting x_prints y_count y_place y_waits y_printed y_bytes y_there y_types y_typeSig y_imports y_functions y_sig y_what y_localsAt y_globals y_globalValue y_entries y_entriesAt y_hasMemory y_memory y_waiting y_prints ∧ fu_ok fu x_fuelUsed y_fuel ∧ (x_outcome = -1 ∧ x_resultValue = 0 ∧ x_trapPlace = -1 ∧ y_outcome = 0 ∧ y_trappedAt = -1) ∧ A ≠ [] ∧ A.length ≤ 10 ∧ ch_ok B C N PP g0 0 A ∧ xp_ok A x_at x_frameCount x_valueCount x_activeCount x_frameAt x_frameHeight x_values x_variables x_activeSlot x_activeGives x_activeFrame x_activeResume ∧ yp_ok A y_m y_sp y_labels y_active y_stack y_labelAt y_labelHeight y_labelGives y_callModule y_callFunction y_callBack y_callBase y_callLabels
/-- a trap -/
def tr (n : Nat) (cd : Nat → Nat) (fu t s p a : Nat) (x_byteCount : Int32) (x_wrongPlace : Int32) (x_at : Int32) (x_frameCount : Int32) (x_valueCount : Int32) (x_activeCount : Int32) (x_outcome : Int32) (x_resultValue : Int64) (x_trapPlace : Int32) (x_fuelUsed : Int32) (x_firstWaiting : Int32) (x_waitingCount : Int32) (x_printCount : Int32) (x_code : Nat → Int32) (x_facts : Nat → Int32) (x_partner : Nat → Int32) (x_loaded : Nat → Int32) (x_globals : Nat → Int64) (x_memories : Nat → Int32) (x_frameAt : Nat → Int32) (x_frameHeight : Nat → Int32) (x_values : Nat → Int64) (x_variables : Nat → Int64) (x_activeSlot : Nat → Int32) (x_activeGives : Nat → Int32) (x_activeFrame : Nat → Int32) (x_activeResume : Nat → Int32) (x_waiting : Nat → Int32) (x_prints : Nat → Int32) (y_count : Int32) (y_place : Int32) (y_m : Int32) (y_sp : Int32) (y_labels : Int32) (y_active : Int32) (y_fuel : Int32) (y_outcome : Int32) (y_trappedAt : Int32) (y_waits : Int32) (y_printed : Int32) (y_bytes : Nat → Int32) (y_there : Nat → Int32) (y_types : Nat → Int32) (y_typeSig : Nat → Int32) (y_imports : Nat → Int32) (y_functions : Nat → Int32) (y_sig : Nat → Int32) (y_what : Nat → Int32) (y_localsAt : Nat → Int32) (y_globals : Nat → Int32) (y_globalValue : Nat → Int64) (y_entries : Nat → Int32) (y_entriesAt : Nat → Int32) (y_hasMemory : Nat → Int32) (y_memory : Nat → Int32) (y_stack : Nat → Int64) (y_labelAt : Nat → Int32) (y_labelHeight : Nat → Int32) (y_labelGives : Nat → Int32) (y_callModule : Nat → Int32) (y_callFunction : Nat → Int32) (y_callBack : Nat → Int32) (y_callBase : Nat → Int32) (y_callLabels : Nat → Int32) (y_waiting : Nat → Int32) (y_prints : Nat → Int32) : Prop :=
  wo_ok B C N PP n cd x_byteCount x_wrongPlace x_firstWaiting x_waitingCount x_printCount x_code x_facts x_partner x_loaded x_globals x_memories x_waiting x_prints y_count y_place y_waits y_printed y_bytes y_there y_types y_typeSig y_imports y_functions y_sig y_what y_localsAt y_globals y_globalValue y_entries y_entriesAt y_hasMemory y_memory y_waiting y_prints ∧ fu_ok fu x_fuelUsed y_fuel ∧ x_outcome = nI t ∧ 0 < t ∧ t < 10 ∧ x_resultValue = 0 ∧ x_at = nI p ∧ p < 140 ∧ x_activeCount = nI (a + 1) ∧ a < 10 ∧ x_activeSlot a = nI s ∧ s < 2 ∧ y_outcome = nI t ∧ y_trappedAt = 1000 * nI s + nI p
/-- the end -/
def dn (n : Nat) (cd : Nat → Nat) (g0 fu : Nat) (x_byteCount : Int32) (x_wrongPlace : Int32) (x_at : Int32) (x_frameCount : Int32) (x_valueCount : Int32) (x_activeCount : Int32) (x_outcome : Int32) (x_resultValue : Int64) (x_trapPlace : Int32) (x_fuelUsed : Int32) (x_firstWaiting : Int32) (x_waitingCount : Int32) (x_printCount : Int32) (x_code : Nat → Int32) (x_facts : Nat → Int32) (x_partner : Nat → Int32) (x_loaded : Nat → Int32) (x_globals : Nat → Int64) (x_memories : Nat → Int32) (x_frameAt : Nat → Int32) (x_frameHeight : Nat → Int32) (x_values : Nat → Int64) (x_variables : Nat → Int64) (x_activeSlot : Nat → Int32) (x_activeGives : Nat → Int32) (x_activeFrame : Nat → Int32) (x_activeResume : Nat → Int32) (x_waiting : Nat → Int32) (x_prints : Nat → Int32) (y_count : Int32) (y_place : Int32) (y_m : Int32) (y_sp : Int32) (y_labels : Int32) (y_active : Int32) (y_fuel : Int32) (y_outcome : Int32) (y_trappedAt : Int32) (y_waits : Int32) (y_printed : Int32) (y_bytes : Nat → Int32) (y_there : Nat → Int32) (y_types : Nat → Int32) (y_typeSig : Nat → Int32) (y_imports : Nat → Int32) (y_functions : Nat → Int32) (y_sig : Nat → Int32) (y_what : Nat → Int32) (y_localsAt : Nat → Int32) (y_globals : Nat → Int32) (y_globalValue : Nat → Int64) (y_entries : Nat → Int32) (y_entriesAt : Nat → Int32) (y_hasMemory : Nat → Int32) (y_memory : Nat → Int32) (y_stack : Nat → Int64) (y_labelAt : Nat → Int32) (y_labelHeight : Nat → Int32) (y_labelGives : Nat → Int32) (y_callModule : Nat → Int32) (y_callFunction : Nat → Int32) (y_callBack : Nat → Int32) (y_callBase : Nat → Int32) (y_callLabels : Nat → Int32) (y_waiting : Nat → Int32) (y_prints : Nat → Int32) : Prop :=
  wo_ok B C N PP n cd x_byteCount x_wrongPlace x_firstWaiting x_waitingCount x_printCount x_code x_facts x_partner x_loaded x_globals x_memories x_waiting x_prints y_count y_place y_waits y_printed y_bytes y_there y_types y_typeSig y_imports y_functions y_sig y_what y_localsAt y_globals y_globalValue y_entries y_entriesAt y_hasMemory y_memory y_waiting y_prints ∧ fu_ok fu x_fuelUsed y_fuel ∧ x_outcome = 0 ∧ x_trapPlace = -1 ∧ y_outcome = 0 ∧ y_trappedAt = -1 ∧ y_active = 0 ∧ (g0 = 0 → x_resultValue = 0) ∧ (g0 ≠ 0 → x_resultValue = y_stack 0)
/-- the class has still to close a frame that the reference has closed -/
def re (n : Nat) (cd : Nat → Nat) (g0 : Nat) (A : List ac) (fu e : Nat) (x_byteCount : Int32) (x_wrongPlace : Int32) (x_at : Int32) (x_frameCount : Int32) (x_valueCount : Int32) (x_activeCount : Int32) (x_outcome : Int32) (x_resultValue : Int64) (x_trapPlace : Int32) (x_fuelUsed : Int32) (x_firstWaiting : Int32) (x_waitingCount : Int32) (x_printCount : Int32) (x_code : Nat → Int32) (x_facts : Nat → Int32) (x_partner : Nat → Int32) (x_loaded : Nat → Int32) (x_globals : Nat → Int64) (x_memories : Nat → Int32) (x_frameAt : Nat → Int32) (x_frameHeight : Nat → Int32) (x_values : Nat → Int64) (x_variables : Nat → Int64) (x_activeSlot : Nat → Int32) (x_activeGives : Nat → Int32) (x_activeFrame : Nat → Int32) (x_activeResume : Nat → Int32) (x_waiting : Nat → Int32) (x_prints : Nat → Int32) (y_count : Int32) (y_place : Int32) (y_m : Int32) (y_sp : Int32) (y_labels : Int32) (y_active : Int32) (y_fuel : Int32) (y_outcome : Int32) (y_trappedAt : Int32) (y_waits : Int32) (y_printed : Int32) (y_bytes : Nat → Int32) (y_there : Nat → Int32) (y_types : Nat → Int32) (y_typeSig : Nat → Int32) (y_imports : Nat → Int32) (y_functions : Nat → Int32) (y_sig : Nat → Int32) (y_what : Nat → Int32) (y_localsAt : Nat → Int32) (y_globals : Nat → Int32) (y_globalValue : Nat → Int64) (y_entries : Nat → Int32) (y_entriesAt : Nat → Int32) (y_hasMemory : Nat → Int32) (y_memory : Nat → Int32) (y_stack : Nat → Int64) (y_labelAt : Nat → Int32) (y_labelHeight : Nat → Int32) (y_labelGives : Nat → Int32) (y_callModule : Nat → Int32) (y_callFunction : Nat → Int32) (y_callBack : Nat → Int32) (y_callBase : Nat → Int32) (y_callLabels : Nat → Int32) (y_waiting : Nat → Int32) (y_prints : Nat → Int32) : Prop :=
  rn B C N PP n cd g0 A fu x_byteCount x_wrongPlace (nI (a_p A)) (nI (fb A)) x_valueCount x_activeCount x_outcome x_resultValue x_trapPlace x_fuelUsed x_firstWaiting x_waitingCount x_printCount x_code x_facts x_partner x_loaded x_globals x_memories x_frameAt x_frameHeight x_values x_variables x_activeSlot x_activeGives x_activeFrame x_activeResume x_waiting x_prints y_count y_place y_m y_sp y_labels y_active y_fuel y_outcome y_trappedAt y_waits y_printed y_bytes y_there y_types y_typeSig y_imports y_functions y_sig y_what y_localsAt y_globals y_globalValue y_entries y_entriesAt y_hasMemory y_memory y_stack y_labelAt y_labelHeight y_labelGives y_callModule y_callFunction y_callBack y_callBase y_callLabels y_waiting y_prints ∧ x_at = nI e ∧ x_frameCount = nI (fb A + 1) ∧ a_p A = e + 1 ∧ C (a_s A) e = 6
def msum : List ac → Nat
  | [] => 0
  | (_, _, _, _, p, _, _, _) :: R => (141 - p) + msum R
def mu (A : List ac) (fu : Nat) : Nat := 141 * (120 - fu) + msum A
def nxt (n : Nat) (cd : Nat → Nat) (g0 m : Nat) (u : SX) (v : SY) (q : Int32) : Prop :=
  (∃ A fu, rn B C N PP n cd g0 A fu (gx_byteCount u) (gx_wrongPlace u) (gx_at u) (gx_frameCount u) (gx_valueCount u) (gx_activeCount u) (gx_outcome u) (gx_resultValue u) (gx_trapPlace u) (gx_fuelUsed u) (gx_firstWaiting u) (gx_waitingCount u) (gx_printCount u) (gx_code u) (gx_facts u) (gx_partner u) (gx_loaded u) (gx_globals u) (gx_memories u) (gx_frameAt u) (gx_frameHeight u) (gx_values u) (gx_variables u) (gx_activeSlot u) (gx_activeGives u) (gx_activeFrame u) (gx_activeResume u) (gx_waiting u) (gx_prints u) (gy_count v) (gy_place v) (gy_m v) (gy_sp v) (gy_labels v) (gy_active v) (gy_fuel v) (gy_outcome v) (gy_trappedAt v) (gy_waits v) (gy_printed v) (gy_bytes v) (gy_there v) (gy_types v) (gy_typeSig v) (gy_imports v) (gy_functions v) (gy_sig v) (gy_what v) (gy_localsAt v) (gy_globals v) (gy_globalValue v) (gy_entries v) (gy_entriesAt v) (gy_hasMemory v) (gy_memory v) (gy_stack v) (gy_labelAt v) (gy_labelHeight v) (gy_labelGives v) (gy_callModule v) (gy_callFunction v) (gy_callBack v) (gy_callBase v) (gy_callLabels v) (gy_waiting v) (gy_prints v) ∧ q = nI (a_p A) ∧ mu A fu < m) ∨ (∃ A fu e, re B C N PP n cd g0 A fu e (gx_byteCount u) (gx_wrongPlace u) (gx_at u) (gx_frameCount u) (gx_valueCount u) (gx_activeCount u) (gx_outcome u) (gx_resultValue u) (gx_trapPlace u) (gx_fuelUsed u) (gx_firstWaiting u) (gx_waitingCount u) (gx_printCount u) (gx_code u) (gx_facts u) (gx_partner u) (gx_loaded u) (gx_globals u) (gx_memories u) (gx_frameAt u) (gx_frameHeight u) (gx_values u) (gx_variables u) (gx_activeSlot u) (gx_activeGives u) (gx_activeFrame u) (gx_activeResume u) (gx_waiting u) (gx_prints u) (gy_count v) (gy_place v) (gy_m v) (gy_sp v) (gy_labels v) (gy_active v) (gy_fuel v) (gy_outcome v) (gy_trappedAt v) (gy_waits v) (gy_printed v) (gy_bytes v) (gy_there v) (gy_types v) (gy_typeSig v) (gy_imports v) (gy_functions v) (gy_sig v) (gy_what v) (gy_localsAt v) (gy_globals v) (gy_globalValue v) (gy_entries v) (gy_entriesAt v) (gy_hasMemory v) (gy_memory v) (gy_stack v) (gy_labelAt v) (gy_labelHeight v) (gy_labelGives v) (gy_callModule v) (gy_callFunction v) (gy_callBack v) (gy_callBase v) (gy_callLabels v) (gy_waiting v) (gy_prints v) ∧ q = nI (a_p A) ∧ mu A fu < m) ∨ (∃ fu t s p a, tr B C N PP n cd fu t s p a (gx_byteCount u) (gx_wrongPlace u) (gx_at u) (gx_frameCount u) (gx_valueCount u) (gx_activeCount u) (gx_outcome u) (gx_resultValue u) (gx_trapPlace u) (gx_fuelUsed u) (gx_firstWaiting u) (gx_waitingCount u) (gx_printCount u) (gx_code u) (gx_facts u) (gx_partner u) (gx_loaded u) (gx_globals u) (gx_memories u) (gx_frameAt u) (gx_frameHeight u) (gx_values u) (gx_variables u) (gx_activeSlot u) (gx_activeGives u) (gx_activeFrame u) (gx_activeResume u) (gx_waiting u) (gx_prints u) (gy_count v) (gy_place v) (gy_m v) (gy_sp v) (gy_labels v) (gy_active v) (gy_fuel v) (gy_outcome v) (gy_trappedAt v) (gy_waits v) (gy_printed v) (gy_bytes v) (gy_there v) (gy_types v) (gy_typeSig v) (gy_imports v) (gy_functions v) (gy_sig v) (gy_what v) (gy_localsAt v) (gy_globals v) (gy_globalValue v) (gy_entries v) (gy_entriesAt v) (gy_hasMemory v) (gy_memory v) (gy_stack v) (gy_labelAt v) (gy_labelHeight v) (gy_labelGives v) (gy_callModule v) (gy_callFunction v) (gy_callBack v) (gy_callBase v) (gy_callLabels v) (gy_waiting v) (gy_prints v)) ∨ (∃ fu, dn B C N PP n cd g0 fu (gx_byteCount u) (gx_wrongPlace u) (gx_at u) (gx_frameCount u) (gx_valueCount u) (gx_activeCount u) (gx_outcome u) (gx_resultValue u) (gx_trapPlace u) (gx_fuelUsed u) (gx_firstWaiting u) (gx_waitingCount u) (gx_printCount u) (gx_code u) (gx_facts u) (gx_partner u) (gx_loaded u) (gx_globals u) (gx_memories u) (gx_frameAt u) (gx_frameHeight u) (gx_values u) (gx_variables u) (gx_activeSlot u) (gx_activeGives u) (gx_activeFrame u) (gx_activeResume u) (gx_waiting u) (gx_prints u) (gy_count v) (gy_place v) (gy_m v) (gy_sp v) (gy_labels v) (gy_active v) (gy_fuel v) (gy_outcome v) (gy_trappedAt v) (gy_waits v) (gy_printed v) (gy_bytes v) (gy_there v) (gy_types v) (gy_typeSig v) (gy_imports v) (gy_functions v) (gy_sig v) (gy_what v) (gy_localsAt v) (gy_globals v) (gy_globalValue v) (gy_entries v) (gy_entriesAt v) (gy_hasMemory v) (gy_memory v) (gy_stack v) (gy_labelAt v) (gy_labelHeight v) (gy_labelGives v) (gy_callModule v) (gy_callFunction v) (gy_callBack v) (gy_callBase v) (gy_callLabels v) (gy_waiting v) (gy_prints v))
end
end
section
/-! 43: the class's run: stack, frames, the head of a step -/
theorem nt_m : ∀ t, t < 10 → ¬ nI t = -1 := by decide
section
variable {x_byteCount x_wrongPlace x_at x_frameCount x_kindCount x_valueCount x_activeCount x_goesOn x_outcome x_trapPlace x_fuelUsed x_firstWaiting x_waitingCount x_printCount : Int32} {x_resultValue : Int64} {x_code x_facts x_partner x_loaded x_memories x_frameAt x_frameHeight x_frameResult x_frameDead x_kinds x_activeSlot x_activeGives x_activeFrame x_activeResume x_waiting x_prints : Nat → Int32} {x_globals x_values x_variables : Nat → Int64}
theorem r_push {post : SX → Prop} {v : Int64} (m : Nat) (hm : m < 256) (e : x_valueCount = nI m) (h : post (x_byteCount, x_wrongPlace, x_at, x_frameCount, x_kindCount, nI (m + 1), x_activeCount, x_goesOn, x_outcome, x_resultValue, x_trapPlace, x_fuelUsed, x_firstWaiting, x_waitingCount, x_printCount, x_code, x_facts, x_partner, x_loaded, x_globals, x_memories, x_frameAt, x_frameHeight, x_frameResult, x_frameDead, x_kinds, vp_updL x_values m v, x_variables, x_activeSlot, x_activeGives, x_activeFrame, x_activeResume, x_waiting, x_prints)) : wpX_push post (x_byteCount, x_wrongPlace, x_at, x_frameCount, x_kindCount, x_valueCount, x_activeCount, x_goesOn, x_outcome, x_resultValue, x_trapPlace, x_fuelUsed, x_firstWaiting, x_waitingCount, x_printCount, x_code, x_facts, x_partner, x_loaded, x_globals, x_memories, x_frameAt, x_frameHeight, x_frameResult, x_frameDead, x_kinds, x_values, x_variables, x_activeSlot, x_activeGives, x_activeFrame, x_activeResume, x_waiting, x_prints) v := by
  subst e
  refine pk_le 256 m (fun z => absurd z (by omega)) (fun _ => ⟨pk_in m 256 hm, nm_r (show _ = vp_updL x_values m v from by rw [pk_cl m]) (nm_r (nI_1 m) h)⟩)
theorem r_pop {post : Int64 → SX → Prop} (m : Nat) (hm : m < 256) (e : x_valueCount = nI (m + 1)) (h : post (x_values m) (x_byteCount, x_wrongPlace, x_at, x_frameCount, x_kindCount, nI m, x_activeCount, x_goesOn, x_outcome, x_resultValue, x_trapPlace, x_fuelUsed, x_firstWaiting, x_waitingCount, x_printCount, x_code, x_facts, x_partner, x_loaded, x_globals, x_memories, x_frameAt, x_frameHeight, x_frameResult, x_frameDead, x_kinds, x_values, x_variables, x_activeSlot, x_activeGives, x_activeFrame, x_activeResume, x_waiting, x_prints)) : wpX_pop post (x_byteCount, x_wrongPlace, x_at, x_frameCount, x_kindCount, x_valueCount, x_activeCount, x_goesOn, x_outcome, x_resultValue, x_trapPlace, x_fuelUsed, x_firstWaiting, x_waitingCount, x_printCount, x_code, x_facts, x_partner, x_loaded, x_globals, x_memories, x_frameAt, x_frameHeight, x_frameResult, x_frameDead, x_kinds, x_values, x_variables, x_activeSlot, x_activeGives, x_activeFrame, x_activeResume, x_waiting, x_prints) := by
  subst e
  refine pk_lt 0 (m + 1) (fun _ => nm_r (show nI (m + 1) - 1 = nI m from pk_sub (a := m + 1) (b := 1) (by omega)) ⟨pk_in m 256 hm, ?_⟩) (fun z => absurd z (by omega))
  exact eq_p (P := fun z => post z (x_byteCount, x_wrongPlace, x_at, x_frameCount, x_kindCount, nI m, x_activeCount, x_goesOn, x_outcome, x_resultValue, x_trapPlace, x_fuelUsed, x_firstWaiting, x_waitingCount, x_printCount, x_code, x_facts, x_partner, x_loaded, x_globals, x_memories, x_frameAt, x_frameHeight, x_frameResult, x_frameDead, x_kinds, x_values, x_variables, x_activeSlot, x_activeGives, x_activeFrame, x_activeResume, x_waiting, x_prints)) (show x_values (nI m).toNatClampNeg = x_values m by rw [pk_cl m]) h
theorem r_popv {post : Int64 → SX → Prop} (m : Nat) (v : Int64) (hm : m < 256) (e : x_valueCount = nI (m + 1)) (hv : x_values m = v) (h : post v (x_byteCount, x_wrongPlace, x_at, x_frameCount, x_kindCount, nI m, x_activeCount, x_goesOn, x_outcome, x_resultValue, x_trapPlace, x_fuelUsed, x_firstWaiting, x_waitingCount, x_printCount, x_code, x_facts, x_partner, x_loaded, x_globals, x_memories, x_frameAt, x_frameHeight, x_frameResult, x_frameDead, x_kinds, x_values, x_variables, x_activeSlot, x_activeGives, x_activeFrame, x_activeResume, x_waiting, x_prints)) : wpX_pop post (x_byteCount, x_wrongPlace, x_at, x_frameCount, x_kindCount, x_valueCount, x_activeCount, x_goesOn, x_outcome, x_resultValue, x_trapPlace, x_fuelUsed, x_firstWaiting, x_waitingCount, x_printCount, x_code, x_facts, x_partner, x_loaded, x_globals, x_memories, x_frameAt, x_frameHeight, x_frameResult, x_frameDead, x_kinds, x_values, x_variables, x_activeSlot, x_activeGives, x_activeFrame, x_activeResume, x_waiting, x_prints) := r_pop m hm e (by rw [hv]; exact h)
theorem r_open {post : SX → Prop} {o : Int32} (m : Nat) (hm : m < 140) (e : x_frameCount = nI m) (h : post (x_byteCount, x_wrongPlace, x_at, nI (m + 1), x_kindCount, x_valueCount, x_activeCount, x_goesOn, x_outcome, x_resultValue, x_trapPlace, x_fuelUsed, x_firstWaiting, x_waitingCount, x_printCount, x_code, x_facts, x_partner, x_loaded, x_globals, x_memories, upd x_frameAt m o, upd x_frameHeight m x_valueCount, x_frameResult, x_frameDead, x_kinds, x_values, x_variables, x_activeSlot, x_activeGives, x_activeFrame, x_activeResume, x_waiting, x_prints)) : wpX_openRun post (x_byteCount, x_wrongPlace, x_at, x_frameCount, x_kindCount, x_valueCount, x_activeCount, x_goesOn, x_outcome, x_resultValue, x_trapPlace, x_fuelUsed, x_firstWaiting, x_waitingCount, x_printCount, x_code, x_facts, x_partner, x_loaded, x_globals, x_memories, x_frameAt, x_frameHeight, x_frameResult, x_frameDead, x_kinds, x_values, x_variables, x_activeSlot, x_activeGives, x_activeFrame, x_activeResume, x_waiting, x_prints) o := by
  subst e
  exact pk_le 140 m (fun z => absurd z (by omega)) (fun _ => ⟨pk_in m 140 hm, nm_r (show _ = upd x_frameAt m o from by rw [pk_cl m]) ⟨pk_in m 140 hm, nm_r (show _ = upd x_frameHeight m x_valueCount from by rw [pk_cl m]) (nm_r (nI_1 m) h)⟩⟩)
theorem r_140 {post : SX → Prop} (e : x_outcome = -1) (h : post (x_byteCount, x_wrongPlace, x_goesOn, x_frameCount, x_kindCount, x_valueCount, x_activeCount, x_goesOn, x_outcome, x_resultValue, x_trapPlace, x_fuelUsed, x_firstWaiting, x_waitingCount, x_printCount, x_code, x_facts, x_partner, x_loaded, x_globals, x_memories, x_frameAt, x_frameHeight, x_frameResult, x_frameDead, x_kinds, x_values, x_variables, x_activeSlot, x_activeGives, x_activeFrame, x_activeResume, x_waiting, x_prints)) : wX_step_140 post x_byteCount x_wrongPlace x_at x_frameCount x_kindCount x_valueCount x_activeCount x_goesOn x_outcome x_resultValue x_trapPlace x_fuelUsed x_firstWaiting x_waitingCount x_printCount x_code x_facts x_partner x_loaded x_globals x_memories x_frameAt x_frameHeight x_frameResult x_frameDead x_kinds x_values x_variables x_activeSlot x_activeGives x_activeFrame x_activeResume x_waiting x_prints := br_t e h
theorem r_140t {post : SX → Prop} (t : Nat) (ht : t < 10) (e : x_outcome = nI t) (h : post (x_byteCount, x_wrongPlace, x_at, x_frameCount, x_kindCount, x_valueCount, x_activeCount, x_goesOn, x_outcome, x_resultValue, x_trapPlace, x_fuelUsed, x_firstWaiting, x_waitingCount, x_printCount, x_code, x_facts, x_partner, x_loaded, x_globals, x_memories, x_frameAt, x_frameHeight, x_frameResult, x_frameDead, x_kinds, x_values, x_variables, x_activeSlot, x_activeGives, x_activeFrame, x_activeResume, x_waiting, x_prints)) : wX_step_140 post x_byteCount x_wrongPlace x_at x_frameCount x_kindCount x_valueCount x_activeCount x_goesOn x_outcome x_resultValue x_trapPlace x_fuelUsed x_firstWaiting x_waitingCount x_printCount x_code x_facts x_partner x_loaded x_globals x_memories x_frameAt x_frameHeight x_frameResult x_frameDead x_kinds x_values x_variables x_activeSlot x_activeGives x_activeFrame x_activeResume x_waiting x_prints := by
  subst e
  exact br_f (nt_m t ht) h
theorem r_fuel {post : Int32 → SX → Prop} (fu : Nat) (hfu : fu ≤ 120) (e : x_fuelUsed = nI fu) (h1 : fu < 120 → post 1 (x_byteCount, x_wrongPlace, x_at, x_frameCount, x_kindCount, x_valueCount, x_activeCount, x_goesOn, x_outcome, x_resultValue, x_trapPlace, nI (fu + 1), x_firstWaiting, x_waitingCount, x_printCount, x_code, x_facts, x_partner, x_loaded, x_globals, x_memories, x_frameAt, x_frameHeight, x_frameResult, x_frameDead, x_kinds, x_values, x_variables, x_activeSlot, x_activeGives, x_activeFrame, x_activeResume, x_waiting, x_prints)) (h0 : fu = 120 → post 0 (x_byteCount, x_wrongPlace, x_at, x_frameCount, x_kindCount, x_valueCount, x_activeCount, x_goesOn, 9, x_resultValue, x_trapPlace, x_fuelUsed, x_firstWaiting, x_waitingCount, x_printCount, x_code, x_facts, x_partner, x_loaded, x_globals, x_memories, x_frameAt, x_frameHeight, x_frameResult, x_frameDead, x_kinds, x_values, x_variables, x_activeSlot, x_activeGives, x_activeFrame, x_activeResume, x_waiting, x_prints)) : wpX_useFuel post (x_byteCount, x_wrongPlace, x_at, x_frameCount, x_kindCount, x_valueCount, x_activeCount, x_goesOn, x_outcome, x_resultValue, x_trapPlace, x_fuelUsed, x_firstWaiting, x_waitingCount, x_printCount, x_code, x_facts, x_partner, x_loaded, x_globals, x_memories, x_frameAt, x_frameHeight, x_frameResult, x_frameDead, x_kinds, x_values, x_variables, x_activeSlot, x_activeGives, x_activeFrame, x_activeResume, x_waiting, x_prints) := by
  subst e
  exact pk_lt fu 120 (fun z => nm_r (nI_1 fu) (h1 z)) (fun z => h0 (by omega))
variable {c : Nat → Nat} {s p a : Nat}
theorem r_pre {post : Int32 → Int32 → Int32 → Int32 → Prop} (hs : s < 2) (M : mx_c x_code s c) (hp : p < 140) (ha : a < 10) (ea : x_activeCount = nI (a + 1)) (eS : x_activeSlot a = nI s) (eat : x_at = nI p) (h : post (nI s) (nI (c p)) (nI (c (p + 1))) (nI (nx c p))) :
    wpX_last (fun r => vp_in r 10 ∧ ∀ y : Int32, y = x_activeSlot r.toNatClampNeg → wpX_byteAt (fun r4 => wpX_byteAt (fun r39 => wpX_behind (fun r74 => post y r4 r39 r74) (x_byteCount, x_wrongPlace, x_at, x_frameCount, x_kindCount, x_valueCount, x_activeCount, x_goesOn, x_outcome, x_resultValue, x_trapPlace, x_fuelUsed, x_firstWaiting, x_waitingCount, x_printCount, x_code, x_facts, x_partner, x_loaded, x_globals, x_memories, x_frameAt, x_frameHeight, x_frameResult, x_frameDead, x_kinds, x_values, x_variables, x_activeSlot, x_activeGives, x_activeFrame, x_activeResume, x_waiting, x_prints) y x_at) (x_byteCount, x_wrongPlace, x_at, x_frameCount, x_kindCount, x_valueCount, x_activeCount, x_goesOn, x_outcome, x_resultValue, x_trapPlace, x_fuelUsed, x_firstWaiting, x_waitingCount, x_printCount, x_code, x_facts, x_partner, x_loaded, x_globals, x_memories, x_frameAt, x_frameHeight, x_frameResult, x_frameDead, x_kinds, x_values, x_variables, x_activeSlot, x_activeGives, x_activeFrame, x_activeResume, x_waiting, x_prints) y (x_at + 1)) (x_byteCount, x_wrongPlace, x_at, x_frameCount, x_kindCount, x_valueCount, x_activeCount, x_goesOn, x_outcome, x_resultValue, x_trapPlace, x_fuelUsed, x_firstWaiting, x_waitingCount, x_printCount, x_code, x_facts, x_partner, x_loaded, x_globals, x_memories, x_frameAt, x_frameHeight, x_frameResult, x_frameDead, x_kinds, x_values, x_variables, x_activeSlot, x_activeGives, x_activeFrame, x_activeResume, x_waiting, x_prints) y x_at) x_activeCount 10 := by
  subst ea eat
  have M' : mx_ok (x_byteCount, x_wrongPlace, nI p, x_frameCount, x_kindCount, x_valueCount, nI (a + 1), x_goesOn, x_outcome, x_resultValue, x_trapPlace, x_fuelUsed, x_firstWaiting, x_waitingCount, x_printCount, x_code, x_facts, x_partner, x_loaded, x_globals, x_memories, x_frameAt, x_frameHeight, x_frameResult, x_frameDead, x_kinds, x_values, x_variables, x_activeSlot, x_activeGives, x_activeFrame, x_activeResume, x_waiting, x_prints) s c := M
  refine xx_last (k := a + 1) (l := 10) (by omega) (by omega) (by omega) ⟨pk_in a 10 ha, nm_r (show _ = nI s from by rw [show nI (a + 1 - 1) = nI a from rfl, pk_cl a]; exact eS) ?_⟩
  refine xx_byte M' (by omega) (by omega) ?_
  rw [nI_1 p]
  refine xx_byte M' (by omega) (by omega) ?_
  exact xm_behind (by omega) M' p (by omega) h
theorem r_ctl {post : SX → Prop} (hs : s < 2) (M : mx_c x_code s c) (hp : p < 140) (ha : a < 10) (ea : x_activeCount = nI (a + 1)) (eS : x_activeSlot a = nI s) (eat : x_at = nI p) (hop : c p ≤ 10)
    (h : wpX_runControl (fun u => match u with | (x_byteCount, x_wrongPlace, x_at, x_frameCount, x_kindCount, x_valueCount, x_activeCount, x_goesOn, x_outcome, x_resultValue, x_trapPlace, x_fuelUsed, x_firstWaiting, x_waitingCount, x_printCount, x_code, x_facts, x_partner, x_loaded, x_globals, x_memories, x_frameAt, x_frameHeight, x_frameResult, x_frameDead, x_kinds, x_values, x_variables, x_activeSlot, x_activeGives, x_activeFrame, x_activeResume, x_waiting, x_prints) => wX_step_140 post x_byteCount x_wrongPlace x_at x_frameCount x_kindCount x_valueCount x_activeCount x_goesOn x_outcome x_resultValue x_trapPlace x_fuelUsed x_firstWaiting x_waitingCount x_printCount x_code x_facts x_partner x_loaded x_globals x_memories x_frameAt x_frameHeight x_frameResult x_frameDead x_kinds x_values x_variables x_activeSlot x_activeGives x_activeFrame x_activeResume x_waiting x_prints) (x_byteCount, x_wrongPlace, x_at, x_frameCount, x_kindCount, x_valueCount, x_activeCount, nI (nx c p), x_outcome, x_resultValue, x_trapPlace, x_fuelUsed, x_firstWaiting, x_waitingCount, x_printCount, x_code, x_facts, x_partner, x_loaded, x_globals, x_memories, x_frameAt, x_frameHeight, x_frameResult, x_frameDead, x_kinds, x_values, x_variables, x_activeSlot, x_activeGives, x_activeFrame, x_activeResume, x_waiting, x_prints) (nI s) (nI (c p)) (nI (c (p + 1)))) : wpX_step post (x_byteCount, x_wrongPlace, x_at, x_frameCount, x_kindCount, x_valueCount, x_activeCount, x_goesOn, x_outcome, x_resultValue, x_trapPlace, x_fuelUsed, x_firstWaiting, x_waitingCount, x_printCount, x_code, x_facts, x_partner, x_loaded, x_globals, x_memories, x_frameAt, x_frameHeight, x_frameResult, x_frameDead, x_kinds, x_values, x_variables, x_activeSlot, x_activeGives, x_activeFrame, x_activeResume, x_waiting, x_prints) :=
  r_pre hs M hp ha ea eS eat (pk_lt 10 (c p) (fun z => absurd z (by omega)) (fun _ => h))
theorem r_call {post : SX → Prop} (hs : s < 2) (M : mx_c x_code s c) (hp : p < 140) (ha : a < 10) (ea : x_activeCount = nI (a + 1)) (eS : x_activeSlot a = nI s) (eat : x_at = nI p) (hop : 10 < c p) (hop2 : c p ≤ 12)
    (h : wpX_runCall (fun u => match u with | (x_byteCount, x_wrongPlace, x_at, x_frameCount, x_kindCount, x_valueCount, x_activeCount, x_goesOn, x_outcome, x_resultValue, x_trapPlace, x_fuelUsed, x_firstWaiting, x_waitingCount, x_printCount, x_code, x_facts, x_partner, x_loaded, x_globals, x_memories, x_frameAt, x_frameHeight, x_frameResult, x_frameDead, x_kinds, x_values, x_variables, x_activeSlot, x_activeGives, x_activeFrame, x_activeResume, x_waiting, x_prints) => wX_step_140 post x_byteCount x_wrongPlace x_at x_frameCount x_kindCount x_valueCount x_activeCount x_goesOn x_outcome x_resultValue x_trapPlace x_fuelUsed x_firstWaiting x_waitingCount x_printCount x_code x_facts x_partner x_loaded x_globals x_memories x_frameAt x_frameHeight x_frameResult x_frameDead x_kinds x_values x_variables x_activeSlot x_activeGives x_activeFrame x_activeResume x_waiting x_prints) (x_byteCount, x_wrongPlace, x_at, x_frameCount, x_kindCount, x_valueCount, x_activeCount, nI (nx c p), x_outcome, x_resultValue, x_trapPlace, x_fuelUsed, x_firstWaiting, x_waitingCount, x_printCount, x_code, x_facts, x_partner, x_loaded, x_globals, x_memories, x_frameAt, x_frameHeight, x_frameResult, x_frameDead, x_kinds, x_values, x_variables, x_activeSlot, x_activeGives, x_activeFrame, x_activeResume, x_waiting, x_prints) (nI s) (nI (c p)) (nI (c (p + 1)))) : wpX_step post (x_byteCount, x_wrongPlace, x_at, x_frameCount, x_kindCount, x_valueCount, x_activeCount, x_goesOn, x_outcome, x_resultValue, x_trapPlace, x_fuelUsed, x_firstWaiting, x_waitingCount, x_printCount, x_code, x_facts, x_partner, x_loaded, x_globals, x_memories, x_frameAt, x_frameHeight, x_frameResult, x_frameDead, x_kinds, x_values, x_variables, x_activeSlot, x_activeGives, x_activeFrame, x_activeResume, x_waiting, x_prints) :=
  r_pre hs M hp ha ea eS eat (pk_lt 10 (c p) (fun _ => pk_lt 12 (c p) (fun z => absurd z (by omega)) (fun _ => h)) (fun z => absurd z (by omega)))
theorem r_simple {post : SX → Prop} (hs : s < 2) (M : mx_c x_code s c) (hp : p < 140) (ha : a < 10) (ea : x_activeCount = nI (a + 1)) (eS : x_activeSlot a = nI s) (eat : x_at = nI p) (hop : 12 < c p) (hop2 : c p ≤ 21)
    (h : wpX_runSimple (fun u => match u with | (x_byteCount, x_wrongPlace, x_at, x_frameCount, x_kindCount, x_valueCount, x_activeCount, x_goesOn, x_outcome, x_resultValue, x_trapPlace, x_fuelUsed, x_firstWaiting, x_waitingCount, x_printCount, x_code, x_facts, x_partner, x_loaded, x_globals, x_memories, x_frameAt, x_frameHeight, x_frameResult, x_frameDead, x_kinds, x_values, x_variables, x_activeSlot, x_activeGives, x_activeFrame, x_activeResume, x_waiting, x_prints) => wX_step_140 post x_byteCount x_wrongPlace x_at x_frameCount x_kindCount x_valueCount x_activeCount x_goesOn x_outcome x_resultValue x_trapPlace x_fuelUsed x_firstWaiting x_waitingCount x_printCount x_code x_facts x_partner x_loaded x_globals x_memories x_frameAt x_frameHeight x_frameResult x_frameDead x_kinds x_values x_variables x_activeSlot x_activeGives x_activeFrame x_activeResume x_waiting x_prints) (x_byteCount, x_wrongPlace, x_at, x_frameCount, x_kindCount, x_valueCount, x_activeCount, nI (nx c p), x_outcome, x_resultValue, x_trapPlace, x_fuelUsed, x_firstWaiting, x_waitingCount, x_printCount, x_code, x_facts, x_partner, x_loaded, x_globals, x_memories, x_frameAt, x_frameHeight, x_frameResult, x_frameDead, x_kinds, x_values, x_variables, x_activeSlot, x_activeGives, x_activeFrame, x_activeResume, x_waiting, x_prints) (nI s) (nI (c p)) (nI (c (p + 1)))) : wpX_step post (x_byteCount, x_wrongPlace, x_at, x_frameCount, x_kindCount, x_valueCount, x_activeCount, x_goesOn, x_outcome, x_resultValue, x_trapPlace, x_fuelUsed, x_firstWaiting, x_waitingCount, x_printCount, x_code, x_facts, x_partner, x_loaded, x_globals, x_memories, x_frameAt, x_frameHeight, x_frameResult, x_frameDead, x_kinds, x_values, x_variables, x_activeSlot, x_activeGives, x_activeFrame, x_activeResume, x_waiting, x_prints) :=
  r_pre hs M hp ha ea eS eat (pk_lt 10 (c p) (fun _ => pk_lt 12 (c p) (fun _ => pk_lt 21 (c p) (fun z => absurd z (by omega)) (fun _ => h)) (fun z => absurd z (by omega))) (fun z => absurd z (by omega)))
theorem r_access {post : SX → Prop} (hs : s < 2) (M : mx_c x_code s c) (hp : p < 140) (ha : a < 10) (ea : x_activeCount = nI (a + 1)) (eS : x_activeSlot a = nI s) (eat : x_at = nI p) (hop : 21 < c p) (hop2 : c p ≤ 27)
    (h : wpX_runAccess (fun u => match u with | (x_byteCount, x_wrongPlace, x_at, x_frameCount, x_kindCount, x_valueCount, x_activeCount, x_goesOn, x_outcome, x_resultValue, x_trapPlace, x_fuelUsed, x_firstWaiting, x_waitingCount, x_printCount, x_code, x_facts, x_partner, x_loaded, x_globals, x_memories, x_frameAt, x_frameHeight, x_frameResult, x_frameDead, x_kinds, x_values, x_variables, x_activeSlot, x_activeGives, x_activeFrame, x_activeResume, x_waiting, x_prints) => wX_step_140 post x_byteCount x_wrongPlace x_at x_frameCount x_kindCount x_valueCount x_activeCount x_goesOn x_outcome x_resultValue x_trapPlace x_fuelUsed x_firstWaiting x_waitingCount x_printCount x_code x_facts x_partner x_loaded x_globals x_memories x_frameAt x_frameHeight x_frameResult x_frameDead x_kinds x_values x_variables x_activeSlot x_activeGives x_activeFrame x_activeResume x_waiting x_prints) (x_byteCount, x_wrongPlace, x_at, x_frameCount, x_kindCount, x_valueCount, x_activeCount, nI (nx c p), x_outcome, x_resultValue, x_trapPlace, x_fuelUsed, x_firstWaiting, x_waitingCount, x_printCount, x_code, x_facts, x_partner, x_loaded, x_globals, x_memories, x_frameAt, x_frameHeight, x_frameResult, x_frameDead, x_kinds, x_values, x_variables, x_activeSlot, x_activeGives, x_activeFrame, x_activeResume, x_waiting, x_prints) (nI s) (nI (c p)) (nI (c (p + 1)))) : wpX_step post (x_byteCount, x_wrongPlace, x_at, x_frameCount, x_kindCount, x_valueCount, x_activeCount, x_goesOn, x_outcome, x_resultValue, x_trapPlace, x_fuelUsed, x_firstWaiting, x_waitingCount, x_printCount, x_code, x_facts, x_partner, x_loaded, x_globals, x_memories, x_frameAt, x_frameHeight, x_frameResult, x_frameDead, x_kinds, x_values, x_variables, x_activeSlot, x_activeGives, x_activeFrame, x_activeResume, x_waiting, x_prints) :=
  r_pre hs M hp ha ea eS eat (pk_lt 10 (c p) (fun _ => pk_lt 12 (c p) (fun _ => pk_lt 21 (c p) (fun _ => pk_lt 27 (c p) (fun z => absurd z (by omega)) (fun _ => h)) (fun z => absurd z (by omega))) (fun z => absurd z (by omega))) (fun z => absurd z (by omega)))
theorem r_num {post : SX → Prop} (hs : s < 2) (M : mx_c x_code s c) (hp : p < 140) (ha : a < 10) (ea : x_activeCount = nI (a + 1)) (eS : x_activeSlot a = nI s) (eat : x_at = nI p) (hop : 27 < c p) (hop2 : c p ≤ 63)
    (h : wpX_runNumeric (fun u => match u with | (x_byteCount, x_wrongPlace, x_at, x_frameCount, x_kindCount, x_valueCount, x_activeCount, x_goesOn, x_outcome, x_resultValue, x_trapPlace, x_fuelUsed, x_firstWaiting, x_waitingCount, x_printCount, x_code, x_facts, x_partner, x_loaded, x_globals, x_memories, x_frameAt, x_frameHeight, x_frameResult, x_frameDead, x_kinds, x_values, x_variables, x_activeSlot, x_activeGives, x_activeFrame, x_activeResume, x_waiting, x_prints) => wX_step_140 post x_byteCount x_wrongPlace x_at x_frameCount x_kindCount x_valueCount x_activeCount x_goesOn x_outcome x_resultValue x_trapPlace x_fuelUsed x_firstWaiting x_waitingCount x_printCount x_code x_facts x_partner x_loaded x_globals x_memories x_frameAt x_frameHeight x_frameResult x_frameDead x_kinds x_values x_variables x_activeSlot x_activeGives x_activeFrame x_activeResume x_waiting x_prints) (x_byteCount, x_wrongPlace, x_at, x_frameCount, x_kindCount, x_valueCount, x_activeCount, nI (nx c p), x_outcome, x_resultValue, x_trapPlace, x_fuelUsed, x_firstWaiting, x_waitingCount, x_printCount, x_code, x_facts, x_partner, x_loaded, x_globals, x_memories, x_frameAt, x_frameHeight, x_frameResult, x_frameDead, x_kinds, x_values, x_variables, x_activeSlot, x_activeGives, x_activeFrame, x_activeResume, x_waiting, x_prints) (nI (c p))) : wpX_step post (x_byteCount, x_wrongPlace, x_at, x_frameCount, x_kindCount, x_valueCount, x_activeCount, x_goesOn, x_outcome, x_resultValue, x_trapPlace, x_fuelUsed, x_firstWaiting, x_waitingCount, x_printCount, x_code, x_facts, x_partner, x_loaded, x_globals, x_memories, x_frameAt, x_frameHeight, x_frameResult, x_frameDead, x_kinds, x_values, x_variables, x_activeSlot, x_activeGives, x_activeFrame, x_activeResume, x_waiting, x_prints) :=
  r_pre hs M hp ha ea eS eat (pk_lt 10 (c p) (fun _ => pk_lt 12 (c p) (fun _ => pk_lt 21 (c p) (fun _ => pk_lt 27 (c p) (fun _ => pk_le 64 (c p) (fun z => absurd z (by omega)) (fun _ => h)) (fun z => absurd z (by omega))) (fun z => absurd z (by omega))) (fun z => absurd z (by omega))) (fun z => absurd z (by omega)))
theorem r_conv {post : SX → Prop} (hs : s < 2) (M : mx_c x_code s c) (hp : p < 140) (ha : a < 10) (ea : x_activeCount = nI (a + 1)) (eS : x_activeSlot a = nI s) (eat : x_at = nI p) (hop : 64 ≤ c p) (hop2 : c p ≤ 66)
    (h : wpX_runConversion (fun u => match u with | (x_byteCount, x_wrongPlace, x_at, x_frameCount, x_kindCount, x_valueCount, x_activeCount, x_goesOn, x_outcome, x_resultValue, x_trapPlace, x_fuelUsed, x_firstWaiting, x_waitingCount, x_printCount, x_code, x_facts, x_partner, x_loaded, x_globals, x_memories, x_frameAt, x_frameHeight, x_frameResult, x_frameDead, x_kinds, x_values, x_variables, x_activeSlot, x_activeGives, x_activeFrame, x_activeResume, x_waiting, x_prints) => wX_step_140 post x_byteCount x_wrongPlace x_at x_frameCount x_kindCount x_valueCount x_activeCount x_goesOn x_outcome x_resultValue x_trapPlace x_fuelUsed x_firstWaiting x_waitingCount x_printCount x_code x_facts x_partner x_loaded x_globals x_memories x_frameAt x_frameHeight x_frameResult x_frameDead x_kinds x_values x_variables x_activeSlot x_activeGives x_activeFrame x_activeResume x_waiting x_prints) (x_byteCount, x_wrongPlace, x_at, x_frameCount, x_kindCount, x_valueCount, x_activeCount, nI (nx c p), x_outcome, x_resultValue, x_trapPlace, x_fuelUsed, x_firstWaiting, x_waitingCount, x_printCount, x_code, x_facts, x_partner, x_loaded, x_globals, x_memories, x_frameAt, x_frameHeight, x_frameResult, x_frameDead, x_kinds, x_values, x_variables, x_activeSlot, x_activeGives, x_activeFrame, x_activeResume, x_waiting, x_prints) (nI (c p))) : wpX_step post (x_byteCount, x_wrongPlace, x_at, x_frameCount, x_kindCount, x_valueCount, x_activeCount, x_goesOn, x_outcome, x_resultValue, x_trapPlace, x_fuelUsed, x_firstWaiting, x_waitingCount, x_printCount, x_code, x_facts, x_partner, x_loaded, x_globals, x_memories, x_frameAt, x_frameHeight, x_frameResult, x_frameDead, x_kinds, x_values, x_variables, x_activeSlot, x_activeGives, x_activeFrame, x_activeResume, x_waiting, x_prints) :=
  r_pre hs M hp ha ea eS eat (pk_lt 10 (c p) (fun _ => pk_lt 12 (c p) (fun _ => pk_lt 21 (c p) (fun _ => pk_lt 27 (c p) (fun _ => pk_le 64 (c p) (fun _ => h) (fun z => absurd z (by omega))) (fun z => absurd z (by omega))) (fun z => absurd z (by omega))) (fun z => absurd z (by omega))) (fun z => absurd z (by omega)))
end
end
section
/-! 44: the reference's run: what it reads, scans for ENDs, stack and labels -/
def cq_ok (ym : Int32) (by_ : Nat → Int32) (m : Nat) (c : Nat → Nat) (n : Nat) : Prop := ym = nI m ∧ m < 3 ∧ n ≤ 140 ∧ (∀ i, i < n → by_ (140 * m + i) = nI (c i)) ∧ ∀ i, c i < 256
theorem sv_len {c : Nat → Nat} {n : Nat} {b : Bool} : ∀ j p d e, sv c n b j p d e → p + j ≤ e ∧ e < n := by
  intro j
  induction j with
  | zero => intro p d e h; obtain ⟨h1, h2, h3, h4⟩ := h; omega
  | succ j ih => intro p d e h; obtain ⟨h1, h2, h3, h4, h5, h6, h7⟩ := h; have := ih _ _ _ h7; omega
section
variable {y_count y_place y_m y_pos y_wrong y_least y_top y_frames y_invalid y_sp y_labels y_active y_fuel y_outcome y_trappedAt y_used y_waits y_printed : Int32} {y_constant y_result : Int64} {y_bytes y_there y_types y_typeSig y_imports y_functions y_sig y_what y_typeAt y_localsAt y_globals y_globalKind y_globalFree y_entries y_entriesAt y_hasMemory y_memory y_nest y_kinds y_shape y_gives y_height y_dead y_labelAt y_labelHeight y_labelGives y_callModule y_callFunction y_callBack y_callBase y_callLabels y_waiting y_prints : Nat → Int32} {y_globalValue y_stack : Nat → Int64}
variable {m : Nat} {c : Nat → Nat} {n p : Nat} {k : Int64}
theorem yq_take {post : Int32 → SY → Prop} (Q : cq_ok y_m y_bytes m c n) (e : y_count = 140) (lo hi : Nat) (hp : p < n) (hl : lo ≤ c p) (hh : c p ≤ hi) (hi2 : hi < 256) (h : post (nI (c p)) (y_count, y_place, y_m, nI (p + 1), 0, k, y_least, y_top, y_frames, y_invalid, y_sp, y_labels, y_active, y_fuel, y_outcome, y_trappedAt, y_result, y_used, y_waits, y_printed, y_bytes, y_there, y_types, y_typeSig, y_imports, y_functions, y_sig, y_what, y_typeAt, y_localsAt, y_globals, y_globalKind, y_globalFree, y_globalValue, y_entries, y_entriesAt, y_hasMemory, y_memory, y_nest, y_kinds, y_shape, y_gives, y_height, y_dead, y_stack, y_labelAt, y_labelHeight, y_labelGives, y_callModule, y_callFunction, y_callBack, y_callBase, y_callLabels, y_waiting, y_prints)) : wpY_take post (y_count, y_place, y_m, nI p, 0, k, y_least, y_top, y_frames, y_invalid, y_sp, y_labels, y_active, y_fuel, y_outcome, y_trappedAt, y_result, y_used, y_waits, y_printed, y_bytes, y_there, y_types, y_typeSig, y_imports, y_functions, y_sig, y_what, y_typeAt, y_localsAt, y_globals, y_globalKind, y_globalFree, y_globalValue, y_entries, y_entriesAt, y_hasMemory, y_memory, y_nest, y_kinds, y_shape, y_gives, y_height, y_dead, y_stack, y_labelAt, y_labelHeight, y_labelGives, y_callModule, y_callFunction, y_callBack, y_callBase, y_callLabels, y_waiting, y_prints) (nI lo) (nI hi) := by
  obtain ⟨hm, h3, h140, hb, h256⟩ := Q
  have hcp := h256 p
  have at' : ∀ (w : Int32) (post : Int32 → Prop), post (nI (c p)) → wpY_at post (y_count, y_place, y_m, nI p, w, k, y_least, y_top, y_frames, y_invalid, y_sp, y_labels, y_active, y_fuel, y_outcome, y_trappedAt, y_result, y_used, y_waits, y_printed, y_bytes, y_there, y_types, y_typeSig, y_imports, y_functions, y_sig, y_what, y_typeAt, y_localsAt, y_globals, y_globalKind, y_globalFree, y_globalValue, y_entries, y_entriesAt, y_hasMemory, y_memory, y_nest, y_kinds, y_shape, y_gives, y_height, y_dead, y_stack, y_labelAt, y_labelHeight, y_labelGives, y_callModule, y_callFunction, y_callBack, y_callBase, y_callLabels, y_waiting, y_prints) (nI p) := fun w post h => yr_at hm h3 (by omega) (hb p hp) h
  have at2 : ∀ (w : Int32) (post : Int32 → Prop), post (nI (c p)) → wpY_at post (y_count, y_place, y_m, nI (p + 1), w, k, y_least, y_top, y_frames, y_invalid, y_sp, y_labels, y_active, y_fuel, y_outcome, y_trappedAt, y_result, y_used, y_waits, y_printed, y_bytes, y_there, y_types, y_typeSig, y_imports, y_functions, y_sig, y_what, y_typeAt, y_localsAt, y_globals, y_globalKind, y_globalFree, y_globalValue, y_entries, y_entriesAt, y_hasMemory, y_memory, y_nest, y_kinds, y_shape, y_gives, y_height, y_dead, y_stack, y_labelAt, y_labelHeight, y_labelGives, y_callModule, y_callFunction, y_callBack, y_callBase, y_callLabels, y_waiting, y_prints) (nI p) := fun w post h => yr_at hm h3 (by omega) (hb p hp) h
  refine br_t rfl (pk_eq p 140 (fun z => absurd z (by omega)) (fun _ => at' _ _ ?_) rfl e)
  refine pk_lt (c p) lo (fun z => absurd z (by omega)) (fun z1 => at' _ _ ?_)
  exact pk_le (c p) hi (fun z2 => nm_r (nI_1 p) (at2 _ _ h)) (fun z2 => absurd z2 (by omega))
theorem yq_const_l {post : SY → Prop} (Q : cq_ok y_m y_bytes m c n) (e : y_count = 140) (kind most : Nat) (hk : kind < 256) (hmost : most = if kind = 1 then 5 else 10) : ∀ r i p l R x b, i + r = most → r < l → r ≤ R → 127 < b → b < 256 → (rd_C c n r (true, p)).1 = true →
    post (y_count, y_place, y_m, nI (rd_C c n r (true, p)).2, 0, cv c kind R p x i, y_least, y_top, y_frames, y_invalid, y_sp, y_labels, y_active, y_fuel, y_outcome, y_trappedAt, y_result, y_used, y_waits, y_printed, y_bytes, y_there, y_types, y_typeSig, y_imports, y_functions, y_sig, y_what, y_typeAt, y_localsAt, y_globals, y_globalKind, y_globalFree, y_globalValue, y_entries, y_entriesAt, y_hasMemory, y_memory, y_nest, y_kinds, y_shape, y_gives, y_height, y_dead, y_stack, y_labelAt, y_labelHeight, y_labelGives, y_callModule, y_callFunction, y_callBack, y_callBase, y_callLabels, y_waiting, y_prints) →
    wY_takeConstant_10 post (nI kind) l x (nI i) (nI b) y_count y_place y_m (nI p) 0 k y_least y_top y_frames y_invalid y_sp y_labels y_active y_fuel y_outcome y_trappedAt y_result y_used y_waits y_printed y_bytes y_there y_types y_typeSig y_imports y_functions y_sig y_what y_typeAt y_localsAt y_globals y_globalKind y_globalFree y_globalValue y_entries y_entriesAt y_hasMemory y_memory y_nest y_kinds y_shape y_gives y_height y_dead y_stack y_labelAt y_labelHeight y_labelGives y_callModule y_callFunction y_callBack y_callBase y_callLabels y_waiting y_prints := by
  have hmost2 : most ≤ 10 := by rw [hmost]; split <;> omega
  intro r
  induction r with
  | zero => intro i p l R x b hi _ _ _ _ h; exact ff_t h
  | succ r ih =>
    intro i p l R x b hi hl hR hb1 hb2 ok h
    obtain ⟨l, rfl⟩ : ∃ j, l = j + 1 := ⟨l - 1, by omega⟩
    obtain ⟨R, rfl⟩ : ∃ j, R = j + 1 := ⟨R - 1, by omega⟩
    have h256 := Q.2.2.2.2
    have e7 : 7 * nI i = nI (7 * i) := pk_mul 7 i
    have key : ∀ hb, hb < 256 → (if r = 0 then 127 else 255) = hb → wY_takeConstant_50 post (wY_takeConstant_10 post (nI kind) l) (nI kind) x (nI i) (nI hb) 0 y_count y_place y_m (nI p) 0 k y_least y_top y_frames y_invalid y_sp y_labels y_active y_fuel y_outcome y_trappedAt y_result y_used y_waits y_printed y_bytes y_there y_types y_typeSig y_imports y_functions y_sig y_what y_typeAt y_localsAt y_globals y_globalKind y_globalFree y_globalValue y_entries y_entriesAt y_hasMemory y_memory y_nest y_kinds y_shape y_gives y_height y_dead y_stack y_labelAt y_labelHeight y_labelGives y_callModule y_callFunction y_callBack y_callBase y_callLabels y_waiting y_prints := by
      intro hb hbl eh
      rw [rd_C, eh] at h ok
      rcases rd_tk_or c n 0 hb (true, p) with ⟨t1, _, t2, _, t3⟩ | t1
      · rw [t1] at h ok
        dsimp only at t2 t3 h ok
        refine yq_take Q e 0 hb t2 (by omega) t3 hbl ?_
        refine nm_r (show _ = cv_st x i (c p) from by rw [e7]; rfl) (nm_r (nI_1 i) ?_)
        rw [cv] at h
        by_cases h4 : 127 < c p
        · rw [if_pos ⟨rfl, h4⟩] at h ok
          rw [if_pos h4] at h
          exact ih (i + 1) (p + 1) l R _ (c p) (by omega) (by omega) (by omega) h4 (h256 p) ok h
        · rw [if_neg (fun z => h4 z.2)] at h
          rw [if_neg h4] at h
          obtain ⟨l, rfl⟩ : ∃ j, l = j + 1 := ⟨l - 1, by omega⟩
          exact pk_le (c p) 127 (fun _ => yr_c76 kind hk _ (i + 1) (c p) (by omega) h) (fun z => absurd z h4) rfl rfl (by have := h256 p; omega)
      · rw [t1, if_neg (fun z => ff_t z.1)] at ok; exact ff_t ok
    have k39 : ∀ w, w + 1 = most → wY_takeConstant_39 post (wY_takeConstant_10 post (nI kind) l) (nI kind) x (nI i) (nI w) (nI i) 0 y_count y_place y_m (nI p) 0 k y_least y_top y_frames y_invalid y_sp y_labels y_active y_fuel y_outcome y_trappedAt y_result y_used y_waits y_printed y_bytes y_there y_types y_typeSig y_imports y_functions y_sig y_what y_typeAt y_localsAt y_globals y_globalKind y_globalFree y_globalValue y_entries y_entriesAt y_hasMemory y_memory y_nest y_kinds y_shape y_gives y_height y_dead y_stack y_labelAt y_labelHeight y_labelGives y_callModule y_callFunction y_callBack y_callBase y_callLabels y_waiting y_prints := by
      intro w hw
      exact pk_eq i w (fun z => key 127 (by omega) (if_pos (by omega))) (fun z => key 255 (by omega) (if_neg (by omega)))
    refine pk_le b 127 (fun z => absurd z (by omega)) (fun _ => br_t rfl ?_)
    refine pk_eq kind 1 (fun z => ?_) (fun z => ?_)
    · rw [if_pos z] at hmost; exact k39 4 (by omega)
    · rw [if_neg z] at hmost; exact k39 9 (by omega)
theorem yq_const {post : SY → Prop} (Q : cq_ok y_m y_bytes m c n) (e : y_count = 140) (kind : Nat) (hk : kind < 256) (ok : (rd_C c n (if kind = 1 then 5 else 10) (true, p)).1 = true)
    (h : post (y_count, y_place, y_m, nI (rd_C c n (if kind = 1 then 5 else 10) (true, p)).2, 0, cv c kind 10 p 0 0, y_least, y_top, y_frames, y_invalid, y_sp, y_labels, y_active, y_fuel, y_outcome, y_trappedAt, y_result, y_used, y_waits, y_printed, y_bytes, y_there, y_types, y_typeSig, y_imports, y_functions, y_sig, y_what, y_typeAt, y_localsAt, y_globals, y_globalKind, y_globalFree, y_globalValue, y_entries, y_entriesAt, y_hasMemory, y_memory, y_nest, y_kinds, y_shape, y_gives, y_height, y_dead, y_stack, y_labelAt, y_labelHeight, y_labelGives, y_callModule, y_callFunction, y_callBack, y_callBase, y_callLabels, y_waiting, y_prints)) : wpY_takeConstant post (y_count, y_place, y_m, nI p, 0, k, y_least, y_top, y_frames, y_invalid, y_sp, y_labels, y_active, y_fuel, y_outcome, y_trappedAt, y_result, y_used, y_waits, y_printed, y_bytes, y_there, y_types, y_typeSig, y_imports, y_functions, y_sig, y_what, y_typeAt, y_localsAt, y_globals, y_globalKind, y_globalFree, y_globalValue, y_entries, y_entriesAt, y_hasMemory, y_memory, y_nest, y_kinds, y_shape, y_gives, y_height, y_dead, y_stack, y_labelAt, y_labelHeight, y_labelGives, y_callModule, y_callFunction, y_callBack, y_callBase, y_callLabels, y_waiting, y_prints) (nI kind) :=
  ⟨11, yq_const_l Q e kind (if kind = 1 then 5 else 10) hk rfl (if kind = 1 then 5 else 10) 0 p 11 10 0 128 (by omega) (by split <;> omega) (by split <;> omega) (by omega) (by omega) ok h⟩
theorem yq_n_l {post : SY → Prop} (Q : cq_ok y_m y_bytes m c n) (e : y_count = 140) (K : Nat) (hK : K ≤ 4) : ∀ r i l p, i + r = K + 1 → r < l → p + r ≤ n → post (y_count, y_place, y_m, nI (p + r), 0, k, y_least, y_top, y_frames, y_invalid, y_sp, y_labels, y_active, y_fuel, y_outcome, y_trappedAt, y_result, y_used, y_waits, y_printed, y_bytes, y_there, y_types, y_typeSig, y_imports, y_functions, y_sig, y_what, y_typeAt, y_localsAt, y_globals, y_globalKind, y_globalFree, y_globalValue, y_entries, y_entriesAt, y_hasMemory, y_memory, y_nest, y_kinds, y_shape, y_gives, y_height, y_dead, y_stack, y_labelAt, y_labelHeight, y_labelGives, y_callModule, y_callFunction, y_callBack, y_callBase, y_callLabels, y_waiting, y_prints) →
    wY_takeRest_35 post (nI K) l (nI i) y_count y_place y_m (nI p) 0 k y_least y_top y_frames y_invalid y_sp y_labels y_active y_fuel y_outcome y_trappedAt y_result y_used y_waits y_printed y_bytes y_there y_types y_typeSig y_imports y_functions y_sig y_what y_typeAt y_localsAt y_globals y_globalKind y_globalFree y_globalValue y_entries y_entriesAt y_hasMemory y_memory y_nest y_kinds y_shape y_gives y_height y_dead y_stack y_labelAt y_labelHeight y_labelGives y_callModule y_callFunction y_callBack y_callBase y_callLabels y_waiting y_prints := by
  intro r
  induction r with
  | zero =>
    intro i l p hi hl hp h
    obtain ⟨l, rfl⟩ : ∃ j, l = j + 1 := ⟨l - 1, by omega⟩
    exact pk_lt K i (fun _ => h) (fun z => absurd z (by omega))
  | succ r ih =>
    intro i l p hi hl hp h
    obtain ⟨l, rfl⟩ : ∃ j, l = j + 1 := ⟨l - 1, by omega⟩
    have h256 := Q.2.2.2.2
    have := h256 p
    refine pk_lt K i (fun z => absurd z (by omega)) (fun _ => ?_)
    refine yq_take Q e 0 255 (by omega) (by omega) (by omega) (by omega) (nm_r (nI_1 i) ?_)
    exact ih (i + 1) l (p + 1) (by omega) (by omega) (by omega) (by rw [show p + 1 + r = p + (r + 1) by omega]; exact h)
theorem yq_rest {post : SY → Prop} (Q : cq_ok y_m y_bytes m c n) (e : y_count = 140) (op q : Nat) (hop : op < 256) (hR : rd_R c n op (true, p) = (true, q))
    (h : ∀ k', (op = 20 ∨ op = 21 → k' = cv c (op - 19) 10 p 0 0) → post (y_count, y_place, y_m, nI q, 0, k', y_least, y_top, y_frames, y_invalid, y_sp, y_labels, y_active, y_fuel, y_outcome, y_trappedAt, y_result, y_used, y_waits, y_printed, y_bytes, y_there, y_types, y_typeSig, y_imports, y_functions, y_sig, y_what, y_typeAt, y_localsAt, y_globals, y_globalKind, y_globalFree, y_globalValue, y_entries, y_entriesAt, y_hasMemory, y_memory, y_nest, y_kinds, y_shape, y_gives, y_height, y_dead, y_stack, y_labelAt, y_labelHeight, y_labelGives, y_callModule, y_callFunction, y_callBack, y_callBase, y_callLabels, y_waiting, y_prints)) :
    wpY_takeRest post (y_count, y_place, y_m, nI p, 0, k, y_least, y_top, y_frames, y_invalid, y_sp, y_labels, y_active, y_fuel, y_outcome, y_trappedAt, y_result, y_used, y_waits, y_printed, y_bytes, y_there, y_types, y_typeSig, y_imports, y_functions, y_sig, y_what, y_typeAt, y_localsAt, y_globals, y_globalKind, y_globalFree, y_globalValue, y_entries, y_entriesAt, y_hasMemory, y_memory, y_nest, y_kinds, y_shape, y_gives, y_height, y_dead, y_stack, y_labelAt, y_labelHeight, y_labelGives, y_callModule, y_callFunction, y_callBack, y_callBase, y_callLabels, y_waiting, y_prints) (nI op) := by
  have h256 := Q.2.2.2.2
  have hcp := h256 p
  have w129 : ¬ (2 ≤ op ∧ op ≤ 4) → op ≠ 9 → op ≠ 20 → op ≠ 21 → rd_ho op → wY_takeRest_129 post y_count y_place y_m (nI p) 0 k y_least y_top y_frames y_invalid y_sp y_labels y_active y_fuel y_outcome y_trappedAt y_result y_used y_waits y_printed y_bytes y_there y_types y_typeSig y_imports y_functions y_sig y_what y_typeAt y_localsAt y_globals y_globalKind y_globalFree y_globalValue y_entries y_entriesAt y_hasMemory y_memory y_nest y_kinds y_shape y_gives y_height y_dead y_stack y_labelAt y_labelHeight y_labelGives y_callModule y_callFunction y_callBack y_callBase y_callLabels y_waiting y_prints := by
    intro a1 a2 a3 a4 a5
    have h' := h k (fun z => absurd z (by omega))
    rw [rd_R, if_neg a1, if_neg a2, if_neg a3, if_neg a4, if_pos a5] at hR
    obtain ⟨t1, t2, t3, t4, t5, t6⟩ := rd_tk_ok (show (rd_tk c n 0 255 (true, p)).1 = true by rw [hR])
    rw [hR] at t2
    have t7 : q = p + 1 := congrArg Prod.snd t2
    rw [t7] at h'
    exact yq_take Q e 0 255 t6 (by omega) (by omega) (by omega) h'
  have wno : ¬ (2 ≤ op ∧ op ≤ 4) → op ≠ 9 → op ≠ 20 → op ≠ 21 → ¬ rd_ho op → post (y_count, y_place, y_m, nI p, 0, k, y_least, y_top, y_frames, y_invalid, y_sp, y_labels, y_active, y_fuel, y_outcome, y_trappedAt, y_result, y_used, y_waits, y_printed, y_bytes, y_there, y_types, y_typeSig, y_imports, y_functions, y_sig, y_what, y_typeAt, y_localsAt, y_globals, y_globalKind, y_globalFree, y_globalValue, y_entries, y_entriesAt, y_hasMemory, y_memory, y_nest, y_kinds, y_shape, y_gives, y_height, y_dead, y_stack, y_labelAt, y_labelHeight, y_labelGives, y_callModule, y_callFunction, y_callBack, y_callBase, y_callLabels, y_waiting, y_prints) := by
    intro a1 a2 a3 a4 a5
    have h' := h k (fun z => absurd z (by omega))
    rw [rd_R, if_neg a1, if_neg a2, if_neg a3, if_neg a4, if_neg a5] at hR
    have t7 : p = q := congrArg Prod.snd hR
    rw [t7]; exact h'
  have w117 : ¬ (2 ≤ op ∧ op ≤ 4) → op ≠ 9 → op ≠ 20 → op ≠ 21 → op ≠ 7 → op ≠ 8 → op ≠ 11 → op ≠ 12 → ¬ (15 ≤ op ∧ op ≤ 19) → wY_takeRest_117 post (nI op) y_count y_place y_m (nI p) 0 k y_least y_top y_frames y_invalid y_sp y_labels y_active y_fuel y_outcome y_trappedAt y_result y_used y_waits y_printed y_bytes y_there y_types y_typeSig y_imports y_functions y_sig y_what y_typeAt y_localsAt y_globals y_globalKind y_globalFree y_globalValue y_entries y_entriesAt y_hasMemory y_memory y_nest y_kinds y_shape y_gives y_height y_dead y_stack y_labelAt y_labelHeight y_labelGives y_callModule y_callFunction y_callBack y_callBase y_callLabels y_waiting y_prints := by
    intro a1 a2 a3 a4 a5 a6 a7 a8 a9
    exact pk_lt op 22 (fun b => wno a1 a2 a3 a4 (by omega)) (fun b => pk_lt 27 op (fun b2 => wno a1 a2 a3 a4 (by omega)) (fun b2 => w129 a1 a2 a3 a4 (by omega)))
  have w70 : ∀ kd, op = kd + 19 → kd = 1 ∨ kd = 2 → wY_takeRest_70 post (nI op) y_count y_place y_m (nI p) 0 k y_least y_top y_frames y_invalid y_sp y_labels y_active y_fuel y_outcome y_trappedAt y_result y_used y_waits y_printed y_bytes y_there y_types y_typeSig y_imports y_functions y_sig y_what y_typeAt y_localsAt y_globals y_globalKind y_globalFree y_globalValue y_entries y_entriesAt y_hasMemory y_memory y_nest y_kinds y_shape y_gives y_height y_dead y_stack y_labelAt y_labelHeight y_labelGives y_callModule y_callFunction y_callBack y_callBase y_callLabels y_waiting y_prints := by
    intro kd eo hkd
    have e2 : nI op - 19 = nI kd := by rw [eo]; exact (pk_sub (a := kd + 19) (b := 19) (by omega)).trans (by rw [Nat.add_sub_cancel])
    have hC : rd_C c n (if kd = 1 then 5 else 10) (true, p) = (true, q) := by
      rcases hkd with z | z
      · subst z; rw [eo, rd_R, if_neg (by omega), if_neg (by omega), if_pos rfl] at hR; exact hR
      · subst z; rw [eo, rd_R, if_neg (by omega), if_neg (by omega), if_neg (by omega), if_pos rfl] at hR; exact hR
    show wpY_takeConstant _ _ (nI op - 19)
    rw [e2]
    refine yq_const Q e kd (by omega) (by rw [hC]) ?_
    rw [hC]
    exact h _ (fun _ => by rw [show op - 19 = kd by omega])
  have w20 : ¬ (2 ≤ op ∧ op ≤ 4) → wY_takeRest_20 post (nI op) y_count y_place y_m (nI p) 0 k y_least y_top y_frames y_invalid y_sp y_labels y_active y_fuel y_outcome y_trappedAt y_result y_used y_waits y_printed y_bytes y_there y_types y_typeSig y_imports y_functions y_sig y_what y_typeAt y_localsAt y_globals y_globalKind y_globalFree y_globalValue y_entries y_entriesAt y_hasMemory y_memory y_nest y_kinds y_shape y_gives y_height y_dead y_stack y_labelAt y_labelHeight y_labelGives y_callModule y_callFunction y_callBack y_callBase y_callLabels y_waiting y_prints := by
    intro a1
    refine pk_eq op 9 (fun z => ?_) (fun b9 => pk_eq op 20 (fun z => w70 1 (by omega) (by omega)) (fun b20 => pk_eq op 21 (fun z => w70 2 (by omega) (by omega)) (fun b21 => pk_eq op 7 (fun z => w129 a1 b9 b20 b21 (by omega)) (fun b7 => pk_eq op 8 (fun z => w129 a1 b9 b20 b21 (by omega)) (fun b8 => pk_eq op 11 (fun z => w129 a1 b9 b20 b21 (by omega)) (fun b11 => pk_eq op 12 (fun z => w129 a1 b9 b20 b21 (by omega)) (fun b12 => pk_lt op 15 (fun z => w117 a1 b9 b20 b21 b7 b8 b11 b12 (by omega)) (fun b15 => pk_le op 19 (fun z => w129 a1 b9 b20 b21 (by omega)) (fun b19 => w117 a1 b9 b20 b21 b7 b8 b11 b12 (by omega))))))))))
    have h' := h k (fun z => absurd z (by omega))
    rw [rd_R, if_neg a1, if_pos z] at hR
    obtain ⟨a2, a3, a4, a5⟩ := rd_n_ok _ _ (show (rd_n c n 0 255 (rd_tv c n 0 4 (true, p) + 1) (rd_tk c n 0 4 (true, p))).1 = true by rw [hR])
    obtain ⟨t1, t2, t3, t4, t5, t6⟩ := rd_tk_ok a2
    rw [t3, t2] at hR a3 a5
    dsimp only at a3 t6 t5 a5
    rw [hR] at a3
    have a6 := a5 (by omega)
    have t7 : q = p + 1 + (c p + 1) := congrArg Prod.snd a3
    rw [t7] at h'
    exact yq_take Q e 0 4 t6 (by omega) t5 (by omega) ⟨c p + 2, yq_n_l Q e (c p) t5 (c p + 1) 0 _ (p + 1) (by omega) (by omega) a6 h'⟩
  refine pk_lt op 2 (fun b => w20 (by omega)) (fun b => pk_lt 4 op (fun b2 => w20 (by omega)) (fun b2 => ?_))
  have h' := h k (fun z => absurd z (by omega))
  rw [rd_R, if_pos (by omega)] at hR
  obtain ⟨t1, t2, t3, t4, t5, t6⟩ := rd_tk_ok (show (rd_tk c n 0 2 (true, p)).1 = true by rw [hR])
  rw [hR] at t2
  have t7 : q = p + 1 := congrArg Prod.snd t2
  rw [t7] at h'
  exact yq_take Q e 0 2 t6 (by omega) t5 (by omega) h'
theorem y_beyond {post : Int32 → SY → Prop} {a w : Int32} (Q : cq_ok y_m y_bytes m c n) (hp : p < n) (h66 : c p ≤ 66) (hR : rd_R c n (c p) (true, p + 1) = (true, nx c p))
    (h : ∀ k', (c p = 20 ∨ c p = 21 → k' = cv c (c p - 19) 10 (p + 1) 0 0) → post (nI (nx c p)) (y_count, y_place, y_m, nI (nx c p), 0, k', y_least, y_top, y_frames, y_invalid, y_sp, y_labels, y_active, y_fuel, y_outcome, y_trappedAt, y_result, y_used, y_waits, y_printed, y_bytes, y_there, y_types, y_typeSig, y_imports, y_functions, y_sig, y_what, y_typeAt, y_localsAt, y_globals, y_globalKind, y_globalFree, y_globalValue, y_entries, y_entriesAt, y_hasMemory, y_memory, y_nest, y_kinds, y_shape, y_gives, y_height, y_dead, y_stack, y_labelAt, y_labelHeight, y_labelGives, y_callModule, y_callFunction, y_callBack, y_callBase, y_callLabels, y_waiting, y_prints)) : wpY_beyond post (y_count, y_place, y_m, a, w, k, y_least, y_top, y_frames, y_invalid, y_sp, y_labels, y_active, y_fuel, y_outcome, y_trappedAt, y_result, y_used, y_waits, y_printed, y_bytes, y_there, y_types, y_typeSig, y_imports, y_functions, y_sig, y_what, y_typeAt, y_localsAt, y_globals, y_globalKind, y_globalFree, y_globalValue, y_entries, y_entriesAt, y_hasMemory, y_memory, y_nest, y_kinds, y_shape, y_gives, y_height, y_dead, y_stack, y_labelAt, y_labelHeight, y_labelGives, y_callModule, y_callFunction, y_callBack, y_callBase, y_callLabels, y_waiting, y_prints) (nI p) := by
  have Q' := Q
  obtain ⟨hm, h3, h140, hb, h256⟩ := Q
  refine nm_r (nI_1 p) ?_
  refine yr_at (c := c) hm h3 (by omega) (hb p hp) ?_
  exact yq_rest (y_count := 140) Q' rfl (c p) (nx c p) (by omega) hR h
theorem y_push {post : SY → Prop} {v : Int64} (i : Nat) (hi : i < 320) (e : y_sp = nI i) (h : post (y_count, y_place, y_m, y_pos, y_wrong, y_constant, y_least, y_top, y_frames, y_invalid, nI (i + 1), y_labels, y_active, y_fuel, y_outcome, y_trappedAt, y_result, y_used, y_waits, y_printed, y_bytes, y_there, y_types, y_typeSig, y_imports, y_functions, y_sig, y_what, y_typeAt, y_localsAt, y_globals, y_globalKind, y_globalFree, y_globalValue, y_entries, y_entriesAt, y_hasMemory, y_memory, y_nest, y_kinds, y_shape, y_gives, y_height, y_dead, vp_updL y_stack i v, y_labelAt, y_labelHeight, y_labelGives, y_callModule, y_callFunction, y_callBack, y_callBase, y_callLabels, y_waiting, y_prints)) : wpY_push post (y_count, y_place, y_m, y_pos, y_wrong, y_constant, y_least, y_top, y_frames, y_invalid, y_sp, y_labels, y_active, y_fuel, y_outcome, y_trappedAt, y_result, y_used, y_waits, y_printed, y_bytes, y_there, y_types, y_typeSig, y_imports, y_functions, y_sig, y_what, y_typeAt, y_localsAt, y_globals, y_globalKind, y_globalFree, y_globalValue, y_entries, y_entriesAt, y_hasMemory, y_memory, y_nest, y_kinds, y_shape, y_gives, y_height, y_dead, y_stack, y_labelAt, y_labelHeight, y_labelGives, y_callModule, y_callFunction, y_callBack, y_callBase, y_callLabels, y_waiting, y_prints) v := by
  subst e
  exact nm_r (nI_1 i) ⟨pk_in i 320 hi, nm_r (show _ = vp_updL y_stack i v from by rw [pk_cl i]) h⟩
theorem y_label {post : SY → Prop} {o r z : Int32} (i j g : Nat) (hi : i < 100) (hj : j < 30000) (hg : g < 128) (e : y_labels = nI i) (es : y_sp = nI j) (er : r = nI g) (eo : vp_nar .short o.toInt16.toInt32 = z) (h : post (y_count, y_place, y_m, y_pos, y_wrong, y_constant, y_least, y_top, y_frames, y_invalid, nI j, nI (i + 1), y_active, y_fuel, y_outcome, y_trappedAt, y_result, y_used, y_waits, y_printed, y_bytes, y_there, y_types, y_typeSig, y_imports, y_functions, y_sig, y_what, y_typeAt, y_localsAt, y_globals, y_globalKind, y_globalFree, y_globalValue, y_entries, y_entriesAt, y_hasMemory, y_memory, y_nest, y_kinds, y_shape, y_gives, y_height, y_dead, y_stack, upd y_labelAt i z, upd y_labelHeight i (nI j), upd y_labelGives i (nI g), y_callModule, y_callFunction, y_callBack, y_callBase, y_callLabels, y_waiting, y_prints)) : wpY_label post (y_count, y_place, y_m, y_pos, y_wrong, y_constant, y_least, y_top, y_frames, y_invalid, y_sp, y_labels, y_active, y_fuel, y_outcome, y_trappedAt, y_result, y_used, y_waits, y_printed, y_bytes, y_there, y_types, y_typeSig, y_imports, y_functions, y_sig, y_what, y_typeAt, y_localsAt, y_globals, y_globalKind, y_globalFree, y_globalValue, y_entries, y_entriesAt, y_hasMemory, y_memory, y_nest, y_kinds, y_shape, y_gives, y_height, y_dead, y_stack, y_labelAt, y_labelHeight, y_labelGives, y_callModule, y_callFunction, y_callBack, y_callBase, y_callLabels, y_waiting, y_prints) o r := by
  subst e es er eo
  refine ⟨pk_in i 100 hi, nm_r (show _ = upd y_labelAt i (vp_nar .short o.toInt16.toInt32) from by rw [pk_cl i]) ⟨pk_in i 100 hi, nm_r (show _ = upd y_labelHeight i (nI j) from by rw [pk_cl i, nr_s (by omega)]) (nm_r (nI_1 i) ⟨pk_in i 100 hi, nm_r (show _ = upd y_labelGives i (nI g) from by rw [pk_cl i, nr_b (by omega)]) h⟩)⟩⟩
theorem y_endOf_l {post : Int32 → SY → Prop} (Q : cq_ok y_m y_bytes m c n) (b : Bool) (z : Int32) (hz : z = bb_i b) (e : Nat) (h : ∀ a w k, post (nI e) (y_count, y_place, y_m, a, w, k, y_least, y_top, y_frames, y_invalid, y_sp, y_labels, y_active, y_fuel, y_outcome, y_trappedAt, y_result, y_used, y_waits, y_printed, y_bytes, y_there, y_types, y_typeSig, y_imports, y_functions, y_sig, y_what, y_typeAt, y_localsAt, y_globals, y_globalKind, y_globalFree, y_globalValue, y_entries, y_entriesAt, y_hasMemory, y_memory, y_nest, y_kinds, y_shape, y_gives, y_height, y_dead, y_stack, y_labelAt, y_labelHeight, y_labelGives, y_callModule, y_callFunction, y_callBack, y_callBase, y_callLabels, y_waiting, y_prints)) : ∀ j p d l (a w : Int32) (k : Int64), sv c n b j p d e → d + j < 1000000 → j < l →
    wY_endOf_5 post z l (nI p) (nI d) y_count y_place y_m a w k y_least y_top y_frames y_invalid y_sp y_labels y_active y_fuel y_outcome y_trappedAt y_result y_used y_waits y_printed y_bytes y_there y_types y_typeSig y_imports y_functions y_sig y_what y_typeAt y_localsAt y_globals y_globalKind y_globalFree y_globalValue y_entries y_entriesAt y_hasMemory y_memory y_nest y_kinds y_shape y_gives y_height y_dead y_stack y_labelAt y_labelHeight y_labelGives y_callModule y_callFunction y_callBack y_callBase y_callLabels y_waiting y_prints := by
  subst hz
  obtain ⟨hm, h3, h140, hb, h256⟩ := id Q
  intro j
  induction j with
  | zero =>
    intro p d l a w k q hd hl
    obtain ⟨l, rfl⟩ : ∃ i, l = i + 1 := ⟨l - 1, by omega⟩
    obtain ⟨q1, q2, q3, q4⟩ := q
    have hcp := h256 p
    have at' : ∀ (post : Int32 → Prop), post (nI (c p)) → wpY_at post (y_count, y_place, y_m, a, w, k, y_least, y_top, y_frames, y_invalid, y_sp, y_labels, y_active, y_fuel, y_outcome, y_trappedAt, y_result, y_used, y_waits, y_printed, y_bytes, y_there, y_types, y_typeSig, y_imports, y_functions, y_sig, y_what, y_typeAt, y_localsAt, y_globals, y_globalKind, y_globalFree, y_globalValue, y_entries, y_entriesAt, y_hasMemory, y_memory, y_nest, y_kinds, y_shape, y_gives, y_height, y_dead, y_stack, y_labelAt, y_labelHeight, y_labelGives, y_callModule, y_callFunction, y_callBack, y_callBase, y_callLabels, y_waiting, y_prints) (nI p) := fun post h => yr_at hm h3 (by omega) (hb p q1) h
    subst q2 q3
    refine pk_lt 0 0 (fun y => absurd y (by omega)) (fun _ => at' _ (pk_eq (c e) 6 (fun _ => h _ _ _) (fun h6 => ?_)))
    rcases q4 with y | ⟨y1, y2⟩
    · exact absurd y h6
    · subst y1
      exact br_f (by decide) (at' _ (pk_eq (c e) 5 (fun _ => h _ _ _) (fun y => absurd y2 y)))
  | succ j ih =>
    intro p d l a w k q hd hl
    obtain ⟨l, rfl⟩ : ∃ i, l = i + 1 := ⟨l - 1, by omega⟩
    obtain ⟨q1, q2, q3, q4, q5, q6, q7⟩ := q
    have hcp := h256 p
    have at' : ∀ (post : Int32 → Prop), post (nI (c p)) → wpY_at post (y_count, y_place, y_m, a, w, k, y_least, y_top, y_frames, y_invalid, y_sp, y_labels, y_active, y_fuel, y_outcome, y_trappedAt, y_result, y_used, y_waits, y_printed, y_bytes, y_there, y_types, y_typeSig, y_imports, y_functions, y_sig, y_what, y_typeAt, y_localsAt, y_globals, y_globalKind, y_globalFree, y_globalValue, y_entries, y_entriesAt, y_hasMemory, y_memory, y_nest, y_kinds, y_shape, y_gives, y_height, y_dead, y_stack, y_labelAt, y_labelHeight, y_labelGives, y_callModule, y_callFunction, y_callBack, y_callBase, y_callLabels, y_waiting, y_prints) (nI p) := fun post h => yr_at hm h3 (by omega) (hb p q1) h
    have g67 : ∀ d', d' = (if 2 ≤ c p ∧ c p ≤ 4 then d + 1 else if c p = 6 then d - 1 else d) → wY_endOf_67 post (wY_endOf_5 post (bb_i b) l) (bb_i b) (nI p) (nI d') y_count y_place y_m a w k y_least y_top y_frames y_invalid y_sp y_labels y_active y_fuel y_outcome y_trappedAt y_result y_used y_waits y_printed y_bytes y_there y_types y_typeSig y_imports y_functions y_sig y_what y_typeAt y_localsAt y_globals y_globalKind y_globalFree y_globalValue y_entries y_entriesAt y_hasMemory y_memory y_nest y_kinds y_shape y_gives y_height y_dead y_stack y_labelAt y_labelHeight y_labelGives y_callModule y_callFunction y_callBack y_callBase y_callLabels y_waiting y_prints := by
      intro d' ed
      rw [← ed] at q7
      have hd' : d' ≤ d + 1 := by rw [ed]; split; omega; split <;> omega
      refine y_beyond Q q1 q2 q3 (fun k' _ => ?_)
      exact ih (nx c p) d' l _ _ _ q7 (by omega) (by omega)
    have g54 : ∀ d', (c p = 6 → d' = d ∧ d ≠ 0) → (c p ≠ 6 → d' = (if 2 ≤ c p ∧ c p ≤ 4 then d + 1 else if c p = 6 then d - 1 else d)) → wY_endOf_54 post (wY_endOf_5 post (bb_i b) l) (bb_i b) (nI p) (nI d') y_count y_place y_m a w k y_least y_top y_frames y_invalid y_sp y_labels y_active y_fuel y_outcome y_trappedAt y_result y_used y_waits y_printed y_bytes y_there y_types y_typeSig y_imports y_functions y_sig y_what y_typeAt y_localsAt y_globals y_globalKind y_globalFree y_globalValue y_entries y_entriesAt y_hasMemory y_memory y_nest y_kinds y_shape y_gives y_height y_dead y_stack y_labelAt y_labelHeight y_labelGives y_callModule y_callFunction y_callBack y_callBase y_callLabels y_waiting y_prints := by
      intro d' e6 en
      refine at' _ (pk_eq (c p) 6 (fun h6 => ?_) (fun h6 => g67 d' (en h6)))
      obtain ⟨x1, x2⟩ := e6 h6
      subst x1
      refine nm_r (show nI d' + (-1) = nI (d' - 1) from ?_) (g67 (d' - 1) (by rw [if_neg (by omega), if_pos h6]))
      have := pk_m1 (d' - 1)
      rw [show d' - 1 + 1 = d' by omega] at this
      exact this
    have g33 : wY_endOf_33 post (wY_endOf_5 post (bb_i b) l) (bb_i b) (nI p) (nI d) y_count y_place y_m a w k y_least y_top y_frames y_invalid y_sp y_labels y_active y_fuel y_outcome y_trappedAt y_result y_used y_waits y_printed y_bytes y_there y_types y_typeSig y_imports y_functions y_sig y_what y_typeAt y_localsAt y_globals y_globalKind y_globalFree y_globalValue y_entries y_entriesAt y_hasMemory y_memory y_nest y_kinds y_shape y_gives y_height y_dead y_stack y_labelAt y_labelHeight y_labelGives y_callModule y_callFunction y_callBack y_callBase y_callLabels y_waiting y_prints := by
      have g : ¬ (2 ≤ c p ∧ c p ≤ 4) → wY_endOf_54 post (wY_endOf_5 post (bb_i b) l) (bb_i b) (nI p) (nI d) y_count y_place y_m a w k y_least y_top y_frames y_invalid y_sp y_labels y_active y_fuel y_outcome y_trappedAt y_result y_used y_waits y_printed y_bytes y_there y_types y_typeSig y_imports y_functions y_sig y_what y_typeAt y_localsAt y_globals y_globalKind y_globalFree y_globalValue y_entries y_entriesAt y_hasMemory y_memory y_nest y_kinds y_shape y_gives y_height y_dead y_stack y_labelAt y_labelHeight y_labelGives y_callModule y_callFunction y_callBack y_callBase y_callLabels y_waiting y_prints := by
        intro ho
        refine g54 d (fun h6 => ⟨rfl, fun y => q6 ⟨y, Or.inl h6⟩⟩) (fun h6 => ?_)
        rw [if_neg ho, if_neg h6]
      refine at' _ (pk_lt (c p) 2 (fun y => g (by omega)) (fun y => at' _ (pk_lt 4 (c p) (fun y2 => g (by omega)) (fun y2 => nm_r (nI_1 d) (g54 (d + 1) (fun h6 => absurd h6 (by omega)) (fun _ => ?_))))))
      rw [if_pos (by omega)]
    refine pk_lt 0 d (fun _ => g33) (fun y => at' _ (pk_eq (c p) 6 (fun h6 => absurd ⟨by omega, Or.inl h6⟩ q6) (fun h6 => ?_)))
    cases b with
    | false => exact br_t rfl g33
    | true => exact br_f (by decide) (at' _ (pk_eq (c p) 5 (fun h5 => absurd ⟨by omega, Or.inr ⟨rfl, h5⟩⟩ q6) (fun _ => g33)))
theorem y_endOf {post : Int32 → SY → Prop} {a w : Int32} (Q : cq_ok y_m y_bytes m c n) (b : Bool) (z : Int32) (hz : z = bb_i b) (j e : Nat) (q : sv c n b j p 0 e) (h : ∀ a w k, post (nI e) (y_count, y_place, y_m, a, w, k, y_least, y_top, y_frames, y_invalid, y_sp, y_labels, y_active, y_fuel, y_outcome, y_trappedAt, y_result, y_used, y_waits, y_printed, y_bytes, y_there, y_types, y_typeSig, y_imports, y_functions, y_sig, y_what, y_typeAt, y_localsAt, y_globals, y_globalKind, y_globalFree, y_globalValue, y_entries, y_entriesAt, y_hasMemory, y_memory, y_nest, y_kinds, y_shape, y_gives, y_height, y_dead, y_stack, y_labelAt, y_labelHeight, y_labelGives, y_callModule, y_callFunction, y_callBack, y_callBase, y_callLabels, y_waiting, y_prints)) : wpY_endOf post (y_count, y_place, y_m, a, w, k, y_least, y_top, y_frames, y_invalid, y_sp, y_labels, y_active, y_fuel, y_outcome, y_trappedAt, y_result, y_used, y_waits, y_printed, y_bytes, y_there, y_types, y_typeSig, y_imports, y_functions, y_sig, y_what, y_typeAt, y_localsAt, y_globals, y_globalKind, y_globalFree, y_globalValue, y_entries, y_entriesAt, y_hasMemory, y_memory, y_nest, y_kinds, y_shape, y_gives, y_height, y_dead, y_stack, y_labelAt, y_labelHeight, y_labelGives, y_callModule, y_callFunction, y_callBack, y_callBase, y_callLabels, y_waiting, y_prints) (nI p) z :=
  ⟨j + 1, y_endOf_l Q b z hz e h j p 0 (j + 1) a w k q (by have := sv_len _ _ _ _ q; have := Q.2.2.1; omega) (by omega)⟩
/-- the head of a step -/
theorem y_pre {post : Int32 → SY → Prop} {pos wr : Int32} (Q : cq_ok y_m y_bytes m c n) (hp : p < n) (h : ∀ x z : Int32, (p + 1 < n → x = nI (c (p + 1)) ∧ z = nI (p + 1)) → vp_in (140 * y_m + z) 420 → y_bytes (140 * y_m + z).toNatClampNeg = x → wY_step_21 post (nI p) (nI (c p)) z y_count y_place y_m pos wr k y_least y_top y_frames y_invalid y_sp y_labels y_active y_fuel y_outcome y_trappedAt y_result y_used y_waits y_printed y_bytes y_there y_types y_typeSig y_imports y_functions y_sig y_what y_typeAt y_localsAt y_globals y_globalKind y_globalFree y_globalValue y_entries y_entriesAt y_hasMemory y_memory y_nest y_kinds y_shape y_gives y_height y_dead y_stack y_labelAt y_labelHeight y_labelGives y_callModule y_callFunction y_callBack y_callBase y_callLabels y_waiting y_prints) : wpY_step post (y_count, y_place, y_m, pos, wr, k, y_least, y_top, y_frames, y_invalid, y_sp, y_labels, y_active, y_fuel, y_outcome, y_trappedAt, y_result, y_used, y_waits, y_printed, y_bytes, y_there, y_types, y_typeSig, y_imports, y_functions, y_sig, y_what, y_typeAt, y_localsAt, y_globals, y_globalKind, y_globalFree, y_globalValue, y_entries, y_entriesAt, y_hasMemory, y_memory, y_nest, y_kinds, y_shape, y_gives, y_height, y_dead, y_stack, y_labelAt, y_labelHeight, y_labelGives, y_callModule, y_callFunction, y_callBack, y_callBase, y_callLabels, y_waiting, y_prints) (nI p) := by
  obtain ⟨hm, h3, h140, hb, h256⟩ := id Q
  unfold wpY_step
  refine yr_at hm h3 (by omega) (hb p hp) ?_
  have key : ∀ r : Nat, r < 140 → (140 * y_m + nI r) = nI (140 * m + r) := fun r hr => by rw [hm, show (140 : Int32) = nI 140 from rfl, pk_mul, nI_add]
  refine pk_le 139 p (fun y => h _ (nI p) (fun y2 => absurd y2 (by omega)) (pk_in (140 * m + p) 420 (by omega) (key p (by omega))) rfl) (fun y => ?_)
  rw [nI_1 p]
  refine h _ _ (fun y2 => ⟨?_, rfl⟩) (pk_in (140 * m + (p + 1)) 420 (by omega) (key (p + 1) (by omega))) rfl
  rw [key (p + 1) (by omega), pk_cl (140 * m + (p + 1))]
  exact hb (p + 1) y2
end
end
section
/-! 45: what all instructions share -/
abbrev sy3 (u : SY) (z0 : Int32) (z1 : Int32) (z2 : Int64) : SY := (gy_count u, gy_place u, gy_m u, z0, z1, z2, gy_least u, gy_top u, gy_frames u, gy_invalid u, gy_sp u, gy_labels u, gy_active u, gy_fuel u, gy_outcome u, gy_trappedAt u, gy_result u, gy_used u, gy_waits u, gy_printed u, gy_bytes u, gy_there u, gy_types u, gy_typeSig u, gy_imports u, gy_functions u, gy_sig u, gy_what u, gy_typeAt u, gy_localsAt u, gy_globals u, gy_globalKind u, gy_globalFree u, gy_globalValue u, gy_entries u, gy_entriesAt u, gy_hasMemory u, gy_memory u, gy_nest u, gy_kinds u, gy_shape u, gy_gives u, gy_height u, gy_dead u, gy_stack u, gy_labelAt u, gy_labelHeight u, gy_labelGives u, gy_callModule u, gy_callFunction u, gy_callBack u, gy_callBase u, gy_callLabels u, gy_waiting u, gy_prints u)
def ystep (v v' : SY) (p q : Int32) : Prop := ∀ Q : Int32 → SY → Prop, (∀ a w k, Q q (sy3 v' a w k)) → ∀ a w k, wpY_step Q (sy3 v a w k) p
theorem lo_app {h : Nat} {K : List Nat} : ∀ X : List Nat, h ≤ K.length → lo h (X ++ K) = lo h K := by
  intro X
  induction X with
  | nil => intro _; rfl
  | cons x X ih => intro e; rw [List.cons_append, lo_cons (by rw [List.length_append]; omega), ih e]
theorem ek_app (X E : List ev) : ek (X ++ E) = ek X ++ ek E := List.map_append
theorem tv_app : ∀ (X E : List ev), tv (X ++ E) → tv E := by
  intro X E
  induction X with
  | nil => exact id
  | cons x X ih => intro h; obtain ⟨k, v⟩ := x; exact ih h.2.2
theorem el_app {V : Nat → Int64} {b : Nat} : ∀ (X E : List ev), el_ok V b (X ++ E) → el_ok V b E := by
  intro X E
  induction X with
  | nil => exact id
  | cons x X ih => intro h; exact ih h.2
theorem mu_s {fu s f nv g p p' : Nat} {E E' : List ev} {L L' : Nat → Int64} {F F' : List vt_Fr} {R : List ac} (h : p < p') (h2 : p < 141) : mu ((s, f, nv, g, p', E', L', F') :: R) fu < mu ((s, f, nv, g, p, E, L, F) :: R) fu := by
  simp only [mu, msum]; omega
section
variable {B : Nat → Bool} {C : Nat → Nat → Nat} {N : Nat → Nat} {PP : Nat → Nat → Nat} {g0 fu s f nv g p : Nat} {X X' E0 : List ev} {L L' : Nat → Int64} {F : List vt_Fr} {R : List ac}
/-- an instruction that leaves the frames alone -/
theorem a_nx (AO : a_ok B C N PP 0 s f nv g p (X ++ E0) L F) (hN : N s ≤ 140) (hh : f_h F ≤ E0.length) (hv : v_st (C s) (N s) f p (ek (X ++ E0), F, false) = (ek (X' ++ E0), F, false)) (ht : tv (X' ++ E0)) (hl : (X' ++ E0).length ≤ 20) (hL : ∀ v, v < nv → vk (C s) (N s) f v = 1 → sx64 (L' v)) :
    a_ok B C N PP 0 s f nv g (nx (C s) p) (X' ++ E0) L' F ∧ p < nx (C s) p := by
  obtain ⟨a1, a2, a3, a4, a5, a6, a7, a8, a9, a10, a11, a12, ⟨k, a13⟩, a14, a15⟩ := AO
  have a13' : wk (C s) (N s) (PP s) f k p (ek (X ++ E0), F, false) := a13
  obtain ⟨w1, w2⟩ := wk_s a13'
  obtain ⟨n1, n2, n3, n4, n5, n6⟩ := wk_n a13'
  rw [hv] at w2
  rcases w2 with w2 | ⟨k', w2⟩
  · exact absurd w2 a9
  refine ⟨⟨a1, a2, a3, a4, a5, a6, ht, hl, a9, a10, fo_ext a11 ?_ ?_, a12, ⟨k', w2⟩, hL, ?_⟩, n4⟩
  · rw [ek_len, List.length_append]; omega
  · rw [ek_app, ek_app, lo_app _ (by rw [ek_len]; exact hh), lo_app _ (by rw [ek_len]; exact hh)]
  · have := (wk_n w2).1; omega
end
section
variable {FA FH : Nat → Int32} {V VR : Nat → Int64} {AS AG AF : Nat → Int32} {ST : Nat → Int64} {LA LH LG CM CF CB CS CL : Nat → Int32} {s f nv g p p' k : Nat} {v : Int64} {X E0 : List ev} {L : Nat → Int64} {F : List vt_Fr} {R : List ac}
theorem xa_0 (h : xa_ok FA FH V VR AS AG AF ((s, f, nv, g, p, X ++ E0, L, F) :: R)) : xa_ok FA FH V VR AS AG AF ((s, f, nv, g, p', E0, L, F) :: R) := ⟨el_app X E0 h.1, h.2⟩
theorem xa_1 (h : xa_ok FA FH V VR AS AG AF ((s, f, nv, g, p, X ++ E0, L, F) :: R)) (h6 : ∀ a, a ∈ R → a.2.2.1 ≤ 6) : xa_ok FA FH (vp_updL V (vb R + E0.length) v) VR AS AG AF ((s, f, nv, g, p', (k, v) :: E0, L, F) :: R) := by
  obtain ⟨h1, h2, h3, h4, h5, h6', h7⟩ := h
  exact ⟨el_push (el_app X E0 h1), h2, h3, h4, h5, h6', xa_ext R h7 (fun _ _ => rfl) (fun _ _ => rfl) (fun j hj => pk_uLn (by omega)) (fun _ _ => rfl) (fun _ _ => rfl) (fun _ _ => rfl) (fun _ _ => rfl) h6⟩
theorem ya_0 (h : ya_ok ST LA LH LG CM CF CB CS CL ((s, f, nv, g, p, X ++ E0, L, F) :: R)) : ya_ok ST LA LH LG CM CF CB CS CL ((s, f, nv, g, p', E0, L, F) :: R) := ⟨el_app X E0 h.1, h.2⟩
theorem ya_1 (h : ya_ok ST LA LH LG CM CF CB CS CL ((s, f, nv, g, p, X ++ E0, L, F) :: R)) : ya_ok (vp_updL ST (yb R + nv + E0.length) v) LA LH LG CM CF CB CS CL ((s, f, nv, g, p', (k, v) :: E0, L, F) :: R) := by
  obtain ⟨h1, h2, h3, h4⟩ := h
  obtain ⟨h5, h6, h7, h8, h9, h10⟩ := h4
  exact ⟨el_push (el_app X E0 h1), fun i hi => by rw [pk_uLn (by omega)]; exact h2 i hi, h3, h5, h6, h7, h8, h9, ya_ext R h10 (fun j hj => pk_uLn (by omega)) (fun _ _ => rfl) (fun _ _ => rfl) (fun _ _ => rfl) (fun _ _ => rfl) (fun _ _ => rfl) (fun _ _ => rfl) (fun _ _ => rfl) (fun _ _ => rfl)⟩
/-- the same, where the new value stands there already -/
theorem ya_2 (h : ya_ok ST LA LH LG CM CF CB CS CL ((s, f, nv, g, p, X ++ E0, L, F) :: R)) (hv : ST (yb R + nv + E0.length) = v) : ya_ok ST LA LH LG CM CF CB CS CL ((s, f, nv, g, p', (k, v) :: E0, L, F) :: R) := ⟨⟨hv, el_app X E0 h.1⟩, h.2⟩
end
section
variable {x_byteCount x_wrongPlace x_at x_frameCount x_kindCount x_valueCount x_activeCount x_goesOn x_outcome x_trapPlace x_fuelUsed x_firstWaiting x_waitingCount x_printCount : Int32} {x_resultValue : Int64} {x_code x_facts x_partner x_loaded x_memories x_frameAt x_frameHeight x_frameResult x_frameDead x_kinds x_activeSlot x_activeGives x_activeFrame x_activeResume x_waiting x_prints : Nat → Int32} {x_globals x_values x_variables : Nat → Int64}
variable {y_count y_place y_m y_pos y_wrong y_least y_top y_frames y_invalid y_sp y_labels y_active y_fuel y_outcome y_trappedAt y_used y_waits y_printed : Int32} {y_constant y_result : Int64} {y_bytes y_there y_types y_typeSig y_imports y_functions y_sig y_what y_typeAt y_localsAt y_globals y_globalKind y_globalFree y_entries y_entriesAt y_hasMemory y_memory y_nest y_kinds y_shape y_gives y_height y_dead y_labelAt y_labelHeight y_labelGives y_callModule y_callFunction y_callBack y_callBase y_callLabels y_waiting y_prints : Nat → Int32} {y_globalValue y_stack : Nat → Int64}
variable {B : Nat → Bool} {C : Nat → Nat → Nat} {N : Nat → Nat} {PP : Nat → Nat → Nat} {n : Nat} {cd : Nat → Nat} {g0 fu s f nv g p : Nat} {E : List ev} {L : Nat → Int64} {F : List vt_Fr} {R : List ac}
theorem y_21 {D : Int32 → Int32 → SY → Prop} {pos wr z : Int32} {k : Int64} {m : Nat} {c : Nat → Nat} {n' : Nat} (Q : cq_ok y_m y_bytes m c n') (hp : p < n') (h66 : c p ≤ 66) (hR : rd_R c n' (c p) (true, p + 1) = (true, nx c p)) (hin : vp_in (140 * y_m + z) 420)
    (h : ∀ k', (c p = 20 ∨ c p = 21 → k' = cv c (c p - 19) 10 (p + 1) 0 0) → D (y_bytes (140 * y_m + z).toNatClampNeg) (nI (nx c p)) (y_count, y_place, y_m, nI (nx c p), 0, k', y_least, y_top, y_frames, y_invalid, y_sp, y_labels, y_active, y_fuel, y_outcome, y_trappedAt, y_result, y_used, y_waits, y_printed, y_bytes, y_there, y_types, y_typeSig, y_imports, y_functions, y_sig, y_what, y_typeAt, y_localsAt, y_globals, y_globalKind, y_globalFree, y_globalValue, y_entries, y_entriesAt, y_hasMemory, y_memory, y_nest, y_kinds, y_shape, y_gives, y_height, y_dead, y_stack, y_labelAt, y_labelHeight, y_labelGives, y_callModule, y_callFunction, y_callBack, y_callBase, y_callLabels, y_waiting, y_prints)) :
    wpY_at (fun r => wpY_beyond (fun r2 u => D r r2 u) (y_count, y_place, y_m, pos, wr, k, y_least, y_top, y_frames, y_invalid, y_sp, y_labels, y_active, y_fuel, y_outcome, y_trappedAt, y_result, y_used, y_waits, y_printed, y_bytes, y_there, y_types, y_typeSig, y_imports, y_functions, y_sig, y_what, y_typeAt, y_localsAt, y_globals, y_globalKind, y_globalFree, y_globalValue, y_entries, y_entriesAt, y_hasMemory, y_memory, y_nest, y_kinds, y_shape, y_gives, y_height, y_dead, y_stack, y_labelAt, y_labelHeight, y_labelGives, y_callModule, y_callFunction, y_callBack, y_callBase, y_callLabels, y_waiting, y_prints) (nI p)) (y_count, y_place, y_m, pos, wr, k, y_least, y_top, y_frames, y_invalid, y_sp, y_labels, y_active, y_fuel, y_outcome, y_trappedAt, y_result, y_used, y_waits, y_printed, y_bytes, y_there, y_types, y_typeSig, y_imports, y_functions, y_sig, y_what, y_typeAt, y_localsAt, y_globals, y_globalKind, y_globalFree, y_globalValue, y_entries, y_entriesAt, y_hasMemory, y_memory, y_nest, y_kinds, y_shape, y_gives, y_height, y_dead, y_stack, y_labelAt, y_labelHeight, y_labelGives, y_callModule, y_callFunction, y_callBack, y_callBase, y_callLabels, y_waiting, y_prints) z :=
  ⟨hin, y_beyond Q hp h66 hR h⟩
/-- what an instruction finds -/
theorem op_f (W : wo_ok B C N PP n cd x_byteCount x_wrongPlace x_firstWaiting x_waitingCount x_printCount x_code x_facts x_partner x_loaded x_globals x_memories x_waiting x_prints y_count y_place y_waits y_printed y_bytes y_there y_types y_typeSig y_imports y_functions y_sig y_what y_localsAt y_globals y_globalValue y_entries y_entriesAt y_hasMemory y_memory y_waiting y_prints) (hfu : fu ≤ 120) (hR : R.length < 10) (AO : a_ok B C N PP 0 s f nv g p E L F) (CR : ch_ok B C N PP g0 g R) (XA : xa_ok x_frameAt x_frameHeight x_values x_variables x_activeSlot x_activeGives x_activeFrame ((s, f, nv, g, p, E, L, F) :: R)) (AR : ar_ok x_activeResume R) (YA : ya_ok y_stack y_labelAt y_labelHeight y_labelGives y_callModule y_callFunction y_callBack y_callBase y_callLabels ((s, f, nv, g, p, E, L, F) :: R)) : sm_ok (C s) (N s) (PP s) ∧ mp_ok (C s) (N s) ∧ N s ≤ 140 ∧ mx_c x_code s (C s) ∧ cq_ok (nI s) y_bytes s (C s) (N s) ∧ (∃ k, wk (C s) (N s) (PP s) f k p (ek E, F, false)) ∧ x_activeSlot R.length = nI s ∧ vb R ≤ 20 * R.length ∧ fb R ≤ 8 * R.length ∧ yb R ≤ 26 * R.length ∧ (∀ a, a ∈ R → a.2.2.1 ≤ 6) ∧ s < 2 ∧ p < N s ∧ C s p ≤ 66 ∧ rd_R (C s) (N s) (C s p) (true, p + 1) = (true, nx (C s) p) ∧ tv E ∧ E.length ≤ 20 ∧ f_h F ≤ E.length ∧ f_d F = false ∧ nv ≤ 6 ∧ p < 140 := by
  obtain ⟨a1, a2, a3, a4, a5, a6, a7, a8, a9, a10, a11, a12, ⟨k, a13⟩, a14, a15⟩ := AO
  obtain ⟨w1, w2, w3, w4, w5, w6, w7, w8, w9, w10, w11, w12⟩ := W
  obtain ⟨s1, s2, s3, s4⟩ := w11 s a1 a2
  obtain ⟨c1, c2, c3, c4, c5⟩ := ch_le B C N PP R g CR
  obtain ⟨n1, n2, n3, n4, n5, n6⟩ := wk_n a13
  have hh := fo_h a11
  rw [ek_len] at hh
  exact ⟨s1, (mp_of s1.2.1).1, s1.1, s2.1, ⟨rfl, by omega, s1.1, s3.1, s2.1.2.1⟩, ⟨k, a13⟩, XA.2.2.2.1, c1, c2, c3, c4, a1, n1, n2, n5, a7, a8, hh, fo_d a11, a5.2, a15⟩
theorem fin_c {m : Nat} (W : wo_ok B C N PP n cd x_byteCount x_wrongPlace x_firstWaiting x_waitingCount x_printCount x_code x_facts x_partner x_loaded x_globals x_memories x_waiting x_prints y_count y_place y_waits y_printed y_bytes y_there y_types y_typeSig y_imports y_functions y_sig y_what y_localsAt y_globals y_globalValue y_entries y_entriesAt y_hasMemory y_memory y_waiting y_prints) (hfu : fu ≤ 120) (hR : R.length < 10) (AO : a_ok B C N PP 0 s f nv g p E L F) (CR : ch_ok B C N PP g0 g R) (XA : xa_ok x_frameAt x_frameHeight x_values x_variables x_activeSlot x_activeGives x_activeFrame ((s, f, nv, g, p, E, L, F) :: R)) (AR : ar_ok x_activeResume R) (YA : ya_ok y_stack y_labelAt y_labelHeight y_labelGives y_callModule y_callFunction y_callBack y_callBase y_callLabels ((s, f, nv, g, p, E, L, F) :: R)) (hm : mu ((s, f, nv, g, p, E, L, F) :: R) fu < m) : nxt B C N PP n cd g0 m (x_byteCount, x_wrongPlace, nI p, nI (fb R + F.length), x_kindCount, nI (vb R + E.length), nI (R.length + 1), x_goesOn, -1, 0, -1, nI fu, x_firstWaiting, x_waitingCount, x_printCount, x_code, x_facts, x_partner, x_loaded, x_globals, x_memories, x_frameAt, x_frameHeight, x_frameResult, x_frameDead, x_kinds, x_values, x_variables, x_activeSlot, x_activeGives, x_activeFrame, x_activeResume, x_waiting, x_prints) (y_count, y_place, nI s, y_pos, y_wrong, y_constant, y_least, y_top, y_frames, y_invalid, nI (yb R + nv + E.length), nI (fb R + F.length), nI (R.length + 1), nI (120 - fu), 0, -1, y_result, y_used, y_waits, y_printed, y_bytes, y_there, y_types, y_typeSig, y_imports, y_functions, y_sig, y_what, y_typeAt, y_localsAt, y_globals, y_globalKind, y_globalFree, y_globalValue, y_entries, y_entriesAt, y_hasMemory, y_memory, y_nest, y_kinds, y_shape, y_gives, y_height, y_dead, y_stack, y_labelAt, y_labelHeight, y_labelGives, y_callModule, y_callFunction, y_callBack, y_callBase, y_callLabels, y_waiting, y_prints) (nI p) :=
  Or.inl ⟨(s, f, nv, g, p, E, L, F) :: R, fu, ⟨W, ⟨rfl, rfl, hfu⟩, ⟨rfl, rfl, rfl, rfl, rfl⟩, by simp, hR, ⟨AO, CR⟩, ⟨rfl, rfl, rfl, rfl, XA, AR⟩, rfl, rfl, rfl, rfl, YA⟩, rfl, hm⟩
end
end
section
/-! 46: the reference's data instructions, the class's simple ones -/
section
variable {y_count y_place y_m y_pos y_wrong y_least y_top y_frames y_invalid y_sp y_labels y_active y_fuel y_outcome y_trappedAt y_used y_waits y_printed : Int32} {y_constant y_result : Int64} {y_bytes y_there y_types y_typeSig y_imports y_functions y_sig y_what y_typeAt y_localsAt y_globals y_globalKind y_globalFree y_entries y_entriesAt y_hasMemory y_memory y_nest y_kinds y_shape y_gives y_height y_dead y_labelAt y_labelHeight y_labelGives y_callModule y_callFunction y_callBack y_callBase y_callLabels y_waiting y_prints : Nat → Int32} {y_globalValue y_stack : Nat → Int64}
variable {post : SY → Prop} {x pp z : Int32} {i a b : Nat}
theorem yd_pre {D : Int32 → Prop} (ha : a < 10) (ea : y_active = nI (a + 1)) (eb : y_callBase a = nI b) (h : D (nI b)) : vp_in (y_active - 1) 11 ∧ ∀ y : Int32, y = y_callBase (y_active - 1).toNatClampNeg → D y := by
  have e : y_active - 1 = nI a := by rw [ea]; exact pk_sub (a := a + 1) (b := 1) (by omega)
  exact ⟨pk_in a 11 (by omega) e, nm_r (by rw [pk_cl a e, eb]) h⟩
theorem yd_13 (ha : a < 10) (ea : y_active = nI (a + 1)) (eb : y_callBase a = nI b) (es : y_sp = nI (i + 1)) (hi : i < 320) (hz : z = nI 13) (h : post (y_count, y_place, y_m, y_pos, y_wrong, y_constant, y_least, y_top, y_frames, y_invalid, nI i, y_labels, y_active, y_fuel, y_outcome, y_trappedAt, y_result, y_used, y_waits, y_printed, y_bytes, y_there, y_types, y_typeSig, y_imports, y_functions, y_sig, y_what, y_typeAt, y_localsAt, y_globals, y_globalKind, y_globalFree, y_globalValue, y_entries, y_entriesAt, y_hasMemory, y_memory, y_nest, y_kinds, y_shape, y_gives, y_height, y_dead, y_stack, y_labelAt, y_labelHeight, y_labelGives, y_callModule, y_callFunction, y_callBack, y_callBase, y_callLabels, y_waiting, y_prints)) : wpY_data post (y_count, y_place, y_m, y_pos, y_wrong, y_constant, y_least, y_top, y_frames, y_invalid, y_sp, y_labels, y_active, y_fuel, y_outcome, y_trappedAt, y_result, y_used, y_waits, y_printed, y_bytes, y_there, y_types, y_typeSig, y_imports, y_functions, y_sig, y_what, y_typeAt, y_localsAt, y_globals, y_globalKind, y_globalFree, y_globalValue, y_entries, y_entriesAt, y_hasMemory, y_memory, y_nest, y_kinds, y_shape, y_gives, y_height, y_dead, y_stack, y_labelAt, y_labelHeight, y_labelGives, y_callModule, y_callFunction, y_callBack, y_callBase, y_callLabels, y_waiting, y_prints) z x pp := by
  subst hz es
  exact yd_pre ha ea eb (pk_lt 13 13 (fun y => absurd y (by omega)) (fun _ => pk_lt 21 13 (fun y => absurd y (by omega)) (fun _ => pk_eq 13 13 (fun _ =>  nm_r (pk_sub (a := i + 1) (b := 1) (by omega)) h) (fun y => absurd y (by omega)))))
theorem yd_14 (ha : a < 10) (ea : y_active = nI (a + 1)) (eb : y_callBase a = nI b) (es : y_sp = nI (i + 3)) (hi : i + 3 ≤ 320) (hz : z = nI 14) (h0 : y_stack (i + 2) = 0 → post (y_count, y_place, y_m, y_pos, y_wrong, y_constant, y_least, y_top, y_frames, y_invalid, nI (i + 1), y_labels, y_active, y_fuel, y_outcome, y_trappedAt, y_result, y_used, y_waits, y_printed, y_bytes, y_there, y_types, y_typeSig, y_imports, y_functions, y_sig, y_what, y_typeAt, y_localsAt, y_globals, y_globalKind, y_globalFree, y_globalValue, y_entries, y_entriesAt, y_hasMemory, y_memory, y_nest, y_kinds, y_shape, y_gives, y_height, y_dead, vp_updL y_stack i (y_stack (i + 1)), y_labelAt, y_labelHeight, y_labelGives, y_callModule, y_callFunction, y_callBack, y_callBase, y_callLabels, y_waiting, y_prints)) (h1 : ¬ y_stack (i + 2) = 0 → post (y_count, y_place, y_m, y_pos, y_wrong, y_constant, y_least, y_top, y_frames, y_invalid, nI (i + 1), y_labels, y_active, y_fuel, y_outcome, y_trappedAt, y_result, y_used, y_waits, y_printed, y_bytes, y_there, y_types, y_typeSig, y_imports, y_functions, y_sig, y_what, y_typeAt, y_localsAt, y_globals, y_globalKind, y_globalFree, y_globalValue, y_entries, y_entriesAt, y_hasMemory, y_memory, y_nest, y_kinds, y_shape, y_gives, y_height, y_dead, y_stack, y_labelAt, y_labelHeight, y_labelGives, y_callModule, y_callFunction, y_callBack, y_callBase, y_callLabels, y_waiting, y_prints)) : wpY_data post (y_count, y_place, y_m, y_pos, y_wrong, y_constant, y_least, y_top, y_frames, y_invalid, y_sp, y_labels, y_active, y_fuel, y_outcome, y_trappedAt, y_result, y_used, y_waits, y_printed, y_bytes, y_there, y_types, y_typeSig, y_imports, y_functions, y_sig, y_what, y_typeAt, y_localsAt, y_globals, y_globalKind, y_globalFree, y_globalValue, y_entries, y_entriesAt, y_hasMemory, y_memory, y_nest, y_kinds, y_shape, y_gives, y_height, y_dead, y_stack, y_labelAt, y_labelHeight, y_labelGives, y_callModule, y_callFunction, y_callBack, y_callBase, y_callLabels, y_waiting, y_prints) z x pp := by
  subst hz es
  have e1 : nI (i + 3) - 2 = nI (i + 1) := pk_sub (a := i + 3) (b := 2) (by omega)
  have e2 : nI (i + 1) + 1 = nI (i + 2) := nI_1 (i + 1)
  have e3 : nI (i + 1) - 1 = nI i := pk_sub (a := i + 1) (b := 1) (by omega)
  refine yd_pre ha ea eb (pk_lt 14 13 (fun y => absurd y (by omega)) (fun _ => pk_lt 21 14 (fun y => absurd y (by omega)) (fun _ => pk_eq 14 13 (fun y => absurd y (by omega)) (fun _ => pk_eq 14 14 (fun _ =>  nm_r e1 ⟨pk_in (i + 2) 320 (by omega) e2, br_c (fun y => ?_) (fun y => ?_)⟩) (fun y => absurd y (by omega))))))
  · rw [pk_cl (i + 2) e2] at y
    exact ⟨pk_in (i + 1) 320 (by omega), pk_in i 320 (by omega) e3, nm_r (show _ = vp_updL y_stack i (y_stack (i + 1)) from by rw [pk_cl i e3, pk_cl (i + 1)]) (h0 y)⟩
  · rw [pk_cl (i + 2) e2] at y
    exact h1 y
theorem yd_15 (j : Nat) (ha : a < 10) (ea : y_active = nI (a + 1)) (eb : y_callBase a = nI b) (es : y_sp = nI i) (hi : i < 320) (hj : b + j < 320) (hz : z = nI 15) (hx : x = nI j) (h : post (y_count, y_place, y_m, y_pos, y_wrong, y_constant, y_least, y_top, y_frames, y_invalid, nI (i + 1), y_labels, y_active, y_fuel, y_outcome, y_trappedAt, y_result, y_used, y_waits, y_printed, y_bytes, y_there, y_types, y_typeSig, y_imports, y_functions, y_sig, y_what, y_typeAt, y_localsAt, y_globals, y_globalKind, y_globalFree, y_globalValue, y_entries, y_entriesAt, y_hasMemory, y_memory, y_nest, y_kinds, y_shape, y_gives, y_height, y_dead, vp_updL y_stack i (y_stack (b + j)), y_labelAt, y_labelHeight, y_labelGives, y_callModule, y_callFunction, y_callBack, y_callBase, y_callLabels, y_waiting, y_prints)) : wpY_data post (y_count, y_place, y_m, y_pos, y_wrong, y_constant, y_least, y_top, y_frames, y_invalid, y_sp, y_labels, y_active, y_fuel, y_outcome, y_trappedAt, y_result, y_used, y_waits, y_printed, y_bytes, y_there, y_types, y_typeSig, y_imports, y_functions, y_sig, y_what, y_typeAt, y_localsAt, y_globals, y_globalKind, y_globalFree, y_globalValue, y_entries, y_entriesAt, y_hasMemory, y_memory, y_nest, y_kinds, y_shape, y_gives, y_height, y_dead, y_stack, y_labelAt, y_labelHeight, y_labelGives, y_callModule, y_callFunction, y_callBack, y_callBase, y_callLabels, y_waiting, y_prints) z x pp := by
  subst hz hx
  have e1 : nI b + nI j = nI (b + j) := nI_add b j
  refine yd_pre ha ea eb (pk_lt 15 13 (fun y => absurd y (by omega)) (fun _ => pk_lt 21 15 (fun y => absurd y (by omega)) (fun _ => pk_eq 15 13 (fun y => absurd y (by omega)) (fun _ => pk_eq 15 14 (fun y => absurd y (by omega)) (fun _ => pk_eq 15 15 (fun _ =>  ⟨pk_in (b + j) 320 hj e1, ?_⟩) (fun y => absurd y (by omega)))))))
  rw [pk_cl (b + j) e1]
  exact y_push i hi es h
theorem yd_16 (j : Nat) (ha : a < 10) (ea : y_active = nI (a + 1)) (eb : y_callBase a = nI b) (es : y_sp = nI (i + 1)) (hi : i < 320) (hj : b + j < 320) (hz : z = nI 16) (hx : x = nI j) (h : post (y_count, y_place, y_m, y_pos, y_wrong, y_constant, y_least, y_top, y_frames, y_invalid, nI i, y_labels, y_active, y_fuel, y_outcome, y_trappedAt, y_result, y_used, y_waits, y_printed, y_bytes, y_there, y_types, y_typeSig, y_imports, y_functions, y_sig, y_what, y_typeAt, y_localsAt, y_globals, y_globalKind, y_globalFree, y_globalValue, y_entries, y_entriesAt, y_hasMemory, y_memory, y_nest, y_kinds, y_shape, y_gives, y_height, y_dead, vp_updL y_stack (b + j) (y_stack i), y_labelAt, y_labelHeight, y_labelGives, y_callModule, y_callFunction, y_callBack, y_callBase, y_callLabels, y_waiting, y_prints)) : wpY_data post (y_count, y_place, y_m, y_pos, y_wrong, y_constant, y_least, y_top, y_frames, y_invalid, y_sp, y_labels, y_active, y_fuel, y_outcome, y_trappedAt, y_result, y_used, y_waits, y_printed, y_bytes, y_there, y_types, y_typeSig, y_imports, y_functions, y_sig, y_what, y_typeAt, y_localsAt, y_globals, y_globalKind, y_globalFree, y_globalValue, y_entries, y_entriesAt, y_hasMemory, y_memory, y_nest, y_kinds, y_shape, y_gives, y_height, y_dead, y_stack, y_labelAt, y_labelHeight, y_labelGives, y_callModule, y_callFunction, y_callBack, y_callBase, y_callLabels, y_waiting, y_prints) z x pp := by
  subst hz hx es
  have e1 : nI b + nI j = nI (b + j) := nI_add b j
  have e2 : nI (i + 1) - 1 = nI i := pk_sub (a := i + 1) (b := 1) (by omega)
  exact yd_pre ha ea eb (pk_lt 16 13 (fun y => absurd y (by omega)) (fun _ => pk_lt 21 16 (fun y => absurd y (by omega)) (fun _ => pk_eq 16 13 (fun y => absurd y (by omega)) (fun _ => pk_eq 16 14 (fun y => absurd y (by omega)) (fun _ => pk_eq 16 15 (fun y => absurd y (by omega)) (fun _ => pk_eq 16 16 (fun _ =>  nm_r e2 ⟨pk_in i 320 hi e2, pk_in (b + j) 320 hj e1, nm_r (show _ = vp_updL y_stack (b + j) (y_stack i) from by rw [pk_cl (b + j) e1, pk_cl i e2]) h⟩) (fun y => absurd y (by omega))))))))
theorem yd_17 (j : Nat) (ha : a < 10) (ea : y_active = nI (a + 1)) (eb : y_callBase a = nI b) (es : y_sp = nI (i + 1)) (hi : i < 320) (hj : b + j < 320) (hz : z = nI 17) (hx : x = nI j) (h : post (y_count, y_place, y_m, y_pos, y_wrong, y_constant, y_least, y_top, y_frames, y_invalid, nI (i + 1), y_labels, y_active, y_fuel, y_outcome, y_trappedAt, y_result, y_used, y_waits, y_printed, y_bytes, y_there, y_types, y_typeSig, y_imports, y_functions, y_sig, y_what, y_typeAt, y_localsAt, y_globals, y_globalKind, y_globalFree, y_globalValue, y_entries, y_entriesAt, y_hasMemory, y_memory, y_nest, y_kinds, y_shape, y_gives, y_height, y_dead, vp_updL y_stack (b + j) (y_stack i), y_labelAt, y_labelHeight, y_labelGives, y_callModule, y_callFunction, y_callBack, y_callBase, y_callLabels, y_waiting, y_prints)) : wpY_data post (y_count, y_place, y_m, y_pos, y_wrong, y_constant, y_least, y_top, y_frames, y_invalid, y_sp, y_labels, y_active, y_fuel, y_outcome, y_trappedAt, y_result, y_used, y_waits, y_printed, y_bytes, y_there, y_types, y_typeSig, y_imports, y_functions, y_sig, y_what, y_typeAt, y_localsAt, y_globals, y_globalKind, y_globalFree, y_globalValue, y_entries, y_entriesAt, y_hasMemory, y_memory, y_nest, y_kinds, y_shape, y_gives, y_height, y_dead, y_stack, y_labelAt, y_labelHeight, y_labelGives, y_callModule, y_callFunction, y_callBack, y_callBase, y_callLabels, y_waiting, y_prints) z x pp := by
  subst hz hx es
  have e1 : nI b + nI j = nI (b + j) := nI_add b j
  have e2 : nI (i + 1) - 1 = nI i := pk_sub (a := i + 1) (b := 1) (by omega)
  exact yd_pre ha ea eb (pk_lt 17 13 (fun y => absurd y (by omega)) (fun _ => pk_lt 21 17 (fun y => absurd y (by omega)) (fun _ => pk_eq 17 13 (fun y => absurd y (by omega)) (fun _ => pk_eq 17 14 (fun y => absurd y (by omega)) (fun _ => pk_eq 17 15 (fun y => absurd y (by omega)) (fun _ => pk_eq 17 16 (fun y => absurd y (by omega)) (fun _ => pk_eq 17 17 (fun _ =>  ⟨pk_in i 320 hi e2, pk_in (b + j) 320 hj e1, nm_r (show _ = vp_updL y_stack (b + j) (y_stack i) from by rw [pk_cl (b + j) e1, pk_cl i e2]) h⟩) (fun y => absurd y (by omega)))))))))
theorem yd_18 (m j : Nat) (hm : m < 2) (em : y_m = nI m) (ha : a < 10) (ea : y_active = nI (a + 1)) (eb : y_callBase a = nI b) (es : y_sp = nI i) (hi : i < 320) (hj : j < 3) (hz : z = nI 18) (hx : x = nI j) (h : post (y_count, y_place, y_m, y_pos, y_wrong, y_constant, y_least, y_top, y_frames, y_invalid, nI (i + 1), y_labels, y_active, y_fuel, y_outcome, y_trappedAt, y_result, y_used, y_waits, y_printed, y_bytes, y_there, y_types, y_typeSig, y_imports, y_functions, y_sig, y_what, y_typeAt, y_localsAt, y_globals, y_globalKind, y_globalFree, y_globalValue, y_entries, y_entriesAt, y_hasMemory, y_memory, y_nest, y_kinds, y_shape, y_gives, y_height, y_dead, vp_updL y_stack i (y_globalValue (3 * m + j)), y_labelAt, y_labelHeight, y_labelGives, y_callModule, y_callFunction, y_callBack, y_callBase, y_callLabels, y_waiting, y_prints)) : wpY_data post (y_count, y_place, y_m, y_pos, y_wrong, y_constant, y_least, y_top, y_frames, y_invalid, y_sp, y_labels, y_active, y_fuel, y_outcome, y_trappedAt, y_result, y_used, y_waits, y_printed, y_bytes, y_there, y_types, y_typeSig, y_imports, y_functions, y_sig, y_what, y_typeAt, y_localsAt, y_globals, y_globalKind, y_globalFree, y_globalValue, y_entries, y_entriesAt, y_hasMemory, y_memory, y_nest, y_kinds, y_shape, y_gives, y_height, y_dead, y_stack, y_labelAt, y_labelHeight, y_labelGives, y_callModule, y_callFunction, y_callBack, y_callBase, y_callLabels, y_waiting, y_prints) z x pp := by
  subst hz hx
  have e1 : 3 * y_m + nI j = nI (3 * m + j) := by rw [em, show (3 : Int32) = nI 3 from rfl, pk_mul, nI_add]
  refine yd_pre ha ea eb (pk_lt 18 13 (fun y => absurd y (by omega)) (fun _ => pk_lt 21 18 (fun y => absurd y (by omega)) (fun _ => pk_eq 18 13 (fun y => absurd y (by omega)) (fun _ => pk_eq 18 14 (fun y => absurd y (by omega)) (fun _ => pk_eq 18 15 (fun y => absurd y (by omega)) (fun _ => pk_eq 18 16 (fun y => absurd y (by omega)) (fun _ => pk_eq 18 17 (fun y => absurd y (by omega)) (fun _ => pk_eq 18 18 (fun _ =>  ⟨pk_in (3 * m + j) 9 (by omega) e1, ?_⟩) (fun y => absurd y (by omega))))))))))
  rw [pk_cl (3 * m + j) e1]
  exact y_push i hi es h
theorem yd_19 (m j : Nat) (hm : m < 2) (em : y_m = nI m) (ha : a < 10) (ea : y_active = nI (a + 1)) (eb : y_callBase a = nI b) (es : y_sp = nI (i + 1)) (hi : i < 320) (hj : j < 3) (hz : z = nI 19) (hx : x = nI j) (h : post (y_count, y_place, y_m, y_pos, y_wrong, y_constant, y_least, y_top, y_frames, y_invalid, nI i, y_labels, y_active, y_fuel, y_outcome, y_trappedAt, y_result, y_used, y_waits, y_printed, y_bytes, y_there, y_types, y_typeSig, y_imports, y_functions, y_sig, y_what, y_typeAt, y_localsAt, y_globals, y_globalKind, y_globalFree, vp_updL y_globalValue (3 * m + j) (y_stack i), y_entries, y_entriesAt, y_hasMemory, y_memory, y_nest, y_kinds, y_shape, y_gives, y_height, y_dead, y_stack, y_labelAt, y_labelHeight, y_labelGives, y_callModule, y_callFunction, y_callBack, y_callBase, y_callLabels, y_waiting, y_prints)) : wpY_data post (y_count, y_place, y_m, y_pos, y_wrong, y_constant, y_least, y_top, y_frames, y_invalid, y_sp, y_labels, y_active, y_fuel, y_outcome, y_trappedAt, y_result, y_used, y_waits, y_printed, y_bytes, y_there, y_types, y_typeSig, y_imports, y_functions, y_sig, y_what, y_typeAt, y_localsAt, y_globals, y_globalKind, y_globalFree, y_globalValue, y_entries, y_entriesAt, y_hasMemory, y_memory, y_nest, y_kinds, y_shape, y_gives, y_height, y_dead, y_stack, y_labelAt, y_labelHeight, y_labelGives, y_callModule, y_callFunction, y_callBack, y_callBase, y_callLabels, y_waiting, y_prints) z x pp := by
  subst hz hx es
  have e1 : 3 * y_m + nI j = nI (3 * m + j) := by rw [em, show (3 : Int32) = nI 3 from rfl, pk_mul, nI_add]
  have e2 : nI (i + 1) - 1 = nI i := pk_sub (a := i + 1) (b := 1) (by omega)
  exact yd_pre ha ea eb (pk_lt 19 13 (fun y => absurd y (by omega)) (fun _ => pk_lt 21 19 (fun y => absurd y (by omega)) (fun _ => pk_eq 19 13 (fun y => absurd y (by omega)) (fun _ => pk_eq 19 14 (fun y => absurd y (by omega)) (fun _ => pk_eq 19 15 (fun y => absurd y (by omega)) (fun _ => pk_eq 19 16 (fun y => absurd y (by omega)) (fun _ => pk_eq 19 17 (fun y => absurd y (by omega)) (fun _ => pk_eq 19 18 (fun y => absurd y (by omega)) (fun _ => pk_eq 19 19 (fun _ =>  nm_r e2 ⟨pk_in i 320 hi e2, pk_in (3 * m + j) 9 (by omega) e1, nm_r (show _ = vp_updL y_globalValue (3 * m + j) (y_stack i) from by rw [pk_cl (3 * m + j) e1, pk_cl i e2]) h⟩) (fun y => absurd y (by omega)))))))))))
theorem yd_20 (ha : a < 10) (ea : y_active = nI (a + 1)) (eb : y_callBase a = nI b) (es : y_sp = nI i) (hi : i < 320) (hz : z = nI 20 ∨ z = nI 21) (h : post (y_count, y_place, y_m, y_pos, y_wrong, y_constant, y_least, y_top, y_frames, y_invalid, nI (i + 1), y_labels, y_active, y_fuel, y_outcome, y_trappedAt, y_result, y_used, y_waits, y_printed, y_bytes, y_there, y_types, y_typeSig, y_imports, y_functions, y_sig, y_what, y_typeAt, y_localsAt, y_globals, y_globalKind, y_globalFree, y_globalValue, y_entries, y_entriesAt, y_hasMemory, y_memory, y_nest, y_kinds, y_shape, y_gives, y_height, y_dead, vp_updL y_stack i y_constant, y_labelAt, y_labelHeight, y_labelGives, y_callModule, y_callFunction, y_callBack, y_callBase, y_callLabels, y_waiting, y_prints)) : wpY_data post (y_count, y_place, y_m, y_pos, y_wrong, y_constant, y_least, y_top, y_frames, y_invalid, y_sp, y_labels, y_active, y_fuel, y_outcome, y_trappedAt, y_result, y_used, y_waits, y_printed, y_bytes, y_there, y_types, y_typeSig, y_imports, y_functions, y_sig, y_what, y_typeAt, y_localsAt, y_globals, y_globalKind, y_globalFree, y_globalValue, y_entries, y_entriesAt, y_hasMemory, y_memory, y_nest, y_kinds, y_shape, y_gives, y_height, y_dead, y_stack, y_labelAt, y_labelHeight, y_labelGives, y_callModule, y_callFunction, y_callBack, y_callBase, y_callLabels, y_waiting, y_prints) z x pp := by
  have h' : wY_data_231 post y_count y_place y_m y_pos y_wrong y_constant y_least y_top y_frames y_invalid y_sp y_labels y_active y_fuel y_outcome y_trappedAt y_result y_used y_waits y_printed y_bytes y_there y_types y_typeSig y_imports y_functions y_sig y_what y_typeAt y_localsAt y_globals y_globalKind y_globalFree y_globalValue y_entries y_entriesAt y_hasMemory y_memory y_nest y_kinds y_shape y_gives y_height y_dead y_stack y_labelAt y_labelHeight y_labelGives y_callModule y_callFunction y_callBack y_callBase y_callLabels y_waiting y_prints := y_push i hi es h
  rcases hz with rfl | rfl
  · exact yd_pre ha ea eb (pk_lt 20 13 (fun y => absurd y (by omega)) (fun _ => pk_lt 21 20 (fun y => absurd y (by omega)) (fun _ => pk_eq 20 13 (fun y => absurd y (by omega)) (fun _ => pk_eq 20 14 (fun y => absurd y (by omega)) (fun _ => pk_eq 20 15 (fun y => absurd y (by omega)) (fun _ => pk_eq 20 16 (fun y => absurd y (by omega)) (fun _ => pk_eq 20 17 (fun y => absurd y (by omega)) (fun _ => pk_eq 20 18 (fun y => absurd y (by omega)) (fun _ => pk_eq 20 19 (fun y => absurd y (by omega)) (fun _ => pk_eq 20 20 (fun _ =>  h') (fun y => absurd y (by omega))))))))))))
  · exact yd_pre ha ea eb (pk_lt 21 13 (fun y => absurd y (by omega)) (fun _ => pk_lt 21 21 (fun y => absurd y (by omega)) (fun _ => pk_eq 21 13 (fun y => absurd y (by omega)) (fun _ => pk_eq 21 14 (fun y => absurd y (by omega)) (fun _ => pk_eq 21 15 (fun y => absurd y (by omega)) (fun _ => pk_eq 21 16 (fun y => absurd y (by omega)) (fun _ => pk_eq 21 17 (fun y => absurd y (by omega)) (fun _ => pk_eq 21 18 (fun y => absurd y (by omega)) (fun _ => pk_eq 21 19 (fun y => absurd y (by omega)) (fun _ => pk_eq 21 20 (fun y => absurd y (by omega)) (fun _ => pk_eq 21 21 (fun _ =>  h') (fun y => absurd y (by omega)))))))))))))
end
section
variable {x_byteCount x_wrongPlace x_at x_frameCount x_kindCount x_valueCount x_activeCount x_goesOn x_outcome x_trapPlace x_fuelUsed x_firstWaiting x_waitingCount x_printCount : Int32} {x_resultValue : Int64} {x_code x_facts x_partner x_loaded x_memories x_frameAt x_frameHeight x_frameResult x_frameDead x_kinds x_activeSlot x_activeGives x_activeFrame x_activeResume x_waiting x_prints : Nat → Int32} {x_globals x_values x_variables : Nat → Int64}
variable {post : SX → Prop} {z : Int32} {i a s x : Nat}
theorem xs_pre {D : Int32 → Int32 → Prop} (ha : a < 10) (ea : x_activeCount = nI (a + 1)) (hx : x < 256) (h : D (nI (a * 6 + x % 6)) (nI (s * 3 + x % 3))) : wpX_last (fun r => ¬ (6 : Int32) = 0 ∧ ∀ y : Int32, y = (r * 6) + (nI x - nI x / 6 * 6) → (¬ (3 : Int32) = 0 ∧ ∀ w : Int32, w = (nI s * 3) + (nI x - nI x / 3 * 3) → D y w)) x_activeCount 10 := by
  subst ea
  refine xx_last (k := a + 1) (l := 10) (by omega) (by omega) (by omega) ⟨by decide, nm_r (show _ = nI (a * 6 + x % 6) from ?_) ⟨by decide, nm_r (show _ = nI (s * 3 + x % 3) from ?_) h⟩⟩
  · rw [show (6 : Int32) = nI 6 from rfl, pk_rem (by omega) (by omega) (by omega), pk_mul, nI_add]; rfl
  · rw [show (3 : Int32) = nI 3 from rfl, pk_rem (by omega) (by omega) (by omega), pk_mul, nI_add]
theorem xs_13 (ha : a < 10) (ea : x_activeCount = nI (a + 1)) (hx : x < 256) (e : x_valueCount = nI (i + 1)) (hi : i < 256) (hz : z = nI 13) (h : post (x_byteCount, x_wrongPlace, x_at, x_frameCount, x_kindCount, nI i, x_activeCount, x_goesOn, x_outcome, x_resultValue, x_trapPlace, x_fuelUsed, x_firstWaiting, x_waitingCount, x_printCount, x_code, x_facts, x_partner, x_loaded, x_globals, x_memories, x_frameAt, x_frameHeight, x_frameResult, x_frameDead, x_kinds, x_values, x_variables, x_activeSlot, x_activeGives, x_activeFrame, x_activeResume, x_waiting, x_prints)) : wpX_runSimple post (x_byteCount, x_wrongPlace, x_at, x_frameCount, x_kindCount, x_valueCount, x_activeCount, x_goesOn, x_outcome, x_resultValue, x_trapPlace, x_fuelUsed, x_firstWaiting, x_waitingCount, x_printCount, x_code, x_facts, x_partner, x_loaded, x_globals, x_memories, x_frameAt, x_frameHeight, x_frameResult, x_frameDead, x_kinds, x_values, x_variables, x_activeSlot, x_activeGives, x_activeFrame, x_activeResume, x_waiting, x_prints) (nI s) z (nI x) := by
  subst hz
  exact xs_pre ha ea hx (pk_lt 13 13 (fun y => absurd y (by omega)) (fun _ => pk_lt 19 13 (fun y => absurd y (by omega)) (fun _ => pk_eq 13 13 (fun _ => r_pop i hi e h) (fun y => absurd y (by omega)))))
theorem x_select (e : x_valueCount = nI (i + 3)) (hi : i + 2 < 256) (h0 : x_values (i + 2) = 0 → post (x_byteCount, x_wrongPlace, x_at, x_frameCount, x_kindCount, nI (i + 1), x_activeCount, x_goesOn, x_outcome, x_resultValue, x_trapPlace, x_fuelUsed, x_firstWaiting, x_waitingCount, x_printCount, x_code, x_facts, x_partner, x_loaded, x_globals, x_memories, x_frameAt, x_frameHeight, x_frameResult, x_frameDead, x_kinds, vp_updL x_values i (x_values (i + 1)), x_variables, x_activeSlot, x_activeGives, x_activeFrame, x_activeResume, x_waiting, x_prints)) (h1 : ¬ x_values (i + 2) = 0 → post (x_byteCount, x_wrongPlace, x_at, x_frameCount, x_kindCount, nI (i + 1), x_activeCount, x_goesOn, x_outcome, x_resultValue, x_trapPlace, x_fuelUsed, x_firstWaiting, x_waitingCount, x_printCount, x_code, x_facts, x_partner, x_loaded, x_globals, x_memories, x_frameAt, x_frameHeight, x_frameResult, x_frameDead, x_kinds, vp_updL x_values i (x_values i), x_variables, x_activeSlot, x_activeGives, x_activeFrame, x_activeResume, x_waiting, x_prints)) : wpX_runSelect post (x_byteCount, x_wrongPlace, x_at, x_frameCount, x_kindCount, x_valueCount, x_activeCount, x_goesOn, x_outcome, x_resultValue, x_trapPlace, x_fuelUsed, x_firstWaiting, x_waitingCount, x_printCount, x_code, x_facts, x_partner, x_loaded, x_globals, x_memories, x_frameAt, x_frameHeight, x_frameResult, x_frameDead, x_kinds, x_values, x_variables, x_activeSlot, x_activeGives, x_activeFrame, x_activeResume, x_waiting, x_prints) := by
  unfold wpX_runSelect
  refine r_pop (i + 2) hi e ?_
  have g : ∀ z0 : Int32, (z0 = 0 → x_values (i + 2) = 0) → (¬ z0 = 0 → ¬ x_values (i + 2) = 0) → wX_runSelect_14 post z0 x_byteCount x_wrongPlace x_at x_frameCount x_kindCount (nI (i + 2)) x_activeCount x_goesOn x_outcome x_resultValue x_trapPlace x_fuelUsed x_firstWaiting x_waitingCount x_printCount x_code x_facts x_partner x_loaded x_globals x_memories x_frameAt x_frameHeight x_frameResult x_frameDead x_kinds x_values x_variables x_activeSlot x_activeGives x_activeFrame x_activeResume x_waiting x_prints := by
    intro z0 g0 g1
    unfold wX_runSelect_14
    refine r_pop (i + 1) (by omega) rfl (r_pop i (by omega) rfl (br_c (fun y => ?_) (fun y => ?_)))
    · exact r_push i (by omega) rfl (h0 (g0 y))
    · exact r_push i (by omega) rfl (h1 (g1 y))
  exact br_c (fun y => g 0 (fun _ => y) (fun q => absurd rfl q)) (fun y => g 1 (fun q => absurd q (by decide)) (fun _ => y))
theorem xs_14 (ha : a < 10) (ea : x_activeCount = nI (a + 1)) (hx : x < 256) (e : x_valueCount = nI (i + 3)) (hi : i + 2 < 256) (hz : z = nI 14) (h0 : x_values (i + 2) = 0 → post (x_byteCount, x_wrongPlace, x_at, x_frameCount, x_kindCount, nI (i + 1), x_activeCount, x_goesOn, x_outcome, x_resultValue, x_trapPlace, x_fuelUsed, x_firstWaiting, x_waitingCount, x_printCount, x_code, x_facts, x_partner, x_loaded, x_globals, x_memories, x_frameAt, x_frameHeight, x_frameResult, x_frameDead, x_kinds, vp_updL x_values i (x_values (i + 1)), x_variables, x_activeSlot, x_activeGives, x_activeFrame, x_activeResume, x_waiting, x_prints)) (h1 : ¬ x_values (i + 2) = 0 → post (x_byteCount, x_wrongPlace, x_at, x_frameCount, x_kindCount, nI (i + 1), x_activeCount, x_goesOn, x_outcome, x_resultValue, x_trapPlace, x_fuelUsed, x_firstWaiting, x_waitingCount, x_printCount, x_code, x_facts, x_partner, x_loaded, x_globals, x_memories, x_frameAt, x_frameHeight, x_frameResult, x_frameDead, x_kinds, vp_updL x_values i (x_values i), x_variables, x_activeSlot, x_activeGives, x_activeFrame, x_activeResume, x_waiting, x_prints)) : wpX_runSimple post (x_byteCount, x_wrongPlace, x_at, x_frameCount, x_kindCount, x_valueCount, x_activeCount, x_goesOn, x_outcome, x_resultValue, x_trapPlace, x_fuelUsed, x_firstWaiting, x_waitingCount, x_printCount, x_code, x_facts, x_partner, x_loaded, x_globals, x_memories, x_frameAt, x_frameHeight, x_frameResult, x_frameDead, x_kinds, x_values, x_variables, x_activeSlot, x_activeGives, x_activeFrame, x_activeResume, x_waiting, x_prints) (nI s) z (nI x) := by
  subst hz
  refine xs_pre ha ea hx (pk_lt 14 13 (fun y => absurd y (by omega)) (fun _ => pk_lt 19 14 (fun y => absurd y (by omega)) (fun _ => pk_eq 14 13 (fun y => absurd y (by omega)) (fun _ => pk_eq 14 14 (fun _ => ?_) (fun y => absurd y (by omega))))))
  exact x_select e hi h0 h1
theorem xs_15 (ha : a < 10) (ea : x_activeCount = nI (a + 1)) (hx : x < 6) (e : x_valueCount = nI i) (hi : i < 256) (hz : z = nI 15) (h : post (x_byteCount, x_wrongPlace, x_at, x_frameCount, x_kindCount, nI (i + 1), x_activeCount, x_goesOn, x_outcome, x_resultValue, x_trapPlace, x_fuelUsed, x_firstWaiting, x_waitingCount, x_printCount, x_code, x_facts, x_partner, x_loaded, x_globals, x_memories, x_frameAt, x_frameHeight, x_frameResult, x_frameDead, x_kinds, vp_updL x_values i (x_variables (a * 6 + x)), x_variables, x_activeSlot, x_activeGives, x_activeFrame, x_activeResume, x_waiting, x_prints)) : wpX_runSimple post (x_byteCount, x_wrongPlace, x_at, x_frameCount, x_kindCount, x_valueCount, x_activeCount, x_goesOn, x_outcome, x_resultValue, x_trapPlace, x_fuelUsed, x_firstWaiting, x_waitingCount, x_printCount, x_code, x_facts, x_partner, x_loaded, x_globals, x_memories, x_frameAt, x_frameHeight, x_frameResult, x_frameDead, x_kinds, x_values, x_variables, x_activeSlot, x_activeGives, x_activeFrame, x_activeResume, x_waiting, x_prints) (nI s) z (nI x) := by
  subst hz
  have e6 : x % 6 = x := Nat.mod_eq_of_lt hx
  refine xs_pre ha ea (by omega) (pk_lt 15 13 (fun y => absurd y (by omega)) (fun _ => pk_lt 19 15 (fun y => absurd y (by omega)) (fun _ => pk_eq 15 13 (fun y => absurd y (by omega)) (fun _ => pk_eq 15 14 (fun y => absurd y (by omega)) (fun _ => pk_eq 15 15 (fun _ => ⟨pk_in (a * 6 + x % 6) 60 (by omega), ?_⟩) (fun y => absurd y (by omega)))))))
  rw [pk_cl (a * 6 + x % 6), e6]
  exact r_push i hi e h
theorem xs_16 (ha : a < 10) (ea : x_activeCount = nI (a + 1)) (hx : x < 6) (e : x_valueCount = nI (i + 1)) (hi : i < 256) (hz : z = nI 16) (h : post (x_byteCount, x_wrongPlace, x_at, x_frameCount, x_kindCount, nI i, x_activeCount, x_goesOn, x_outcome, x_resultValue, x_trapPlace, x_fuelUsed, x_firstWaiting, x_waitingCount, x_printCount, x_code, x_facts, x_partner, x_loaded, x_globals, x_memories, x_frameAt, x_frameHeight, x_frameResult, x_frameDead, x_kinds, x_values, vp_updL x_variables (a * 6 + x) (x_values i), x_activeSlot, x_activeGives, x_activeFrame, x_activeResume, x_waiting, x_prints)) : wpX_runSimple post (x_byteCount, x_wrongPlace, x_at, x_frameCount, x_kindCount, x_valueCount, x_activeCount, x_goesOn, x_outcome, x_resultValue, x_trapPlace, x_fuelUsed, x_firstWaiting, x_waitingCount, x_printCount, x_code, x_facts, x_partner, x_loaded, x_globals, x_memories, x_frameAt, x_frameHeight, x_frameResult, x_frameDead, x_kinds, x_values, x_variables, x_activeSlot, x_activeGives, x_activeFrame, x_activeResume, x_waiting, x_prints) (nI s) z (nI x) := by
  subst hz
  have e6 : x % 6 = x := Nat.mod_eq_of_lt hx
  exact xs_pre ha ea (by omega) (pk_lt 16 13 (fun y => absurd y (by omega)) (fun _ => pk_lt 19 16 (fun y => absurd y (by omega)) (fun _ => pk_eq 16 13 (fun y => absurd y (by omega)) (fun _ => pk_eq 16 14 (fun y => absurd y (by omega)) (fun _ => pk_eq 16 15 (fun y => absurd y (by omega)) (fun _ => pk_eq 16 16 (fun _ => r_pop i hi e ⟨pk_in (a * 6 + x % 6) 60 (by omega), nm_r (show _ = vp_updL x_variables (a * 6 + x) (x_values i) from by rw [pk_cl (a * 6 + x % 6), e6]) h⟩) (fun y => absurd y (by omega))))))))
theorem xs_17 (ha : a < 10) (ea : x_activeCount = nI (a + 1)) (hx : x < 6) (e : x_valueCount = nI (i + 1)) (hi : i < 256) (hz : z = nI 17) (h : post (x_byteCount, x_wrongPlace, x_at, x_frameCount, x_kindCount, nI (i + 1), x_activeCount, x_goesOn, x_outcome, x_resultValue, x_trapPlace, x_fuelUsed, x_firstWaiting, x_waitingCount, x_printCount, x_code, x_facts, x_partner, x_loaded, x_globals, x_memories, x_frameAt, x_frameHeight, x_frameResult, x_frameDead, x_kinds, vp_updL x_values i (x_values i), vp_updL x_variables (a * 6 + x) (x_values i), x_activeSlot, x_activeGives, x_activeFrame, x_activeResume, x_waiting, x_prints)) : wpX_runSimple post (x_byteCount, x_wrongPlace, x_at, x_frameCount, x_kindCount, x_valueCount, x_activeCount, x_goesOn, x_outcome, x_resultValue, x_trapPlace, x_fuelUsed, x_firstWaiting, x_waitingCount, x_printCount, x_code, x_facts, x_partner, x_loaded, x_globals, x_memories, x_frameAt, x_frameHeight, x_frameResult, x_frameDead, x_kinds, x_values, x_variables, x_activeSlot, x_activeGives, x_activeFrame, x_activeResume, x_waiting, x_prints) (nI s) z (nI x) := by
  subst hz
  have e6 : x % 6 = x := Nat.mod_eq_of_lt hx
  refine xs_pre ha ea (by omega) (pk_lt 17 13 (fun y => absurd y (by omega)) (fun _ => pk_lt 19 17 (fun y => absurd y (by omega)) (fun _ => pk_eq 17 13 (fun y => absurd y (by omega)) (fun _ => pk_eq 17 14 (fun y => absurd y (by omega)) (fun _ => pk_eq 17 15 (fun y => absurd y (by omega)) (fun _ => pk_eq 17 16 (fun y => absurd y (by omega)) (fun _ => pk_eq 17 17 (fun _ => r_pop i hi e ⟨pk_in (a * 6 + x % 6) 60 (by omega), nm_r (show _ = vp_updL x_variables (a * 6 + x) (x_values i) from by rw [pk_cl (a * 6 + x % 6), e6]) ⟨pk_in (a * 6 + x % 6) 60 (by omega), ?_⟩⟩) (fun y => absurd y (by omega)))))))))
  rw [pk_cl (a * 6 + x % 6), e6, pk_uLs]
  exact r_push i hi rfl h
theorem xs_18 (hs : s < 2) (ha : a < 10) (ea : x_activeCount = nI (a + 1)) (hx : x < 3) (e : x_valueCount = nI i) (hi : i < 256) (hz : z = nI 18) (h : post (x_byteCount, x_wrongPlace, x_at, x_frameCount, x_kindCount, nI (i + 1), x_activeCount, x_goesOn, x_outcome, x_resultValue, x_trapPlace, x_fuelUsed, x_firstWaiting, x_waitingCount, x_printCount, x_code, x_facts, x_partner, x_loaded, x_globals, x_memories, x_frameAt, x_frameHeight, x_frameResult, x_frameDead, x_kinds, vp_updL x_values i (x_globals (s * 3 + x)), x_variables, x_activeSlot, x_activeGives, x_activeFrame, x_activeResume, x_waiting, x_prints)) : wpX_runSimple post (x_byteCount, x_wrongPlace, x_at, x_frameCount, x_kindCount, x_valueCount, x_activeCount, x_goesOn, x_outcome, x_resultValue, x_trapPlace, x_fuelUsed, x_firstWaiting, x_waitingCount, x_printCount, x_code, x_facts, x_partner, x_loaded, x_globals, x_memories, x_frameAt, x_frameHeight, x_frameResult, x_frameDead, x_kinds, x_values, x_variables, x_activeSlot, x_activeGives, x_activeFrame, x_activeResume, x_waiting, x_prints) (nI s) z (nI x) := by
  subst hz
  have e3 : x % 3 = x := Nat.mod_eq_of_lt hx
  refine xs_pre ha ea (by omega) (pk_lt 18 13 (fun y => absurd y (by omega)) (fun _ => pk_lt 19 18 (fun y => absurd y (by omega)) (fun _ => pk_eq 18 13 (fun y => absurd y (by omega)) (fun _ => pk_eq 18 14 (fun y => absurd y (by omega)) (fun _ => pk_eq 18 15 (fun y => absurd y (by omega)) (fun _ => pk_eq 18 16 (fun y => absurd y (by omega)) (fun _ => pk_eq 18 17 (fun y => absurd y (by omega)) (fun _ => pk_eq 18 18 (fun _ => ⟨pk_in (s * 3 + x % 3) 6 (by omega), ?_⟩) (fun y => absurd y (by omega))))))))))
  rw [pk_cl (s * 3 + x % 3), e3]
  exact r_push i hi e h
theorem xs_19 (hs : s < 2) (ha : a < 10) (ea : x_activeCount = nI (a + 1)) (hx : x < 3) (e : x_valueCount = nI (i + 1)) (hi : i < 256) (hz : z = nI 19) (h : post (x_byteCount, x_wrongPlace, x_at, x_frameCount, x_kindCount, nI i, x_activeCount, x_goesOn, x_outcome, x_resultValue, x_trapPlace, x_fuelUsed, x_firstWaiting, x_waitingCount, x_printCount, x_code, x_facts, x_partner, x_loaded, vp_updL x_globals (s * 3 + x) (x_values i), x_memories, x_frameAt, x_frameHeight, x_frameResult, x_frameDead, x_kinds, x_values, x_variables, x_activeSlot, x_activeGives, x_activeFrame, x_activeResume, x_waiting, x_prints)) : wpX_runSimple post (x_byteCount, x_wrongPlace, x_at, x_frameCount, x_kindCount, x_valueCount, x_activeCount, x_goesOn, x_outcome, x_resultValue, x_trapPlace, x_fuelUsed, x_firstWaiting, x_waitingCount, x_printCount, x_code, x_facts, x_partner, x_loaded, x_globals, x_memories, x_frameAt, x_frameHeight, x_frameResult, x_frameDead, x_kinds, x_values, x_variables, x_activeSlot, x_activeGives, x_activeFrame, x_activeResume, x_waiting, x_prints) (nI s) z (nI x) := by
  subst hz
  have e3 : x % 3 = x := Nat.mod_eq_of_lt hx
  exact xs_pre ha ea (by omega) (pk_lt 19 13 (fun y => absurd y (by omega)) (fun _ => pk_lt 19 19 (fun y => absurd y (by omega)) (fun _ => pk_eq 19 13 (fun y => absurd y (by omega)) (fun _ => pk_eq 19 14 (fun y => absurd y (by omega)) (fun _ => pk_eq 19 15 (fun y => absurd y (by omega)) (fun _ => pk_eq 19 16 (fun y => absurd y (by omega)) (fun _ => pk_eq 19 17 (fun y => absurd y (by omega)) (fun _ => pk_eq 19 18 (fun y => absurd y (by omega)) (fun _ => pk_eq 19 19 (fun _ => r_pop i hi e ⟨pk_in (s * 3 + x % 3) 6 (by omega), nm_r (show _ = vp_updL x_globals (s * 3 + x) (x_values i) from by rw [pk_cl (s * 3 + x % 3), e3]) h⟩) (fun y => absurd y (by omega)))))))))))
theorem xs_20 {c : Nat → Nat} {p : Nat} (kd : Nat) (hkd : kd = 1 ∨ kd = 2) (hs : s < 2) (M : mx_c x_code s c) (hp : p < 140) (eat : x_at = nI p) (hex : ∃ j, j < 10 ∧ c (p + 1 + j) ≤ 127) (ha : a < 10) (ea : x_activeCount = nI (a + 1)) (hx : x < 256) (e : x_valueCount = nI i) (hi : i < 256) (hz : z = nI (kd + 19)) (h : post (x_byteCount, x_wrongPlace, x_at, x_frameCount, x_kindCount, nI (i + 1), x_activeCount, x_goesOn, x_outcome, x_resultValue, x_trapPlace, x_fuelUsed, x_firstWaiting, x_waitingCount, x_printCount, x_code, x_facts, x_partner, x_loaded, x_globals, x_memories, x_frameAt, x_frameHeight, x_frameResult, x_frameDead, x_kinds, vp_updL x_values i (cv c kd 10 (p + 1) 0 0), x_variables, x_activeSlot, x_activeGives, x_activeFrame, x_activeResume, x_waiting, x_prints)) : wpX_runSimple post (x_byteCount, x_wrongPlace, x_at, x_frameCount, x_kindCount, x_valueCount, x_activeCount, x_goesOn, x_outcome, x_resultValue, x_trapPlace, x_fuelUsed, x_firstWaiting, x_waitingCount, x_printCount, x_code, x_facts, x_partner, x_loaded, x_globals, x_memories, x_frameAt, x_frameHeight, x_frameResult, x_frameDead, x_kinds, x_values, x_variables, x_activeSlot, x_activeGives, x_activeFrame, x_activeResume, x_waiting, x_prints) (nI s) z (nI x) := by
  subst hz
  have M' : mx_ok (x_byteCount, x_wrongPlace, x_at, x_frameCount, x_kindCount, x_valueCount, x_activeCount, x_goesOn, x_outcome, x_resultValue, x_trapPlace, x_fuelUsed, x_firstWaiting, x_waitingCount, x_printCount, x_code, x_facts, x_partner, x_loaded, x_globals, x_memories, x_frameAt, x_frameHeight, x_frameResult, x_frameDead, x_kinds, x_values, x_variables, x_activeSlot, x_activeGives, x_activeFrame, x_activeResume, x_waiting, x_prints) s c := M
  have g : wX_runSimple_187 post (nI kd) (x_at + 1) (nI s) x_byteCount x_wrongPlace x_at x_frameCount x_kindCount x_valueCount x_activeCount x_goesOn x_outcome x_resultValue x_trapPlace x_fuelUsed x_firstWaiting x_waitingCount x_printCount x_code x_facts x_partner x_loaded x_globals x_memories x_frameAt x_frameHeight x_frameResult x_frameDead x_kinds x_values x_variables x_activeSlot x_activeGives x_activeFrame x_activeResume x_waiting x_prints := by
    rw [eat, nI_1 p]
    subst eat
    exact xm_const (by omega) M' (p + 1) kd (by omega) (by omega) hex (r_push i hi e h)
  refine xs_pre ha ea hx (pk_lt (kd + 19) 13 (fun y => absurd y (by omega)) (fun _ => pk_lt 19 (kd + 19) (fun _ => pk_eq (kd + 19) 20 (fun y => ?_) (fun y => ?_)) (fun y => absurd y (by omega))))
  · have : kd = 1 := by omega
    subst this; exact g
  · have : kd = 2 := by omega
    subst this; exact g
end
end
section
/-! 47: instructions: stack, variables, globals, constants -/
theorem vk_lt {c : Nat → Nat} {n f x : Nat} (h : vk c n f x ≠ 0) : x < nvf c n f := by
  unfold vk at h
  unfold nvf
  by_cases z : x < c (m_ty c n (c (m_fa c n f)))
  · omega
  · rw [if_neg z] at h
    by_cases z2 : x - c (m_ty c n (c (m_fa c n f))) < c (m_fa c n f + 1)
    · omega
    · rw [if_neg z2] at h; exact absurd rfl h
section
variable {FA FH : Nat → Int32} {V VR : Nat → Int64} {AS AG AF : Nat → Int32} {ST : Nat → Int64} {LA LH LG CM CF CB CS CL : Nat → Int32} {s f nv g p p' k x : Nat} {v : Int64} {X E0 : List ev} {L : Nat → Int64} {F : List vt_Fr} {R : List ac}
theorem xa_v (h : xa_ok FA FH V VR AS AG AF ((s, f, nv, g, p, X ++ E0, L, F) :: R)) (h6 : ∀ a, a ∈ R → a.2.2.1 ≤ 6) : xa_ok FA FH V (vp_updL VR (R.length * 6 + x) v) AS AG AF ((s, f, nv, g, p', E0, vp_updL L x v, F) :: R) := by
  obtain ⟨h1, h2, h3, h4, h5, h6', h7⟩ := h
  refine ⟨el_app X E0 h1, fun j hj => ?_, h3, h4, h5, h6', xa_ext R h7 (fun _ _ => rfl) (fun _ _ => rfl) (fun _ _ => rfl) (fun j hj => pk_uLn (by omega)) (fun _ _ => rfl) (fun _ _ => rfl) (fun _ _ => rfl) h6⟩
  by_cases z : j = x
  · subst z; rw [pk_uLs, pk_uLs]
  · rw [pk_uLn (by omega), pk_uLn z]; exact h2 j hj
theorem ya_v (h : ya_ok ST LA LH LG CM CF CB CS CL ((s, f, nv, g, p, X ++ E0, L, F) :: R)) (hx : x < nv) : ya_ok (vp_updL ST (yb R + x) v) LA LH LG CM CF CB CS CL ((s, f, nv, g, p', E0, vp_updL L x v, F) :: R) := by
  obtain ⟨h1, h2, h3, h5, h6, h7, h8, h9, h10⟩ := h
  refine ⟨el_ext E0 (el_app X E0 h1) (fun j a b => pk_uLn (by omega)), fun j hj => ?_, h3, h5, h6, h7, h8, h9, ya_ext R h10 (fun j hj => pk_uLn (by omega)) (fun _ _ => rfl) (fun _ _ => rfl) (fun _ _ => rfl) (fun _ _ => rfl) (fun _ _ => rfl) (fun _ _ => rfl) (fun _ _ => rfl) (fun _ _ => rfl)⟩
  by_cases z : j = x
  · subst z; rw [pk_uLs, pk_uLs]
  · rw [pk_uLn (by omega), pk_uLn z]; exact h2 j hj
theorem sx_upd {B : Nat → Bool} {C : Nat → Nat → Nat} {N : Nat → Nat} {PP : Nat → Nat → Nat} {pend : Nat} {E : List ev} (AO : a_ok B C N PP pend s f nv g p E L F) (hv : vk (C s) (N s) f x = 1 → sx64 v) : ∀ j, j < nv → vk (C s) (N s) f j = 1 → sx64 (vp_updL L x v j) := by
  intro j hj h1
  by_cases z : j = x
  · subst z; rw [pk_uLs]; exact hv h1
  · rw [pk_uLn z]; exact AO.2.2.2.2.2.2.2.2.2.2.2.2.2.1 j hj h1
end
section
variable {x_byteCount x_wrongPlace x_at x_frameCount x_kindCount x_valueCount x_activeCount x_goesOn x_outcome x_trapPlace x_fuelUsed x_firstWaiting x_waitingCount x_printCount : Int32} {x_resultValue : Int64} {x_code x_facts x_partner x_loaded x_memories x_frameAt x_frameHeight x_frameResult x_frameDead x_kinds x_activeSlot x_activeGives x_activeFrame x_activeResume x_waiting x_prints : Nat → Int32} {x_globals x_values x_variables : Nat → Int64}
variable {y_count y_place y_m y_pos y_wrong y_least y_top y_frames y_invalid y_sp y_labels y_active y_fuel y_outcome y_trappedAt y_used y_waits y_printed : Int32} {y_constant y_result : Int64} {y_bytes y_there y_types y_typeSig y_imports y_functions y_sig y_what y_typeAt y_localsAt y_globals y_globalKind y_globalFree y_entries y_entriesAt y_hasMemory y_memory y_nest y_kinds y_shape y_gives y_height y_dead y_labelAt y_labelHeight y_labelGives y_callModule y_callFunction y_callBack y_callBase y_callLabels y_waiting y_prints : Nat → Int32} {y_globalValue y_stack : Nat → Int64}
variable {B : Nat → Bool} {C : Nat → Nat → Nat} {N : Nat → Nat} {PP : Nat → Nat → Nat} {n : Nat} {cd : Nat → Nat} {g0 fu s f nv g p : Nat} {E : List ev} {L : Nat → Int64} {F : List vt_Fr} {R : List ac}
variable {post : SX → Prop}
theorem y_dat {post : Int32 → SY → Prop} {pos wr : Int32} {k : Int64} {m : Nat} {c : Nat → Nat} {n' : Nat} (Q : cq_ok y_m y_bytes m c n') (hp : p < n') (h66 : c p ≤ 66) (hR : rd_R c n' (c p) (true, p + 1) = (true, nx c p)) (hop : 12 < c p)
    (h : ∀ k' x, (p + 1 < n' → x = nI (c (p + 1))) → (c p = 20 ∨ c p = 21 → k' = cv c (c p - 19) 10 (p + 1) 0 0) → wpY_data (fun u => match u with | (y_count, y_place, y_m, y_pos, y_wrong, y_constant, y_least, y_top, y_frames, y_invalid, y_sp, y_labels, y_active, y_fuel, y_outcome, y_trappedAt, y_result, y_used, y_waits, y_printed, y_bytes, y_there, y_types, y_typeSig, y_imports, y_functions, y_sig, y_what, y_typeAt, y_localsAt, y_globals, y_globalKind, y_globalFree, y_globalValue, y_entries, y_entriesAt, y_hasMemory, y_memory, y_nest, y_kinds, y_shape, y_gives, y_height, y_dead, y_stack, y_labelAt, y_labelHeight, y_labelGives, y_callModule, y_callFunction, y_callBack, y_callBase, y_callLabels, y_waiting, y_prints) => post (nI (nx c p)) (y_count, y_place, y_m, y_pos, y_wrong, y_constant, y_least, y_top, y_frames, y_invalid, y_sp, y_labels, y_active, y_fuel, y_outcome, y_trappedAt, y_result, y_used, y_waits, y_printed, y_bytes, y_there, y_types, y_typeSig, y_imports, y_functions, y_sig, y_what, y_typeAt, y_localsAt, y_globals, y_globalKind, y_globalFree, y_globalValue, y_entries, y_entriesAt, y_hasMemory, y_memory, y_nest, y_kinds, y_shape, y_gives, y_height, y_dead, y_stack, y_labelAt, y_labelHeight, y_labelGives, y_callModule, y_callFunction, y_callBack, y_callBase, y_callLabels, y_waiting, y_prints)) (y_count, y_place, y_m, nI (nx c p), 0, k', y_least, y_top, y_frames, y_invalid, y_sp, y_labels, y_active, y_fuel, y_outcome, y_trappedAt, y_result, y_used, y_waits, y_printed, y_bytes, y_there, y_types, y_typeSig, y_imports, y_functions, y_sig, y_what, y_typeAt, y_localsAt, y_globals, y_globalKind, y_globalFree, y_globalValue, y_entries, y_entriesAt, y_hasMemory, y_memory, y_nest, y_kinds, y_shape, y_gives, y_height, y_dead, y_stack, y_labelAt, y_labelHeight, y_labelGives, y_callModule, y_callFunction, y_callBack, y_callBase, y_callLabels, y_waiting, y_prints) (nI (c p)) x (nI p)) : wpY_step post (y_count, y_place, y_m, pos, wr, k, y_least, y_top, y_frames, y_invalid, y_sp, y_labels, y_active, y_fuel, y_outcome, y_trappedAt, y_result, y_used, y_waits, y_printed, y_bytes, y_there, y_types, y_typeSig, y_imports, y_functions, y_sig, y_what, y_typeAt, y_localsAt, y_globals, y_globalKind, y_globalFree, y_globalValue, y_entries, y_entriesAt, y_hasMemory, y_memory, y_nest, y_kinds, y_shape, y_gives, y_height, y_dead, y_stack, y_labelAt, y_labelHeight, y_labelGives, y_callModule, y_callFunction, y_callBack, y_callBase, y_callLabels, y_waiting, y_prints) (nI p) :=
  y_pre Q hp (fun x z hx hin hv => y_21 Q hp h66 hR hin (fun k' hk' => pk_lt (c p) 0 (fun y => absurd y (by omega)) (fun _ => pk_lt 12 (c p) (fun _ => h k' _ (fun q => by rw [hv]; exact (hx q).1) hk') (fun y => absurd y (by omega)))))
theorem op_13 (W : wo_ok B C N PP n cd x_byteCount x_wrongPlace x_firstWaiting x_waitingCount x_printCount x_code x_facts x_partner x_loaded x_globals x_memories x_waiting x_prints y_count y_place y_waits y_printed y_bytes y_there y_types y_typeSig y_imports y_functions y_sig y_what y_localsAt y_globals y_globalValue y_entries y_entriesAt y_hasMemory y_memory y_waiting y_prints) (hfu : fu ≤ 120) (hR : R.length < 10) (AO : a_ok B C N PP 0 s f nv g p E L F) (CR : ch_ok B C N PP g0 g R) (XA : xa_ok x_frameAt x_frameHeight x_values x_variables x_activeSlot x_activeGives x_activeFrame ((s, f, nv, g, p, E, L, F) :: R)) (AR : ar_ok x_activeResume R) (YA : ya_ok y_stack y_labelAt y_labelHeight y_labelGives y_callModule y_callFunction y_callBack y_callBase y_callLabels ((s, f, nv, g, p, E, L, F) :: R)) (hop : C s p = 13) (h : ∀ u' v' q, nxt B C N PP n cd g0 (mu ((s, f, nv, g, p, E, L, F) :: R) fu) u' v' q → ystep (y_count, y_place, nI s, y_pos, y_wrong, y_constant, y_least, y_top, y_frames, y_invalid, nI (yb R + nv + E.length), nI (fb R + F.length), nI (R.length + 1), nI (120 - fu), 0, -1, y_result, y_used, y_waits, y_printed, y_bytes, y_there, y_types, y_typeSig, y_imports, y_functions, y_sig, y_what, y_typeAt, y_localsAt, y_globals, y_globalKind, y_globalFree, y_globalValue, y_entries, y_entriesAt, y_hasMemory, y_memory, y_nest, y_kinds, y_shape, y_gives, y_height, y_dead, y_stack, y_labelAt, y_labelHeight, y_labelGives, y_callModule, y_callFunction, y_callBack, y_callBase, y_callLabels, y_waiting, y_prints) v' (nI p) q → post u') : wpX_step post (x_byteCount, x_wrongPlace, nI p, nI (fb R + F.length), x_kindCount, nI (vb R + E.length), nI (R.length + 1), x_goesOn, -1, 0, -1, nI fu, x_firstWaiting, x_waitingCount, x_printCount, x_code, x_facts, x_partner, x_loaded, x_globals, x_memories, x_frameAt, x_frameHeight, x_frameResult, x_frameDead, x_kinds, x_values, x_variables, x_activeSlot, x_activeGives, x_activeFrame, x_activeResume, x_waiting, x_prints) := by
  obtain ⟨sm, mp, hN, M, Q, ⟨k, wkk⟩, eS, b1, b2, b3, b4, hs, hpn, h66, hRd, htv, hE20, hh, hd, hnv, hp⟩ := op_f W hfu hR AO CR XA AR YA
  obtain ⟨ok, okn⟩ := wk_s wkk
  have hv : v_st (C s) (N s) f p (ek E, F, false) = vt_pl 0 (ek E, F, false) := by unfold v_st; rw [hop]; rfl
  rw [hv] at ok
  obtain ⟨x, v, E', rfl, hh', _, e1, hx0, hx1, htv', _⟩ := pe ok hd htv hh
  simp only [List.length_cons] at hE20
  have AO' := a_nx (X := [(x, v)]) (X' := []) (E0 := E') AO hN hh' (hv.trans e1) htv' (by show E'.length ≤ 20; omega) AO.2.2.2.2.2.2.2.2.2.2.2.2.2.1
  refine r_simple hs M hp hR rfl eS rfl (by omega) (by omega) ?_
  refine xs_13 hR rfl (M.2.1 _) (i := vb R + E'.length) rfl (by omega) (by rw [hop]) ?_
  refine r_140 rfl ?_
  refine h _ (y_count, y_place, nI s, y_pos, y_wrong, y_constant, y_least, y_top, y_frames, y_invalid, nI (yb R + nv + E'.length), nI (fb R + F.length), nI (R.length + 1), nI (120 - fu), 0, -1, y_result, y_used, y_waits, y_printed, y_bytes, y_there, y_types, y_typeSig, y_imports, y_functions, y_sig, y_what, y_typeAt, y_localsAt, y_globals, y_globalKind, y_globalFree, y_globalValue, y_entries, y_entriesAt, y_hasMemory, y_memory, y_nest, y_kinds, y_shape, y_gives, y_height, y_dead, y_stack, y_labelAt, y_labelHeight, y_labelGives, y_callModule, y_callFunction, y_callBack, y_callBase, y_callLabels, y_waiting, y_prints) (nI (nx (C s) p)) (fin_c W hfu hR AO'.1 CR (xa_0 (X := [(x, v)]) XA) AR (ya_0 (X := [(x, v)]) YA) (mu_s AO'.2 (by omega))) (fun QQ hQ a w kk => ?_)
  show wpY_step QQ (y_count, y_place, nI s, a, w, kk, y_least, y_top, y_frames, y_invalid, nI (yb R + nv + E'.length + 1), nI (fb R + F.length), nI (R.length + 1), nI (120 - fu), 0, -1, y_result, y_used, y_waits, y_printed, y_bytes, y_there, y_types, y_typeSig, y_imports, y_functions, y_sig, y_what, y_typeAt, y_localsAt, y_globals, y_globalKind, y_globalFree, y_globalValue, y_entries, y_entriesAt, y_hasMemory, y_memory, y_nest, y_kinds, y_shape, y_gives, y_height, y_dead, y_stack, y_labelAt, y_labelHeight, y_labelGives, y_callModule, y_callFunction, y_callBack, y_callBase, y_callLabels, y_waiting, y_prints) (nI p)
  refine y_dat Q hpn h66 hRd (by omega) (fun k' x1 hx hk => ?_)
  exact yd_13 hR rfl YA.2.2.2.2.2.1 rfl (by omega) (by rw [hop]) (hQ _ _ _)
theorem op_14 (W : wo_ok B C N PP n cd x_byteCount x_wrongPlace x_firstWaiting x_waitingCount x_printCount x_code x_facts x_partner x_loaded x_globals x_memories x_waiting x_prints y_count y_place y_waits y_printed y_bytes y_there y_types y_typeSig y_imports y_functions y_sig y_what y_localsAt y_globals y_globalValue y_entries y_entriesAt y_hasMemory y_memory y_waiting y_prints) (hfu : fu ≤ 120) (hR : R.length < 10) (AO : a_ok B C N PP 0 s f nv g p E L F) (CR : ch_ok B C N PP g0 g R) (XA : xa_ok x_frameAt x_frameHeight x_values x_variables x_activeSlot x_activeGives x_activeFrame ((s, f, nv, g, p, E, L, F) :: R)) (AR : ar_ok x_activeResume R) (YA : ya_ok y_stack y_labelAt y_labelHeight y_labelGives y_callModule y_callFunction y_callBack y_callBase y_callLabels ((s, f, nv, g, p, E, L, F) :: R)) (hop : C s p = 14) (h : ∀ u' v' q, nxt B C N PP n cd g0 (mu ((s, f, nv, g, p, E, L, F) :: R) fu) u' v' q → ystep (y_count, y_place, nI s, y_pos, y_wrong, y_constant, y_least, y_top, y_frames, y_invalid, nI (yb R + nv + E.length), nI (fb R + F.length), nI (R.length + 1), nI (120 - fu), 0, -1, y_result, y_used, y_waits, y_printed, y_bytes, y_there, y_types, y_typeSig, y_imports, y_functions, y_sig, y_what, y_typeAt, y_localsAt, y_globals, y_globalKind, y_globalFree, y_globalValue, y_entries, y_entriesAt, y_hasMemory, y_memory, y_nest, y_kinds, y_shape, y_gives, y_height, y_dead, y_stack, y_labelAt, y_labelHeight, y_labelGives, y_callModule, y_callFunction, y_callBack, y_callBase, y_callLabels, y_waiting, y_prints) v' (nI p) q → post u') : wpX_step post (x_byteCount, x_wrongPlace, nI p, nI (fb R + F.length), x_kindCount, nI (vb R + E.length), nI (R.length + 1), x_goesOn, -1, 0, -1, nI fu, x_firstWaiting, x_waitingCount, x_printCount, x_code, x_facts, x_partner, x_loaded, x_globals, x_memories, x_frameAt, x_frameHeight, x_frameResult, x_frameDead, x_kinds, x_values, x_variables, x_activeSlot, x_activeGives, x_activeFrame, x_activeResume, x_waiting, x_prints) := by
  obtain ⟨sm, mp, hN, M, Q, ⟨k, wkk⟩, eS, b1, b2, b3, b4, hs, hpn, h66, hRd, htv, hE20, hh, hd, hnv, hp⟩ := op_f W hfu hR AO CR XA AR YA
  obtain ⟨ok, okn⟩ := wk_s wkk
  have hv : v_st (C s) (N s) f p (ek E, F, false) = vt_sel (ek E, F, false) := by unfold v_st; rw [hop]; rfl
  rw [hv] at ok
  unfold vt_sel at hv ok
  have o3 := bf_gv ok
  have o2 := bf_pl o3
  have o1 := bf_pl o2
  obtain ⟨x0, v0, E1, rfl, hh1, hx0, e1, _, _, htv1, _⟩ := pe o1 hd htv hh
  rw [e1] at ok o2 o3 hv
  obtain ⟨x1, v1, E2, rfl, hh2, _, e2, hn1, ht1, htv2, p2⟩ := pe o2 hd htv1 hh1
  rw [e2, p2] at ok o3 hv
  obtain ⟨x2, v2, E3, rfl, hh3, hx2, e3, hn2, ht2, htv3, p3⟩ := pe o3 hd htv2 hh2
  have hx2' := hx2 hn1
  subst hx2'
  rw [if_neg hn2, e3] at ok hv
  obtain ⟨hl, e4⟩ := ge ok
  rw [e4] at hv
  rw [ek_len] at hl
  simp only [List.length_cons] at hE20
  have AO' := fun v (hvx : x2 = 1 → sx64 v) => a_nx (X := [(x0, v0), (x2, v1), (x2, v2)]) (X' := [(x2, v)]) (E0 := E3) AO hN hh3 hv ⟨hn2, hvx, htv3⟩ (by show E3.length + 1 ≤ 20; omega) AO.2.2.2.2.2.2.2.2.2.2.2.2.2.1
  obtain ⟨q0, q1, q2, q3⟩ := XA.1
  obtain ⟨r0, r1, r2, r3⟩ := YA.1
  refine r_simple hs M hp hR rfl eS rfl (by omega) (by omega) ?_
  refine xs_14 hR rfl (M.2.1 _) (i := vb R + E3.length) rfl (by omega) (by rw [hop]) (fun z => ?_) (fun z => ?_)
  · have z' : v0 = 0 := by rw [← z]; exact q0.symm
    rw [show x_values (vb R + E3.length + 1) = v1 from q1]
    refine r_140 rfl ?_
    refine h _ (y_count, y_place, nI s, y_pos, y_wrong, y_constant, y_least, y_top, y_frames, y_invalid, nI (yb R + nv + E3.length + 1), nI (fb R + F.length), nI (R.length + 1), nI (120 - fu), 0, -1, y_result, y_used, y_waits, y_printed, y_bytes, y_there, y_types, y_typeSig, y_imports, y_functions, y_sig, y_what, y_typeAt, y_localsAt, y_globals, y_globalKind, y_globalFree, y_globalValue, y_entries, y_entriesAt, y_hasMemory, y_memory, y_nest, y_kinds, y_shape, y_gives, y_height, y_dead, vp_updL y_stack (yb R + nv + E3.length) v1, y_labelAt, y_labelHeight, y_labelGives, y_callModule, y_callFunction, y_callBack, y_callBase, y_callLabels, y_waiting, y_prints) (nI (nx (C s) p)) (fin_c W hfu hR (AO' v1 ht1).1 CR (xa_1 (X := [(x0, v0), (x2, v1), (x2, v2)]) XA b4) AR (ya_1 (X := [(x0, v0), (x2, v1), (x2, v2)]) YA) (mu_s (AO' v1 ht1).2 (by omega))) (fun QQ hQ a w kk => ?_)
    show wpY_step QQ (y_count, y_place, nI s, a, w, kk, y_least, y_top, y_frames, y_invalid, nI (yb R + nv + E3.length + 3), nI (fb R + F.length), nI (R.length + 1), nI (120 - fu), 0, -1, y_result, y_used, y_waits, y_printed, y_bytes, y_there, y_types, y_typeSig, y_imports, y_functions, y_sig, y_what, y_typeAt, y_localsAt, y_globals, y_globalKind, y_globalFree, y_globalValue, y_entries, y_entriesAt, y_hasMemory, y_memory, y_nest, y_kinds, y_shape, y_gives, y_height, y_dead, y_stack, y_labelAt, y_labelHeight, y_labelGives, y_callModule, y_callFunction, y_callBack, y_callBase, y_callLabels, y_waiting, y_prints) (nI p)
    refine y_dat Q hpn h66 hRd (by omega) (fun k' x1 hx hk => ?_)
    refine yd_14 hR rfl YA.2.2.2.2.2.1 rfl (by omega) (by rw [hop]) (fun z2 => ?_) (fun z2 => absurd (show y_stack (yb R + nv + E3.length + 2) = 0 from r0.trans z') z2)
    rw [show y_stack (yb R + nv + E3.length + 1) = v1 from r1]
    exact hQ _ _ _
  · have z' : ¬ v0 = 0 := fun y => z (q0.trans y)
    rw [show x_values (vb R + E3.length) = v2 from q2]
    refine r_140 rfl ?_
    refine h _ (y_count, y_place, nI s, y_pos, y_wrong, y_constant, y_least, y_top, y_frames, y_invalid, nI (yb R + nv + E3.length + 1), nI (fb R + F.length), nI (R.length + 1), nI (120 - fu), 0, -1, y_result, y_used, y_waits, y_printed, y_bytes, y_there, y_types, y_typeSig, y_imports, y_functions, y_sig, y_what, y_typeAt, y_localsAt, y_globals, y_globalKind, y_globalFree, y_globalValue, y_entries, y_entriesAt, y_hasMemory, y_memory, y_nest, y_kinds, y_shape, y_gives, y_height, y_dead, y_stack, y_labelAt, y_labelHeight, y_labelGives, y_callModule, y_callFunction, y_callBack, y_callBase, y_callLabels, y_waiting, y_prints) (nI (nx (C s) p)) (fin_c W hfu hR (AO' v2 ht2).1 CR (xa_1 (X := [(x0, v0), (x2, v1), (x2, v2)]) XA b4) AR (ya_2 (X := [(x0, v0), (x2, v1), (x2, v2)]) YA r2) (mu_s (AO' v2 ht2).2 (by omega))) (fun QQ hQ a w kk => ?_)
    show wpY_step QQ (y_count, y_place, nI s, a, w, kk, y_least, y_top, y_frames, y_invalid, nI (yb R + nv + E3.length + 3), nI (fb R + F.length), nI (R.length + 1), nI (120 - fu), 0, -1, y_result, y_used, y_waits, y_printed, y_bytes, y_there, y_types, y_typeSig, y_imports, y_functions, y_sig, y_what, y_typeAt, y_localsAt, y_globals, y_globalKind, y_globalFree, y_globalValue, y_entries, y_entriesAt, y_hasMemory, y_memory, y_nest, y_kinds, y_shape, y_gives, y_height, y_dead, y_stack, y_labelAt, y_labelHeight, y_labelGives, y_callModule, y_callFunction, y_callBack, y_callBase, y_callLabels, y_waiting, y_prints) (nI p)
    refine y_dat Q hpn h66 hRd (by omega) (fun k' x1 hx hk => ?_)
    exact yd_14 hR rfl YA.2.2.2.2.2.1 rfl (by omega) (by rw [hop]) (fun z2 => absurd (r0.symm.trans z2) z') (fun z2 => hQ _ _ _)
end
end
section
/-! 48: instructions: variables, globals, constants -/
section
variable {x_byteCount x_wrongPlace x_at x_frameCount x_kindCount x_valueCount x_activeCount x_goesOn x_outcome x_trapPlace x_fuelUsed x_firstWaiting x_waitingCount x_printCount : Int32} {x_resultValue : Int64} {x_code x_facts x_partner x_loaded x_memories x_frameAt x_frameHeight x_frameResult x_frameDead x_kinds x_activeSlot x_activeGives x_activeFrame x_activeResume x_waiting x_prints : Nat → Int32} {x_globals x_values x_variables : Nat → Int64}
variable {y_count y_place y_m y_pos y_wrong y_least y_top y_frames y_invalid y_sp y_labels y_active y_fuel y_outcome y_trappedAt y_used y_waits y_printed : Int32} {y_constant y_result : Int64} {y_bytes y_there y_types y_typeSig y_imports y_functions y_sig y_what y_typeAt y_localsAt y_globals y_globalKind y_globalFree y_entries y_entriesAt y_hasMemory y_memory y_nest y_kinds y_shape y_gives y_height y_dead y_labelAt y_labelHeight y_labelGives y_callModule y_callFunction y_callBack y_callBase y_callLabels y_waiting y_prints : Nat → Int32} {y_globalValue y_stack : Nat → Int64}
variable {B : Nat → Bool} {C : Nat → Nat → Nat} {N : Nat → Nat} {PP : Nat → Nat → Nat} {n : Nat} {cd : Nat → Nat} {g0 fu s f nv g p : Nat} {E : List ev} {L : Nat → Int64} {F : List vt_Fr} {R : List ac}
variable {post : SX → Prop}
theorem wo_g {x : Nat} {v : Int64} (W : wo_ok B C N PP n cd x_byteCount x_wrongPlace x_firstWaiting x_waitingCount x_printCount x_code x_facts x_partner x_loaded x_globals x_memories x_waiting x_prints y_count y_place y_waits y_printed y_bytes y_there y_types y_typeSig y_imports y_functions y_sig y_what y_localsAt y_globals y_globalValue y_entries y_entriesAt y_hasMemory y_memory y_waiting y_prints) (hs : s < 2) (hB : B s = true) (hx : x < 3) (hg : ∀ s, s < 2 → B s = true → C s (m_pG (C s) (N s)) ≤ 3) (hv : C s (m_ga (C s) (N s) x) = 1 → sx64 v) :
    wo_ok B C N PP n cd x_byteCount x_wrongPlace x_firstWaiting x_waitingCount x_printCount x_code x_facts x_partner x_loaded (vp_updL x_globals (s * 3 + x) v) x_memories x_waiting x_prints y_count y_place y_waits y_printed y_bytes y_there y_types y_typeSig y_imports y_functions y_sig y_what y_localsAt y_globals (vp_updL y_globalValue (3 * s + x) v) y_entries y_entriesAt y_hasMemory y_memory y_waiting y_prints := by
  obtain ⟨w1, w2, w3, w4, w5, w6, w7, w8, w9, w10, w11, w12⟩ := W
  refine ⟨w1, w2, w3, w4, w5, w6, w7, w8, w9, w10, w11, fun s' hs' hB' => ?_⟩
  obtain ⟨d1, d2⟩ := w12 s' hs' hB'
  refine ⟨fun g' hg' => ?_, d2⟩
  have h3 := hg s' hs' hB'
  by_cases z : s' = s ∧ g' = x
  · obtain ⟨z1, z2⟩ := z
    subst z1 z2
    rw [pk_uLs, pk_uLs]
    exact ⟨rfl, hv⟩
  · rw [pk_uLn (by omega), pk_uLn (by omega)]
    exact d1 g' hg'
theorem op_15 (W : wo_ok B C N PP n cd x_byteCount x_wrongPlace x_firstWaiting x_waitingCount x_printCount x_code x_facts x_partner x_loaded x_globals x_memories x_waiting x_prints y_count y_place y_waits y_printed y_bytes y_there y_types y_typeSig y_imports y_functions y_sig y_what y_localsAt y_globals y_globalValue y_entries y_entriesAt y_hasMemory y_memory y_waiting y_prints) (hfu : fu ≤ 120) (hR : R.length < 10) (AO : a_ok B C N PP 0 s f nv g p E L F) (CR : ch_ok B C N PP g0 g R) (XA : xa_ok x_frameAt x_frameHeight x_values x_variables x_activeSlot x_activeGives x_activeFrame ((s, f, nv, g, p, E, L, F) :: R)) (AR : ar_ok x_activeResume R) (YA : ya_ok y_stack y_labelAt y_labelHeight y_labelGives y_callModule y_callFunction y_callBack y_callBase y_callLabels ((s, f, nv, g, p, E, L, F) :: R)) (hop : C s p = 15) (h : ∀ u' v' q, nxt B C N PP n cd g0 (mu ((s, f, nv, g, p, E, L, F) :: R) fu) u' v' q → ystep (y_count, y_place, nI s, y_pos, y_wrong, y_constant, y_least, y_top, y_frames, y_invalid, nI (yb R + nv + E.length), nI (fb R + F.length), nI (R.length + 1), nI (120 - fu), 0, -1, y_result, y_used, y_waits, y_printed, y_bytes, y_there, y_types, y_typeSig, y_imports, y_functions, y_sig, y_what, y_typeAt, y_localsAt, y_globals, y_globalKind, y_globalFree, y_globalValue, y_entries, y_entriesAt, y_hasMemory, y_memory, y_nest, y_kinds, y_shape, y_gives, y_height, y_dead, y_stack, y_labelAt, y_labelHeight, y_labelGives, y_callModule, y_callFunction, y_callBack, y_callBase, y_callLabels, y_waiting, y_prints) v' (nI p) q → post u') : wpX_step post (x_byteCount, x_wrongPlace, nI p, nI (fb R + F.length), x_kindCount, nI (vb R + E.length), nI (R.length + 1), x_goesOn, -1, 0, -1, nI fu, x_firstWaiting, x_waitingCount, x_printCount, x_code, x_facts, x_partner, x_loaded, x_globals, x_memories, x_frameAt, x_frameHeight, x_frameResult, x_frameDead, x_kinds, x_values, x_variables, x_activeSlot, x_activeGives, x_activeFrame, x_activeResume, x_waiting, x_prints) := by
  obtain ⟨sm, mp, hN, M, Q, ⟨k, wkk⟩, eS, b1, b2, b3, b4, hs, hpn, h66, hRd, htv, hE20, hh, hd, hnv, hp⟩ := op_f W hfu hR AO CR XA AR YA
  obtain ⟨ok, okn⟩ := wk_s wkk
  have enx : nx (C s) p = p + 2 := nx_2 (by rw [hop]; decide)
  have hn2 := (wk_n wkk).2.2.1
  have hv : v_st (C s) (N s) f p (ek E, F, false) = vt_gv (vk (C s) (N s) f (C s (p + 1))) (vt_bad (ek E, F, false) (decide (vk (C s) (N s) f (C s (p + 1)) = 0))) := by unfold v_st; rw [hop]; rfl
  rw [hv] at ok
  have o1 := bf_bad (bf_gv ok)
  have hk0 : vk (C s) (N s) f (C s (p + 1)) ≠ 0 := of_decide_eq_false o1.2
  rw [o1.2, vb_f] at ok hv
  obtain ⟨hl, e4⟩ := ge ok
  rw [e4] at hv
  rw [ek_len] at hl
  have hxv : C s (p + 1) < nv := by rw [AO.2.2.2.2.1.1]; exact vk_lt hk0
  have AO' := a_nx (X := []) (X' := [(vk (C s) (N s) f (C s (p + 1)), L (C s (p + 1)))]) (E0 := E) AO hN hh hv ⟨hk0, AO.2.2.2.2.2.2.2.2.2.2.2.2.2.1 _ hxv, htv⟩ (by show E.length + 1 ≤ 20; omega) AO.2.2.2.2.2.2.2.2.2.2.2.2.2.1
  refine r_simple hs M hp hR rfl eS rfl (by omega) (by omega) ?_
  refine xs_15 hR rfl (by omega) (i := vb R + E.length) rfl (by omega) (by rw [hop]) ?_
  rw [XA.2.1 _ hxv]
  refine r_140 rfl ?_
  refine h _ (y_count, y_place, nI s, y_pos, y_wrong, y_constant, y_least, y_top, y_frames, y_invalid, nI (yb R + nv + E.length + 1), nI (fb R + F.length), nI (R.length + 1), nI (120 - fu), 0, -1, y_result, y_used, y_waits, y_printed, y_bytes, y_there, y_types, y_typeSig, y_imports, y_functions, y_sig, y_what, y_typeAt, y_localsAt, y_globals, y_globalKind, y_globalFree, y_globalValue, y_entries, y_entriesAt, y_hasMemory, y_memory, y_nest, y_kinds, y_shape, y_gives, y_height, y_dead, vp_updL y_stack (yb R + nv + E.length) (L (C s (p + 1))), y_labelAt, y_labelHeight, y_labelGives, y_callModule, y_callFunction, y_callBack, y_callBase, y_callLabels, y_waiting, y_prints) (nI (nx (C s) p)) (fin_c W hfu hR AO'.1 CR (xa_1 (X := []) XA b4) AR (ya_1 (X := []) YA) (mu_s AO'.2 (by omega))) (fun QQ hQ a w kk => ?_)
  show wpY_step QQ (y_count, y_place, nI s, a, w, kk, y_least, y_top, y_frames, y_invalid, nI (yb R + nv + E.length), nI (fb R + F.length), nI (R.length + 1), nI (120 - fu), 0, -1, y_result, y_used, y_waits, y_printed, y_bytes, y_there, y_types, y_typeSig, y_imports, y_functions, y_sig, y_what, y_typeAt, y_localsAt, y_globals, y_globalKind, y_globalFree, y_globalValue, y_entries, y_entriesAt, y_hasMemory, y_memory, y_nest, y_kinds, y_shape, y_gives, y_height, y_dead, y_stack, y_labelAt, y_labelHeight, y_labelGives, y_callModule, y_callFunction, y_callBack, y_callBase, y_callLabels, y_waiting, y_prints) (nI p)
  refine y_dat Q hpn h66 hRd (by omega) (fun k' x1 hx hk => ?_)
  refine yd_15 (C s (p + 1)) hR rfl YA.2.2.2.2.2.1 rfl (by omega) (by omega) (by rw [hop]) (hx (by omega)) ?_
  rw [YA.2.1 _ hxv]
  exact hQ _ _ _
theorem op_16 (W : wo_ok B C N PP n cd x_byteCount x_wrongPlace x_firstWaiting x_waitingCount x_printCount x_code x_facts x_partner x_loaded x_globals x_memories x_waiting x_prints y_count y_place y_waits y_printed y_bytes y_there y_types y_typeSig y_imports y_functions y_sig y_what y_localsAt y_globals y_globalValue y_entries y_entriesAt y_hasMemory y_memory y_waiting y_prints) (hfu : fu ≤ 120) (hR : R.length < 10) (AO : a_ok B C N PP 0 s f nv g p E L F) (CR : ch_ok B C N PP g0 g R) (XA : xa_ok x_frameAt x_frameHeight x_values x_variables x_activeSlot x_activeGives x_activeFrame ((s, f, nv, g, p, E, L, F) :: R)) (AR : ar_ok x_activeResume R) (YA : ya_ok y_stack y_labelAt y_labelHeight y_labelGives y_callModule y_callFunction y_callBack y_callBase y_callLabels ((s, f, nv, g, p, E, L, F) :: R)) (hop : C s p = 16) (h : ∀ u' v' q, nxt B C N PP n cd g0 (mu ((s, f, nv, g, p, E, L, F) :: R) fu) u' v' q → ystep (y_count, y_place, nI s, y_pos, y_wrong, y_constant, y_least, y_top, y_frames, y_invalid, nI (yb R + nv + E.length), nI (fb R + F.length), nI (R.length + 1), nI (120 - fu), 0, -1, y_result, y_used, y_waits, y_printed, y_bytes, y_there, y_types, y_typeSig, y_imports, y_functions, y_sig, y_what, y_typeAt, y_localsAt, y_globals, y_globalKind, y_globalFree, y_globalValue, y_entries, y_entriesAt, y_hasMemory, y_memory, y_nest, y_kinds, y_shape, y_gives, y_height, y_dead, y_stack, y_labelAt, y_labelHeight, y_labelGives, y_callModule, y_callFunction, y_callBack, y_callBase, y_callLabels, y_waiting, y_prints) v' (nI p) q → post u') : wpX_step post (x_byteCount, x_wrongPlace, nI p, nI (fb R + F.length), x_kindCount, nI (vb R + E.length), nI (R.length + 1), x_goesOn, -1, 0, -1, nI fu, x_firstWaiting, x_waitingCount, x_printCount, x_code, x_facts, x_partner, x_loaded, x_globals, x_memories, x_frameAt, x_frameHeight, x_frameResult, x_frameDead, x_kinds, x_values, x_variables, x_activeSlot, x_activeGives, x_activeFrame, x_activeResume, x_waiting, x_prints) := by
  obtain ⟨sm, mp, hN, M, Q, ⟨k, wkk⟩, eS, b1, b2, b3, b4, hs, hpn, h66, hRd, htv, hE20, hh, hd, hnv, hp⟩ := op_f W hfu hR AO CR XA AR YA
  obtain ⟨ok, okn⟩ := wk_s wkk
  have enx : nx (C s) p = p + 2 := nx_2 (by rw [hop]; decide)
  have hn2 := (wk_n wkk).2.2.1
  have hv : v_st (C s) (N s) f p (ek E, F, false) = vt_pl (vk (C s) (N s) f (C s (p + 1))) (vt_bad (ek E, F, false) (decide (vk (C s) (N s) f (C s (p + 1)) = 0))) := by unfold v_st; rw [hop]; rfl
  rw [hv] at ok
  have o1 := bf_bad (bf_pl ok)
  have hk0 : vk (C s) (N s) f (C s (p + 1)) ≠ 0 := of_decide_eq_false o1.2
  rw [o1.2, vb_f] at ok hv
  obtain ⟨x, v, E', rfl, hh', hxk, e1, hx0, hx1, htv', _⟩ := pe ok hd htv hh
  have hxk' := hxk hk0
  have hxv : C s (p + 1) < nv := by rw [AO.2.2.2.2.1.1]; exact vk_lt hk0
  simp only [List.length_cons] at hE20
  have AO' := a_nx (X := [(x, v)]) (X' := []) (E0 := E') AO hN hh' (hv.trans e1) htv' (by show E'.length ≤ 20; omega) (sx_upd (x := C s (p + 1)) (v := v) AO (fun z => hx1 (hxk'.trans z)))
  obtain ⟨q0, q1⟩ := XA.1
  obtain ⟨r0, r1⟩ := YA.1
  refine r_simple hs M hp hR rfl eS rfl (by omega) (by omega) ?_
  refine xs_16 hR rfl (by omega) (i := vb R + E'.length) rfl (by omega) (by rw [hop]) ?_
  rw [show x_values (vb R + E'.length) = v from q0]
  refine r_140 rfl ?_
  refine h _ (y_count, y_place, nI s, y_pos, y_wrong, y_constant, y_least, y_top, y_frames, y_invalid, nI (yb R + nv + E'.length), nI (fb R + F.length), nI (R.length + 1), nI (120 - fu), 0, -1, y_result, y_used, y_waits, y_printed, y_bytes, y_there, y_types, y_typeSig, y_imports, y_functions, y_sig, y_what, y_typeAt, y_localsAt, y_globals, y_globalKind, y_globalFree, y_globalValue, y_entries, y_entriesAt, y_hasMemory, y_memory, y_nest, y_kinds, y_shape, y_gives, y_height, y_dead, vp_updL y_stack (yb R + C s (p + 1)) v, y_labelAt, y_labelHeight, y_labelGives, y_callModule, y_callFunction, y_callBack, y_callBase, y_callLabels, y_waiting, y_prints) (nI (nx (C s) p)) (fin_c W hfu hR AO'.1 CR (xa_v (X := [(x, v)]) XA b4) AR (ya_v (X := [(x, v)]) YA hxv) (mu_s AO'.2 (by omega))) (fun QQ hQ a w kk => ?_)
  show wpY_step QQ (y_count, y_place, nI s, a, w, kk, y_least, y_top, y_frames, y_invalid, nI (yb R + nv + E'.length + 1), nI (fb R + F.length), nI (R.length + 1), nI (120 - fu), 0, -1, y_result, y_used, y_waits, y_printed, y_bytes, y_there, y_types, y_typeSig, y_imports, y_functions, y_sig, y_what, y_typeAt, y_localsAt, y_globals, y_globalKind, y_globalFree, y_globalValue, y_entries, y_entriesAt, y_hasMemory, y_memory, y_nest, y_kinds, y_shape, y_gives, y_height, y_dead, y_stack, y_labelAt, y_labelHeight, y_labelGives, y_callModule, y_callFunction, y_callBack, y_callBase, y_callLabels, y_waiting, y_prints) (nI p)
  refine y_dat Q hpn h66 hRd (by omega) (fun k' x1 hx hk => ?_)
  refine yd_16 (C s (p + 1)) hR rfl YA.2.2.2.2.2.1 rfl (by omega) (by omega) (by rw [hop]) (hx (by omega)) ?_
  rw [show y_stack (yb R + nv + E'.length) = v from r0]
  exact hQ _ _ _
theorem op_17 (W : wo_ok B C N PP n cd x_byteCount x_wrongPlace x_firstWaiting x_waitingCount x_printCount x_code x_facts x_partner x_loaded x_globals x_memories x_waiting x_prints y_count y_place y_waits y_printed y_bytes y_there y_types y_typeSig y_imports y_functions y_sig y_what y_localsAt y_globals y_globalValue y_entries y_entriesAt y_hasMemory y_memory y_waiting y_prints) (hfu : fu ≤ 120) (hR : R.length < 10) (AO : a_ok B C N PP 0 s f nv g p E L F) (CR : ch_ok B C N PP g0 g R) (XA : xa_ok x_frameAt x_frameHeight x_values x_variables x_activeSlot x_activeGives x_activeFrame ((s, f, nv, g, p, E, L, F) :: R)) (AR : ar_ok x_activeResume R) (YA : ya_ok y_stack y_labelAt y_labelHeight y_labelGives y_callModule y_callFunction y_callBack y_callBase y_callLabels ((s, f, nv, g, p, E, L, F) :: R)) (hop : C s p = 17) (h : ∀ u' v' q, nxt B C N PP n cd g0 (mu ((s, f, nv, g, p, E, L, F) :: R) fu) u' v' q → ystep (y_count, y_place, nI s, y_pos, y_wrong, y_constant, y_least, y_top, y_frames, y_invalid, nI (yb R + nv + E.length), nI (fb R + F.length), nI (R.length + 1), nI (120 - fu), 0, -1, y_result, y_used, y_waits, y_printed, y_bytes, y_there, y_types, y_typeSig, y_imports, y_functions, y_sig, y_what, y_typeAt, y_localsAt, y_globals, y_globalKind, y_globalFree, y_globalValue, y_entries, y_entriesAt, y_hasMemory, y_memory, y_nest, y_kinds, y_shape, y_gives, y_height, y_dead, y_stack, y_labelAt, y_labelHeight, y_labelGives, y_callModule, y_callFunction, y_callBack, y_callBase, y_callLabels, y_waiting, y_prints) v' (nI p) q → post u') : wpX_step post (x_byteCount, x_wrongPlace, nI p, nI (fb R + F.length), x_kindCount, nI (vb R + E.length), nI (R.length + 1), x_goesOn, -1, 0, -1, nI fu, x_firstWaiting, x_waitingCount, x_printCount, x_code, x_facts, x_partner, x_loaded, x_globals, x_memories, x_frameAt, x_frameHeight, x_frameResult, x_frameDead, x_kinds, x_values, x_variables, x_activeSlot, x_activeGives, x_activeFrame, x_activeResume, x_waiting, x_prints) := by
  obtain ⟨sm, mp, hN, M, Q, ⟨k, wkk⟩, eS, b1, b2, b3, b4, hs, hpn, h66, hRd, htv, hE20, hh, hd, hnv, hp⟩ := op_f W hfu hR AO CR XA AR YA
  obtain ⟨ok, okn⟩ := wk_s wkk
  have enx : nx (C s) p = p + 2 := nx_2 (by rw [hop]; decide)
  have hn2 := (wk_n wkk).2.2.1
  have hv : v_st (C s) (N s) f p (ek E, F, false) = vt_gv (vk (C s) (N s) f (C s (p + 1))) (vt_pl (vk (C s) (N s) f (C s (p + 1))) (vt_bad (ek E, F, false) (decide (vk (C s) (N s) f (C s (p + 1)) = 0)))) := by unfold v_st; rw [hop]; rfl
  rw [hv] at ok
  have ok2 := bf_gv ok
  have o1 := bf_bad (bf_pl ok2)
  have hk0 : vk (C s) (N s) f (C s (p + 1)) ≠ 0 := of_decide_eq_false o1.2
  rw [o1.2, vb_f] at ok hv ok2
  obtain ⟨x, v, E', rfl, hh', hxk, e1, hx0, hx1, htv', _⟩ := pe ok2 hd htv hh
  have hxk' := hxk hk0
  rw [e1] at ok hv
  obtain ⟨hl, e4⟩ := ge ok
  rw [e4] at hv
  have hxv : C s (p + 1) < nv := by rw [AO.2.2.2.2.1.1]; exact vk_lt hk0
  simp only [List.length_cons] at hE20
  have AO' := a_nx (X := [(x, v)]) (X' := [(vk (C s) (N s) f (C s (p + 1)), v)]) (E0 := E') AO hN hh' hv ⟨hk0, fun z => hx1 (hxk'.trans z), htv'⟩ (by show E'.length + 1 ≤ 20; omega) (sx_upd (x := C s (p + 1)) (v := v) AO (fun z => hx1 (hxk'.trans z)))
  obtain ⟨q0, q1⟩ := XA.1
  obtain ⟨r0, r1⟩ := YA.1
  refine r_simple hs M hp hR rfl eS rfl (by omega) (by omega) ?_
  refine xs_17 hR rfl (by omega) (i := vb R + E'.length) rfl (by omega) (by rw [hop]) ?_
  rw [show x_values (vb R + E'.length) = v from q0]
  refine r_140 rfl ?_
  refine h _ (y_count, y_place, nI s, y_pos, y_wrong, y_constant, y_least, y_top, y_frames, y_invalid, nI (yb R + nv + E'.length + 1), nI (fb R + F.length), nI (R.length + 1), nI (120 - fu), 0, -1, y_result, y_used, y_waits, y_printed, y_bytes, y_there, y_types, y_typeSig, y_imports, y_functions, y_sig, y_what, y_typeAt, y_localsAt, y_globals, y_globalKind, y_globalFree, y_globalValue, y_entries, y_entriesAt, y_hasMemory, y_memory, y_nest, y_kinds, y_shape, y_gives, y_height, y_dead, vp_updL y_stack (yb R + C s (p + 1)) v, y_labelAt, y_labelHeight, y_labelGives, y_callModule, y_callFunction, y_callBack, y_callBase, y_callLabels, y_waiting, y_prints) (nI (nx (C s) p)) (fin_c W hfu hR AO'.1 CR (xa_v (p := p) (X := []) (xa_1 (X := [(x, v)]) XA b4) b4) AR (ya_v (p := p) (X := []) (ya_2 (X := [(x, v)]) YA r0) hxv) (mu_s AO'.2 (by omega))) (fun QQ hQ a w kk => ?_)
  show wpY_step QQ (y_count, y_place, nI s, a, w, kk, y_least, y_top, y_frames, y_invalid, nI (yb R + nv + E'.length + 1), nI (fb R + F.length), nI (R.length + 1), nI (120 - fu), 0, -1, y_result, y_used, y_waits, y_printed, y_bytes, y_there, y_types, y_typeSig, y_imports, y_functions, y_sig, y_what, y_typeAt, y_localsAt, y_globals, y_globalKind, y_globalFree, y_globalValue, y_entries, y_entriesAt, y_hasMemory, y_memory, y_nest, y_kinds, y_shape, y_gives, y_height, y_dead, y_stack, y_labelAt, y_labelHeight, y_labelGives, y_callModule, y_callFunction, y_callBack, y_callBase, y_callLabels, y_waiting, y_prints) (nI p)
  refine y_dat Q hpn h66 hRd (by omega) (fun k' x1 hx hk => ?_)
  refine yd_17 (C s (p + 1)) hR rfl YA.2.2.2.2.2.1 rfl (by omega) (by omega) (by rw [hop]) (hx (by omega)) ?_
  rw [show y_stack (yb R + nv + E'.length) = v from r0]
  exact hQ _ _ _
theorem op_18 (W : wo_ok B C N PP n cd x_byteCount x_wrongPlace x_firstWaiting x_waitingCount x_printCount x_code x_facts x_partner x_loaded x_globals x_memories x_waiting x_prints y_count y_place y_waits y_printed y_bytes y_there y_types y_typeSig y_imports y_functions y_sig y_what y_localsAt y_globals y_globalValue y_entries y_entriesAt y_hasMemory y_memory y_waiting y_prints) (hfu : fu ≤ 120) (hR : R.length < 10) (AO : a_ok B C N PP 0 s f nv g p E L F) (CR : ch_ok B C N PP g0 g R) (XA : xa_ok x_frameAt x_frameHeight x_values x_variables x_activeSlot x_activeGives x_activeFrame ((s, f, nv, g, p, E, L, F) :: R)) (AR : ar_ok x_activeResume R) (YA : ya_ok y_stack y_labelAt y_labelHeight y_labelGives y_callModule y_callFunction y_callBack y_callBase y_callLabels ((s, f, nv, g, p, E, L, F) :: R)) (hop : C s p = 18) (h : ∀ u' v' q, nxt B C N PP n cd g0 (mu ((s, f, nv, g, p, E, L, F) :: R) fu) u' v' q → ystep (y_count, y_place, nI s, y_pos, y_wrong, y_constant, y_least, y_top, y_frames, y_invalid, nI (yb R + nv + E.length), nI (fb R + F.length), nI (R.length + 1), nI (120 - fu), 0, -1, y_result, y_used, y_waits, y_printed, y_bytes, y_there, y_types, y_typeSig, y_imports, y_functions, y_sig, y_what, y_typeAt, y_localsAt, y_globals, y_globalKind, y_globalFree, y_globalValue, y_entries, y_entriesAt, y_hasMemory, y_memory, y_nest, y_kinds, y_shape, y_gives, y_height, y_dead, y_stack, y_labelAt, y_labelHeight, y_labelGives, y_callModule, y_callFunction, y_callBack, y_callBase, y_callLabels, y_waiting, y_prints) v' (nI p) q → post u') : wpX_step post (x_byteCount, x_wrongPlace, nI p, nI (fb R + F.length), x_kindCount, nI (vb R + E.length), nI (R.length + 1), x_goesOn, -1, 0, -1, nI fu, x_firstWaiting, x_waitingCount, x_printCount, x_code, x_facts, x_partner, x_loaded, x_globals, x_memories, x_frameAt, x_frameHeight, x_frameResult, x_frameDead, x_kinds, x_values, x_variables, x_activeSlot, x_activeGives, x_activeFrame, x_activeResume, x_waiting, x_prints) := by
  obtain ⟨sm, mp, hN, M, Q, ⟨k, wkk⟩, eS, b1, b2, b3, b4, hs, hpn, h66, hRd, htv, hE20, hh, hd, hnv, hp⟩ := op_f W hfu hR AO CR XA AR YA
  obtain ⟨ok, okn⟩ := wk_s wkk
  have enx : nx (C s) p = p + 2 := nx_2 (by rw [hop]; decide)
  have hn2 := (wk_n wkk).2.2.1
  have hv0 : v_st (C s) (N s) f p (ek E, F, false) = if C s (p + 1) < C s (m_pG (C s) (N s)) then vt_gv (C s (m_ga (C s) (N s) (C s (p + 1)))) (ek E, F, false) else vt_gv 0 (vt_bad (ek E, F, false) true) := by unfold v_st; rw [hop]; rfl
  have hlt : C s (p + 1) < C s (m_pG (C s) (N s)) := by
    by_cases z : C s (p + 1) < C s (m_pG (C s) (N s))
    · exact z
    · rw [hv0, if_neg z] at ok
      exact ff_t ((vb_t _).symm.trans (bf_gv ok)).symm
  have hv := hv0
  rw [if_pos hlt] at hv
  rw [hv] at ok
  obtain ⟨hl, e4⟩ := ge ok
  rw [e4] at hv
  rw [ek_len] at hl
  obtain ⟨m1, m2, m3, m4, m5, m6, m7, m8, m9⟩ := mp
  have hk := m8 _ hlt
  have hgl := ((W.2.2.2.2.2.2.2.2.2.2.2) s hs AO.2.1).1 _ hlt
  have AO' := a_nx (X := []) (X' := [(C s (m_ga (C s) (N s) (C s (p + 1))), x_globals (s * 3 + C s (p + 1)))]) (E0 := E) AO hN hh hv ⟨by omega, hgl.2, htv⟩ (by show E.length + 1 ≤ 20; omega) AO.2.2.2.2.2.2.2.2.2.2.2.2.2.1
  refine r_simple hs M hp hR rfl eS rfl (by omega) (by omega) ?_
  refine xs_18 hs hR rfl (by omega) (i := vb R + E.length) rfl (by omega) (by rw [hop]) ?_
  refine r_140 rfl ?_
  refine h _ (y_count, y_place, nI s, y_pos, y_wrong, y_constant, y_least, y_top, y_frames, y_invalid, nI (yb R + nv + E.length + 1), nI (fb R + F.length), nI (R.length + 1), nI (120 - fu), 0, -1, y_result, y_used, y_waits, y_printed, y_bytes, y_there, y_types, y_typeSig, y_imports, y_functions, y_sig, y_what, y_typeAt, y_localsAt, y_globals, y_globalKind, y_globalFree, y_globalValue, y_entries, y_entriesAt, y_hasMemory, y_memory, y_nest, y_kinds, y_shape, y_gives, y_height, y_dead, vp_updL y_stack (yb R + nv + E.length) (x_globals (s * 3 + C s (p + 1))), y_labelAt, y_labelHeight, y_labelGives, y_callModule, y_callFunction, y_callBack, y_callBase, y_callLabels, y_waiting, y_prints) (nI (nx (C s) p)) (fin_c W hfu hR AO'.1 CR (xa_1 (X := []) XA b4) AR (ya_1 (X := []) YA) (mu_s AO'.2 (by omega))) (fun QQ hQ a w kk => ?_)
  show wpY_step QQ (y_count, y_place, nI s, a, w, kk, y_least, y_top, y_frames, y_invalid, nI (yb R + nv + E.length), nI (fb R + F.length), nI (R.length + 1), nI (120 - fu), 0, -1, y_result, y_used, y_waits, y_printed, y_bytes, y_there, y_types, y_typeSig, y_imports, y_functions, y_sig, y_what, y_typeAt, y_localsAt, y_globals, y_globalKind, y_globalFree, y_globalValue, y_entries, y_entriesAt, y_hasMemory, y_memory, y_nest, y_kinds, y_shape, y_gives, y_height, y_dead, y_stack, y_labelAt, y_labelHeight, y_labelGives, y_callModule, y_callFunction, y_callBack, y_callBase, y_callLabels, y_waiting, y_prints) (nI p)
  refine y_dat Q hpn h66 hRd (by omega) (fun k' x1 hx hk => ?_)
  refine yd_18 s (C s (p + 1)) hs rfl hR rfl YA.2.2.2.2.2.1 rfl (by omega) (by omega) (by rw [hop]) (hx (by omega)) ?_
  rw [← hgl.1]
  exact hQ _ _ _
theorem op_19 (W : wo_ok B C N PP n cd x_byteCount x_wrongPlace x_firstWaiting x_waitingCount x_printCount x_code x_facts x_partner x_loaded x_globals x_memories x_waiting x_prints y_count y_place y_waits y_printed y_bytes y_there y_types y_typeSig y_imports y_functions y_sig y_what y_localsAt y_globals y_globalValue y_entries y_entriesAt y_hasMemory y_memory y_waiting y_prints) (hfu : fu ≤ 120) (hR : R.length < 10) (AO : a_ok B C N PP 0 s f nv g p E L F) (CR : ch_ok B C N PP g0 g R) (XA : xa_ok x_frameAt x_frameHeight x_values x_variables x_activeSlot x_activeGives x_activeFrame ((s, f, nv, g, p, E, L, F) :: R)) (AR : ar_ok x_activeResume R) (YA : ya_ok y_stack y_labelAt y_labelHeight y_labelGives y_callModule y_callFunction y_callBack y_callBase y_callLabels ((s, f, nv, g, p, E, L, F) :: R)) (hop : C s p = 19) (h : ∀ u' v' q, nxt B C N PP n cd g0 (mu ((s, f, nv, g, p, E, L, F) :: R) fu) u' v' q → ystep (y_count, y_place, nI s, y_pos, y_wrong, y_constant, y_least, y_top, y_frames, y_invalid, nI (yb R + nv + E.length), nI (fb R + F.length), nI (R.length + 1), nI (120 - fu), 0, -1, y_result, y_used, y_waits, y_printed, y_bytes, y_there, y_types, y_typeSig, y_imports, y_functions, y_sig, y_what, y_typeAt, y_localsAt, y_globals, y_globalKind, y_globalFree, y_globalValue, y_entries, y_entriesAt, y_hasMemory, y_memory, y_nest, y_kinds, y_shape, y_gives, y_height, y_dead, y_stack, y_labelAt, y_labelHeight, y_labelGives, y_callModule, y_callFunction, y_callBack, y_callBase, y_callLabels, y_waiting, y_prints) v' (nI p) q → post u') : wpX_step post (x_byteCount, x_wrongPlace, nI p, nI (fb R + F.length), x_kindCount, nI (vb R + E.length), nI (R.length + 1), x_goesOn, -1, 0, -1, nI fu, x_firstWaiting, x_waitingCount, x_printCount, x_code, x_facts, x_partner, x_loaded, x_globals, x_memories, x_frameAt, x_frameHeight, x_frameResult, x_frameDead, x_kinds, x_values, x_variables, x_activeSlot, x_activeGives, x_activeFrame, x_activeResume, x_waiting, x_prints) := by
  obtain ⟨sm, mp, hN, M, Q, ⟨k, wkk⟩, eS, b1, b2, b3, b4, hs, hpn, h66, hRd, htv, hE20, hh, hd, hnv, hp⟩ := op_f W hfu hR AO CR XA AR YA
  obtain ⟨ok, okn⟩ := wk_s wkk
  have enx : nx (C s) p = p + 2 := nx_2 (by rw [hop]; decide)
  have hn2 := (wk_n wkk).2.2.1
  have hv0 : v_st (C s) (N s) f p (ek E, F, false) = if C s (p + 1) < C s (m_pG (C s) (N s)) then vt_pl (C s (m_ga (C s) (N s) (C s (p + 1)))) (vt_bad (ek E, F, false) (decide (C s (m_ga (C s) (N s) (C s (p + 1)) + 1) = 0))) else vt_pl 0 (vt_bad (ek E, F, false) true) := by unfold v_st; rw [hop]; rfl
  have hlt : C s (p + 1) < C s (m_pG (C s) (N s)) := by
    by_cases z : C s (p + 1) < C s (m_pG (C s) (N s))
    · exact z
    · rw [hv0, if_neg z] at ok
      exact ff_t ((vb_t _).symm.trans (bf_pl ok)).symm
  have hv := hv0
  rw [if_pos hlt] at hv
  rw [hv] at ok
  have o1 := bf_bad (bf_pl ok)
  rw [o1.2, vb_f] at ok hv
  obtain ⟨m1, m2, m3, m4, m5, m6, m7, m8, m9⟩ := mp
  have hk := m8 _ hlt
  obtain ⟨x, v, E', rfl, hh', hxk, e1, hx0, hx1, htv', _⟩ := pe ok hd htv hh
  have hxk' := hxk (by omega)
  simp only [List.length_cons] at hE20
  have AO' := a_nx (X := [(x, v)]) (X' := []) (E0 := E') AO hN hh' (hv.trans e1) htv' (by show E'.length ≤ 20; omega) AO.2.2.2.2.2.2.2.2.2.2.2.2.2.1
  have hg3 : ∀ s, s < 2 → B s = true → C s (m_pG (C s) (N s)) ≤ 3 := fun s' h1 h2 => (mp_of (W.2.2.2.2.2.2.2.2.2.2.1 s' h1 h2).1.2.1).1.2.2.2.2.2.2.1
  obtain ⟨q0, q1⟩ := XA.1
  obtain ⟨r0, r1⟩ := YA.1
  refine r_simple hs M hp hR rfl eS rfl (by omega) (by omega) ?_
  refine xs_19 hs hR rfl (by omega) (i := vb R + E'.length) rfl (by omega) (by rw [hop]) ?_
  rw [show x_values (vb R + E'.length) = v from q0]
  refine r_140 rfl ?_
  refine h _ (y_count, y_place, nI s, y_pos, y_wrong, y_constant, y_least, y_top, y_frames, y_invalid, nI (yb R + nv + E'.length), nI (fb R + F.length), nI (R.length + 1), nI (120 - fu), 0, -1, y_result, y_used, y_waits, y_printed, y_bytes, y_there, y_types, y_typeSig, y_imports, y_functions, y_sig, y_what, y_typeAt, y_localsAt, y_globals, y_globalKind, y_globalFree, vp_updL y_globalValue (3 * s + C s (p + 1)) v, y_entries, y_entriesAt, y_hasMemory, y_memory, y_nest, y_kinds, y_shape, y_gives, y_height, y_dead, y_stack, y_labelAt, y_labelHeight, y_labelGives, y_callModule, y_callFunction, y_callBack, y_callBase, y_callLabels, y_waiting, y_prints) (nI (nx (C s) p)) (fin_c (wo_g W hs AO.2.1 (by omega) hg3 (fun z => hx1 (hxk'.trans z))) hfu hR AO'.1 CR (xa_0 (X := [(x, v)]) XA) AR (ya_0 (X := [(x, v)]) YA) (mu_s AO'.2 (by omega))) (fun QQ hQ a w kk => ?_)
  show wpY_step QQ (y_count, y_place, nI s, a, w, kk, y_least, y_top, y_frames, y_invalid, nI (yb R + nv + E'.length + 1), nI (fb R + F.length), nI (R.length + 1), nI (120 - fu), 0, -1, y_result, y_used, y_waits, y_printed, y_bytes, y_there, y_types, y_typeSig, y_imports, y_functions, y_sig, y_what, y_typeAt, y_localsAt, y_globals, y_globalKind, y_globalFree, y_globalValue, y_entries, y_entriesAt, y_hasMemory, y_memory, y_nest, y_kinds, y_shape, y_gives, y_height, y_dead, y_stack, y_labelAt, y_labelHeight, y_labelGives, y_callModule, y_callFunction, y_callBack, y_callBase, y_callLabels, y_waiting, y_prints) (nI p)
  refine y_dat Q hpn h66 hRd (by omega) (fun k' x1 hx hk => ?_)
  refine yd_19 s (C s (p + 1)) hs rfl hR rfl YA.2.2.2.2.2.1 rfl (by omega) (by omega) (by rw [hop]) (hx (by omega)) ?_
  rw [show y_stack (yb R + nv + E'.length) = v from r0]
  exact hQ _ _ _
theorem op_20 (W : wo_ok B C N PP n cd x_byteCount x_wrongPlace x_firstWaiting x_waitingCount x_printCount x_code x_facts x_partner x_loaded x_globals x_memories x_waiting x_prints y_count y_place y_waits y_printed y_bytes y_there y_types y_typeSig y_imports y_functions y_sig y_what y_localsAt y_globals y_globalValue y_entries y_entriesAt y_hasMemory y_memory y_waiting y_prints) (hfu : fu ≤ 120) (hR : R.length < 10) (AO : a_ok B C N PP 0 s f nv g p E L F) (CR : ch_ok B C N PP g0 g R) (XA : xa_ok x_frameAt x_frameHeight x_values x_variables x_activeSlot x_activeGives x_activeFrame ((s, f, nv, g, p, E, L, F) :: R)) (AR : ar_ok x_activeResume R) (YA : ya_ok y_stack y_labelAt y_labelHeight y_labelGives y_callModule y_callFunction y_callBack y_callBase y_callLabels ((s, f, nv, g, p, E, L, F) :: R)) (hop : C s p = 20 ∨ C s p = 21) (h : ∀ u' v' q, nxt B C N PP n cd g0 (mu ((s, f, nv, g, p, E, L, F) :: R) fu) u' v' q → ystep (y_count, y_place, nI s, y_pos, y_wrong, y_constant, y_least, y_top, y_frames, y_invalid, nI (yb R + nv + E.length), nI (fb R + F.length), nI (R.length + 1), nI (120 - fu), 0, -1, y_result, y_used, y_waits, y_printed, y_bytes, y_there, y_types, y_typeSig, y_imports, y_functions, y_sig, y_what, y_typeAt, y_localsAt, y_globals, y_globalKind, y_globalFree, y_globalValue, y_entries, y_entriesAt, y_hasMemory, y_memory, y_nest, y_kinds, y_shape, y_gives, y_height, y_dead, y_stack, y_labelAt, y_labelHeight, y_labelGives, y_callModule, y_callFunction, y_callBack, y_callBase, y_callLabels, y_waiting, y_prints) v' (nI p) q → post u') : wpX_step post (x_byteCount, x_wrongPlace, nI p, nI (fb R + F.length), x_kindCount, nI (vb R + E.length), nI (R.length + 1), x_goesOn, -1, 0, -1, nI fu, x_firstWaiting, x_waitingCount, x_printCount, x_code, x_facts, x_partner, x_loaded, x_globals, x_memories, x_frameAt, x_frameHeight, x_frameResult, x_frameDead, x_kinds, x_values, x_variables, x_activeSlot, x_activeGives, x_activeFrame, x_activeResume, x_waiting, x_prints) := by
  obtain ⟨sm, mp, hN, M, Q, ⟨k, wkk⟩, eS, b1, b2, b3, b4, hs, hpn, h66, hRd, htv, hE20, hh, hd, hnv, hp⟩ := op_f W hfu hR AO CR XA AR YA
  obtain ⟨ok, okn⟩ := wk_s wkk
  obtain ⟨kd, hkd, hop2⟩ : ∃ kd, (kd = 1 ∨ kd = 2) ∧ C s p = kd + 19 := ⟨C s p - 19, by omega, by omega⟩
  have hv : v_st (C s) (N s) f p (ek E, F, false) = vt_gv kd (ek E, F, false) := by
    rcases hkd with rfl | rfl
    · unfold v_st; rw [hop2]; rfl
    · unfold v_st; rw [hop2]; rfl
  rw [hv] at ok
  obtain ⟨hl, e4⟩ := ge ok
  rw [e4] at hv
  rw [ek_len] at hl
  have hex : ∃ j, j < 10 ∧ C s (p + 1 + j) ≤ 127 := by
    rcases hkd with rfl | rfl
    · rw [hop2, rd_R, if_neg (by omega), if_neg (by omega), if_pos rfl] at hRd
      obtain ⟨j, h1, h2⟩ := rd_C_ex _ _ (show (rd_C (C s) (N s) 5 (true, p + 1)).1 = true by rw [hRd])
      exact ⟨j, by omega, h2⟩
    · rw [hop2, rd_R, if_neg (by omega), if_neg (by omega), if_neg (by omega), if_pos rfl] at hRd
      exact rd_C_ex _ _ (show (rd_C (C s) (N s) 10 (true, p + 1)).1 = true by rw [hRd])
  have AO' := a_nx (X := []) (X' := [(kd, cv (C s) kd 10 (p + 1) 0 0)]) (E0 := E) AO hN hh hv ⟨by omega, fun z => by rw [z]; exact cv_sx _ _ _ _ hex, htv⟩ (by show E.length + 1 ≤ 20; omega) AO.2.2.2.2.2.2.2.2.2.2.2.2.2.1
  refine r_simple hs M hp hR rfl eS rfl (by omega) (by omega) ?_
  refine xs_20 kd hkd hs M hp rfl hex hR rfl (M.2.1 _) (i := vb R + E.length) rfl (by omega) (by rw [hop2]) ?_
  refine r_140 rfl ?_
  refine h _ (y_count, y_place, nI s, y_pos, y_wrong, y_constant, y_least, y_top, y_frames, y_invalid, nI (yb R + nv + E.length + 1), nI (fb R + F.length), nI (R.length + 1), nI (120 - fu), 0, -1, y_result, y_used, y_waits, y_printed, y_bytes, y_there, y_types, y_typeSig, y_imports, y_functions, y_sig, y_what, y_typeAt, y_localsAt, y_globals, y_globalKind, y_globalFree, y_globalValue, y_entries, y_entriesAt, y_hasMemory, y_memory, y_nest, y_kinds, y_shape, y_gives, y_height, y_dead, vp_updL y_stack (yb R + nv + E.length) (cv (C s) kd 10 (p + 1) 0 0), y_labelAt, y_labelHeight, y_labelGives, y_callModule, y_callFunction, y_callBack, y_callBase, y_callLabels, y_waiting, y_prints) (nI (nx (C s) p)) (fin_c W hfu hR AO'.1 CR (xa_1 (X := []) XA b4) AR (ya_1 (X := []) YA) (mu_s AO'.2 (by omega))) (fun QQ hQ a w kk => ?_)
  show wpY_step QQ (y_count, y_place, nI s, a, w, kk, y_least, y_top, y_frames, y_invalid, nI (yb R + nv + E.length), nI (fb R + F.length), nI (R.length + 1), nI (120 - fu), 0, -1, y_result, y_used, y_waits, y_printed, y_bytes, y_there, y_types, y_typeSig, y_imports, y_functions, y_sig, y_what, y_typeAt, y_localsAt, y_globals, y_globalKind, y_globalFree, y_globalValue, y_entries, y_entriesAt, y_hasMemory, y_memory, y_nest, y_kinds, y_shape, y_gives, y_height, y_dead, y_stack, y_labelAt, y_labelHeight, y_labelGives, y_callModule, y_callFunction, y_callBack, y_callBase, y_callLabels, y_waiting, y_prints) (nI p)
  refine y_dat Q hpn h66 hRd (by omega) (fun k' x1 hx hk => ?_)
  have hk' := hk hop
  rw [show C s p - 19 = kd by omega] at hk'
  subst hk'
  exact yd_20 hR rfl YA.2.2.2.2.2.1 rfl (by omega) (by rcases hop with z | z <;> rw [z] <;> simp) (hQ _ _ _)
end
end
section
/-! 49: numbers: unsigned quotients -/
theorem wb_tb (n : Nat) : (lN n).toBitVec = BitVec.ofNat 64 n := rfl
theorem wb_inj {a b : Int64} (h : a.toBitVec = b.toBitVec) : a = b := Int64.toBitVec_inj.mp h
theorem wb_tn {n : Nat} (h : n < 2 ^ 64) : (lN n).toBitVec.toNat = n := by rw [wb_tb, BitVec.toNat_ofNat, Nat.mod_eq_of_lt h]
theorem wb_of (x : Int64) : ∃ n, n < 2 ^ 64 ∧ x = lN n := ⟨x.toBitVec.toNat, x.toBitVec.isLt, wb_inj (by rw [wb_tb]; simp)⟩
theorem wb_of32 (x : Int32) : ∃ n, n < 2 ^ 32 ∧ x = nI n := ⟨x.toBitVec.toNat, x.toBitVec.isLt, Int32.toBitVec_inj.mp (by show _ = BitVec.ofNat 32 _; simp)⟩
theorem wb_c : ∀ k, k < 64 → ((nI k).toInt64 &&& 63) = lN k := by decide +kernel
theorem wb_cu : ∀ k, k < 64 → ((nI k).toInt64.toUInt64 &&& Int64.toUInt64 63) = UInt64.ofNat k := by decide +kernel
theorem wb_sm : ∀ k, k < 64 → (BitVec.ofNat 64 k).smod 64 = BitVec.ofNat 64 k := by decide +kernel
theorem wb_pw {a b : Nat} (h : a ≤ b) : 2 ^ b = 2 ^ a * 2 ^ (b - a) := by rw [← Nat.pow_add]; congr 1; omega
theorem wb_lt2 {a b : Nat} (h : a < b) : 2 ^ a < 2 ^ b := Nat.pow_lt_pow_right (by decide) h
theorem wb_mod (n : Nat) : lN n = lN (n % 2 ^ 64) := wb_inj (by rw [wb_tb, wb_tb]; apply BitVec.eq_of_toNat_eq; rw [BitVec.toNat_ofNat, BitVec.toNat_ofNat, Nat.mod_mod])
theorem wb_shr {n k : Nat} (hn : n < 2 ^ 64) (hk : k < 64) : ((lN n).toUInt64 >>> ((nI k).toInt64.toUInt64 &&& Int64.toUInt64 63)).toInt64 = lN (n / 2 ^ k) := by
  rw [wb_cu k hk]
  apply wb_inj
  apply BitVec.eq_of_toNat_eq
  show ((lN n).toUInt64 >>> UInt64.ofNat k).toNat = (BitVec.ofNat 64 _).toNat
  have h1 : (UInt64.ofNat k).toNat = k := by
    show (BitVec.ofNat 64 k).toNat = k
    rw [BitVec.toNat_ofNat, Nat.mod_eq_of_lt (by omega)]
  have h2 : (lN n).toUInt64.toNat = n := wb_tn hn
  rw [UInt64.toNat_shiftRight, h1, h2, Nat.mod_eq_of_lt hk, Nat.shiftRight_eq_div_pow, BitVec.toNat_ofNat, Nat.mod_eq_of_lt (Nat.lt_of_le_of_lt (Nat.div_le_self _ _) hn)]
theorem wb_shl (n : Nat) {k : Nat} (hk : k < 64) : lN n <<< ((nI k).toInt64 &&& 63) = lN (n * 2 ^ k) := by
  rw [wb_c k hk]
  apply wb_inj
  rw [Int64.toBitVec_shiftLeft, wb_tb, wb_tb, wb_tb, wb_sm k hk]
  apply BitVec.eq_of_toNat_eq
  rw [BitVec.shiftLeft_eq', BitVec.toNat_shiftLeft, BitVec.toNat_ofNat, BitVec.toNat_ofNat, BitVec.toNat_ofNat, Nat.mod_eq_of_lt (show k < 2 ^ 64 by omega), Nat.shiftLeft_eq, Nat.mul_mod, Nat.mod_mod, ← Nat.mul_mod]
theorem wb_and {a b : Nat} (ha : a < 2 ^ 64) (hb : b < 2 ^ 64) : lN a &&& lN b = lN (a &&& b) := by
  apply wb_inj
  rw [Int64.toBitVec_and, wb_tb, wb_tb, wb_tb]
  apply BitVec.eq_of_toNat_eq
  rw [BitVec.toNat_and, BitVec.toNat_ofNat, BitVec.toNat_ofNat, BitVec.toNat_ofNat, Nat.mod_eq_of_lt ha, Nat.mod_eq_of_lt hb, Nat.mod_eq_of_lt (Nat.and_lt_two_pow _ hb)]
theorem wb_or {a b : Nat} (ha : a < 2 ^ 64) (hb : b < 2 ^ 64) : lN a ||| lN b = lN (a ||| b) := by
  apply wb_inj
  rw [Int64.toBitVec_or, wb_tb, wb_tb, wb_tb]
  apply BitVec.eq_of_toNat_eq
  rw [BitVec.toNat_or, BitVec.toNat_ofNat, BitVec.toNat_ofNat, BitVec.toNat_ofNat, Nat.mod_eq_of_lt ha, Nat.mod_eq_of_lt hb, Nat.mod_eq_of_lt (Nat.or_lt_two_pow ha hb)]
theorem wb_mask {n k : Nat} (hn : n < 2 ^ 64) (hk : k < 64) : lN n &&& lN (2 ^ k - 1) = lN (n % 2 ^ k) := by
  rw [wb_and hn (by have := wb_lt2 hk; omega), Nat.and_two_pow_sub_one_eq_mod]
theorem wb_a1 {n : Nat} (hn : n < 2 ^ 64) : lN n &&& 1 = lN (n % 2) := wb_mask (k := 1) hn (by decide)
theorem wb_bit {n k : Nat} (hn : n < 2 ^ 64) (hk : k < 64) : ((lN n).toUInt64 >>> ((nI k).toInt64.toUInt64 &&& Int64.toUInt64 63)).toInt64 &&& 1 = lN (n / 2 ^ k % 2) := by
  rw [wb_shr hn hk, wb_a1 (Nat.lt_of_le_of_lt (Nat.div_le_self _ _) hn)]
theorem wb_xor {q k : Nat} (hk : k < 63) (h : 2 ^ k ≤ q) (h2 : q < 2 ^ (k + 1)) : lN q ^^^ lN (2 ^ k) = lN (q - 2 ^ k) := by
  obtain ⟨r, rfl⟩ : ∃ r, q = 2 ^ k + r := ⟨q - 2 ^ k, by omega⟩
  have hr : r < 2 ^ k := by rw [Nat.pow_succ] at h2; omega
  have hx : (2 ^ k + r) ^^^ 2 ^ k = r := by
    apply Nat.eq_of_testBit_eq
    intro i
    rw [Nat.testBit_xor, Nat.testBit_two_pow]
    rcases Nat.lt_trichotomy i k with h | h | h
    · rw [Nat.testBit_two_pow_add_gt h]
      simp [show ¬ k = i by omega]
    · subst h
      rw [Nat.testBit_two_pow_add_eq]
      simp
    · have a1 : 2 ^ (k + 1) ≤ 2 ^ i := Nat.pow_le_pow_right (by decide) h
      rw [Nat.testBit_lt_two_pow (show 2 ^ k + r < 2 ^ i by omega), Nat.testBit_lt_two_pow (show r < 2 ^ i by omega)]
      simp [show ¬ k = i by omega]
  have b1 := wb_lt2 (show k + 1 < 64 by omega)
  have b2 := wb_lt2 (show k < 64 by omega)
  apply wb_inj
  rw [Int64.toBitVec_xor, wb_tb, wb_tb, wb_tb]
  apply BitVec.eq_of_toNat_eq
  rw [BitVec.toNat_xor, BitVec.toNat_ofNat, BitVec.toNat_ofNat, BitVec.toNat_ofNat, Nat.mod_eq_of_lt (by omega : 2 ^ k + r < 2 ^ 64), Nat.mod_eq_of_lt b2, hx, Nat.add_sub_cancel_left, Nat.mod_eq_of_lt (by omega)]
/-! ===== lN: masks, 'or' of parts that don't overlap is a sum ===== -/
theorem u_tn {n : Nat} (h : n < 2 ^ 64) : (UInt64.ofNat n).toNat = n := Nat.mod_eq_of_lt h
theorem g_or {k p a b : Nat} (hp : 2 ^ k = p) (ha : a < p) (h : b * p + a < 2 ^ 64) : lN (b * p) ||| lN a = lN (b * p + a) := by
  subst hp
  have h1 : b * 2 ^ k ||| a = b * 2 ^ k + a := by rw [← Nat.shiftLeft_eq, Nat.shiftLeft_add_eq_or_of_lt ha]
  have h3 : UInt64.ofNat (b * 2 ^ k) ||| UInt64.ofNat a = UInt64.ofNat (b * 2 ^ k + a) := UInt64.toNat_inj.mp (by rw [UInt64.toNat_or, u_tn (by omega), u_tn (by omega), u_tn h, h1])
  have h2 := congrArg UInt64.toInt64 h3
  exact h2
def uN (x : Int64) : Nat := x.toUInt64.toNat
theorem uN_lt (x : Int64) : uN x < 18446744073709551616 := x.toUInt64.toNat_lt
theorem uN_inj {x y : Int64} (h : uN x = uN y) : x = y := congrArg UInt64.toInt64 (UInt64.toNat_inj.mp h)
theorem uN_add (x y : Int64) : uN (x + y) = (uN x + uN y) % 18446744073709551616 := by
  show (x.toUInt64 + y.toUInt64).toNat = _
  exact UInt64.toNat_add _ _
theorem uN_mul (x y : Int64) : uN (x * y) = (uN x * uN y) % 18446744073709551616 := by
  show (x.toUInt64 * y.toUInt64).toNat = _
  exact UInt64.toNat_mul _ _
theorem uN_shl (x : Int64) : uN (x <<< ((1 : Int32).toInt64 &&& 63)) = (2 * uN x) % 18446744073709551616 := by
  have h : (((1 : Int32).toInt64 &&& 63).toBitVec.smod 64).toNat = 1 := by decide
  show (x.toBitVec <<< (((1 : Int32).toInt64 &&& 63).toBitVec.smod 64).toNat).toNat = _
  rw [h, BitVec.toNat_shiftLeft, Nat.shiftLeft_eq, Nat.mul_comm]
  rfl
theorem uN_shr (x : Int64) (s : UInt64) : uN (x.toUInt64 >>> s).toInt64 = uN x / 2 ^ (s.toNat % 64) := by
  show (x.toUInt64 >>> s).toNat = _
  rw [UInt64.toNat_shiftRight, Nat.shiftRight_eq_div_pow]
  rfl
theorem uN_s32 (x : Int64) : uN (x.toUInt64 >>> ((32 : Int32).toInt64.toUInt64 &&& Int64.toUInt64 63)).toInt64 = uN x / 4294967296 := by
  have h : ((32 : Int32).toInt64.toUInt64 &&& Int64.toUInt64 63).toNat % 64 = 32 := by decide
  rw [uN_shr, h]
theorem uN_s63 (x : Int64) : uN (x.toUInt64 >>> ((63 : Int32).toInt64.toUInt64 &&& Int64.toUInt64 63)).toInt64 = uN x / 9223372036854775808 := by
  have h : ((63 : Int32).toInt64.toUInt64 &&& Int64.toUInt64 63).toNat % 64 = 63 := by decide
  rw [uN_shr, h]
theorem uN_lo (x : Int64) : uN (x &&& 4294967295) = uN x % 4294967296 := by
  show (x.toUInt64 &&& Int64.toUInt64 4294967295).toNat = _
  rw [UInt64.toNat_and]
  exact Nat.and_two_pow_sub_one_eq_mod _ 32
theorem uN_bit (x : Int64) : (x &&& 1) = 0 ↔ uN x % 2 = 0 := by
  have h : uN (x &&& 1) = uN x % 2 := by
    show (x.toUInt64 &&& Int64.toUInt64 1).toNat = _
    rw [UInt64.toNat_and]
    exact Nat.and_two_pow_sub_one_eq_mod _ 1
  rw [← h]
  exact ⟨fun z => by rw [z]; rfl, fun z => uN_inj (z.trans rfl)⟩
theorem uN_or {x y : Int64} (hy : uN y < 2) : uN ((x <<< ((1 : Int32).toInt64 &&& 63)) ||| y) = (2 * uN x) % 18446744073709551616 + uN y := by
  have h1 : uN ((x <<< ((1 : Int32).toInt64 &&& 63)) ||| y) = uN (x <<< ((1 : Int32).toInt64 &&& 63)) ||| uN y := UInt64.toNat_or _ _
  have h2 : (2 * uN x) % 18446744073709551616 = 2 ^ 1 * (uN x % 9223372036854775808) := by omega
  rw [h1, uN_shl, h2]
  exact (Nat.two_pow_add_eq_or_of_lt (i := 1) hy _).symm
theorem nat_xor {a : Nat} (h : a < 18446744073709551616) : a ^^^ 2 ^ 63 = (a + 9223372036854775808) % 18446744073709551616 := by
  have h1 : (a ^^^ 2 ^ 63) % 2 ^ 63 = a % 2 ^ 63 := by rw [Nat.xor_mod_two_pow, Nat.mod_self, Nat.xor_zero]
  have h2 : (a ^^^ 2 ^ 63) / 2 ^ 63 = (a / 2 ^ 63) ^^^ 1 := by rw [Nat.xor_div_two_pow, Nat.div_self (Nat.two_pow_pos 63)]
  have h3 : a / 2 ^ 63 = 0 ∨ a / 2 ^ 63 = 1 := by omega
  generalize a ^^^ 2 ^ 63 = t at h1 h2
  rcases h3 with h3 | h3
  · rw [h3] at h2
    have h2 : t / 2 ^ 63 = 1 := h2
    omega
  · rw [h3] at h2
    have h2 : t / 2 ^ 63 = 0 := h2
    omega
theorem uN_xor (x : Int64) : uN (x ^^^ (-9223372036854775808)) = (uN x + 9223372036854775808) % 18446744073709551616 := by
  rw [← nat_xor (uN_lt x)]
  exact UInt64.toNat_xor _ _
theorem uN_int (x : Int64) : x.toInt = if 2 * uN x < 18446744073709551616 then (uN x : Int) else (uN x : Int) - 18446744073709551616 := BitVec.toInt_eq_toNat_cond _
theorem uN_le (x y : Int64) : (x ^^^ (-9223372036854775808)) ≤ (y ^^^ (-9223372036854775808)) ↔ uN x ≤ uN y := by
  have hx := uN_lt x
  have hy := uN_lt y
  rw [Int64.le_iff_toInt_le, uN_int, uN_int, uN_xor, uN_xor]
  omega
theorem uN_sk (x : Int64) {k : Nat} (hk : k < 64) : uN (x.toUInt64 >>> ((nI k).toInt64.toUInt64 &&& Int64.toUInt64 63)).toInt64 = uN x / 2 ^ k := by
  have h : ((nI k).toInt64.toUInt64 &&& Int64.toUInt64 63).toNat % 64 = k := by
    rw [nI_l (by omega), UInt64.toNat_and]
    have e : (lN k).toUInt64.toNat = k % 2 ^ 64 := rfl
    have e2 : (Int64.toUInt64 63).toNat = 2 ^ 6 - 1 := by decide
    rw [e, e2, Nat.and_two_pow_sub_one_eq_mod]
    omega
  rw [uN_shr, h]
theorem uN_of {k : Nat} (h : k < 18446744073709551616) : uN (lN k) = k := wb_tn (n := k) h
theorem uN_l (x : Int64) : x = lN (uN x) := by
  obtain ⟨k, hk, rfl⟩ := wb_of x
  rw [uN_of hk]
theorem uN_pos {x : Int64} (h : ¬ x = 0) : 0 < uN x := by
  rcases Nat.eq_zero_or_pos (uN x) with z | z
  · exact absurd ((uN_l x).trans (by rw [z]; rfl)) h
  · exact z
theorem uN_neg (x : Int64) : x < 0 ↔ 9223372036854775808 ≤ uN x := by
  have h := uN_lt x
  rw [Int64.lt_iff_toInt_lt, uN_int]
  have : (0 : Int64).toInt = 0 := rfl
  rw [this]
  split <;> omega
theorem uN_sub (x y : Int64) : uN (x - y) = (uN x + (18446744073709551616 - uN y)) % 18446744073709551616 := by
  show (x.toUInt64 - y.toUInt64).toNat = _
  rw [UInt64.toNat_sub]
  have := uN_lt y
  show (2 ^ 64 - uN y + uN x) % 2 ^ 64 = _
  rw [Nat.add_comm]
/-- the quotient as the reference makes it, bit by bit -/
theorem y_uns_l {post : Int64 → Prop} {x y : Int64} (hy : 0 < uN y) (h : post (lN (uN x / uN y))) : ∀ k l (r q : Int64), k ≤ 64 → k < l → uN r = uN x / 2 ^ k % uN y → q = lN (uN x / 2 ^ k / uN y * 2 ^ k) → wY_unsigned_10 post x y l r q (nI k - 1) := by
  intro k
  induction k with
  | zero =>
    intro l r q _ hl hr hq
    obtain ⟨l, rfl⟩ : ∃ j, l = j + 1 := ⟨l - 1, by omega⟩
    refine br_t (by decide) ?_
    rw [hq, Nat.pow_zero, Nat.div_one, Nat.mul_one]
    exact h
  | succ k ih =>
    intro l r q hk hl hr hq
    obtain ⟨l, rfl⟩ : ∃ j, l = j + 1 := ⟨l - 1, by omega⟩
    have hx := uN_lt x
    have hy2 := uN_lt y
    have e : nI (k + 1) - 1 = nI k := pk_sub (a := k + 1) (b := 1) (by omega)
    have em : nI k + (-1) = nI k - 1 := by rw [Int32.sub_eq_add_neg]
    rw [e]
    have hrlt : uN r < uN y := by rw [hr]; exact Nat.mod_lt _ hy
    have e2 : uN x / 2 ^ k = 2 * (uN x / 2 ^ (k + 1)) + uN x / 2 ^ k % 2 := by
      rw [Nat.pow_succ, ← Nat.div_div_eq_div_mul]; omega
    have hb : uN (((x.toUInt64 >>> ((nI k).toInt64.toUInt64 &&& Int64.toUInt64 63)).toInt64) &&& 1) = uN x / 2 ^ k % 2 := by
      have : ∀ z : Int64, uN (z &&& 1) = uN z % 2 := by
        intro z
        show (z.toUInt64 &&& Int64.toUInt64 1).toNat = _
        rw [UInt64.toNat_and]
        exact Nat.and_two_pow_sub_one_eq_mod _ 1
      rw [this, uN_sk x (by omega)]
    have hr2 : uN ((r <<< ((1 : Int32).toInt64 &&& 63)) ||| (((x.toUInt64 >>> ((nI k).toInt64.toUInt64 &&& Int64.toUInt64 63)).toInt64) &&& 1)) = (2 * uN r) % 18446744073709551616 + uN x / 2 ^ k % 2 := by
      rw [uN_or (by rw [hb]; omega), hb]
    generalize hr3 : (r <<< ((1 : Int32).toInt64 &&& 63)) ||| (((x.toUInt64 >>> ((nI k).toInt64.toUInt64 &&& Int64.toUInt64 63)).toInt64) &&& 1) = r2 at hr2
    generalize hA : uN x / 2 ^ (k + 1) = A at *
    generalize hBt : uN x / 2 ^ k % 2 = bt at *
    have hbt : bt < 2 := by rw [← hBt]; omega
    -- the true rest
    have hA2 : A = uN y * (A / uN y) + uN r := by rw [hr]; exact (Nat.div_add_mod A (uN y)).symm
    generalize hD : A / uN y = D at *
    have hX : uN x / 2 ^ k = uN y * (2 * D) + (2 * uN r + bt) := by
      rw [e2]
      have : uN y * (2 * D) = 2 * (uN y * D) := by rw [← Nat.mul_assoc, Nat.mul_comm (uN y) 2, Nat.mul_assoc]
      omega
    have hp2 : 0 < 2 ^ k := Nat.two_pow_pos k
    have hpk : 2 ^ (k + 1) = 2 * 2 ^ k := by rw [Nat.pow_succ, Nat.mul_comm]
    have hxle : uN x / 2 ^ k * 2 ^ k ≤ uN x := Nat.div_mul_le_self _ _
    -- it is taken off
    have sub : uN y ≤ 2 * uN r + bt → wY_unsigned_62 post (wY_unsigned_10 post x y l) x y r2 q (nI k) := by
      intro hge
      have d1 : uN x / 2 ^ k / uN y = 2 * D + 1 := by
        rw [hX]
        have : uN y * (2 * D) + (2 * uN r + bt) = (2 * uN r + bt - uN y) + uN y * (2 * D + 1) := by
          rw [Nat.mul_add, Nat.mul_one]; omega
        rw [this, Nat.add_mul_div_left _ _ hy, Nat.div_eq_of_lt (by omega)]
        omega
      have d2 : uN x / 2 ^ k % uN y = 2 * uN r + bt - uN y := by
        rw [hX]
        have : uN y * (2 * D) + (2 * uN r + bt) = (2 * uN r + bt - uN y) + uN y * (2 * D + 1) := by
          rw [Nat.mul_add, Nat.mul_one]; omega
        rw [this, Nat.add_mul_mod_self_left, Nat.mod_eq_of_lt (by omega)]
      have hle2 : (2 * D + 1) * 2 ^ k ≤ uN x := by
        have : (2 * D + 1) ≤ uN x / 2 ^ k := by rw [← d1]; exact Nat.div_le_self _ _
        exact Nat.le_trans (Nat.mul_le_mul_right _ this) hxle
      have hq2 : q ||| ((1 : Int64) <<< ((nI k).toInt64 &&& 63)) = lN ((2 * D + 1) * 2 ^ k) := by
        rw [hq, show (1 : Int64) = lN 1 from rfl, wb_shl 1 (by omega), Nat.one_mul]
        rw [g_or (k := k + 1) (p := 2 ^ (k + 1)) rfl (by omega) ?_]
        · congr 1
          rw [hpk, Nat.add_mul, Nat.one_mul, Nat.mul_comm 2 D, Nat.mul_assoc]
        · rw [hpk]
          have : D * (2 * 2 ^ k) + 2 ^ k = (2 * D + 1) * 2 ^ k := by rw [Nat.add_mul, Nat.one_mul, Nat.mul_comm 2 D, Nat.mul_assoc]
          omega
      refine nm_r rfl (nm_r hq2 (nm_r em ?_))
      refine ih l _ _ (by omega) (by omega) ?_ ?_
      · rw [d2, uN_sub, hr2]
        omega
      · rw [d1]
    have keep : 2 * uN r + bt < uN y → wY_unsigned_10 post x y l r2 q (nI k - 1) := by
      intro hlt
      refine ih l _ _ (by omega) (by omega) ?_ ?_
      · rw [hX, Nat.mul_add_mod, Nat.mod_eq_of_lt hlt, hr2]
        omega
      · rw [hq, hX, Nat.mul_add_div hy, Nat.div_eq_of_lt hlt, Nat.add_zero, hpk]
        congr 1
        simp only [Nat.add_zero]
        rw [Nat.mul_comm 2 D, Nat.mul_assoc]
    refine br_f (fun z => ?_) (br_c (fun z => nm_r hr3 (br_t rfl (br_c (fun w => ?_) (fun w => ?_)))) (fun z => nm_r hr3 (br_f (by decide) (sub ?_))))
    · rw [show (0 : Int32) = nI 0 from rfl, nI_ltI (by omega) (by omega)] at z
      omega
    · refine nm_r em (keep ?_)
      have z2 : ¬ 9223372036854775808 ≤ uN r := fun q => Int64.not_lt.mpr z ((uN_neg r).mpr q)
      have w2 : ¬ uN y ≤ uN r2 := fun q => Int64.not_le.mpr w ((uN_le y r2).mpr q)
      rw [hr2] at w2
      omega
    · refine sub ?_
      have z2 : ¬ 9223372036854775808 ≤ uN r := fun q => Int64.not_lt.mpr z ((uN_neg r).mpr q)
      have w2 : uN y ≤ uN r2 := (uN_le y r2).mp (Int64.not_lt.mp w)
      rw [hr2] at w2
      omega
    · have z2 := (uN_neg r).mp (Int64.not_le.mp z)
      omega
theorem y_uns {post : Int64 → Prop} {x y : Int64} (hy : ¬ y = 0) (h : post (lN (uN x / uN y))) : wpY_unsigned post x y := by
  refine ⟨65, y_uns_l (uN_pos hy) h 64 65 0 0 (by omega) (by omega) ?_ ?_⟩
  · have := uN_lt x
    rw [Nat.div_eq_of_lt this, Nat.zero_mod]; rfl
  · have := uN_lt x
    rw [Nat.div_eq_of_lt this, Nat.zero_div, Nat.zero_mul]; rfl
/-- the quotient as the class makes it -/
theorem x_du {post : Int64 → Prop} {x y : Int64} (hy : ¬ y = 0) (h : post (lN (uN x / uN y))) : wpX_divideUnsigned post x y := by
  have hx := uN_lt x
  have hy2 := uN_lt y
  have hp := uN_pos hy
  refine br_f hy (br_c (fun z => br_c (fun z2 => ⟨hy, ?_⟩) (fun z2 => ⟨hy, ?_⟩)) (fun z => ?_))
  · have y0 : uN y < 9223372036854775808 := by
      rcases Nat.lt_or_ge (uN y) 9223372036854775808 with q | q
      · exact q
      · exact absurd ((uN_neg y).mpr q) (Int64.not_lt.mpr z)
    have x0 := (uN_neg x).mp z2
    have e1 : (x.toUInt64 >>> ((1 : Int32).toInt64.toUInt64 &&& Int64.toUInt64 63)).toInt64 = lN (uN x / 2) := by
      refine uN_inj ?_
      have := uN_sk x (k := 1) (by omega)
      rw [uN_of (by omega)]
      exact this
    have e2 : (((x.toUInt64 >>> ((1 : Int32).toInt64.toUInt64 &&& Int64.toUInt64 63)).toInt64) / y) <<< ((1 : Int32).toInt64 &&& 63) = lN (2 * (uN x / 2 / uN y)) := by
      have hle : uN x / 2 / uN y ≤ uN x / 2 := Nat.div_le_self _ _
      have e3 : lN (uN x / 2) / y = lN (uN x / 2 / uN y) := by
        have := pk_lDiv (a := uN x / 2) (b := uN y) (by omega) hp (by omega)
        rw [← uN_l y] at this
        exact this
      rw [e1, e3]
      refine uN_inj ?_
      rw [uN_shl, uN_of (by omega), uN_of (by omega)]
      omega
    refine nm_r e2 (nm_r rfl ?_)
    have hdm := Nat.div_add_mod (uN x / 2) (uN y)
    have hml := Nat.mod_lt (uN x / 2) hp
    generalize hD : uN x / 2 / uN y = D at *
    generalize hM : uN x / 2 % uN y = r1 at *
    have hX : uN x = uN y * (2 * D) + (2 * r1 + uN x % 2) := by
      have : uN y * (2 * D) = 2 * (uN y * D) := by rw [← Nat.mul_assoc, Nat.mul_comm (uN y) 2, Nat.mul_assoc]
      omega
    have hDb : 2 * D < 18446744073709551616 := by
      have : D ≤ uN x / 2 := by rw [← hD]; exact Nat.div_le_self _ _
      omega
    have er : uN (x - lN (2 * D) * y) = 2 * r1 + uN x % 2 := by
      rw [uN_sub, uN_mul, uN_of hDb]
      have : 2 * D * uN y = uN y * (2 * D) := Nat.mul_comm _ _
      rw [this, Nat.mod_eq_of_lt (show uN y * (2 * D) < 18446744073709551616 by omega)]
      omega
    have q1 : 2 * r1 + uN x % 2 < uN y → uN x / uN y = 2 * D := by
      intro q
      rw [hX, Nat.mul_add_div hp]
      rw [Nat.div_eq_of_lt q, Nat.add_zero]
    have q2 : uN y ≤ 2 * r1 + uN x % 2 → uN x / uN y = 2 * D + 1 := by
      intro q
      have e4 : uN x = (2 * r1 + uN x % 2 - uN y) + uN y * (2 * D + 1) := by rw [Nat.mul_add, Nat.mul_one]; omega
      have : uN x / uN y = ((2 * r1 + uN x % 2 - uN y) + uN y * (2 * D + 1)) / uN y := by rw [← e4]
      rw [this, Nat.add_mul_div_left _ _ hp, Nat.div_eq_of_lt (by omega), Nat.zero_add]
    refine br_c (fun w => br_t rfl ?_) (fun w => br_f (by decide) ?_)
    · have w2 := (uN_le _ _).mp w
      rw [er] at w2
      rw [q2 w2] at h
      have : lN (2 * D) + 1 = lN (2 * D + 1) := by
        refine uN_inj ?_
        have hle : 2 * D + 1 ≤ uN x := by rw [← q2 w2]; exact Nat.div_le_self _ _
        rw [uN_add, uN_of hDb, uN_of (by omega), show uN (1 : Int64) = 1 from rfl]
        omega
      rw [this]; exact h
    · have w2 : ¬ uN y ≤ uN (x - lN (2 * D) * y) := fun q => w ((uN_le _ _).mpr q)
      rw [er] at w2
      rw [q1 (by omega)] at h
      exact h
  · have y0 : uN y < 9223372036854775808 := by
      rcases Nat.lt_or_ge (uN y) 9223372036854775808 with q | q
      · exact q
      · exact absurd ((uN_neg y).mpr q) (Int64.not_lt.mpr z)
    have x0 : uN x < 9223372036854775808 := by
      rcases Nat.lt_or_ge (uN x) 9223372036854775808 with q | q
      · exact q
      · exact absurd ((uN_neg x).mpr q) z2
    have := pk_lDiv (a := uN x) (b := uN y) (by omega) hp (by omega)
    rw [← uN_l x, ← uN_l y] at this
    rw [this]; exact h
  · have y0 := (uN_neg y).mp (Int64.not_le.mp z)
    refine br_c (fun w => br_t rfl ?_) (fun w => br_f (by decide) ?_)
    · have w2 := (uN_le _ _).mp w
      have : uN x / uN y = 1 := Nat.div_eq_of_lt_le (by omega) (by omega)
      rw [this] at h; exact h
    · have w2 : ¬ uN y ≤ uN x := fun q => w ((uN_le _ _).mpr q)
      rw [Nat.div_eq_of_lt (by omega)] at h; exact h
/-- the low half of an int that is not 0 -/
theorem nI_mod (k : Nat) : nI k = nI (k % 4294967296) := Int32.toBitVec_inj.mp (BitVec.eq_of_toNat_eq (show k % 4294967296 = k % 4294967296 % 4294967296 by omega))
theorem sx_lo {y : Int64} (h : sx64 y) (h0 : ¬ y = 0) : ¬ (y &&& 4294967295) = 0 := by
  intro z
  refine h0 ?_
  have e : uN y % 4294967296 = 0 := by rw [← uN_lo, z]; rfl
  unfold sx64 at h
  rw [uN_l y, lN_i, nI_mod, e] at h
  rw [uN_l y, ← h]; rfl
end
section
/-! 99: invoke -/
theorem i_vc_invoke {k : Nat} {u : SX} {v : SY} (I : i_Rel k u v) (hk : k + 9 ≤ 4608) (v1 : Int32) (v2 : Int32) (a2 : Int64) (a3 : Int64) (a4 : Int64) : wpX_invoke (fun r u' => wpY_invoke (fun r' v' => r' = r ∧ i_Rel (k + 9) u' v') v v1 v2 a2 a3 a4) u v1 v2 a2 a3 a4 := sorry
end
