-- NUMBERS: the machine's operations on small numbers
theorem nb_idiv {x y : Int} (hx : am_inI x) (hy : am_inI y) (h0 : 0 ≤ x) (h1 : 0 < y) : am_idiv x y = x / y := by
  unfold am_idiv
  rw [Int32.toInt_div, am_tIi hx, am_tIi hy, Int.tdiv_eq_ediv_of_nonneg h0]
  have h2 : 0 ≤ x / y := Int.ediv_nonneg h0 (by omega)
  have h3 : x / y ≤ x := Int.ediv_le_self y h0
  rw [show (2 ^ 32 : Nat) = 4294967296 from rfl, am_bmodI, am_wI_id]
  obtain ⟨a, b⟩ := hx
  constructor <;> omega
theorem nb_irem {x y : Int} (hx : am_inI x) (hy : am_inI y) (h0 : 0 ≤ x) (h1 : 0 < y) : am_irem x y = x % y := by
  unfold am_irem
  have e : (Int32.ofInt x / Int32.ofInt y) = Int32.ofInt (x / y) := by
    apply am_eqI
    have h2 : 0 ≤ x / y := Int.ediv_nonneg h0 (by omega)
    have h3 : x / y ≤ x := Int.ediv_le_self y h0
    have hi : am_inI (x / y) := by obtain ⟨a, b⟩ := hx; constructor <;> omega
    have := nb_idiv hx hy h0 h1
    unfold am_idiv at this
    rw [this, am_tIi hi]
  rw [e, am_mulI, am_subI]
  have h4 : x / y * y + x % y = x := by rw [Int.mul_comm]; exact Int.mul_ediv_add_emod x y
  have h5 : 0 ≤ x % y := Int.emod_nonneg x (by omega)
  have h6 : x % y < y := Int.emod_lt_of_pos x h1
  have h7 : 0 ≤ x / y * y := Int.mul_nonneg (Int.ediv_nonneg h0 (by omega)) (by omega)
  obtain ⟨a, b⟩ := hx
  rw [am_wI_id (x := x / y * y) (by constructor <;> omega), am_wI_id (by constructor <;> omega), am_tIi (by constructor <;> omega)]
  omega
theorem nb_ldiv {x y : Int} (hx : am_inL x) (hy : am_inL y) (h0 : 0 ≤ x) (h1 : 0 < y) : am_ldiv x y = x / y := by
  unfold am_ldiv
  rw [Int64.toInt_div, am_tLi hx, am_tLi hy, Int.tdiv_eq_ediv_of_nonneg h0]
  have h2 : 0 ≤ x / y := Int.ediv_nonneg h0 (by omega)
  have h3 : x / y ≤ x := Int.ediv_le_self y h0
  rw [show (2 ^ 64 : Nat) = 18446744073709551616 from rfl, am_bmodL, am_wL_id]
  obtain ⟨a, b⟩ := hx
  constructor <;> omega
theorem nb_lrem {x y : Int} (hx : am_inL x) (hy : am_inL y) (h0 : 0 ≤ x) (h1 : 0 < y) : am_lrem x y = x % y := by
  unfold am_lrem
  have e : (Int64.ofInt x / Int64.ofInt y) = Int64.ofInt (x / y) := by
    apply am_eqL
    have h2 : 0 ≤ x / y := Int.ediv_nonneg h0 (by omega)
    have h3 : x / y ≤ x := Int.ediv_le_self y h0
    have hi : am_inL (x / y) := by obtain ⟨a, b⟩ := hx; constructor <;> omega
    have := nb_ldiv hx hy h0 h1
    unfold am_ldiv at this
    rw [this, am_tLi hi]
  rw [e, am_mulL, am_subL]
  have h4 : x / y * y + x % y = x := by rw [Int.mul_comm]; exact Int.mul_ediv_add_emod x y
  have h5 : 0 ≤ x % y := Int.emod_nonneg x (by omega)
  have h6 : x % y < y := Int.emod_lt_of_pos x h1
  have h7 : 0 ≤ x / y * y := Int.mul_nonneg (Int.ediv_nonneg h0 (by omega)) (by omega)
  obtain ⟨a, b⟩ := hx
  rw [am_wL_id (x := x / y * y) (by constructor <;> omega), am_wL_id (by constructor <;> omega), am_tLi (by constructor <;> omega)]
  omega
theorem nb_inI {x : Int} (h0 : 0 ≤ x) (h1 : x < 2147483648) : am_inI x := ⟨by omega, by omega⟩
theorem nb_toNat {x : Int} (h0 : 0 ≤ x) (h1 : x < 2147483648) : (Int32.ofInt x).toBitVec.toNat = x.toNat := by
  rw [Int32.toBitVec_ofInt, BitVec.toNat_ofInt]
  omega
theorem nb_ofNat {b : Int32} {n : Nat} (h : b.toBitVec.toNat = n) (h1 : n < 2147483648) : b.toInt = (n : Int) := by
  show b.toBitVec.toInt = _
  rw [BitVec.toInt_eq_toNat_cond, h]
  rw [if_pos (by omega)]
theorem nb_iand {x y : Int} (hx : 0 ≤ x ∧ x < 2147483648) (hy : 0 ≤ y ∧ y < 2147483648) : am_iand x y = ((x.toNat &&& y.toNat : Nat) : Int) := by
  unfold am_iand
  refine nb_ofNat ?_ (Nat.lt_of_le_of_lt Nat.and_le_left (by omega))
  rw [Int32.toBitVec_and, BitVec.toNat_and, nb_toNat hx.1 hx.2, nb_toNat hy.1 hy.2]
theorem nb_ior {x y : Int} (hx : 0 ≤ x ∧ x < 2147483648) (hy : 0 ≤ y ∧ y < 2147483648) : am_ior x y = ((x.toNat ||| y.toNat : Nat) : Int) := by
  unfold am_ior
  refine nb_ofNat ?_ (Nat.or_lt_two_pow (n := 31) (by omega) (by omega))
  rw [Int32.toBitVec_or, BitVec.toNat_or, nb_toNat hx.1 hx.2, nb_toNat hy.1 hy.2]
theorem nb_sh (n : Nat) (h : n < 32) : ((Int32.ofInt (n : Int) &&& 31).toBitVec.smod 32).toNat = n := by
  have : ∀ m : Fin 32, ((Int32.ofInt ((m.val : Nat) : Int) &&& 31).toBitVec.smod 32).toNat = m.val := by decide +kernel
  exact this ⟨n, h⟩
theorem nb_ishl {x : Int} {n : Nat} (hn : n < 32) (h0 : 0 ≤ x) (h1 : x * 2 ^ n < 2147483648) : am_ishl x (n : Int) = x * 2 ^ n := by
  have hp : 0 < (2 : Int) ^ n := Int.pow_pos (by decide)
  have hx : x < 2147483648 := by
    have : x * 1 ≤ x * 2 ^ n := Int.mul_le_mul_of_nonneg_left (by omega) h0
    omega
  have e1 : x.toNat * 2 ^ n < 2147483648 := by
    have : ((x.toNat * 2 ^ n : Nat) : Int) = x * 2 ^ n := by rw [Int.natCast_mul, Int.natCast_pow]; congr 1; omega
    omega
  unfold am_ishl
  rw [nb_ofNat (n := x.toNat * 2 ^ n) ?_ e1]
  · rw [Int.natCast_mul, Int.natCast_pow]; congr 1; omega
  · rw [Int32.toBitVec_shiftLeft, BitVec.shiftLeft_eq', BitVec.toNat_shiftLeft, nb_sh n hn, nb_toNat h0 hx, Nat.shiftLeft_eq, Nat.mod_eq_of_lt (by omega)]
theorem nb_ishr {x : Int} {n : Nat} (hn : n < 32) (h0 : 0 ≤ x) (h1 : x < 2147483648) : am_ishr x (n : Int) = x / 2 ^ n := by
  have hm : (Int32.ofInt x).toBitVec.msb = false := by
    rw [BitVec.msb_eq_false_iff_two_mul_lt, nb_toNat h0 h1]; omega
  have e1 : x.toNat / 2 ^ n < 2147483648 := Nat.lt_of_le_of_lt (Nat.div_le_self _ _) (by omega)
  unfold am_ishr
  rw [nb_ofNat (n := x.toNat / 2 ^ n) ?_ e1]
  · rw [Int.natCast_ediv, Int.natCast_pow]; congr 1; omega
  · rw [Int32.toBitVec_shiftRight, BitVec.sshiftRight_eq', nb_sh n hn, BitVec.sshiftRight_eq_of_msb_false hm, BitVec.toNat_ushiftRight, nb_toNat h0 h1, Nat.shiftRight_eq_div_pow]
theorem nb_iandm {x : Int} (n : Nat) (hn : n < 31) (hx : 0 ≤ x ∧ x < 2147483648) : am_iand x (2 ^ n - 1) = x % 2 ^ n := by
  have hp : (2 : Nat) ^ n ≤ 2 ^ 30 := Nat.pow_le_pow_right (by decide) (by omega)
  have hp0 : 0 < (2 : Nat) ^ n := Nat.pow_pos (by decide)
  have e : ((2 : Int) ^ n - 1) = ((2 ^ n - 1 : Nat) : Int) := by
    rw [Int.natCast_sub hp0, Int.natCast_pow]; rfl
  rw [e, nb_iand hx ⟨by omega, by omega⟩, Int.toNat_natCast, Nat.and_two_pow_sub_one_eq_mod, Int.natCast_emod, Int.natCast_pow]
  congr 1
  omega
