/-! products that no long holds -/
def uN (x : Int64) : Nat := x.toUInt64.toNat
theorem uN_lt (x : Int64) : uN x < 18446744073709551616 := x.toUInt64.toNat_lt
theorem uN_int (x : Int64) : x.toInt = if uN x < 9223372036854775808 then (uN x : Int) else (uN x : Int) - 18446744073709551616 := by
  have e : x.toInt = x.toBitVec.toInt := rfl
  have e2 : x.toBitVec.toNat = uN x := rfl
  rw [e, BitVec.toInt_eq_toNat_cond, e2]
  by_cases h : uN x < 9223372036854775808
  · rw [if_pos h, if_pos (by omega)]
  · rw [if_neg h, if_neg (by omega)]; rfl
theorem uN_nn {x : Int64} (h : 0 ≤ x.toInt) : (uN x : Int) = x.toInt ∧ uN x < 9223372036854775808 := by
  have e := uN_int x
  have l := uN_lt x
  by_cases g : uN x < 9223372036854775808
  · rw [if_pos g] at e; exact ⟨e.symm, g⟩
  · rw [if_neg g] at e; omega
theorem uN_mul (x y : Int64) : uN (x * y) = uN x * uN y % 18446744073709551616 := by
  show (x.toUInt64 * y.toUInt64).toNat = _
  rw [UInt64.toNat_mul]; rfl
theorem uN_add (x y : Int64) : uN (x + y) = (uN x + uN y) % 18446744073709551616 := by
  show (x.toUInt64 + y.toUInt64).toNat = _
  rw [UInt64.toNat_add]; rfl
theorem uN_low (x : Int64) : uN (x &&& (4294967295 : Int64)) = uN x % 4294967296 := by
  show (x.toUInt64 &&& (4294967295 : Int64).toUInt64).toNat = _
  rw [UInt64.toNat_and]
  exact Nat.and_two_pow_sub_one_eq_mod x.toUInt64.toNat 32
theorem uN_high (x : Int64) : uN ((x.toUInt64 >>> ((32 : Int32).toInt64.toUInt64 &&& Int64.toUInt64 63)).toInt64) = uN x / 4294967296 := by
  show (x.toUInt64 >>> ((32 : Int32).toInt64.toUInt64 &&& Int64.toUInt64 63)).toNat = _
  rw [show ((32 : Int32).toInt64.toUInt64 &&& Int64.toUInt64 63) = 32 by decide, UInt64.toNat_shiftRight]
  exact Nat.shiftRight_eq_div_pow x.toUInt64.toNat 32
/-- before, at, behind -/
def cmpZ (x y : Int) : Int32 := if x < y then -1 else if x = y then 0 else 1
theorem jlc (x y : Int64) : f_JL_compare_JJ x y = some (cmpZ x.toInt y.toInt) := by
  unfold f_JL_compare_JJ f_JL_compare_JJ_j21 cmpZ
  simp only [lgc_ge, lgc_eq]
  by_cases h : y.toInt ≤ x.toInt
  · by_cases h2 : x.toInt = y.toInt
    · rw [if_pos h, if_pos h2, if_neg (by omega), if_pos h2]
    · rw [if_pos h, if_neg h2, if_neg (by omega), if_neg h2]
  · rw [if_neg h, if_pos (by omega)]
theorem msign (x : Int64) : f_M_sign x = some (cmpZ x.toInt 0) := by
  have z0 : (0 : Int64).toInt = 0 := by decide
  unfold f_M_sign f_M_sign_j21 cmpZ
  simp only [lgc_ge, lgc_le, z0]
  by_cases h : 0 ≤ x.toInt
  · by_cases h2 : x.toInt = 0
    · rw [if_pos h, if_pos (by omega), if_neg (by omega), if_pos h2]
    · rw [if_pos h, if_neg (by omega), if_neg (by omega), if_neg h2]
  · rw [if_neg h, if_pos (by omega)]
theorem split_mul (a b : Nat) : a * b = (a / 4294967296 * (b / 4294967296)) * 18446744073709551616 + (a / 4294967296 * (b % 4294967296) + a % 4294967296 * (b / 4294967296)) * 4294967296 + a % 4294967296 * (b % 4294967296) := by
  have ha : a = 4294967296 * (a / 4294967296) + a % 4294967296 := (Nat.div_add_mod a 4294967296).symm
  have hb : b = 4294967296 * (b / 4294967296) + b % 4294967296 := (Nat.div_add_mod b 4294967296).symm
  generalize a / 4294967296 = a1 at *
  generalize a % 4294967296 = a0 at *
  generalize b / 4294967296 = b1 at *
  generalize b % 4294967296 = b0 at *
  subst ha
  subst hb
  grind
/-- bounds of the four products -/
theorem four_mul {a b : Nat} (ha : a < 9223372036854775808) (hb : b < 9223372036854775808) : a / 4294967296 * (b / 4294967296) ≤ 2147483647 * 2147483647 ∧ a / 4294967296 * (b % 4294967296) ≤ 2147483647 * 4294967295 ∧ a % 4294967296 * (b / 4294967296) ≤ 4294967295 * 2147483647 ∧ a % 4294967296 * (b % 4294967296) ≤ 4294967295 * 4294967295 := by
  have a1 : a / 4294967296 ≤ 2147483647 := by omega
  have a0 : a % 4294967296 ≤ 4294967295 := by omega
  have b1 : b / 4294967296 ≤ 2147483647 := by omega
  have b0 : b % 4294967296 ≤ 4294967295 := by omega
  exact ⟨Nat.mul_le_mul a1 b1, Nat.mul_le_mul a1 b0, Nat.mul_le_mul a0 b1, Nat.mul_le_mul a0 b0⟩
/-- the class's high part -/
theorem whigh {a b : Int64} (ha : 0 ≤ a.toInt) (hb : 0 ≤ b.toInt) : ∃ h, f_W_highPart a b = some h ∧ uN h = uN a * uN b / 18446744073709551616 ∧ uN h < 9223372036854775808 := by
  refine ⟨_, rfl, ?_⟩
  have A := (uN_nn ha).2
  have B := (uN_nn hb).2
  have S := split_mul (uN a) (uN b)
  obtain ⟨p1, p2, p3, p4⟩ := four_mul A B
  simp only [uN_add, uN_mul, uN_high, uN_low]
  generalize uN a / 4294967296 * (uN b / 4294967296) = w11 at *
  generalize uN a / 4294967296 * (uN b % 4294967296) = w10 at *
  generalize uN a % 4294967296 * (uN b / 4294967296) = w01 at *
  generalize uN a % 4294967296 * (uN b % 4294967296) = w00 at *
  generalize uN a * uN b = w at *
  omega
theorem wcmp {a b c d : Int64} (ha : 0 ≤ a.toInt) (hb : 0 ≤ b.toInt) (hc : 0 ≤ c.toInt) (hd : 0 ≤ d.toInt) : f_W_compareProducts a b c d = some (cmpZ (a.toInt * b.toInt) (c.toInt * d.toInt)) := by
  obtain ⟨h1, e1, u1, l1⟩ := whigh ha hb
  obtain ⟨h2, e2, u2, l2⟩ := whigh hc hd
  unfold f_W_compareProducts
  rw [e1, e2]
  simp only [Option.bind_some, jlc]
  have P : a.toInt * b.toInt = ((uN a * uN b : Nat) : Int) := by rw [Int.natCast_mul, (uN_nn ha).1, (uN_nn hb).1]
  have Q : c.toInt * d.toInt = ((uN c * uN d : Nat) : Int) := by rw [Int.natCast_mul, (uN_nn hc).1, (uN_nn hd).1]
  have i1 := uN_int h1
  have i2 := uN_int h2
  rw [if_pos l1] at i1
  rw [if_pos l2] at i2
  have f1 := uN_int (a * b + (-9223372036854775808 : Int64))
  have f2 := uN_int (c * d + (-9223372036854775808 : Int64))
  rw [uN_add, uN_mul, show uN (-9223372036854775808 : Int64) = 9223372036854775808 by decide] at f1 f2
  have g1 : (a * b + (-9223372036854775808 : Int64)).toInt = ((uN a * uN b % 18446744073709551616 : Nat) : Int) - 9223372036854775808 := by
    rw [f1]
    generalize uN a * uN b = w
    split <;> omega
  have g2 : (c * d + (-9223372036854775808 : Int64)).toInt = ((uN c * uN d % 18446744073709551616 : Nat) : Int) - 9223372036854775808 := by
    rw [f2]
    generalize uN c * uN d = w
    split <;> omega
  rw [P, Q, i1, i2, u1, u2, g1, g2]
  generalize uN a * uN b = x
  generalize uN c * uN d = y
  unfold cmpZ
  by_cases z1 : ((x / 18446744073709551616 : Nat) : Int) < ((y / 18446744073709551616 : Nat) : Int)
  · rw [if_pos z1, if_neg (by decide), if_pos (by omega)]
  · rw [if_neg z1]
    by_cases z2 : ((x / 18446744073709551616 : Nat) : Int) = ((y / 18446744073709551616 : Nat) : Int)
    · rw [if_pos z2, if_pos rfl]
      by_cases z3 : ((x % 18446744073709551616 : Nat) : Int) - 9223372036854775808 < ((y % 18446744073709551616 : Nat) : Int) - 9223372036854775808
      · rw [if_pos z3, if_pos (by omega)]
      · rw [if_neg z3, if_neg (show ¬ (x : Int) < y by omega)]
        by_cases z4 : (x : Int) = y
        · rw [if_pos z4, if_pos (by omega)]
        · rw [if_neg z4, if_neg (by omega)]
    · rw [if_neg z2, if_neg (by decide), if_neg (show ¬ (x : Int) < y by omega), if_neg (by omega)]
/-- the reference's digits -/
theorem mmul {mv : MV} {a b : Int64} {p : Nat} (hp : p + 3 < 8) (ha : 0 ≤ a.toInt) (hb : 0 ≤ b.toInt) : ∃ d : Nat → Int64, f_M_multiply mv (nI p) a b = some (ms_digits mv d) ∧ (∀ j, (j < p ∨ p + 3 < j) → d j = md_digits mv j) ∧
    uN (d p) = uN a * uN b % 4294967296 ∧ uN (d (p + 1)) = uN a * uN b / 4294967296 % 4294967296 ∧ uN (d (p + 2)) = uN a * uN b / 18446744073709551616 % 4294967296 ∧ uN (d (p + 3)) = uN a * uN b / 18446744073709551616 / 4294967296 := by
  have c0 : ck 8 (nI p) = some () := ck_nI (by omega) (by decide)
  have c1 : ck 8 (nI (p + 1)) = some () := ck_nI (by omega) (by decide)
  have c2 : ck 8 (nI (p + 2)) = some () := ck_nI (by omega) (by decide)
  have c3 : ck 8 (nI (p + 3)) = some () := ck_nI (by omega) (by decide)
  have k0 : (nI p).toNatClampNeg = p := nI_clamp (by omega)
  have k1 : (nI (p + 1)).toNatClampNeg = p + 1 := nI_clamp (by omega)
  have k2 : (nI (p + 2)).toNatClampNeg = p + 2 := nI_clamp (by omega)
  have k3 : (nI (p + 3)).toNatClampNeg = p + 3 := nI_clamp (by omega)
  have n1 : nI p + (1 : Int32) = nI (p + 1) := nI_1 p
  have n2 : nI p + (2 : Int32) = nI (p + 2) := nI_add p 2
  have n3 : nI p + (3 : Int32) = nI (p + 3) := nI_add p 3
  have A := (uN_nn ha).2
  have B := (uN_nn hb).2
  have S := split_mul (uN a) (uN b)
  obtain ⟨p1, p2, p3, p4⟩ := four_mul A B
  unfold f_M_multiply
  simp only [Option.bind_some, n1, n2, n3, c0, c1, c2, c3, k0, k1, k2, k3]
  refine ⟨_, rfl, fun j hj => ?_, ?_, ?_, ?_, ?_⟩
  · show vp_updL (vp_updL (vp_updL (vp_updL (md_digits mv) p _) (p + 1) _) (p + 2) _) (p + 3) _ j = _
    rw [pk_uLn (by omega), pk_uLn (by omega), pk_uLn (by omega), pk_uLn (by omega)]
  · show uN (vp_updL (vp_updL (vp_updL (vp_updL (md_digits mv) p _) (p + 1) _) (p + 2) _) (p + 3) _ p) = _
    rw [pk_uLn (by omega), pk_uLn (by omega), pk_uLn (by omega), pk_uLs]
    simp only [uN_add, uN_mul, uN_high, uN_low]
    generalize uN a / 4294967296 * (uN b / 4294967296) = w11 at *
    generalize uN a / 4294967296 * (uN b % 4294967296) = w10 at *
    generalize uN a % 4294967296 * (uN b / 4294967296) = w01 at *
    generalize uN a % 4294967296 * (uN b % 4294967296) = w00 at *
    generalize uN a * uN b = w at *
    omega
  · show uN (vp_updL (vp_updL (vp_updL (vp_updL (md_digits mv) p _) (p + 1) _) (p + 2) _) (p + 3) _ (p + 1)) = _
    rw [pk_uLn (by omega), pk_uLn (by omega), pk_uLs]
    simp only [uN_add, uN_mul, uN_high, uN_low]
    generalize uN a / 4294967296 * (uN b / 4294967296) = w11 at *
    generalize uN a / 4294967296 * (uN b % 4294967296) = w10 at *
    generalize uN a % 4294967296 * (uN b / 4294967296) = w01 at *
    generalize uN a % 4294967296 * (uN b % 4294967296) = w00 at *
    generalize uN a * uN b = w at *
    omega
  · show uN (vp_updL (vp_updL (vp_updL (vp_updL (md_digits mv) p _) (p + 1) _) (p + 2) _) (p + 3) _ (p + 2)) = _
    rw [pk_uLn (by omega), pk_uLs]
    simp only [uN_add, uN_mul, uN_high, uN_low]
    generalize uN a / 4294967296 * (uN b / 4294967296) = w11 at *
    generalize uN a / 4294967296 * (uN b % 4294967296) = w10 at *
    generalize uN a % 4294967296 * (uN b / 4294967296) = w01 at *
    generalize uN a % 4294967296 * (uN b % 4294967296) = w00 at *
    generalize uN a * uN b = w at *
    omega
  · show uN (vp_updL (vp_updL (vp_updL (vp_updL (md_digits mv) p _) (p + 1) _) (p + 2) _) (p + 3) _ (p + 3)) = _
    rw [pk_uLs]
    simp only [uN_add, uN_mul, uN_high, uN_low]
    generalize uN a / 4294967296 * (uN b / 4294967296) = w11 at *
    generalize uN a / 4294967296 * (uN b % 4294967296) = w10 at *
    generalize uN a % 4294967296 * (uN b / 4294967296) = w01 at *
    generalize uN a % 4294967296 * (uN b % 4294967296) = w00 at *
    generalize uN a * uN b = w at *
    omega
