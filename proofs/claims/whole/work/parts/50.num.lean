/-! Numbers: longs that stay in range are whole numbers -/
theorem j_add {a b : Int64} (h1 : -9223372036854775808 ≤ a.toInt + b.toInt) (h2 : a.toInt + b.toInt < 9223372036854775808) : (a + b).toInt = a.toInt + b.toInt := by
  rw [Int64.toInt_add]
  exact Int.bmod_eq_of_le_mul_two (by show -((18446744073709551616 : Nat) : Int) ≤ _; omega) (by show _ < ((18446744073709551616 : Nat) : Int); omega)
theorem j_sub {a b : Int64} (h1 : -9223372036854775808 ≤ a.toInt - b.toInt) (h2 : a.toInt - b.toInt < 9223372036854775808) : (a - b).toInt = a.toInt - b.toInt := by
  rw [Int64.toInt_sub]
  exact Int.bmod_eq_of_le_mul_two (by show -((18446744073709551616 : Nat) : Int) ≤ _; omega) (by show _ < ((18446744073709551616 : Nat) : Int); omega)
theorem j_mul {a b : Int64} (h1 : -9223372036854775808 ≤ a.toInt * b.toInt) (h2 : a.toInt * b.toInt < 9223372036854775808) : (a * b).toInt = a.toInt * b.toInt := by
  rw [Int64.toInt_mul]
  exact Int.bmod_eq_of_le_mul_two (by show -((18446744073709551616 : Nat) : Int) ≤ _; omega) (by show _ < ((18446744073709551616 : Nat) : Int); omega)
theorem j_neg {a : Int64} (h1 : -9223372036854775808 < a.toInt) : (-a).toInt = -a.toInt := by
  have h2 := Int64.toInt_lt a
  have h3 := Int64.le_toInt a
  rw [Int64.toInt_neg]
  exact Int.bmod_eq_of_le_mul_two (by show -((18446744073709551616 : Nat) : Int) ≤ _; omega) (by show _ < ((18446744073709551616 : Nat) : Int); omega)
/-- a product of two bounded whole numbers is bounded -/
theorem z_mul {x y A B : Int} (hx1 : -A ≤ x) (hx2 : x ≤ A) (hy1 : -B ≤ y) (hy2 : y ≤ B) : -(A * B) ≤ x * y ∧ x * y ≤ A * B := by
  have hA : 0 ≤ A := by omega
  have hB : 0 ≤ B := by omega
  have e : (x * y).natAbs ≤ (A * B).natAbs := by
    rw [Int.natAbs_mul, Int.natAbs_mul]
    exact Nat.mul_le_mul (by omega) (by omega)
  have p : 0 ≤ A * B := Int.mul_nonneg hA hB
  omega
theorem lgc_lt (x y : Int64) : (lg_cmp x y < 0) ↔ x.toInt < y.toInt := by
  unfold lg_cmp
  by_cases h1 : x > y
  · rw [if_pos h1]; rw [gt_iff_lt, Int64.lt_iff_toInt_lt] at h1
    exact ⟨fun h => absurd h (by decide), fun h => by omega⟩
  · rw [if_neg h1]; rw [gt_iff_lt, Int64.lt_iff_toInt_lt] at h1
    by_cases h2 : x = y
    · rw [if_pos h2, h2]; exact ⟨fun h => absurd h (by decide), fun h => by omega⟩
    · rw [if_neg h2]; rw [← Int64.toInt_inj] at h2
      exact ⟨fun _ => by omega, fun _ => by decide⟩
theorem lgc_gt (x y : Int64) : (0 < lg_cmp x y) ↔ y.toInt < x.toInt := by
  unfold lg_cmp
  by_cases h1 : x > y
  · rw [if_pos h1]; rw [gt_iff_lt, Int64.lt_iff_toInt_lt] at h1
    exact ⟨fun _ => h1, fun _ => by decide⟩
  · rw [if_neg h1]; rw [gt_iff_lt, Int64.lt_iff_toInt_lt] at h1
    by_cases h2 : x = y
    · rw [if_pos h2, h2]; exact ⟨fun h => absurd h (by decide), fun h => by omega⟩
    · rw [if_neg h2]
      exact ⟨fun h => absurd h (by decide), fun h => absurd h h1⟩
theorem lgc_eq (x y : Int64) : (lg_cmp x y = 0) ↔ x.toInt = y.toInt := by
  unfold lg_cmp
  by_cases h1 : x > y
  · rw [if_pos h1]; rw [gt_iff_lt, Int64.lt_iff_toInt_lt] at h1
    exact ⟨fun h => absurd h (by decide), fun h => by omega⟩
  · rw [if_neg h1]; rw [gt_iff_lt, Int64.lt_iff_toInt_lt] at h1
    by_cases h2 : x = y
    · rw [if_pos h2, h2]; exact ⟨fun _ => rfl, fun _ => rfl⟩
    · rw [if_neg h2]; rw [← Int64.toInt_inj] at h2
      exact ⟨fun h => absurd h (by decide), fun h => absurd h h2⟩
theorem lgc_le (x y : Int64) : (lg_cmp x y ≤ 0) ↔ x.toInt ≤ y.toInt := by
  have h := lgc_gt x y
  rw [Int32.lt_iff_toInt_lt] at h
  rw [Int32.le_iff_toInt_le]
  have e : (0 : Int32).toInt = 0 := by decide
  rw [e] at h ⊢
  omega
theorem lgc_ge (x y : Int64) : (0 ≤ lg_cmp x y) ↔ y.toInt ≤ x.toInt := by
  have h := lgc_lt x y
  rw [Int32.lt_iff_toInt_lt] at h
  rw [Int32.le_iff_toInt_le]
  have e : (0 : Int32).toInt = 0 := by decide
  rw [e] at h ⊢
  omega
theorem ld_nI {α : Type} {n k : Nat} {f : Nat → α} (h : k < n) (hn : n < 2 ^ 31) : ld n f (nI k) = some (f k) := by
  unfold ld
  rw [if_neg (nI_in h hn), nI_clamp (by omega)]
theorem ck_nI {n k : Nat} (h : k < n) (hn : n < 2 ^ 31) : ck n (nI k) = some () := by
  unfold ck
  rw [if_neg (nI_in h hn)]
theorem rb_0 : rb 0 = some 0 := by decide
theorem rb_1 : rb 1 = some 1 := by decide
theorem bz_0 : bz 0 = some () := by decide
theorem bz_1 : bz 1 = some () := by decide
/-- places and radii -/
def Plc (x y : Int64) : Prop := -500000000 ≤ x.toInt ∧ x.toInt ≤ 500000000 ∧ -500000000 ≤ y.toInt ∧ y.toInt ≤ 500000000
def Rad (r : Int64) : Prop := 0 ≤ r.toInt ∧ r.toInt ≤ 1000000000
theorem place_M {x y : Int64} : (Plc x y ∧ f_M_isPlace x y = some 1) ∨ (¬ Plc x y ∧ f_M_isPlace x y = some 0) := by
  unfold Plc f_M_isPlace f_M_isPlace_j36 f_M_isPlace_j37
  simp only [lgc_lt, lgc_gt, lgc_le, lgc_ge, rb_0, rb_1, show (-500000000 : Int64).toInt = -500000000 by decide, show (500000000 : Int64).toInt = 500000000 by decide]
  by_cases h1 : x.toInt < -500000000
  · right; simp only [if_pos h1]; exact ⟨by omega, trivial⟩
  · by_cases h2 : 500000000 < x.toInt
    · right; simp only [if_neg h1, if_pos h2]; exact ⟨by omega, trivial⟩
    · by_cases h3 : y.toInt < -500000000
      · right; simp only [if_neg h1, if_neg h2, if_pos h3]; exact ⟨by omega, trivial⟩
      · by_cases h4 : y.toInt ≤ 500000000
        · left; simp only [if_neg h1, if_neg h2, if_neg h3]; refine ⟨by omega, ?_⟩
          first | (simp only [if_pos h4]) | (rw [if_neg (by omega)])
        · right; simp only [if_neg h1, if_neg h2, if_neg h3]; refine ⟨by omega, ?_⟩
          first | (simp only [if_neg h4]) | (rw [if_pos (by omega)])
theorem place_F (x y : Int64) : f_F_isPlace x y = f_M_isPlace x y := rfl
theorem rad_M {r : Int64} : (Rad r ∧ f_M_isRadius r = some 1) ∨ (¬ Rad r ∧ f_M_isRadius r = some 0) := by
  unfold Rad f_M_isRadius f_M_isRadius_j18 f_M_isRadius_j19
  simp only [lgc_lt, lgc_gt, lgc_le, lgc_ge, rb_0, rb_1, show (0 : Int64).toInt = 0 by decide, show (1000000000 : Int64).toInt = 1000000000 by decide]
  by_cases h1 : r.toInt < 0
  · right; simp only [if_pos h1]; exact ⟨by omega, trivial⟩
  · by_cases h2 : 1000000000 < r.toInt
    · right; simp only [if_neg h1, if_pos h2]; exact ⟨by omega, trivial⟩
    · left; simp only [if_neg h1, if_neg h2]; exact ⟨by omega, trivial⟩
theorem rad_F (r : Int64) : f_F_isLength r = f_M_isRadius r := rfl
