/-! the distance of a place to a piece, on both sides -/
theorem cp_step {n k : Nat} {vv : MV} {x y : Int64} (hx : ld 8 (md_digits vv) (nI k) = some x) (hy : ld 8 (md_digits vv) (nI (4 + k)) = some y) (hk : k < 4) : f_M_compareProducts_l19 (n + 1) vv (nI k) = if x.toInt = y.toInt then f_M_compareProducts_l19 n vv (nI k + (-1)) else some (if x.toInt < y.toInt then (-1, vv) else (1, vv)) := by
  have h0 : ¬ nI k < 0 := nI_pos (by omega)
  have e : (4 : Int32) + nI k = nI (4 + k) := nI_add 4 k
  by_cases z : x.toInt = y.toInt
  · have z' : lg_cmp x y = 0 := (lgc_eq _ _).mpr z
    simp only [f_M_compareProducts_l19, if_neg h0, hx, hy, e, Option.bind_some, if_pos z', if_pos z]
  · have z' : ¬ lg_cmp x y = 0 := fun u => z ((lgc_eq _ _).mp u)
    by_cases g : x.toInt < y.toInt
    · have g' : ¬ 0 ≤ lg_cmp x y := fun u => by have := (lgc_ge _ _).mp u; omega
      simp only [f_M_compareProducts_l19, if_neg h0, hx, hy, e, Option.bind_some, if_neg z', if_neg z, if_neg g', if_pos g, f_M_compareProducts_j69]
    · have g' : 0 ≤ lg_cmp x y := (lgc_ge _ _).mpr (by omega)
      simp only [f_M_compareProducts_l19, if_neg h0, hx, hy, e, Option.bind_some, if_neg z', if_neg z, if_pos g', if_neg g, f_M_compareProducts_j69]
theorem cp_end {n : Nat} {vv : MV} : f_M_compareProducts_l19 (n + 1) vv (-1) = some (0, vv) := by
  simp only [f_M_compareProducts_l19, show (-1 : Int32) < 0 by decide, if_true]
theorem dig_cmp {x y : Nat} {vv : MV} (X : x ≤ 85070591730234615847396907784232501249) (Y : y ≤ 85070591730234615847396907784232501249) : (if ((x / 18446744073709551616 / 4294967296 : Nat) : Int) = ((y / 18446744073709551616 / 4294967296 : Nat) : Int) then (if ((x / 18446744073709551616 % 4294967296 : Nat) : Int) = ((y / 18446744073709551616 % 4294967296 : Nat) : Int) then (if ((x / 4294967296 % 4294967296 : Nat) : Int) = ((y / 4294967296 % 4294967296 : Nat) : Int) then (if ((x % 4294967296 : Nat) : Int) = ((y % 4294967296 : Nat) : Int) then some ((0 : Int32), vv) else some (if ((x % 4294967296 : Nat) : Int) < ((y % 4294967296 : Nat) : Int) then (-1, vv) else (1, vv))) else some (if ((x / 4294967296 % 4294967296 : Nat) : Int) < ((y / 4294967296 % 4294967296 : Nat) : Int) then (-1, vv) else (1, vv))) else some (if ((x / 18446744073709551616 % 4294967296 : Nat) : Int) < ((y / 18446744073709551616 % 4294967296 : Nat) : Int) then (-1, vv) else (1, vv))) else some (if ((x / 18446744073709551616 / 4294967296 : Nat) : Int) < ((y / 18446744073709551616 / 4294967296 : Nat) : Int) then (-1, vv) else (1, vv))) = some (cmpZ (x : Int) (y : Int), vv) := by
  unfold cmpZ
  by_cases q : (x : Int) < y
  · rw [if_pos q]
    split
    · split
      · split
        · split
          · omega
          · rw [if_pos (by omega)]
        · rw [if_pos (by omega)]
      · rw [if_pos (by omega)]
    · rw [if_pos (by omega)]
  · rw [if_neg q]
    by_cases q2 : (x : Int) = y
    · rw [if_pos q2, if_pos (by omega), if_pos (by omega), if_pos (by omega), if_pos (by omega)]
    · rw [if_neg q2]
      split
      · split
        · split
          · split
            · omega
            · rw [if_neg (by omega)]
          · rw [if_neg (by omega)]
        · rw [if_neg (by omega)]
      · rw [if_neg (by omega)]
theorem mcmp_st {mv : MV} {a b c d : Int64} {d1 d2 : Nat → Int64} (e1 : f_M_multiply mv (nI 0) a b = some (ms_digits mv d1)) (e2 : f_M_multiply (ms_digits mv d1) (nI 4) c d = some (ms_digits (ms_digits mv d1) d2)) : f_M_compareProducts mv a b c d = f_M_compareProducts_l19 64 (ms_digits mv d2) (nI 3) := by
  unfold f_M_compareProducts
  rw [show (0 : Int32) = nI 0 from rfl, show (4 : Int32) = nI 4 from rfl, show (3 : Int32) = nI 3 from rfl, e1, Option.bind_some, e2, Option.bind_some]
  rfl
theorem cp_run {n : Nat} {vv : MV} {x0 x1 x2 x3 x4 x5 x6 x7 : Int64} (h0 : ld 8 (md_digits vv) (nI 0) = some x0) (h1 : ld 8 (md_digits vv) (nI 1) = some x1) (h2 : ld 8 (md_digits vv) (nI 2) = some x2) (h3 : ld 8 (md_digits vv) (nI 3) = some x3) (h4 : ld 8 (md_digits vv) (nI 4) = some x4) (h5 : ld 8 (md_digits vv) (nI 5) = some x5) (h6 : ld 8 (md_digits vv) (nI 6) = some x6) (h7 : ld 8 (md_digits vv) (nI 7) = some x7) :
    f_M_compareProducts_l19 (n + 5) vv (nI 3) = if x3.toInt = x7.toInt then (if x2.toInt = x6.toInt then (if x1.toInt = x5.toInt then (if x0.toInt = x4.toInt then some ((0 : Int32), vv) else some (if x0.toInt < x4.toInt then (-1, vv) else (1, vv))) else some (if x1.toInt < x5.toInt then (-1, vv) else (1, vv))) else some (if x2.toInt < x6.toInt then (-1, vv) else (1, vv))) else some (if x3.toInt < x7.toInt then (-1, vv) else (1, vv)) := by
  rw [cp_step (n := n + 4) (k := 3) h3 h7 (by decide), show nI 3 + (-1) = nI 2 by decide,
    cp_step (n := n + 3) (k := 2) h2 h6 (by decide), show nI 2 + (-1) = nI 1 by decide,
    cp_step (n := n + 2) (k := 1) h1 h5 (by decide), show nI 1 + (-1) = nI 0 by decide,
    cp_step (n := n + 1) (k := 0) h0 h4 (by decide), show nI 0 + (-1) = (-1 : Int32) by decide, cp_end]
theorem uN_sm {x : Int64} {n : Nat} (h : uN x = n) (hn : n < 4294967296) : x.toInt = (n : Int) := by rw [uN_int, h, if_pos (by omega)]
theorem mcmp {mv : MV} {a b c d : Int64} (ha : 0 ≤ a.toInt) (hb : 0 ≤ b.toInt) (hc : 0 ≤ c.toInt) (hd : 0 ≤ d.toInt) : ∃ t, f_M_compareProducts mv a b c d = some (cmpZ (a.toInt * b.toInt) (c.toInt * d.toInt), ms_digits mv t) := by
  obtain ⟨d1, e1, k1, u0, u1, u2, u3⟩ := mmul (mv := mv) (p := 0) (by decide) ha hb
  obtain ⟨d2, e2, k2, v0, v1, v2, v3⟩ := mmul (mv := ms_digits mv d1) (p := 4) (by decide) hc hd
  have P : a.toInt * b.toInt = ((uN a * uN b : Nat) : Int) := by rw [Int.natCast_mul, (uN_nn ha).1, (uN_nn hb).1]
  have Q : c.toInt * d.toInt = ((uN c * uN d : Nat) : Int) := by rw [Int.natCast_mul, (uN_nn hc).1, (uN_nn hd).1]
  have X : uN a * uN b ≤ 85070591730234615847396907784232501249 := Nat.le_trans (Nat.mul_le_mul (show _ ≤ 9223372036854775807 by have := (uN_nn ha).2; omega) (show _ ≤ 9223372036854775807 by have := (uN_nn hb).2; omega)) (by decide)
  have Y : uN c * uN d ≤ 85070591730234615847396907784232501249 := Nat.le_trans (Nat.mul_le_mul (show _ ≤ 9223372036854775807 by have := (uN_nn hc).2; omega) (show _ ≤ 9223372036854775807 by have := (uN_nn hd).2; omega)) (by decide)
  refine ⟨d2, ?_⟩
  have l : ∀ k, k < 8 → ld 8 (md_digits (ms_digits mv d2)) (nI k) = some (d2 k) := fun k hk => ld_nI hk (by decide)
  rw [mcmp_st e1 e2]
  refine (cp_run (n := 59) (l 0 (by decide)) (l 1 (by decide)) (l 2 (by decide)) (l 3 (by decide)) (l 4 (by decide)) (l 5 (by decide)) (l 6 (by decide)) (l 7 (by decide))).trans ?_
  rw [P, Q]
  generalize uN a * uN b = x at *
  generalize uN c * uN d = y at *
  have i0 : (d2 0).toInt = _ := uN_sm ((congrArg uN (k2 0 (by omega))).trans u0) (by omega)
  have i1 : (d2 1).toInt = _ := uN_sm ((congrArg uN (k2 1 (by omega))).trans u1) (by omega)
  have i2 : (d2 2).toInt = _ := uN_sm ((congrArg uN (k2 2 (by omega))).trans u2) (by omega)
  have i3 : (d2 3).toInt = _ := uN_sm ((congrArg uN (k2 3 (by omega))).trans u3) (by omega)
  have i4 : (d2 4).toInt = _ := uN_sm v0 (by omega)
  have i5 : (d2 5).toInt = _ := uN_sm v1 (by omega)
  have i6 : (d2 6).toInt = _ := uN_sm v2 (by omega)
  have i7 : (d2 7).toInt = _ := uN_sm v3 (by omega)
  rw [i0, i1, i2, i3, i4, i5, i6, i7]
  exact dig_cmp X Y
/-- differences and products of places -/
def Hlf (x : Int64) : Prop := -500000000 ≤ x.toInt ∧ x.toInt ≤ 500000000
def Dff (x : Int64) : Prop := -1000000000 ≤ x.toInt ∧ x.toInt ≤ 1000000000
theorem d_sub {x a : Int64} (hx : Hlf x) (ha : Hlf a) : (x - a).toInt = x.toInt - a.toInt ∧ Dff (x - a) := by
  obtain ⟨h1, h2⟩ := hx
  obtain ⟨h3, h4⟩ := ha
  have e : (x - a).toInt = x.toInt - a.toInt := j_sub (by omega) (by omega)
  exact ⟨e, by unfold Dff; omega⟩
theorem d_mul {a b : Int64} (ha : Dff a) (hb : Dff b) : (a * b).toInt = a.toInt * b.toInt ∧ -1000000000000000000 ≤ a.toInt * b.toInt ∧ a.toInt * b.toInt ≤ 1000000000000000000 := by
  have z := z_mul ha.1 ha.2 hb.1 hb.2
  have e : (1000000000 : Int) * 1000000000 = 1000000000000000000 := by decide
  rw [e] at z
  exact ⟨j_mul (by omega) (by omega), z⟩
theorem d_add2 {a b c d : Int64} (ha : Dff a) (hb : Dff b) (hc : Dff c) (hd : Dff d) : (a * b + c * d).toInt = a.toInt * b.toInt + c.toInt * d.toInt ∧ (a * b + c * d).toInt ≤ 2000000000000000000 := by
  obtain ⟨e1, e2, e3⟩ := d_mul ha hb
  obtain ⟨f1, f2, f3⟩ := d_mul hc hd
  have e : (a * b + c * d).toInt = a.toInt * b.toInt + c.toInt * d.toInt := by rw [j_add (by omega) (by omega), e1, f1]
  exact ⟨e, by omega⟩
theorem d_sub2 {a b c d : Int64} (ha : Dff a) (hb : Dff b) (hc : Dff c) (hd : Dff d) : (a * b - c * d).toInt = a.toInt * b.toInt - c.toInt * d.toInt ∧ -2000000000000000000 ≤ (a * b - c * d).toInt ∧ (a * b - c * d).toInt ≤ 2000000000000000000 := by
  obtain ⟨e1, e2, e3⟩ := d_mul ha hb
  obtain ⟨f1, f2, f3⟩ := d_mul hc hd
  have e : (a * b - c * d).toInt = a.toInt * b.toInt - c.toInt * d.toInt := by rw [j_sub (by omega) (by omega), e1, f1]
  exact ⟨e, by omega⟩
def Rch (r : Int64) : Prop := 0 ≤ r.toInt ∧ r.toInt ≤ 3000000000
theorem r_sq {r : Int64} (h : Rch r) : (r * r).toInt = r.toInt * r.toInt ∧ 0 ≤ r.toInt * r.toInt ∧ r.toInt * r.toInt ≤ 9000000000000000000 := by
  obtain ⟨h1, h2⟩ := h
  have z := z_mul (A := 3000000000) (B := 3000000000) (by omega) h2 (by omega) h2
  have e : (3000000000 : Int) * 3000000000 = 9000000000000000000 := by decide
  rw [e] at z
  have n : 0 ≤ r.toInt * r.toInt := Int.mul_nonneg h1 h1
  exact ⟨j_mul (by omega) (by omega), n, z.2⟩
/-- crossed: above 0 when the place is left of the piece -/
def crs (a b c d x y : Int) : Int := (c - a) * (y - b) - (d - b) * (x - a)
def fot (a b c d x y : Int) : Int := (c - a) * (x - a) + (d - b) * (y - b)
def lng (a b c d : Int) : Int := (c - a) * (c - a) + (d - b) * (d - b)
def sqr (a b x y : Int) : Int := (x - a) * (x - a) + (y - b) * (y - b)
def dcmp (a b c d x y r : Int) : Int32 := if fot a b c d x y ≤ 0 then cmpZ (sqr a b x y) (r * r) else if lng a b c d ≤ fot a b c d x y then cmpZ (sqr c d x y) (r * r) else cmpZ (crs a b c d x y * crs a b c d x y) (r * r * lng a b c d)
theorem lng_nn (a b c d : Int) : 0 ≤ lng a b c d := by
  unfold lng
  have h1 : 0 ≤ (c - a) * (c - a) := by
    rcases Int.le_total 0 (c - a) with h | h
    · exact Int.mul_nonneg h h
    · exact Int.mul_nonneg_of_nonpos_of_nonpos h h
  have h2 : 0 ≤ (d - b) * (d - b) := by
    rcases Int.le_total 0 (d - b) with h | h
    · exact Int.mul_nonneg h h
    · exact Int.mul_nonneg_of_nonpos_of_nonpos h h
  omega
theorem abs_sq (z : Int) : (if 0 < z then z else -z) * (if 0 < z then z else -z) = z * z := by
  split
  · rfl
  · rw [Int.neg_mul_neg]
theorem far_ev {mv : MV} {px py a b c d r : Int64} (hp : Plc px py) (ha : Plc a b) (hc : Plc c d) (hr : Rch r) : ∃ t, f_M_farther mv px py a b c d r = some (dcmp a.toInt b.toInt c.toInt d.toInt px.toInt py.toInt r.toInt, ms_digits mv t) := by
  obtain ⟨e1, d1⟩ := d_sub (x := px) (a := a) ⟨hp.1, hp.2.1⟩ ⟨ha.1, ha.2.1⟩
  obtain ⟨e2, d2⟩ := d_sub (x := c) (a := a) ⟨hc.1, hc.2.1⟩ ⟨ha.1, ha.2.1⟩
  obtain ⟨e3, d3⟩ := d_sub (x := py) (a := b) hp.2.2 ha.2.2
  obtain ⟨e4, d4⟩ := d_sub (x := d) (a := b) hc.2.2 ha.2.2
  obtain ⟨e5, d5⟩ := d_sub (x := px) (a := c) ⟨hp.1, hp.2.1⟩ ⟨hc.1, hc.2.1⟩
  obtain ⟨e6, d6⟩ := d_sub (x := py) (a := d) hp.2.2 hc.2.2
  obtain ⟨f1, -⟩ := d_add2 d1 d2 d3 d4
  obtain ⟨f2, f2b⟩ := d_add2 d2 d2 d4 d4
  obtain ⟨f3, f3b, f3c⟩ := d_sub2 d2 d3 d4 d1
  obtain ⟨f4, f4b⟩ := d_add2 d1 d1 d3 d3
  obtain ⟨f5, f5b⟩ := d_add2 d5 d5 d6 d6
  obtain ⟨g1, g2, g3⟩ := r_sq hr
  have n2 : 0 ≤ ((c - a) * (c - a) + (d - b) * (d - b)).toInt := by
    rw [f2, e2, e4]; exact lng_nn _ _ _ _
  have n4 : 0 ≤ ((px - a) * (px - a) + (py - b) * (py - b)).toInt := by
    rw [f4, e1, e3]; exact lng_nn _ _ _ _
  have n5 : 0 ≤ ((px - c) * (px - c) + (py - d) * (py - d)).toInt := by
    rw [f5, e5, e6]; exact lng_nn _ _ _ _
  have k1 : ((px - a) * (c - a) + (py - b) * (d - b)).toInt = fot a.toInt b.toInt c.toInt d.toInt px.toInt py.toInt := by
    rw [f1, e1, e2, e3, e4]; unfold fot; rw [Int.mul_comm (px.toInt - a.toInt), Int.mul_comm (py.toInt - b.toInt)]
  have k2 : ((c - a) * (c - a) + (d - b) * (d - b)).toInt = lng a.toInt b.toInt c.toInt d.toInt := by rw [f2, e2, e4]; rfl
  have k3 : ((c - a) * (py - b) - (d - b) * (px - a)).toInt = crs a.toInt b.toInt c.toInt d.toInt px.toInt py.toInt := by rw [f3, e1, e2, e3, e4]; rfl
  have k4 : ((px - a) * (px - a) + (py - b) * (py - b)).toInt = sqr a.toInt b.toInt px.toInt py.toInt := by rw [f4, e1, e3]; rfl
  have k5 : ((px - c) * (px - c) + (py - d) * (py - d)).toInt = sqr c.toInt d.toInt px.toInt py.toInt := by rw [f5, e5, e6]; rfl
  have z0 : (0 : Int64).toInt = 0 := by decide
  have sg : ∀ s : Int64, 0 ≤ s.toInt → s.toInt ≤ 2000000000000000000 → cmpZ (s - r * r).toInt 0 = cmpZ s.toInt (r.toInt * r.toInt) := fun s h1 h2 => by
    rw [j_sub (by omega) (by omega), g1]
    unfold cmpZ
    split
    · rw [if_pos (by omega)]
    · split
      · rw [if_neg (by omega), if_pos (by omega)]
      · rw [if_neg (by omega), if_neg (by omega)]
  unfold dcmp
  by_cases q1 : fot a.toInt b.toInt c.toInt d.toInt px.toInt py.toInt ≤ 0
  · have q1' : ¬ 0 < lg_cmp ((px - a) * (c - a) + (py - b) * (d - b)) 0 := fun u => by have := (lgc_gt _ _).mp u; rw [k1, z0] at this; omega
    refine ⟨md_digits mv, ?_⟩
    simp only [f_M_farther, Option.bind_some, if_neg q1', msign, if_pos q1]
    rw [sg _ n4 f4b, k4]; rfl
  · have q1' : 0 < lg_cmp ((px - a) * (c - a) + (py - b) * (d - b)) 0 := (lgc_gt _ _).mpr (by rw [k1, z0]; omega)
    by_cases q2 : lng a.toInt b.toInt c.toInt d.toInt ≤ fot a.toInt b.toInt c.toInt d.toInt px.toInt py.toInt
    · have q2' : ¬ lg_cmp ((px - a) * (c - a) + (py - b) * (d - b)) ((c - a) * (c - a) + (d - b) * (d - b)) < 0 := fun u => by have := (lgc_lt _ _).mp u; rw [k1, k2] at this; omega
      refine ⟨md_digits mv, ?_⟩
      simp only [f_M_farther, Option.bind_some, if_pos q1', if_neg q2', msign, if_neg q1, if_pos q2]
      rw [sg _ n5 f5b, k5]; rfl
    · have q2' : lg_cmp ((px - a) * (c - a) + (py - b) * (d - b)) ((c - a) * (c - a) + (d - b) * (d - b)) < 0 := (lgc_lt _ _).mpr (by rw [k1, k2]; omega)
      by_cases q3 : 0 ≤ lg_cmp ((c - a) * (py - b) - (d - b) * (px - a)) 0
      · have q3' := (lgc_ge _ _).mp q3
        rw [k3, z0] at q3'
        obtain ⟨t, ht⟩ := mcmp (mv := mv) (a := (c - a) * (py - b) - (d - b) * (px - a)) (b := (c - a) * (py - b) - (d - b) * (px - a)) (c := r * r) (d := (c - a) * (c - a) + (d - b) * (d - b)) (by rw [k3]; exact q3') (by rw [k3]; exact q3') (by rw [g1]; exact g2) n2
        refine ⟨t, ?_⟩
        simp only [f_M_farther, Option.bind_some, if_pos q1', if_pos q2', f_M_cross, if_pos q3, f_M_farther_j150, ht, if_neg q1, if_neg q2, k3, g1, k2]
      · have q3' : crs a.toInt b.toInt c.toInt d.toInt px.toInt py.toInt < 0 := Int.not_le.mp (fun u => q3 ((lgc_ge _ _).mpr (by rw [k3, z0]; exact u)))
        have ng : ((0 : Int64) - ((c - a) * (py - b) - (d - b) * (px - a))).toInt = - crs a.toInt b.toInt c.toInt d.toInt px.toInt py.toInt := by
          rw [j_sub (by rw [z0]; omega) (by rw [z0]; omega), z0, k3]; omega
        obtain ⟨t, ht⟩ := mcmp (mv := mv) (a := (0 : Int64) - ((c - a) * (py - b) - (d - b) * (px - a))) (b := (0 : Int64) - ((c - a) * (py - b) - (d - b) * (px - a))) (c := r * r) (d := (c - a) * (c - a) + (d - b) * (d - b)) (by rw [ng]; omega) (by rw [ng]; omega) (by rw [g1]; exact g2) n2
        refine ⟨t, ?_⟩
        simp only [f_M_farther, Option.bind_some, if_pos q1', if_pos q2', f_M_cross, if_neg q3, f_M_farther_j150, ht, if_neg q1, if_neg q2, ng, g1, k2, Int.neg_mul_neg]
/-- the class's sides: k's end is e k -/
def Sds (w : SV) (c : Nat) (e : Nat → Nat) : Prop := c ≤ 48 ∧ sN w = nI c ∧ (∀ k, k < c → Plc (sX w k) (sY w k)) ∧ ∀ k, k < c → sE w k = nI (e k) ∧ e k < c
theorem cross_ev {w : SV} {c k : Nat} {e : Nat → Nat} {x y : Int64} (S : Sds w c e) (hk : k < c) (hp : Plc x y) : ∃ z, f_S_cross w (nI k) x y = some z ∧ z.toInt = crs (sX w k).toInt (sY w k).toInt (sX w (e k)).toInt (sY w (e k)).toInt x.toInt y.toInt ∧ -2000000000000000000 ≤ z.toInt ∧ z.toInt ≤ 2000000000000000000 := by
  obtain ⟨hc, hn, hpl, he⟩ := S
  have h1 := hpl k hk
  have h2 := hpl (e k) (he k hk).2
  have hek := (he k hk).2
  have l1 : ld 48 (sE w) (nI k) = some (nI (e k)) := by rw [ld_nI (by omega) (by decide), (he k hk).1]
  have l2 : ld 48 (sX w) (nI (e k)) = some (sX w (e k)) := ld_nI (by omega) (by decide)
  have l3 : ld 48 (sX w) (nI k) = some (sX w k) := ld_nI (by omega) (by decide)
  have l4 : ld 48 (sY w) (nI k) = some (sY w k) := ld_nI (by omega) (by decide)
  have l5 : ld 48 (sY w) (nI (e k)) = some (sY w (e k)) := ld_nI (by omega) (by decide)
  obtain ⟨e1, d1⟩ := d_sub (x := sX w (e k)) (a := sX w k) ⟨h2.1, h2.2.1⟩ ⟨h1.1, h1.2.1⟩
  obtain ⟨e2, d2⟩ := d_sub (x := y) (a := sY w k) hp.2.2 h1.2.2
  obtain ⟨e3, d3⟩ := d_sub (x := sY w (e k)) (a := sY w k) h2.2.2 h1.2.2
  obtain ⟨e4, d4⟩ := d_sub (x := x) (a := sX w k) ⟨hp.1, hp.2.1⟩ ⟨h1.1, h1.2.1⟩
  obtain ⟨f1, f2, f3⟩ := d_sub2 d1 d2 d3 d4
  refine ⟨_, by simp only [f_S_cross, l1, l2, l3, l4, l5, Option.bind_some], ?_, f2, f3⟩
  rw [f1, e1, e2, e3, e4]; rfl
theorem cts_ev {w : SV} {c k : Nat} {e : Nat → Nat} {x y r : Int64} (S : Sds w c e) (hk : k < c) (hp : Plc x y) (hr : Rch r) : f_S_compareToSide w (nI k) x y r = some (dcmp (sX w k).toInt (sY w k).toInt (sX w (e k)).toInt (sY w (e k)).toInt x.toInt y.toInt r.toInt) := by
  obtain ⟨cz, cr1, cr2, cr3, cr4⟩ := cross_ev S hk hp
  obtain ⟨hc, hn, hpl, he⟩ := S
  have h1 := hpl k hk
  have h2 := hpl (e k) (he k hk).2
  have hek := (he k hk).2
  have l1 : ld 48 (sE w) (nI k) = some (nI (e k)) := by rw [ld_nI (by omega) (by decide), (he k hk).1]
  have l2 : ld 48 (sX w) (nI (e k)) = some (sX w (e k)) := ld_nI (by omega) (by decide)
  have l3 : ld 48 (sX w) (nI k) = some (sX w k) := ld_nI (by omega) (by decide)
  have l4 : ld 48 (sY w) (nI k) = some (sY w k) := ld_nI (by omega) (by decide)
  have l5 : ld 48 (sY w) (nI (e k)) = some (sY w (e k)) := ld_nI (by omega) (by decide)
  obtain ⟨e1, d1⟩ := d_sub (x := sX w (e k)) (a := sX w k) ⟨h2.1, h2.2.1⟩ ⟨h1.1, h1.2.1⟩
  obtain ⟨e2, d2⟩ := d_sub (x := y) (a := sY w k) hp.2.2 h1.2.2
  obtain ⟨e3, d3⟩ := d_sub (x := sY w (e k)) (a := sY w k) h2.2.2 h1.2.2
  obtain ⟨e4, d4⟩ := d_sub (x := x) (a := sX w k) ⟨hp.1, hp.2.1⟩ ⟨h1.1, h1.2.1⟩
  obtain ⟨e5, d5⟩ := d_sub (x := x) (a := sX w (e k)) ⟨hp.1, hp.2.1⟩ ⟨h2.1, h2.2.1⟩
  obtain ⟨e6, d6⟩ := d_sub (x := y) (a := sY w (e k)) hp.2.2 h2.2.2
  obtain ⟨f1, -⟩ := d_add2 d1 d4 d3 d2
  obtain ⟨f2, f2b⟩ := d_add2 d1 d1 d3 d3
  obtain ⟨f4, f4b⟩ := d_add2 d4 d4 d2 d2
  obtain ⟨f5, f5b⟩ := d_add2 d5 d5 d6 d6
  obtain ⟨g1, g2, g3⟩ := r_sq hr
  have k1 : ((sX w (e k) - sX w k) * (x - sX w k) + (sY w (e k) - sY w k) * (y - sY w k)).toInt = fot (sX w k).toInt (sY w k).toInt (sX w (e k)).toInt (sY w (e k)).toInt x.toInt y.toInt := by rw [f1, e1, e2, e3, e4]; rfl
  have k2 : ((sX w (e k) - sX w k) * (sX w (e k) - sX w k) + (sY w (e k) - sY w k) * (sY w (e k) - sY w k)).toInt = lng (sX w k).toInt (sY w k).toInt (sX w (e k)).toInt (sY w (e k)).toInt := by rw [f2, e1, e3]; rfl
  have k4 : ((x - sX w k) * (x - sX w k) + (y - sY w k) * (y - sY w k)).toInt = sqr (sX w k).toInt (sY w k).toInt x.toInt y.toInt := by rw [f4, e4, e2]; rfl
  have k5 : ((x - sX w (e k)) * (x - sX w (e k)) + (y - sY w (e k)) * (y - sY w (e k))).toInt = sqr (sX w (e k)).toInt (sY w (e k)).toInt x.toInt y.toInt := by rw [f5, e5, e6]; rfl
  have n2 : 0 ≤ lng (sX w k).toInt (sY w k).toInt (sX w (e k)).toInt (sY w (e k)).toInt := lng_nn _ _ _ _
  have z0 : (0 : Int64).toInt = 0 := by decide
  unfold dcmp
  by_cases q1 : fot (sX w k).toInt (sY w k).toInt (sX w (e k)).toInt (sY w (e k)).toInt x.toInt y.toInt ≤ 0
  · have q1' : ¬ 0 < lg_cmp ((sX w (e k) - sX w k) * (x - sX w k) + (sY w (e k) - sY w k) * (y - sY w k)) 0 := fun u => by have := (lgc_gt _ _).mp u; rw [k1, z0] at this; omega
    simp only [f_S_compareToSide, l1, l2, l3, l4, l5, Option.bind_some, if_neg q1', f_S_squareTo, jlc, if_pos q1, k4, g1]
  · have q1' : 0 < lg_cmp ((sX w (e k) - sX w k) * (x - sX w k) + (sY w (e k) - sY w k) * (y - sY w k)) 0 := (lgc_gt _ _).mpr (by rw [k1, z0]; omega)
    by_cases q2 : lng (sX w k).toInt (sY w k).toInt (sX w (e k)).toInt (sY w (e k)).toInt ≤ fot (sX w k).toInt (sY w k).toInt (sX w (e k)).toInt (sY w (e k)).toInt x.toInt y.toInt
    · have q2' : ¬ lg_cmp ((sX w (e k) - sX w k) * (x - sX w k) + (sY w (e k) - sY w k) * (y - sY w k)) ((sX w (e k) - sX w k) * (sX w (e k) - sX w k) + (sY w (e k) - sY w k) * (sY w (e k) - sY w k)) < 0 := fun u => by have := (lgc_lt _ _).mp u; rw [k1, k2] at this; omega
      simp only [f_S_compareToSide, l1, l2, l3, l4, l5, Option.bind_some, if_pos q1', if_neg q2', f_S_squareTo, jlc, if_neg q1, if_pos q2, k5, g1]
    · have q2' : lg_cmp ((sX w (e k) - sX w k) * (x - sX w k) + (sY w (e k) - sY w k) * (y - sY w k)) ((sX w (e k) - sX w k) * (sX w (e k) - sX w k) + (sY w (e k) - sY w k) * (sY w (e k) - sY w k)) < 0 := (lgc_lt _ _).mpr (by rw [k1, k2]; omega)
      have ab : (if (0 : Int64) < cz then cz else -cz).toInt = if 0 < cz.toInt then cz.toInt else -cz.toInt := by
        by_cases u : (0 : Int64) < cz
        · rw [if_pos u, if_pos (by rw [Int64.lt_iff_toInt_lt, z0] at u; exact u)]
        · rw [if_neg u, if_neg (by rw [Int64.lt_iff_toInt_lt, z0] at u; exact u), j_neg (by omega)]
      have abn : 0 ≤ (if (0 : Int64) < cz then cz else -cz).toInt := by rw [ab]; split <;> omega
      have hw := wcmp (a := if (0 : Int64) < cz then cz else -cz) (b := if (0 : Int64) < cz then cz else -cz) (c := r * r) (d := (sX w (e k) - sX w k) * (sX w (e k) - sX w k) + (sY w (e k) - sY w k) * (sY w (e k) - sY w k)) abn abn (by rw [g1]; exact g2) (by rw [k2]; exact n2)
      rw [ab, abs_sq, cr2, g1, k2] at hw
      simp only [f_S_compareToSide, l1, l2, l3, l4, l5, Option.bind_some, if_pos q1', if_pos q2', cr1, hw, if_neg q1, if_neg q2]
