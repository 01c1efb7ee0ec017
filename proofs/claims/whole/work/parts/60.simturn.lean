/-! turn: the reference's side -/
theorem i_lt (x : Int32) : x.toInt < 2147483648 := Int32.toInt_lt x
theorem i_ge (x : Int32) : -2147483648 ≤ x.toInt := Int32.le_toInt x
theorem i_add {a b : Int32} (h1 : -2147483648 ≤ a.toInt + b.toInt) (h2 : a.toInt + b.toInt < 2147483648) : (a + b).toInt = a.toInt + b.toInt := by
  rw [Int32.toInt_add]
  exact Int.bmod_eq_of_le_mul_two (by show -((4294967296 : Nat) : Int) ≤ _; omega) (by show _ < ((4294967296 : Nat) : Int); omega)
theorem i_sub {a b : Int32} (h1 : -2147483648 ≤ a.toInt - b.toInt) (h2 : a.toInt - b.toInt < 2147483648) : (a - b).toInt = a.toInt - b.toInt := by
  rw [Int32.toInt_sub]
  exact Int.bmod_eq_of_le_mul_two (by show -((4294967296 : Nat) : Int) ≤ _; omega) (by show _ < ((4294967296 : Nat) : Int); omega)
theorem i_mul {a b : Int32} (h1 : -2147483648 ≤ a.toInt * b.toInt) (h2 : a.toInt * b.toInt < 2147483648) : (a * b).toInt = a.toInt * b.toInt := by
  rw [Int32.toInt_mul]
  exact Int.bmod_eq_of_le_mul_two (by show -((4294967296 : Nat) : Int) ≤ _; omega) (by show _ < ((4294967296 : Nat) : Int); omega)
theorem i_rem4 (q : Int32) : (q - q / 4 * 4).toInt = if 0 ≤ q.toInt then q.toInt % 4 else -((-q.toInt) % 4) := by
  have h1 := i_lt q
  have h2 := i_ge q
  have e4 : (4 : Int32).toInt = 4 := by decide
  have d : (q / 4).toInt = if 0 ≤ q.toInt then q.toInt / 4 else -((-q.toInt) / 4) := by
    rw [Int32.toInt_div, e4]
    by_cases z : 0 ≤ q.toInt
    · rw [if_pos z, Int.tdiv_eq_ediv_of_nonneg z]
      exact Int.bmod_eq_of_le_mul_two (by show -((4294967296 : Nat) : Int) ≤ _; omega) (by show _ < ((4294967296 : Nat) : Int); omega)
    · rw [if_neg z]
      have e : q.toInt.tdiv 4 = -((-q.toInt) / 4) := by
        have := Int.neg_tdiv (a := -q.toInt) (b := 4)
        rw [Int.neg_neg] at this
        rw [this, Int.tdiv_eq_ediv_of_nonneg (by omega)]
      rw [e]
      exact Int.bmod_eq_of_le_mul_two (by show -((4294967296 : Nat) : Int) ≤ _; omega) (by show _ < ((4294967296 : Nat) : Int); omega)
  have m : (q / 4 * 4).toInt = (q / 4).toInt * 4 := by
    have := i_mul (a := q / 4) (b := 4) (by rw [e4, d]; split <;> omega) (by rw [e4, d]; split <;> omega)
    rw [e4] at this; exact this
  rw [i_sub (by rw [m, d]; split <;> omega) (by rw [m, d]; split <;> omega), m, d]
  split <;> omega
theorem i_of {x : Int32} {t : Nat} (ht : t < 2147483648) (h : x.toInt = t) : x = nI t := Int32.toInt_inj.mp (by rw [h, nI_toInt (by omega)])
theorem xor4 (q : Int32) : (0 ≤ q ^^^ 4) ↔ 0 ≤ q.toInt := by
  rw [Int32.le_iff_toInt_le]
  show (0 : Int) ≤ (q ^^^ 4).toBitVec.toInt ↔ 0 ≤ q.toBitVec.toInt
  rw [Int32.toBitVec_xor]
  have hm : (q.toBitVec ^^^ (4 : Int32).toBitVec).msb = q.toBitVec.msb := by
    rw [BitVec.msb_xor, show (4 : Int32).toBitVec.msb = false by decide]
    cases q.toBitVec.msb <;> rfl
  have key : ∀ b : BitVec 32, (0 ≤ b.toInt) ↔ b.msb = false := fun b => by
    have e := BitVec.toInt_eq_msb_cond b
    have hlt := b.isLt
    rw [e]
    cases hb : b.msb
    · simp
    · simp; omega
  rw [key, key, hm]
/-- quarters, forward -/
def qtr (q : Int32) : Nat := (q.toInt % 4).toNat
theorem floor4 (q : Int32) : f_JM_floorMod_II q 4 = some (nI (qtr q)) := by
  have r := i_rem4 q
  have e4 : (4 : Int32).toInt = 4 := by decide
  have e0 : (0 : Int32).toInt = 0 := by decide
  have hb : qtr q < 4 := by unfold qtr; omega
  unfold f_JM_floorMod_II f_JM_floorMod_II_j18
  rw [if_neg (by decide)]
  by_cases z : 0 ≤ q.toInt
  · rw [if_pos ((xor4 q).mpr z)]
    rw [if_pos z] at r
    exact congrArg some (i_of (by omega) (by rw [r]; unfold qtr; omega))
  · rw [if_neg (fun u => z ((xor4 q).mp u))]
    rw [if_neg z] at r
    by_cases y : q - q / 4 * 4 = 0
    · rw [if_pos y]
      rw [y, e0] at r
      exact congrArg some (i_of (by omega) (by rw [y, e0]; unfold qtr; omega))
    · rw [if_neg y]
      have y' : ¬ (q - q / 4 * 4).toInt = 0 := fun u => y (Int32.toInt_inj.mp (by rw [u, e0]))
      refine congrArg some (i_of (by omega) ?_)
      rw [i_add (by omega) (by omega), r, e4]
      rw [r] at y'
      unfold qtr; omega
theorem quart4 (q : Int32) : ((q - q / 4 * 4) + 4) - ((q - q / 4 * 4) + 4) / 4 * 4 = nI (qtr q) := by
  have hb : qtr q < 4 := by unfold qtr; omega
  have r := i_rem4 q
  have e4 : (4 : Int32).toInt = 4 := by decide
  have hr : (q - q / 4 * 4).toInt + 4 = (q - q / 4 * 4 + 4).toInt := by
    rw [i_add (by rw [r, e4]; split <;> omega) (by rw [r, e4]; split <;> omega), e4]
  have r2 := i_rem4 (q - q / 4 * 4 + 4)
  refine i_of (by omega) ?_
  rw [r2, ← hr, r]
  unfold qtr
  split <;> split <;> omega
/-- the reference's state but for its corners -/
def Cor (a b : MV) : Prop := md_shapes b = md_shapes a ∧ md_thrown b = md_thrown a ∧ md_kinds b = md_kinds a ∧ md_radii b = md_radii a ∧ md_many b = md_many a ∧ md_rings b = md_rings a ∧ md_ends b = md_ends a
def tnp : Nat → Int64 × Int64 → Int64 × Int64
  | 0, p => p
  | t + 1, p => trn (tnp t p).1 (tnp t p).2
theorem mtrn_l {K : MV → Int32 → Int32 → Int32 → Int32 → Option (Int32 × MV)} {v0 : MV} {p3 p4 : Int32} {P T : Nat} {pt : Int64 × Int64} (hP : P < 1920) (hT : T < 60) : ∀ n t vv, T < t + n → t ≤ T → Cor v0 vv → (∀ j, md_cornerX vv j = (if j = P then (tnp t pt).1 else md_cornerX v0 j) ∧ md_cornerY vv j = (if j = P then (tnp t pt).2 else md_cornerY v0 j)) → ∃ vv', f_M_turn_l119 K n vv p3 p4 (nI T) (nI P) (nI t) = K vv' p3 p4 (nI T) (nI (P + 1)) ∧ Cor v0 vv' ∧ (∀ j, md_cornerX vv' j = (if j = P then (tnp T pt).1 else md_cornerX v0 j) ∧ md_cornerY vv' j = (if j = P then (tnp T pt).2 else md_cornerY v0 j)) := by
  intro n
  induction n with
  | zero => intro t vv h1 h2; omega
  | succ n ih =>
    intro t vv h1 h2 h3 h4
    by_cases z : t = T
    · subst z
      have hle : nI t ≤ nI t := by rw [nI_leI (by omega) (by omega)]; omega
      exact ⟨vv, by simp only [f_M_turn_l119, if_pos hle, nI_1], h3, h4⟩
    · have hle : ¬ nI T ≤ nI t := by rw [nI_leI (by omega) (by omega)]; omega
      have l1 : ld 1920 (md_cornerX vv) (nI P) = some (tnp t pt).1 := by rw [ld_nI hP (by decide), (h4 P).1, if_pos rfl]
      have l2 : ld 1920 (md_cornerY vv) (nI P) = some (tnp t pt).2 := by rw [ld_nI hP (by decide), (h4 P).2, if_pos rfl]
      have k0 : ck 1920 (nI P) = some () := ck_nI hP (by decide)
      have k1 : (nI P).toNatClampNeg = P := nI_clamp (by omega)
      obtain ⟨vv', g1, g2⟩ := ih (t + 1) (ms_cornerY (ms_cornerX vv (vp_updL (md_cornerX vv) P (-(tnp t pt).2))) (vp_updL (md_cornerY vv) P (tnp t pt).1)) (by omega) (by omega) h3 (fun j => by
        show vp_updL (md_cornerX vv) P (-(tnp t pt).2) j = _ ∧ vp_updL (md_cornerY vv) P (tnp t pt).1 j = _
        by_cases q : j = P
        · rw [q, pk_uLs, pk_uLs, if_pos rfl, if_pos rfl]; exact ⟨rfl, rfl⟩
        · rw [pk_uLn q, pk_uLn q, (h4 j).1, (h4 j).2, if_neg q, if_neg q, if_neg q, if_neg q]; exact ⟨rfl, rfl⟩)
      refine ⟨vv', ?_, g2⟩
      rw [← g1]
      simp only [f_M_turn_l119, if_neg hle, l1, l2, k0, k1, Option.bind_some, nI_1, z_sub]
      rfl
def img (p3 : Int32) (T : Nat) (x y : Int64) : Int64 × Int64 := tnp T (if p3 = 0 then (x, y) else mir x y)
/-- what stands behind the loop over the corners -/
def f_end (vv : MV) (n : Nat) : Option (Int32 × MV) := (ld 40 (md_kinds vv) (nI n)).bind fun u13 => (if u13 = (1 : Int32) then (f_M_order vv ((48 : Int32) * (nI n))).bind fun u15 => (f_M_turn_j192 u15 (nI n)) else (f_M_turn_j192 vv (nI n)))
theorem mturn_l {v0 : MV} {p3 : Int32} {n m T : Nat} (hn : n < 40) (hm : m ≤ 48) (hT : T < 60) (em : md_many v0 n = nI m) : ∀ f k vv, m < k + f → k ≤ m → Cor v0 vv → (∀ j, md_cornerX vv j = (if 48 * n ≤ j ∧ j < 48 * n + k then (img p3 T (md_cornerX v0 j) (md_cornerY v0 j)).1 else md_cornerX v0 j) ∧ md_cornerY vv j = (if 48 * n ≤ j ∧ j < 48 * n + k then (img p3 T (md_cornerX v0 j) (md_cornerY v0 j)).2 else md_cornerY v0 j)) → ∃ vv', f_M_turn_l78 f vv p3 (nI n) (nI T) (nI (48 * n + k)) = f_end vv' n ∧ Cor v0 vv' ∧ (∀ j, md_cornerX vv' j = (if 48 * n ≤ j ∧ j < 48 * n + m then (img p3 T (md_cornerX v0 j) (md_cornerY v0 j)).1 else md_cornerX v0 j) ∧ md_cornerY vv' j = (if 48 * n ≤ j ∧ j < 48 * n + m then (img p3 T (md_cornerX v0 j) (md_cornerY v0 j)).2 else md_cornerY v0 j)) := by
  intro f
  induction f with
  | zero => intro k vv h1 h2; omega
  | succ f ih =>
    intro k vv h1 h2 h3 h4
    obtain ⟨c1, c2, c3, c4, c5, c6, c7⟩ := h3
    have lm : ld 40 (md_many vv) (nI n) = some (nI m) := by rw [c5, ld_nI hn (by decide), em]
    have e1 : (48 : Int32) * nI n + nI m = nI (48 * n + m) := by rw [show (48 : Int32) = nI 48 from rfl, pk_mul, nI_add]
    by_cases z : k = m
    · subst z
      have hle : nI (48 * n + k) ≤ nI (48 * n + k) := by rw [nI_leI (by omega) (by omega)]; omega
      refine ⟨vv, ?_, ⟨c1, c2, c3, c4, c5, c6, c7⟩, h4⟩
      simp only [f_M_turn_l78, lm, Option.bind_some, e1, if_pos hle]
      rfl
    · have hle : ¬ nI (48 * n + m) ≤ nI (48 * n + k) := by rw [nI_leI (by omega) (by omega)]; omega
      have hx : md_cornerX vv (48 * n + k) = md_cornerX v0 (48 * n + k) := by rw [(h4 _).1, if_neg (by omega)]
      have hy : md_cornerY vv (48 * n + k) = md_cornerY v0 (48 * n + k) := by rw [(h4 _).2, if_neg (by omega)]
      -- the turns of this corner, and the rest
      have go : ∀ vv1, Cor v0 vv1 → (∀ j, md_cornerX vv1 j = (if j = 48 * n + k then (if p3 = 0 then (md_cornerX v0 j, md_cornerY v0 j) else mir (md_cornerX v0 j) (md_cornerY v0 j)).1 else md_cornerX vv j) ∧ md_cornerY vv1 j = (if j = 48 * n + k then (if p3 = 0 then (md_cornerX v0 j, md_cornerY v0 j) else mir (md_cornerX v0 j) (md_cornerY v0 j)).2 else md_cornerY vv j)) → ∃ vv', f_M_turn_j116 (f_M_turn_l78 f) vv1 p3 (nI n) (nI T) (nI (48 * n + k)) = f_end vv' n ∧ Cor v0 vv' ∧ (∀ j, md_cornerX vv' j = (if 48 * n ≤ j ∧ j < 48 * n + m then (img p3 T (md_cornerX v0 j) (md_cornerY v0 j)).1 else md_cornerX v0 j) ∧ md_cornerY vv' j = (if 48 * n ≤ j ∧ j < 48 * n + m then (img p3 T (md_cornerX v0 j) (md_cornerY v0 j)).2 else md_cornerY v0 j)) := by
        intro vv1 hC hXY
        obtain ⟨vv2, a1, a2, a3⟩ := mtrn_l (K := f_M_turn_l78 f) (v0 := vv1) (p3 := p3) (p4 := nI n) (P := 48 * n + k) (T := T) (pt := if p3 = 0 then (md_cornerX v0 (48 * n + k), md_cornerY v0 (48 * n + k)) else mir (md_cornerX v0 (48 * n + k)) (md_cornerY v0 (48 * n + k))) (by omega) hT 64 0 vv1 (by omega) (by omega) ⟨rfl, rfl, rfl, rfl, rfl, rfl, rfl⟩ (fun j => by
          by_cases q : j = 48 * n + k
          · rw [if_pos q, if_pos q, (hXY j).1, (hXY j).2, if_pos q, if_pos q, q]; exact ⟨rfl, rfl⟩
          · rw [if_neg q, if_neg q]; exact ⟨rfl, rfl⟩)
        have C2 : Cor v0 vv2 := ⟨a2.1.trans hC.1, a2.2.1.trans hC.2.1, a2.2.2.1.trans hC.2.2.1, a2.2.2.2.1.trans hC.2.2.2.1, a2.2.2.2.2.1.trans hC.2.2.2.2.1, a2.2.2.2.2.2.1.trans hC.2.2.2.2.2.1, a2.2.2.2.2.2.2.trans hC.2.2.2.2.2.2⟩
        obtain ⟨vv', g1, g2⟩ := ih (k + 1) vv2 (by omega) (by omega) C2 (fun j => by
          rw [(a3 j).1, (a3 j).2]
          by_cases q : j = 48 * n + k
          · have z1 : 48 * n ≤ j ∧ j < 48 * n + (k + 1) := by omega
            rw [if_pos q, if_pos q, if_pos z1, if_pos z1, q]; exact ⟨rfl, rfl⟩
          · rw [if_neg q, if_neg q, (hXY j).1, (hXY j).2, if_neg q, if_neg q, (h4 j).1, (h4 j).2]
            by_cases q2 : 48 * n ≤ j ∧ j < 48 * n + k
            · have z1 : 48 * n ≤ j ∧ j < 48 * n + (k + 1) := by omega
              rw [if_pos q2, if_pos q2, if_pos z1, if_pos z1]; exact ⟨rfl, rfl⟩
            · have z1 : ¬ (48 * n ≤ j ∧ j < 48 * n + (k + 1)) := by omega
              rw [if_neg q2, if_neg q2, if_neg z1, if_neg z1]; exact ⟨rfl, rfl⟩)
        refine ⟨vv', ?_, g2⟩
        unfold f_M_turn_j116
        refine a1.trans ?_
        rw [← g1]
        rfl
      by_cases p : p3 = 0
      · have st : f_M_turn_l78 (f + 1) vv p3 (nI n) (nI T) (nI (48 * n + k)) = f_M_turn_j116 (f_M_turn_l78 f) vv p3 (nI n) (nI T) (nI (48 * n + k)) := by simp only [f_M_turn_l78, lm, Option.bind_some, e1, if_neg hle, if_pos p]
        rw [st]
        refine go vv ⟨c1, c2, c3, c4, c5, c6, c7⟩ (fun j => ?_)
        by_cases q : j = 48 * n + k
        · rw [if_pos q, if_pos q, if_pos p, q, hx, hy]; exact ⟨rfl, rfl⟩
        · rw [if_neg q, if_neg q]; exact ⟨rfl, rfl⟩
      · have l1 : ld 1920 (md_cornerX vv) (nI (48 * n + k)) = some (md_cornerX v0 (48 * n + k)) := by rw [ld_nI (by omega) (by decide), hx]
        have k0 : ck 1920 (nI (48 * n + k)) = some () := ck_nI (by omega) (by decide)
        have k1 : (nI (48 * n + k)).toNatClampNeg = 48 * n + k := nI_clamp (by omega)
        have st : f_M_turn_l78 (f + 1) vv p3 (nI n) (nI T) (nI (48 * n + k)) = f_M_turn_j116 (f_M_turn_l78 f) (ms_cornerX vv (vp_updL (md_cornerX vv) (48 * n + k) (-md_cornerX v0 (48 * n + k)))) p3 (nI n) (nI T) (nI (48 * n + k)) := by
          simp only [f_M_turn_l78, lm, Option.bind_some, e1, if_neg hle, if_neg p, l1, k0, k1, z_sub]
        rw [st]
        refine go _ ⟨c1, c2, c3, c4, c5, c6, c7⟩ (fun j => ?_)
        show vp_updL (md_cornerX vv) (48 * n + k) (-md_cornerX v0 (48 * n + k)) j = _ ∧ md_cornerY vv j = _
        by_cases q : j = 48 * n + k
        · rw [if_pos q, if_pos q, if_neg p, q, pk_uLs, hy]; exact ⟨rfl, rfl⟩
        · rw [if_neg q, if_neg q, pk_uLn q]; exact ⟨rfl, rfl⟩
/-- the reference's order -/
def mnJ (a b : Int64) : Int64 := if 0 ≤ lg_cmp a b then b else a
def mxJ (a b : Int64) : Int64 := if 0 ≤ lg_cmp a b then a else b
theorem order_ev {vv : MV} {P : Nat} (hP : P + 1 < 1920) : ∃ vv', f_M_order vv (nI P) = some vv' ∧ Cor vv vv' ∧ ∀ j, md_cornerX vv' j = (if j = P then mnJ (md_cornerX vv P) (md_cornerX vv (P + 1)) else if j = P + 1 then mxJ (md_cornerX vv P) (md_cornerX vv (P + 1)) else md_cornerX vv j) ∧ md_cornerY vv' j = (if j = P then mnJ (md_cornerY vv P) (md_cornerY vv (P + 1)) else if j = P + 1 then mxJ (md_cornerY vv P) (md_cornerY vv (P + 1)) else md_cornerY vv j) := by
  have l1 : ld 1920 (md_cornerX vv) (nI P) = some (md_cornerX vv P) := ld_nI (by omega) (by decide)
  have l2 : ld 1920 (md_cornerX vv) (nI (P + 1)) = some (md_cornerX vv (P + 1)) := ld_nI hP (by decide)
  have l3 : ld 1920 (md_cornerY vv) (nI P) = some (md_cornerY vv P) := ld_nI (by omega) (by decide)
  have l4 : ld 1920 (md_cornerY vv) (nI (P + 1)) = some (md_cornerY vv (P + 1)) := ld_nI hP (by decide)
  have k0 : ck 1920 (nI P) = some () := ck_nI (by omega) (by decide)
  have k1 : (nI P).toNatClampNeg = P := nI_clamp (by omega)
  have k2 : ck 1920 (nI (P + 1)) = some () := ck_nI hP (by decide)
  have k3 : (nI (P + 1)).toNatClampNeg = P + 1 := nI_clamp (by omega)
  refine ⟨ms_cornerY (ms_cornerX vv (vp_updL (vp_updL (md_cornerX vv) P (mnJ (md_cornerX vv P) (md_cornerX vv (P + 1)))) (P + 1) (mxJ (md_cornerX vv P) (md_cornerX vv (P + 1))))) (vp_updL (vp_updL (md_cornerY vv) P (mnJ (md_cornerY vv P) (md_cornerY vv (P + 1)))) (P + 1) (mxJ (md_cornerY vv P) (md_cornerY vv (P + 1)))), ?_, ⟨rfl, rfl, rfl, rfl, rfl, rfl, rfl⟩, fun j => ?_⟩
  · unfold mnJ mxJ
    by_cases a : 0 ≤ lg_cmp (md_cornerX vv P) (md_cornerX vv (P + 1)) <;> by_cases b : 0 ≤ lg_cmp (md_cornerY vv P) (md_cornerY vv (P + 1)) <;>
      simp only [f_M_order, nI_1, l1, l2, l3, l4, Option.bind_some, a, b, if_true, if_false, f_M_order_j53, f_M_order_j74, f_M_order_j95, f_M_order_j118, k0, k1, k2, k3] <;> rfl
  · show vp_updL (vp_updL (md_cornerX vv) P _) (P + 1) _ j = _ ∧ vp_updL (vp_updL (md_cornerY vv) P _) (P + 1) _ j = _
    by_cases a : j = P
    · have z : P ≠ P + 1 := by omega
      rw [if_pos a, if_pos a, a, pk_uLn z, pk_uLn z, pk_uLs, pk_uLs]; exact ⟨rfl, rfl⟩
    · rw [if_neg a, if_neg a]
      by_cases b : j = P + 1
      · rw [if_pos b, if_pos b, b, pk_uLs, pk_uLs]; exact ⟨rfl, rfl⟩
      · rw [if_neg b, if_neg b, pk_uLn b, pk_uLn b, pk_uLn a, pk_uLn a]; exact ⟨rfl, rfl⟩
theorem mn_neg {a b : Int64} (ha : -9223372036854775808 < a.toInt) (hb : -9223372036854775808 < b.toInt) : mnJ (-a) (-b) = -mxJ a b ∧ mxJ (-a) (-b) = -mnJ a b := by
  unfold mnJ mxJ
  simp only [lgc_ge, j_neg ha, j_neg hb]
  by_cases h : b.toInt ≤ a.toInt
  · by_cases h2 : a.toInt ≤ b.toInt
    · have e : a = b := Int64.toInt_inj.mp (by omega)
      subst e
      simp
    · rw [if_neg (by omega), if_pos h, if_neg (by omega), if_pos h]; exact ⟨rfl, rfl⟩
  · rw [if_pos (by omega), if_neg h, if_pos (by omega), if_neg h]; exact ⟨rfl, rfl⟩
theorem mn_le {a b : Int64} (h : a.toInt ≤ b.toInt) : mnJ a b = a ∧ mxJ a b = b := by
  unfold mnJ mxJ
  simp only [lgc_ge]
  by_cases h2 : b.toInt ≤ a.toInt
  · have e : a = b := Int64.toInt_inj.mp (by omega)
    subst e; simp
  · rw [if_neg h2, if_neg h2]; exact ⟨rfl, rfl⟩
/-- a box's corners, in order, are the images', in order -/
def BoxIs (q : QV) (p0 p1 : Int64 × Int64) : Prop := Plc p0.1 p0.2 ∧ Plc p1.1 p1.2 ∧ qX q 0 = mnJ p0.1 p1.1 ∧ qX q 1 = mxJ p0.1 p1.1 ∧ qY q 0 = mnJ p0.2 p1.2 ∧ qY q 1 = mxJ p0.2 p1.2
theorem boxIs_mir {q : QV} {p0 p1 : Int64 × Int64} (hk : qK q = 1) (h : BoxIs q p0 p1) : BoxIs (qmir q) (mir p0.1 p0.2) (mir p1.1 p1.2) := by
  obtain ⟨h1, h2, h3, h4, h5, h6⟩ := h
  have n := mn_neg (a := p0.1) (b := p1.1) (by have := h1.1; omega) (by have := h2.1; omega)
  refine ⟨plc_mir h1, plc_mir h2, ?_, ?_, h5, h6⟩
  · show (if qK q = 1 then (fun k => if k = 0 then -qX q 1 else -qX q 0) else (fun k => -qX q k)) 0 = mnJ (-p0.1) (-p1.1)
    rw [if_pos hk, n.1, ← h4]; rfl
  · show (if qK q = 1 then (fun k => if k = 0 then -qX q 1 else -qX q 0) else (fun k => -qX q k)) 1 = mxJ (-p0.1) (-p1.1)
    rw [if_pos hk, n.2, ← h3]; rfl
theorem boxIs_trn {q : QV} {p0 p1 : Int64 × Int64} (hk : qK q = 1) (h : BoxIs q p0 p1) : BoxIs (qtrn q) (trn p0.1 p0.2) (trn p1.1 p1.2) := by
  obtain ⟨h1, h2, h3, h4, h5, h6⟩ := h
  have n := mn_neg (a := p0.2) (b := p1.2) (by have := h1.2.2.1; omega) (by have := h2.2.2.1; omega)
  refine ⟨plc_trn h1, plc_trn h2, ?_, ?_, h3, h4⟩
  · show (if qK q = 1 then (fun k => if k = 0 then -qY q 1 else -qY q 0) else (fun k => -qY q k)) 0 = mnJ (-p0.2) (-p1.2)
    rw [if_pos hk, n.1, ← h6]; rfl
  · show (if qK q = 1 then (fun k => if k = 0 then -qY q 1 else -qY q 0) else (fun k => -qY q k)) 1 = mxJ (-p0.2) (-p1.2)
    rw [if_pos hk, n.2, ← h5]; rfl
theorem qtn_rest {q : QV} (T : Nat) : qK (qtn T q) = qK q ∧ qR (qtn T q) = qR q ∧ qN (qtn T q) = qN q ∧ qG (qtn T q) = qG q ∧ qE (qtn T q) = qE q := by
  induction T with
  | zero => exact ⟨rfl, rfl, rfl, rfl, rfl⟩
  | succ T ih => exact ih
theorem qtn_box {q : QV} {p0 p1 : Int64 × Int64} (hk : qK q = 1) (h : BoxIs q p0 p1) (T : Nat) : BoxIs (qtn T q) (tnp T p0) (tnp T p1) := by
  induction T with
  | zero => exact h
  | succ T ih => exact boxIs_trn ((qtn_rest T).1.trans hk) ih
theorem qtn_pts {q : QV} (hk : ¬ qK q = 1) (T k : Nat) : (qX (qtn T q) k, qY (qtn T q) k) = tnp T (qX q k, qY q k) := by
  induction T with
  | zero => rfl
  | succ T ih =>
    show ((if qK (qtn T q) = 1 then (fun k => if k = 0 then -qY (qtn T q) 1 else -qY (qtn T q) 0) else (fun k => -qY (qtn T q) k)) k, qX (qtn T q) k) = trn (tnp T (qX q k, qY q k)).1 (tnp T (qX q k, qY q k)).2
    rw [if_neg (by rw [(qtn_rest T).1]; exact hk), ← ih]
    rfl
theorem qmir_pts {q : QV} (hk : ¬ qK q = 1) (k : Nat) : (qX (qmir q) k, qY (qmir q) k) = mir (qX q k) (qY q k) := by
  show ((if qK q = 1 then (fun k => if k = 0 then -qX q 1 else -qX q 0) else (fun k => -qX q k)) k, qY q k) = _
  rw [if_neg hk]; rfl
theorem sim_turn : Sim_turn Rel := by
  intro v mv h x qs p3 hp3
  have n1 : ¬ (1 : Int32) = 0 := by decide
  have bad : ∀ t : Int32, ¬ t = 0 → f_M_turn_j26 mv x qs p3 t = some (0, ms_thrown mv t) := fun t ht => by simp only [f_M_turn_j26, Option.bind_some, if_neg (thr_ne ht)]
  rcases find_or h x with ⟨e1, e2, e3⟩ | ⟨i, hi, ex, e1, e2, e3⟩
  · refine ⟨(0, ms_thrown mv 1), by simp only [f_M_turn, e3, Option.bind_some, if_true, bad 1 n1], Or.inr (Or.inl ⟨?_, rfl, rel_thrown h⟩)⟩
    unfold g_F_turn; rw [e2]; rfl
  have h40 : i < 40 := by have := h.1; omega
  obtain ⟨c, o, hc, ho, c1, c2, hp, hh, hw | hw⟩ := whole_or h hi
  · obtain ⟨hW, w1, w2, w3⟩ := hw
    rw [← ex] at w3
    have ht := rel_thrown (t := 0) h
    have hM0 : f_M_turn mv x qs p3 = f_M_turn_j26 mv x qs p3 0 := by simp only [f_M_turn, e3, Option.bind_some, if_neg n1, w3]
    rw [hM0]
    obtain ⟨-, lr, hr, -⟩ := kind_ld ht hi
    rw [← ex] at lr
    obtain ⟨c', g, m, hc', hg, hm, s1, s2, s3, s4, s5, s6⟩ := relS_sizes (h.2.2 i hi)
    obtain ⟨u, u1, u2, u3, u4, u5, u6, u7⟩ := copy_S (r := sR (v.2 i)) hc' s1 s4
    have hT : qtr qs < 60 := by unfold qtr; omega
    -- the class's side
    obtain ⟨q0, eq0⟩ : ∃ q0, q0 = mvS (ms_thrown mv 0) i := ⟨_, rfl⟩
    have Rq : RelS (v.2 i) q0 := by rw [eq0]; exact ht.2.2 i hi
    have er : qR q0 = sR (v.2 i) := by obtain ⟨_, _, _, _, _, _, _, er, _⟩ := Rq; exact er
    have ek : qK q0 = sF (v.2 i) := by obtain ⟨_, _, _, _, _, _, _, _, ek, _⟩ := Rq; exact ek
    replace s2 : qG q0 = nI g := by rw [eq0]; exact s2
    replace s3 : qN q0 = nI m := by rw [eq0]; exact s3
    have R0 : RelS u q0 := relS_copy Rq hr ⟨u2, u3, u4, u5, u6⟩ (fun c2 h1 h2 => by
      have e : c2 = c' := by rw [s1, nI_eq (by omega) (by omega)] at h1; omega
      rw [e]; exact u7) ⟨rfl, er, rfl, rfl⟩ (fun _ _ _ _ _ => ⟨rfl, rfl⟩) (fun _ _ _ _ _ => rfl)
    obtain ⟨q1, eq1⟩ : ∃ q1, q1 = if p3 = 0 then q0 else qmir q0 := ⟨_, rfl⟩
    have hF : ∃ u', f_F_turn v x qs p3 = some (f_F_keep v u') ∧ RelS u' (qtn (qtr qs) q1) := by
      by_cases z : p3 = 0
      · have R1 : RelS u (qtn 0 q1) := by show RelS u q1; rw [show q1 = q0 from eq1.trans (if_pos z)]; exact R0
        obtain ⟨u', a1, a2⟩ := trn_many (v := v) hT 64 0 u (by omega) (by omega) R1
        refine ⟨u', ?_, a2⟩
        rw [← a1]
        simp only [f_F_turn, e1, w1, Option.bind_some, u1, if_pos z, f_F_turn_j33, floor4]
        rfl
      · have su : sN u = nI c' := u5.trans s1
        obtain ⟨um, b1, b2⟩ := mir_ev hc' su
        have R1 : RelS um (qtn 0 q1) := by
          show RelS um q1; rw [show q1 = qmir q0 from eq1.trans (if_neg z)]
          exact relS_mir R0 (fun c2 h1 h2 => by
            have e : c2 = c' := by rw [su, nI_eq (by omega) (by omega)] at h1; omega
            rw [e]; exact b2)
        obtain ⟨u', a1, a2⟩ := trn_many (v := v) hT 64 0 um (by omega) (by omega) R1
        refine ⟨u', ?_, a2⟩
        rw [← a1]
        simp only [f_F_turn, e1, w1, Option.bind_some, u1, if_neg z, b1, f_F_turn_j33, floor4]
        rfl
    obtain ⟨u', hF, hRel⟩ := hF
    by_cases hn : v.1 < 40
    · obtain ⟨vc, k1, k2, k3, k4, k5, k6, k7, k8⟩ := copy_M (mv := ms_thrown mv 0) (r := sR (v.2 i)) hn hi ht.2.1 hg hm (by rw [← eq0]; exact s2) (by rw [← eq0]; exact s3)
      rw [← ex] at k1
      rw [← eq0] at k3 k5 k6 k7 k8
      have em : md_many vc v.1 = nI m := k5.trans s3
      obtain ⟨vl, t1, t2, t3⟩ := mturn_l (p3 := p3) hn hm hT em 64 0 vc (by omega) (by omega) ⟨rfl, rfl, rfl, rfl, rfl, rfl, rfl⟩ (fun j => by rw [if_neg (by omega), if_neg (by omega)]; exact ⟨rfl, rfl⟩)
      have e48 : (48 : Int32) * nI v.1 = nI (48 * v.1) := by rw [show (48 : Int32) = nI 48 from rfl, pk_mul]
      have start : f_M_turn_j26 mv x qs p3 0 = f_end vl v.1 := by
        rw [← t1]
        simp only [f_M_turn_j26, Option.bind_some, if_pos thr_0, if_neg (fun z => absurd ((full_iff ht).mp z) (fun q => q hn)), lr, k1, quart4, e48, Nat.add_zero]
      have lk : ld 40 (md_kinds vl) (nI v.1) = some (qK q0) := by rw [ld_nI hn (by decide), t2.2.2.1]; exact congrArg some k3
      -- the end of the reference's side
      have fin : ∃ vf, f_end vl v.1 = some (nI v.1, vf) ∧ Cor vl vf ∧ (∀ j, j < 48 * v.1 → md_cornerX vf j = md_cornerX vl j ∧ md_cornerY vf j = md_cornerY vl j) ∧ (∀ k, k < m → qX (mvS vf v.1) k = qX (qtn (qtr qs) q1) k ∧ qY (mvS vf v.1) k = qY (qtn (qtr qs) q1) k) := by
        have xl : ∀ k, k < m → (md_cornerX vl (48 * v.1 + k), md_cornerY vl (48 * v.1 + k)) = img p3 (qtr qs) (qX q0 k) (qY q0 k) := fun k hk => by
          rw [(t3 _).1, (t3 _).2, if_pos (by omega), if_pos (by omega), ← (k7 k hk).1, ← (k7 k hk).2]; rfl
        by_cases kb : qK q0 = 1
        · obtain ⟨vf, o1, o2, o3⟩ := order_ev (vv := vl) (P := 48 * v.1) (by omega)
          have em2 : m = 2 := (s6 (by rw [← ek]; exact kb)).1
          refine ⟨vf, ?_, o2, fun j hj => ?_, ?_⟩
          · unfold f_end
            rw [lk]
            simp only [Option.bind_some, if_pos kb, e48, o1, f_M_turn_j192]
          · rw [(o3 j).1, (o3 j).2, if_neg (by omega), if_neg (by omega), if_neg (by omega), if_neg (by omega)]; exact ⟨rfl, rfl⟩
          · have B0 : BoxIs q0 (qX q0 0, qY q0 0) (qX q0 1, qY q0 1) := by
              obtain ⟨_, _, _, _, _, _, _, _, _, _, hk4⟩ := Rq
              have f1 : sF (v.2 i) = 1 := by rw [← ek]; exact kb
              rcases hk4 with ⟨f, -⟩ | ⟨f, f2, r⟩ | ⟨f, -⟩ | ⟨f, -⟩
              · rw [f1] at f; exact absurd f (by decide)
              · obtain ⟨r1, r2, r3, r4, r5, r6, -⟩ := r
                exact ⟨r3, r4, (mn_le r5).1.symm, (mn_le r5).2.symm, (mn_le r6).1.symm, (mn_le r6).2.symm⟩
              · rw [f1] at f; exact absurd f (by decide)
              · rw [f1] at f; exact absurd f (by decide)
            have B1 : BoxIs q1 (if p3 = 0 then (qX q0 0, qY q0 0) else mir (qX q0 0) (qY q0 0)) (if p3 = 0 then (qX q0 1, qY q0 1) else mir (qX q0 1) (qY q0 1)) := by
              by_cases z : p3 = 0
              · rw [show q1 = q0 from eq1.trans (if_pos z), if_pos z, if_pos z]; exact B0
              · rw [show q1 = qmir q0 from eq1.trans (if_neg z), if_neg z, if_neg z]; exact boxIs_mir (p0 := (qX q0 0, qY q0 0)) (p1 := (qX q0 1, qY q0 1)) kb B0
            have kb1 : qK q1 = 1 := by
              by_cases z : p3 = 0
              · rw [show q1 = q0 from eq1.trans (if_pos z)]; exact kb
              · rw [show q1 = qmir q0 from eq1.trans (if_neg z)]; exact kb
            obtain ⟨-, -, b3, b4, b5, b6⟩ := qtn_box kb1 B1 (qtr qs)
            have x0 := xl 0 (by omega)
            have x1 := xl 1 (by omega)
            have x00 : md_cornerX vl (48 * v.1) = (img p3 (qtr qs) (qX q0 0) (qY q0 0)).1 := congrArg Prod.fst x0
            have y00 : md_cornerY vl (48 * v.1) = (img p3 (qtr qs) (qX q0 0) (qY q0 0)).2 := congrArg Prod.snd x0
            have x11 : md_cornerX vl (48 * v.1 + 1) = (img p3 (qtr qs) (qX q0 1) (qY q0 1)).1 := congrArg Prod.fst x1
            have y11 : md_cornerY vl (48 * v.1 + 1) = (img p3 (qtr qs) (qX q0 1) (qY q0 1)).2 := congrArg Prod.snd x1
            intro k hk
            show md_cornerX vf (48 * v.1 + k) = _ ∧ md_cornerY vf (48 * v.1 + k) = _
            rw [(o3 _).1, (o3 _).2]
            rcases (show k = 0 ∨ k = 1 by omega) with z | z <;> subst z
            · rw [if_pos (by omega), if_pos (by omega), b3, b5, x00, x11, y00, y11]; exact ⟨rfl, rfl⟩
            · have zz : ¬ 48 * v.1 + 1 = 48 * v.1 := by omega
              rw [if_neg zz, if_neg zz, if_pos rfl, if_pos rfl, b4, b6, x00, x11, y00, y11]; exact ⟨rfl, rfl⟩
        · refine ⟨vl, ?_, ⟨rfl, rfl, rfl, rfl, rfl, rfl, rfl⟩, fun j _ => ⟨rfl, rfl⟩, fun k hk => ?_⟩
          · unfold f_end
            rw [lk]
            simp only [Option.bind_some, if_neg kb, f_M_turn_j192]
          · have x0 := xl k hk
            have kb1 : ¬ qK q1 = 1 := by
              by_cases z : p3 = 0
              · rw [show q1 = q0 from eq1.trans (if_pos z)]; exact kb
              · rw [show q1 = qmir q0 from eq1.trans (if_neg z)]; exact kb
            have y0 := qtn_pts kb1 (qtr qs) k
            have z0 : (qX q1 k, qY q1 k) = if p3 = 0 then (qX q0 k, qY q0 k) else mir (qX q0 k) (qY q0 k) := by
              by_cases z : p3 = 0
              · rw [show q1 = q0 from eq1.trans (if_pos z), if_pos z]
              · rw [show q1 = qmir q0 from eq1.trans (if_neg z), if_neg z]; exact qmir_pts kb k
            rw [z0] at y0
            have e := x0.trans y0.symm
            exact ⟨congrArg Prod.fst e, congrArg Prod.snd e⟩
      obtain ⟨vf, f1, f2, f3, f4⟩ := fin
      refine ⟨(nI v.1, vf), by rw [start]; exact f1, Or.inl ⟨_, hF, ?_, ?_, ?_⟩⟩
      · show md_thrown vf = 0
        rw [f2.2.1, t2.2.1]; exact k2.2.1
      · rw [show f_F_keep v u' = _ from if_pos hn]
      · rw [show f_F_keep v u' = _ from if_pos hn]
        refine rel_push ht hn ?_ (fun j hj => ?_) ?_
        · show md_shapes vf = _
          rw [f2.1, t2.1]; exact k2.1
        · refine (k2.2.2 j hj).tr ⟨?_, ?_, ?_, ?_, fun k hk => ⟨?_, ?_⟩, fun r hr => ?_⟩
          · show md_kinds vf j = md_kinds vc j
            rw [f2.2.2.1, t2.2.2.1]
          · show md_radii vf j = md_radii vc j
            rw [f2.2.2.2.1, t2.2.2.2.1]
          · show md_many vf j = md_many vc j
            rw [f2.2.2.2.2.1, t2.2.2.2.2.1]
          · show md_rings vf j = md_rings vc j
            rw [f2.2.2.2.2.2.1, t2.2.2.2.2.2.1]
          · show md_cornerX vf (48 * j + k) = md_cornerX vc (48 * j + k)
            rw [(f3 _ (by omega)).1, (t3 _).1, if_neg (by omega)]
          · show md_cornerY vf (48 * j + k) = md_cornerY vc (48 * j + k)
            rw [(f3 _ (by omega)).2, (t3 _).2, if_neg (by omega)]
          · show md_ends vf (16 * j + r) = md_ends vc (16 * j + r)
            rw [f2.2.2.2.2.2.2, t2.2.2.2.2.2.2]
        · have rq := qtn_rest (q := q1) (qtr qs)
          have q1r : qK q1 = qK q0 ∧ qR q1 = qR q0 ∧ qN q1 = qN q0 ∧ qG q1 = qG q0 ∧ qE q1 = qE q0 := by
            by_cases z : p3 = 0
            · rw [show q1 = q0 from eq1.trans (if_pos z)]; exact ⟨rfl, rfl, rfl, rfl, rfl⟩
            · rw [show q1 = qmir q0 from eq1.trans (if_neg z)]; exact ⟨rfl, rfl, rfl, rfl, rfl⟩
          have hru : sR u' = sR (v.2 i) := by
            obtain ⟨_, _, _, _, _, _, _, er', _⟩ := hRel
            rw [← er', rq.2.1, q1r.2.1]; exact er
          refine relS_copy hRel hr ⟨rfl, rfl, hru, rfl, rfl⟩ (fun _ _ _ _ _ => ⟨rfl, rfl, rfl⟩) ⟨?_, ?_, ?_, ?_⟩ (fun m2 h1 h2 => ?_) (fun g2 h1 h2 r hr => ?_)
          · show md_kinds vf v.1 = _
            rw [f2.2.2.1, t2.2.2.1, rq.1, q1r.1]; exact k3
          · show md_radii vf v.1 = _
            rw [f2.2.2.2.1, t2.2.2.2.1]; exact k4
          · show md_many vf v.1 = _
            rw [f2.2.2.2.2.1, t2.2.2.2.2.1, rq.2.2.1, q1r.2.2.1]; exact k5
          · show md_rings vf v.1 = _
            rw [f2.2.2.2.2.2.1, t2.2.2.2.2.2.1, rq.2.2.2.1, q1r.2.2.2.1]; exact k6
          · have e : m2 = m := by
              rw [rq.2.2.1, q1r.2.2.1, s3, nI_eq (by omega) (by omega)] at h1
              omega
            rw [e]; exact f4
          · have e : g2 = g := by
              rw [rq.2.2.2.1, q1r.2.2.2.1, s2, nI_eq (by omega) (by omega)] at h1
              omega
            rw [rq.2.2.2.2, q1r.2.2.2.2, ← k8 r (by omega)]
            show md_ends vf (16 * v.1 + r) = md_ends vc (16 * v.1 + r)
            rw [f2.2.2.2.2.2.2, t2.2.2.2.2.2.2]
    · refine ⟨(-1, ms_thrown mv 0), ?_, Or.inl ⟨_, hF, rfl, ?_, ?_⟩⟩
      · simp only [f_M_turn_j26, Option.bind_some, if_pos thr_0, if_pos ((full_iff ht).mpr hn)]
      · rw [show f_F_keep v u' = _ from if_neg hn]
      · rw [show f_F_keep v u' = _ from if_neg hn]; exact ht
  · obtain ⟨w1, w2, w3⟩ := hw
    rw [← ex] at w3
    refine ⟨(0, ms_thrown mv 2), ?_, Or.inr (Or.inr ⟨?_, rfl, rel_thrown h⟩)⟩
    · simp only [f_M_turn, e3, Option.bind_some, if_neg n1, w3, if_true, bad 2 (by decide)]
    · simp only [g_F_turn, e1, e2, xthen, Option.bind_some, w2]
