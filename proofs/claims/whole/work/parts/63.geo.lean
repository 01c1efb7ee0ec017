/-! geometry of whole numbers -/
theorem msg (a b : Int) : (0 < a → 0 < b → 0 < a * b) ∧ (0 < a → b < 0 → a * b < 0) ∧ (a < 0 → 0 < b → a * b < 0) ∧ (a < 0 → b < 0 → 0 < a * b) ∧ (a = 0 → a * b = 0) ∧ (b = 0 → a * b = 0) :=
  ⟨Int.mul_pos, Int.mul_neg_of_pos_of_neg, Int.mul_neg_of_neg_of_pos, Int.mul_pos_of_neg_of_neg, fun h => by rw [h, Int.zero_mul], fun h => by rw [h, Int.mul_zero]⟩
theorem cmp_lt {u v : Int} : cmpZ u v = -1 ↔ u < v := by
  unfold cmpZ
  by_cases h : u < v
  · rw [if_pos h]; exact ⟨fun _ => h, fun _ => rfl⟩
  · rw [if_neg h]
    by_cases h2 : u = v
    · rw [if_pos h2]; exact ⟨fun z => absurd z (by decide), fun z => absurd z h⟩
    · rw [if_neg h2]; exact ⟨fun z => absurd z (by decide), fun z => absurd z h⟩
theorem cmp_le {u v : Int} : cmpZ u v ≠ 1 ↔ u ≤ v := by
  unfold cmpZ
  by_cases h : u < v
  · rw [if_pos h]; exact ⟨fun _ => by omega, fun _ => by decide⟩
  · rw [if_neg h]
    by_cases h2 : u = v
    · rw [if_pos h2]; exact ⟨fun _ => by omega, fun _ => by decide⟩
    · rw [if_neg h2]; exact ⟨fun z => absurd rfl z, fun z => by omega⟩
theorem cmp_val (u v : Int) : cmpZ u v = -1 ∨ cmpZ u v = 0 ∨ cmpZ u v = 1 := by
  unfold cmpZ
  split
  · exact Or.inl rfl
  · split
    · exact Or.inr (Or.inl rfl)
    · exact Or.inr (Or.inr rfl)
theorem dcmp_val (a b c d x y r : Int) : dcmp a b c d x y r = -1 ∨ dcmp a b c d x y r = 0 ∨ dcmp a b c d x y r = 1 := by
  unfold dcmp
  split
  · exact cmp_val _ _
  · split
    · exact cmp_val _ _
    · exact cmp_val _ _
theorem sq_nn (z : Int) : 0 ≤ z * z := by
  rcases Int.le_total 0 z with h | h
  · exact Int.mul_nonneg h h
  · exact Int.mul_nonneg_of_nonpos_of_nonpos h h
theorem sq_0 {z : Int} (h : z * z = 0) : z = 0 := by
  rcases Int.mul_eq_zero.mp h with h | h <;> exact h
theorem sqr_nn (a b x y : Int) : 0 ≤ sqr a b x y := lng_nn a b x y
theorem sqr_0 {a b x y : Int} (h : sqr a b x y = 0) : x = a ∧ y = b := by
  unfold sqr at h
  have h1 := sq_nn (x - a)
  have h2 := sq_nn (y - b)
  have e1 := sq_0 (z := x - a) (by omega)
  have e2 := sq_0 (z := y - b) (by omega)
  omega
theorem lng_0 {a b c d : Int} (h : lng a b c d = 0) : c = a ∧ d = b := sqr_0 h
/-- the same piece, the other way round -/
theorem fot_sw (a b c d x y : Int) : fot c d a b x y = lng a b c d - fot a b c d x y := by unfold fot lng; grind
theorem lng_sw (a b c d : Int) : lng c d a b = lng a b c d := by unfold lng; grind
theorem crs_sw (a b c d x y : Int) : crs c d a b x y = -crs a b c d x y := by unfold crs; grind
theorem lagr (a b c d x y : Int) : crs a b c d x y * crs a b c d x y + fot a b c d x y * fot a b c d x y = sqr a b x y * lng a b c d := by unfold crs fot sqr lng; grind
theorem sqr_sw (a b c d x y : Int) : sqr c d x y = sqr a b x y - 2 * fot a b c d x y + lng a b c d := by unfold sqr fot lng; grind
theorem dcmp_sw (a b c d x y r : Int) : dcmp c d a b x y r = dcmp a b c d x y r := by
  have L := lng_nn a b c d
  unfold dcmp
  rw [fot_sw a b c d, lng_sw a b c d, crs_sw a b c d, Int.neg_mul_neg]
  by_cases h1 : fot a b c d x y ≤ 0
  · rw [if_pos h1]
    by_cases h2 : lng a b c d - fot a b c d x y ≤ 0
    · have e : lng a b c d = 0 := by omega
      obtain ⟨e1, e2⟩ := lng_0 e
      subst e1; subst e2
      rw [if_pos h2]
    · rw [if_neg h2, if_pos (by omega)]
  · rw [if_neg h1]
    by_cases h2 : lng a b c d ≤ fot a b c d x y
    · rw [if_pos h2, if_pos (by omega)]
    · rw [if_neg h2, if_neg (by omega), if_neg (by omega)]
/-- no nearer to an end than to the piece -/
theorem dcmp_end {a b c d x y r : Int} : (dcmp a b a b x y r = -1 → dcmp a b c d x y r = -1) ∧ (dcmp a b a b x y r ≠ 1 → dcmp a b c d x y r ≠ 1) := by
  have z : fot a b a b x y ≤ 0 := by unfold fot; simp
  have e : dcmp a b a b x y r = cmpZ (sqr a b x y) (r * r) := by unfold dcmp; rw [if_pos z]
  rw [e]
  have S := sqr_sw a b c d x y
  have L := lng_nn a b c d
  have G := lagr a b c d x y
  unfold dcmp
  by_cases h1 : fot a b c d x y ≤ 0
  · rw [if_pos h1]; exact ⟨id, id⟩
  · rw [if_neg h1]
    by_cases h2 : lng a b c d ≤ fot a b c d x y
    · rw [if_pos h2]
      simp only [cmp_lt, cmp_le]
      exact ⟨fun _ => by omega, fun _ => by omega⟩
    · rw [if_neg h2]
      simp only [cmp_lt, cmp_le]
      have f2 : 0 < fot a b c d x y * fot a b c d x y := Int.mul_pos (by omega) (by omega)
      have Lp : 0 < lng a b c d := by omega
      refine ⟨fun h => ?_, fun h => ?_⟩
      · have := Int.mul_le_mul_of_nonneg_right (Int.le_of_lt h) L
        omega
      · have := Int.mul_le_mul_of_nonneg_right h L
        omega
theorem dcmp_end2 {a b c d x y r : Int} : (dcmp c d c d x y r = -1 → dcmp a b c d x y r = -1) ∧ (dcmp c d c d x y r ≠ 1 → dcmp a b c d x y r ≠ 1) := by
  rw [← dcmp_sw a b c d]; exact dcmp_end
/-- a place on a piece -/
def btw (v a b : Int) : Prop := (a ≤ v ∧ v ≤ b) ∨ (b ≤ v ∧ v ≤ a)
def onp (a b c d x y : Int) : Prop := btw x a c ∧ btw y b d ∧ crs a b c d x y = 0
theorem onp_sw {a b c d x y : Int} : onp c d a b x y ↔ onp a b c d x y := by
  unfold onp btw
  rw [crs_sw]
  omega
theorem onp_start (a b c d : Int) : onp a b c d a b := by
  refine ⟨by unfold btw; omega, by unfold btw; omega, ?_⟩
  unfold crs; simp
theorem onp_end (a b c d : Int) : onp a b c d c d := onp_sw.mp (onp_start c d a b)
theorem onp_fot {a b c d x y : Int} (h : onp a b c d x y) : 0 ≤ fot a b c d x y ∧ fot a b c d x y ≤ lng a b c d := by
  obtain ⟨h1, h2, -⟩ := h
  unfold btw at h1 h2
  have key : ∀ v p q : Int, ((p ≤ v ∧ v ≤ q) ∨ (q ≤ v ∧ v ≤ p)) → 0 ≤ (q - p) * (v - p) ∧ (q - p) * (v - p) ≤ (q - p) * (q - p) := by
    intro v p q h
    have e : (q - p) * (q - p) - (q - p) * (v - p) = (q - p) * (q - v) := by grind
    rcases h with h | h
    · have a1 : 0 ≤ (q - p) * (v - p) := Int.mul_nonneg (by omega) (by omega)
      have a2 : 0 ≤ (q - p) * (q - v) := Int.mul_nonneg (by omega) (by omega)
      omega
    · have a1 : 0 ≤ (q - p) * (v - p) := Int.mul_nonneg_of_nonpos_of_nonpos (by omega) (by omega)
      have a2 : 0 ≤ (q - p) * (q - v) := Int.mul_nonneg_of_nonpos_of_nonpos (by omega) (by omega)
      omega
  have k1 := key x a c h1
  have k2 := key y b d h2
  unfold fot lng
  omega
theorem onp_near {a b c d x y r : Int} (hr : 0 ≤ r) (h : onp a b c d x y) : dcmp a b c d x y r ≠ 1 := by
  obtain ⟨f1, f2⟩ := onp_fot h
  have rr : 0 ≤ r * r := sq_nn r
  have G := lagr a b c d x y
  rw [h.2.2] at G
  have L := lng_nn a b c d
  have S := sqr_nn a b x y
  have dg : ∀ p q : Int, p = a → q = b → sqr a b p q = 0 := fun p q e1 e2 => by rw [e1, e2]; unfold sqr; simp
  unfold dcmp
  by_cases h1 : fot a b c d x y ≤ 0
  · rw [if_pos h1]
    have e : fot a b c d x y = 0 := by omega
    rw [e] at G
    have G : sqr a b x y * lng a b c d = 0 := by simpa using G.symm
    rw [cmp_le]
    rcases Int.mul_eq_zero.mp G with z | z
    · omega
    · obtain ⟨z1, z2⟩ := lng_0 z
      have := h.1; have := h.2.1
      unfold btw at *
      have : sqr a b x y = 0 := dg x y (by omega) (by omega)
      omega
  · rw [if_neg h1]
    by_cases h2 : lng a b c d ≤ fot a b c d x y
    · rw [if_pos h2, cmp_le]
      have e : fot a b c d x y = lng a b c d := by omega
      have S2 := sqr_sw a b c d x y
      rw [e] at G S2
      have G : sqr a b x y * lng a b c d = lng a b c d * lng a b c d := by simpa using G.symm
      have e3 : sqr a b x y = lng a b c d := Int.eq_of_mul_eq_mul_right (by omega) G
      omega
    · rw [if_neg h2, cmp_le, h.2.2]
      have : 0 ≤ r * r * lng a b c d := Int.mul_nonneg rr L
      simpa using this
/-- at reach 0: on the piece -/
theorem dcmp_0 {a b c d x y : Int} : dcmp a b c d x y 0 ≠ 1 ↔ onp a b c d x y := by
  refine ⟨fun h => ?_, fun h => onp_near (by decide) h⟩
  unfold dcmp at h
  by_cases h1 : fot a b c d x y ≤ 0
  · rw [if_pos h1, cmp_le] at h
    have S := sqr_nn a b x y
    obtain ⟨e1, e2⟩ := sqr_0 (a := a) (b := b) (x := x) (y := y) (by omega)
    rw [e1, e2]; exact onp_start _ _ _ _
  · rw [if_neg h1] at h
    by_cases h2 : lng a b c d ≤ fot a b c d x y
    · rw [if_pos h2, cmp_le] at h
      have S := sqr_nn c d x y
      obtain ⟨e1, e2⟩ := sqr_0 (a := c) (b := d) (x := x) (y := y) (by omega)
      rw [e1, e2]; exact onp_end _ _ _ _
    · rw [if_neg h2, cmp_le] at h
      have C := sq_nn (crs a b c d x y)
      have c0 : crs a b c d x y = 0 := sq_0 (by omega)
      have e1 : fot a b c d x y * (c - a) = (x - a) * lng a b c d := by
        have : fot a b c d x y * (c - a) - (x - a) * lng a b c d = (d - b) * crs a b c d x y := by unfold fot lng crs; grind
        rw [c0] at this; omega
      have e2 : fot a b c d x y * (d - b) = (y - b) * lng a b c d := by
        have : fot a b c d x y * (d - b) - (y - b) * lng a b c d = -(c - a) * crs a b c d x y := by unfold fot lng crs; grind
        rw [c0] at this; omega
      have e3 : (lng a b c d - fot a b c d x y) * (c - a) = (c - x) * lng a b c d := by
        have : (lng a b c d - fot a b c d x y) * (c - a) = lng a b c d * (c - a) - fot a b c d x y * (c - a) := Int.sub_mul _ _ _
        rw [this, e1]; grind
      have e4 : (lng a b c d - fot a b c d x y) * (d - b) = (d - y) * lng a b c d := by
        have : (lng a b c d - fot a b c d x y) * (d - b) = lng a b c d * (d - b) - fot a b c d x y * (d - b) := Int.sub_mul _ _ _
        rw [this, e2]; grind
      have m1 := msg (fot a b c d x y) (c - a)
      have m2 := msg (x - a) (lng a b c d)
      have m3 := msg (lng a b c d - fot a b c d x y) (c - a)
      have m4 := msg (c - x) (lng a b c d)
      have m5 := msg (fot a b c d x y) (d - b)
      have m6 := msg (y - b) (lng a b c d)
      have m7 := msg (lng a b c d - fot a b c d x y) (d - b)
      have m8 := msg (d - y) (lng a b c d)
      refine ⟨?_, ?_, c0⟩
      · unfold btw
        rw [e1] at m1; rw [e3] at m3
        generalize (x - a) * lng a b c d = u1 at *
        generalize (c - x) * lng a b c d = u2 at *
        generalize fot a b c d x y = f at *
        generalize lng a b c d = l at *
        clear m5 m6 m7 m8 e1 e2 e3 e4 C c0 h
        omega
      · unfold btw
        rw [e2] at m5; rw [e4] at m7
        generalize (y - b) * lng a b c d = u1 at *
        generalize (d - y) * lng a b c d = u2 at *
        generalize fot a b c d x y = f at *
        generalize lng a b c d = l at *
        clear m1 m2 m3 m4 e1 e2 e3 e4 C c0 h
        omega
theorem dcmp_0n {a b c d x y : Int} : dcmp a b c d x y 0 ≠ -1 := by
  have z : ∀ u : Int, cmpZ (u * u) (0 * 0 * lng a b c d) ≠ -1 := fun u h => by rw [cmp_lt] at h; have := sq_nn u; omega
  unfold dcmp
  by_cases h1 : fot a b c d x y ≤ 0
  · rw [if_pos h1]; intro h; rw [cmp_lt] at h; have := sqr_nn a b x y; omega
  · rw [if_neg h1]
    by_cases h2 : lng a b c d ≤ fot a b c d x y
    · rw [if_pos h2]; intro h; rw [cmp_lt] at h; have := sqr_nn c d x y; omega
    · rw [if_neg h2]; exact z _
