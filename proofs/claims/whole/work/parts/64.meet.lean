/-! two pieces that meet: the class's test and the reference's -/
def opp (a b : Int) : Prop := (a < 0 ∧ 0 < b) ∨ (0 < a ∧ b < 0)
def alk (a b : Int) : Prop := (a < 0 ∧ b < 0) ∨ (0 < a ∧ 0 < b)
def spn (a b c d : Int) : Prop := (a ≤ c ∨ a ≤ d ∨ b ≤ c ∨ b ≤ d) ∧ (c ≤ a ∨ c ≤ b ∨ d ≤ a ∨ d ≤ b)
/-- the class's -/
def smt (p1 p2 q1 q2 r1 r2 s1 s2 : Int) : Prop := spn p1 q1 r1 s1 ∧ spn p2 q2 r2 s2 ∧ ¬ alk (crs p1 p2 q1 q2 r1 r2) (crs p1 p2 q1 q2 s1 s2) ∧ ¬ alk (crs r1 r2 s1 s2 p1 p2) (crs r1 r2 s1 s2 q1 q2)
/-- the reference's -/
def rmt (p1 p2 q1 q2 r1 r2 s1 s2 : Int) : Prop := onp r1 r2 s1 s2 p1 p2 ∨ onp r1 r2 s1 s2 q1 q2 ∨ onp p1 p2 q1 q2 r1 r2 ∨ onp p1 p2 q1 q2 s1 s2 ∨ (opp (crs p1 p2 q1 q2 r1 r2) (crs p1 p2 q1 q2 s1 s2) ∧ opp (crs r1 r2 s1 s2 p1 p2) (crs r1 r2 s1 s2 q1 q2))
theorem spn_sw {a b c d : Int} : spn b a c d ↔ spn a b c d := by
  unfold spn
  constructor
  · rintro ⟨h1, h2⟩
    exact ⟨by clear h2; omega, by clear h1; omega⟩
  · rintro ⟨h1, h2⟩
    exact ⟨by clear h2; omega, by clear h1; omega⟩
theorem alk_neg {a b : Int} : alk (-a) (-b) ↔ alk a b := by unfold alk; omega
theorem smt_sw {p1 p2 q1 q2 r1 r2 s1 s2 : Int} : smt q1 q2 p1 p2 r1 r2 s1 s2 ↔ smt p1 p2 q1 q2 r1 r2 s1 s2 := by
  have ac : ∀ {a b : Int}, alk a b ↔ alk b a := by intro a b; unfold alk; omega
  unfold smt
  rw [crs_sw p1 p2 q1 q2 r1 r2, crs_sw p1 p2 q1 q2 s1 s2, alk_neg, spn_sw (a := p1), spn_sw (a := p2), ac (a := crs r1 r2 s1 s2 q1 q2)]
theorem smt_cm {p1 p2 q1 q2 r1 r2 s1 s2 : Int} : smt r1 r2 s1 s2 p1 p2 q1 q2 ↔ smt p1 p2 q1 q2 r1 r2 s1 s2 :=
  ⟨fun ⟨a, b, c, d⟩ => ⟨⟨a.2, a.1⟩, ⟨b.2, b.1⟩, d, c⟩, fun ⟨a, b, c, d⟩ => ⟨⟨a.2, a.1⟩, ⟨b.2, b.1⟩, d, c⟩⟩
theorem rmt_cm {p1 p2 q1 q2 r1 r2 s1 s2 : Int} : rmt r1 r2 s1 s2 p1 p2 q1 q2 ↔ rmt p1 p2 q1 q2 r1 r2 s1 s2 := by
  unfold rmt
  constructor
  · rintro (h | h | h | h | h)
    · exact Or.inr (Or.inr (Or.inl h))
    · exact Or.inr (Or.inr (Or.inr (Or.inl h)))
    · exact Or.inl h
    · exact Or.inr (Or.inl h)
    · exact Or.inr (Or.inr (Or.inr (Or.inr ⟨h.2, h.1⟩)))
  · rintro (h | h | h | h | h)
    · exact Or.inr (Or.inr (Or.inl h))
    · exact Or.inr (Or.inr (Or.inr (Or.inl h)))
    · exact Or.inl h
    · exact Or.inr (Or.inl h)
    · exact Or.inr (Or.inr (Or.inr (Or.inr ⟨h.2, h.1⟩)))
theorem id_d (p1 p2 q1 q2 r1 r2 s1 s2 : Int) : crs r1 r2 s1 s2 p1 p2 - crs r1 r2 s1 s2 q1 q2 = crs p1 p2 q1 q2 s1 s2 - crs p1 p2 q1 q2 r1 r2 := by unfold crs; grind
theorem id_x (p1 p2 q1 q2 r1 r2 s1 s2 t : Int) : crs r1 r2 s1 s2 p1 p2 * (q1 - t) - crs r1 r2 s1 s2 q1 q2 * (p1 - t) = crs p1 p2 q1 q2 s1 s2 * (r1 - t) - crs p1 p2 q1 q2 r1 r2 * (s1 - t) := by unfold crs; grind
theorem id_y (p1 p2 q1 q2 r1 r2 s1 s2 t : Int) : crs r1 r2 s1 s2 p1 p2 * (q2 - t) - crs r1 r2 s1 s2 q1 q2 * (p2 - t) = crs p1 p2 q1 q2 s1 s2 * (r2 - t) - crs p1 p2 q1 q2 r1 r2 * (s2 - t) := by unfold crs; grind
theorem sg_l1 {o o' A B : Int} (h : 0 < o) (h' : 0 < o') (e : o * A = o' * B) (g : (A ≤ 0 ∧ 0 ≤ B) ∨ (0 ≤ A ∧ B ≤ 0)) : B = 0 := by
  rcases g with ⟨a, b⟩ | ⟨a, b⟩
  · by_cases z : B = 0
    · exact z
    · have p := Int.mul_pos h' (show 0 < B by omega)
      have n := Int.mul_nonneg (Int.le_of_lt h) (show 0 ≤ -A by omega)
      rw [Int.mul_neg] at n
      omega
  · by_cases z : B = 0
    · exact z
    · have p := Int.mul_pos h' (show 0 < -B by omega)
      have n := Int.mul_nonneg (Int.le_of_lt h) a
      rw [Int.mul_neg] at p
      omega
theorem sg_l {o o' A B : Int} (h : alk o o') (e : o * A = o' * B) (g : (A ≤ 0 ∧ 0 ≤ B) ∨ (0 ≤ A ∧ B ≤ 0)) : B = 0 := by
  rcases h with ⟨a, b⟩ | ⟨a, b⟩
  · exact sg_l1 (o := -o) (o' := -o') (by omega) (by omega) (by rw [Int.neg_mul, Int.neg_mul, e]) g
  · exact sg_l1 a b e g
theorem sg_k1 {o o' U V : Int} (hu : 0 < U) (hv : 0 < V) (e : o * U = o' * V) (n : ¬ alk o o') : o = o' := by
  unfold alk at n
  rcases Int.lt_trichotomy o 0 with h | h | h
  · have p := Int.mul_pos (show 0 < -o by omega) hu
    have q := Int.mul_nonneg (show 0 ≤ o' by omega) (Int.le_of_lt hv)
    rw [Int.neg_mul] at p
    omega
  · rw [h, Int.zero_mul] at e
    rcases Int.mul_eq_zero.mp e.symm with z | z <;> omega
  · have p := Int.mul_pos h hu
    have q := Int.mul_nonneg (show 0 ≤ -o' by omega) (Int.le_of_lt hv)
    rw [Int.neg_mul] at q
    omega
theorem sg_k {o o' u v t : Int} (e : o * (u - t) = o' * (v - t)) (ha : ¬ alk o o') (hn : o ≠ o') : btw t v u := by
  unfold btw
  by_cases h1 : 0 < u - t ∧ 0 < v - t
  · exact absurd (sg_k1 h1.1 h1.2 e ha) hn
  · by_cases h2 : 0 < -(u - t) ∧ 0 < -(v - t)
    · exact absurd (sg_k1 h2.1 h2.2 (by rw [Int.mul_neg, Int.mul_neg, e]) ha) hn
    · omega
/-- an end on the other piece: they meet -/
theorem smt_of_on {p1 p2 q1 q2 r1 r2 s1 s2 : Int} (h : onp r1 r2 s1 s2 p1 p2) : smt p1 p2 q1 q2 r1 r2 s1 s2 := by
  obtain ⟨h1, h2, h3⟩ := h
  unfold btw at h1 h2
  refine ⟨?_, ?_, ?_, ?_⟩
  · clear h2 h3
    unfold spn
    rcases h1 with h | h
    · exact ⟨by omega, by omega⟩
    · exact ⟨by omega, by omega⟩
  · clear h1 h3
    unfold spn
    rcases h2 with h | h
    · exact ⟨by omega, by omega⟩
    · exact ⟨by omega, by omega⟩
  · have e1 : crs p1 p2 q1 q2 s1 s2 * (r1 - p1) = crs p1 p2 q1 q2 r1 r2 * (s1 - p1) := by
      have : crs p1 p2 q1 q2 r1 r2 * (s1 - p1) - crs p1 p2 q1 q2 s1 s2 * (r1 - p1) = -(q1 - p1) * crs r1 r2 s1 s2 p1 p2 := by unfold crs; grind
      rw [h3, Int.mul_zero] at this
      omega
    have e2 : crs p1 p2 q1 q2 s1 s2 * (r2 - p2) = crs p1 p2 q1 q2 r1 r2 * (s2 - p2) := by
      have : crs p1 p2 q1 q2 r1 r2 * (s2 - p2) - crs p1 p2 q1 q2 s1 s2 * (r2 - p2) = -(q2 - p2) * crs r1 r2 s1 s2 p1 p2 := by unfold crs; grind
      rw [h3, Int.mul_zero] at this
      omega
    intro a
    have y1 := sg_l a e1.symm (by omega)
    have y2 := sg_l a e2.symm (by omega)
    have z : crs p1 p2 q1 q2 r1 r2 = 0 := by
      have a1 : r1 = p1 := by omega
      have a2 : r2 = p2 := by omega
      rw [a1, a2]; unfold crs; simp
    unfold alk at a
    omega
  · rw [h3]; unfold alk; omega
theorem sg_o {o1 o2 o3 o4 A B C E : Int} (h3 : o3 < 0) (h4 : 0 < o4) (h2 : o2 < 0) (h1 : 0 < o1) (a : 0 < A) (b : 0 < B) (c : C ≤ 0) (e : E ≤ 0) (I : o3 * A - o4 * B = o2 * C - o1 * E) : False := by
  have p1 := Int.mul_pos (show 0 < -o3 by omega) a
  have p2 := Int.mul_pos h4 b
  have p3 := Int.mul_nonneg (show 0 ≤ -o2 by omega) (show 0 ≤ -C by omega)
  have p4 := Int.mul_nonneg (show 0 ≤ o1 by omega) (show 0 ≤ -E by omega)
  rw [Int.neg_mul] at p1
  rw [Int.neg_mul_neg] at p3
  rw [Int.mul_neg] at p4
  omega
theorem sg_p {o1 o2 o3 o4 A B C E : Int} (h12 : opp o1 o2) (h34 : opp o3 o4) (D : o3 - o4 = o2 - o1) (a : 0 < A) (b : 0 < B) (c : C ≤ 0) (e : E ≤ 0) (I : o3 * A - o4 * B = o2 * C - o1 * E) : False := by
  unfold opp at h12 h34
  by_cases z : o3 < 0
  · exact sg_o z (by omega) (by omega) (by omega) a b c e I
  · exact sg_o (o3 := -o3) (o4 := -o4) (o2 := -o2) (o1 := -o1) (by omega) (by omega) (by omega) (by omega) a b c e (by rw [Int.neg_mul, Int.neg_mul, Int.neg_mul, Int.neg_mul]; omega)
theorem smt_of_opp {p1 p2 q1 q2 r1 r2 s1 s2 : Int} (h1 : opp (crs p1 p2 q1 q2 r1 r2) (crs p1 p2 q1 q2 s1 s2)) (h2 : opp (crs r1 r2 s1 s2 p1 p2) (crs r1 r2 s1 s2 q1 q2)) : smt p1 p2 q1 q2 r1 r2 s1 s2 := by
  have D := id_d p1 p2 q1 q2 r1 r2 s1 s2
  have key : ∀ o1 o2 o3 o4 p q r s : Int, (∀ t, o3 * (q - t) - o4 * (p - t) = o2 * (r - t) - o1 * (s - t)) → o3 - o4 = o2 - o1 → opp o1 o2 → opp o3 o4 → spn p q r s := by
    intro o1 o2 o3 o4 p q r s I D h1 h2
    have fin : ∀ t, t < p → t < q → r ≤ t → s ≤ t → False := fun t a b c d => sg_p h1 h2 D (show 0 < q - t by omega) (show 0 < p - t by omega) (show r - t ≤ 0 by omega) (show s - t ≤ 0 by omega) (I t)
    have fin2 : ∀ t, p < t → q < t → t ≤ r → t ≤ s → False := fun t a b c d => sg_p h1 h2 D (show 0 < -(q - t) by omega) (show 0 < -(p - t) by omega) (show -(r - t) ≤ 0 by omega) (show -(s - t) ≤ 0 by omega) (by rw [Int.mul_neg, Int.mul_neg, Int.mul_neg, Int.mul_neg]; have := I t; omega)
    refine ⟨?_, ?_⟩
    · refine Classical.byContradiction fun n => ?_
      by_cases z : r ≤ s
      · exact fin s (by omega) (by omega) z (Int.le_refl s)
      · exact fin r (by omega) (by omega) (Int.le_refl r) (by omega)
    · refine Classical.byContradiction fun n => ?_
      by_cases z : r ≤ s
      · exact fin2 r (by omega) (by omega) (Int.le_refl r) z
      · exact fin2 s (by omega) (by omega) (by omega) (Int.le_refl s)
  refine ⟨key _ _ _ _ p1 q1 r1 s1 (id_x p1 p2 q1 q2 r1 r2 s1 s2) D h1 h2, key _ _ _ _ p2 q2 r2 s2 (id_y p1 p2 q1 q2 r1 r2 s1 s2) D h1 h2, ?_, ?_⟩
  · unfold opp at h1; unfold alk; omega
  · unfold opp at h2; unfold alk; omega
/-- not parallel, no line passes beside: they meet -/
theorem rmt_of {p1 p2 q1 q2 r1 r2 s1 s2 : Int} (h1 : ¬ alk (crs p1 p2 q1 q2 r1 r2) (crs p1 p2 q1 q2 s1 s2)) (h2 : ¬ alk (crs r1 r2 s1 s2 p1 p2) (crs r1 r2 s1 s2 q1 q2)) (hD : crs r1 r2 s1 s2 p1 p2 ≠ crs r1 r2 s1 s2 q1 q2) : rmt p1 p2 q1 q2 r1 r2 s1 s2 := by
  have D := id_d p1 p2 q1 q2 r1 r2 s1 s2
  have key : ∀ o o' u v t : Int, o * (u - t) = o' * (v - t) → ¬ alk o o' → o ≠ o' → btw t v u := fun o o' u v t e ha hn => sg_k e ha hn
  unfold rmt
  by_cases z1 : crs p1 p2 q1 q2 r1 r2 = 0
  · refine Or.inr (Or.inr (Or.inl ⟨key _ _ q1 p1 r1 ?_ h2 hD, key _ _ q2 p2 r2 ?_ h2 hD, z1⟩))
    · have := id_x p1 p2 q1 q2 r1 r2 s1 s2 r1
      rw [z1] at this; simp at this; omega
    · have := id_y p1 p2 q1 q2 r1 r2 s1 s2 r2
      rw [z1] at this; simp at this; omega
  by_cases z2 : crs p1 p2 q1 q2 s1 s2 = 0
  · refine Or.inr (Or.inr (Or.inr (Or.inl ⟨key _ _ q1 p1 s1 ?_ h2 hD, key _ _ q2 p2 s2 ?_ h2 hD, z2⟩)))
    · have := id_x p1 p2 q1 q2 r1 r2 s1 s2 s1
      rw [z2] at this; simp at this; omega
    · have := id_y p1 p2 q1 q2 r1 r2 s1 s2 s2
      rw [z2] at this; simp at this; omega
  have hD' : crs p1 p2 q1 q2 s1 s2 ≠ crs p1 p2 q1 q2 r1 r2 := by omega
  have h1' : ¬ alk (crs p1 p2 q1 q2 s1 s2) (crs p1 p2 q1 q2 r1 r2) := by unfold alk at h1 ⊢; omega
  have bsw : ∀ {v a b : Int}, btw v a b → btw v b a := by intro v a b h; unfold btw at *; omega
  by_cases z3 : crs r1 r2 s1 s2 p1 p2 = 0
  · refine Or.inl ⟨bsw (key _ _ r1 s1 p1 ?_ h1' hD'), bsw (key _ _ r2 s2 p2 ?_ h1' hD'), z3⟩
    · have := id_x p1 p2 q1 q2 r1 r2 s1 s2 p1
      rw [z3] at this; simp at this; omega
    · have := id_y p1 p2 q1 q2 r1 r2 s1 s2 p2
      rw [z3] at this; simp at this; omega
  by_cases z4 : crs r1 r2 s1 s2 q1 q2 = 0
  · refine Or.inr (Or.inl ⟨bsw (key _ _ r1 s1 q1 ?_ h1' hD'), bsw (key _ _ r2 s2 q2 ?_ h1' hD'), z4⟩)
    · have := id_x p1 p2 q1 q2 r1 r2 s1 s2 q1
      rw [z4] at this; simp at this; omega
    · have := id_y p1 p2 q1 q2 r1 r2 s1 s2 q2
      rw [z4] at this; simp at this; omega
  refine Or.inr (Or.inr (Or.inr (Or.inr ⟨?_, ?_⟩)))
  · unfold alk at h1; unfold opp; omega
  · unfold alk at h2; unfold opp; omega
/-- on one line, the one coordinate's order is the other's -/
theorem line_btw {d m u1 u2 v1 v2 w1 w2 : Int} (hd : d ≠ 0) (e1 : d * (u2 - v2) = m * (u1 - v1)) (e2 : d * (w2 - u2) = m * (w1 - u1)) (h : btw u1 v1 w1) : btw u2 v2 w2 := by
  have e : (d * d) * ((u2 - v2) * (w2 - u2)) = (m * m) * ((u1 - v1) * (w1 - u1)) := by
    have : (d * (u2 - v2)) * (d * (w2 - u2)) = (m * (u1 - v1)) * (m * (w1 - u1)) := by rw [e1, e2]
    grind
  have dd : 0 < d * d := by
    have := sq_nn d
    have : d * d ≠ 0 := fun z => hd (sq_0 z)
    omega
  have ab : 0 ≤ (u1 - v1) * (w1 - u1) := by
    unfold btw at h
    rcases h with h | h
    · exact Int.mul_nonneg (by omega) (by omega)
    · exact Int.mul_nonneg_of_nonpos_of_nonpos (by omega) (by omega)
  have mm : 0 ≤ (m * m) * ((u1 - v1) * (w1 - u1)) := Int.mul_nonneg (sq_nn m) ab
  rw [← e] at mm
  have AB : ¬ (u2 - v2) * (w2 - u2) < 0 := fun z => by
    have := Int.mul_neg_of_pos_of_neg dd z
    omega
  unfold btw
  by_cases h1 : 0 < u2 - v2 ∧ w2 - u2 < 0
  · exact absurd (Int.mul_neg_of_pos_of_neg h1.1 h1.2) AB
  · by_cases h2 : u2 - v2 < 0 ∧ 0 < w2 - u2
    · exact absurd (Int.mul_neg_of_neg_of_pos h2.1 h2.2) AB
    · clear e e1 e2 dd ab mm AB h hd
      omega
theorem on_line {p1 p2 q1 q2 u1 u2 v1 v2 : Int} (h1 : crs p1 p2 q1 q2 u1 u2 = 0) (h2 : crs p1 p2 q1 q2 v1 v2 = 0) : (q1 - p1) * (u2 - v2) = (q2 - p2) * (u1 - v1) := by
  unfold crs at h1 h2
  grind
theorem meet_iff {p1 p2 q1 q2 r1 r2 s1 s2 : Int} : smt p1 p2 q1 q2 r1 r2 s1 s2 ↔ rmt p1 p2 q1 q2 r1 r2 s1 s2 := by
  constructor
  · intro h
    obtain ⟨x, y, h1, h2⟩ := h
    by_cases hD : crs r1 r2 s1 s2 p1 p2 = crs r1 r2 s1 s2 q1 q2
    · have D := id_d p1 p2 q1 q2 r1 r2 s1 s2
      have o1 : crs p1 p2 q1 q2 r1 r2 = 0 := by unfold alk at h1; omega
      have o2 : crs p1 p2 q1 q2 s1 s2 = 0 := by unfold alk at h1; omega
      have o3 : crs r1 r2 s1 s2 p1 p2 = 0 := by unfold alk at h2; omega
      have op : crs p1 p2 q1 q2 p1 p2 = 0 := by unfold crs; simp
      have oq : crs p1 p2 q1 q2 q1 q2 = 0 := (onp_end p1 p2 q1 q2).2.2
      unfold rmt
      by_cases z : q1 - p1 = 0
      · by_cases z2 : q2 - p2 = 0
        · refine Or.inl ⟨?_, ?_, o3⟩
          · unfold spn at x; unfold btw; omega
          · unfold spn at y; unfold btw; omega
        · -- the second coordinate tells
          have lb : ∀ {u1 u2 v1 v2 w1 w2 : Int}, crs p1 p2 q1 q2 u1 u2 = 0 → crs p1 p2 q1 q2 v1 v2 = 0 → crs p1 p2 q1 q2 w1 w2 = 0 → btw u2 v2 w2 → btw u1 v1 w1 := fun hu hv hw hb => line_btw z2 (on_line hu hv).symm (on_line hw hu).symm hb
          have c : btw r2 p2 q2 ∨ btw s2 p2 q2 ∨ btw p2 r2 s2 := by unfold spn at y; unfold btw; omega
          rcases c with c | c | c
          · exact Or.inr (Or.inr (Or.inl ⟨lb o1 op oq c, c, o1⟩))
          · exact Or.inr (Or.inr (Or.inr (Or.inl ⟨lb o2 op oq c, c, o2⟩)))
          · exact Or.inl ⟨lb op o1 o2 c, c, o3⟩
      · have lb : ∀ {u1 u2 v1 v2 w1 w2 : Int}, crs p1 p2 q1 q2 u1 u2 = 0 → crs p1 p2 q1 q2 v1 v2 = 0 → crs p1 p2 q1 q2 w1 w2 = 0 → btw u1 v1 w1 → btw u2 v2 w2 := fun hu hv hw hb => line_btw z (on_line hu hv) (on_line hw hu) hb
        have c : btw r1 p1 q1 ∨ btw s1 p1 q1 ∨ btw p1 r1 s1 := by unfold spn at x; unfold btw; omega
        rcases c with c | c | c
        · exact Or.inr (Or.inr (Or.inl ⟨c, lb o1 op oq c, o1⟩))
        · exact Or.inr (Or.inr (Or.inr (Or.inl ⟨c, lb o2 op oq c, o2⟩)))
        · exact Or.inl ⟨c, lb op o1 o2 c, o3⟩
    · exact rmt_of h1 h2 hD
  · rintro (h | h | h | h | h)
    · exact smt_of_on h
    · exact smt_sw.mp (smt_of_on h)
    · exact smt_cm.mp (smt_of_on h)
    · exact smt_cm.mp (smt_sw.mp (smt_of_on h))
    · exact smt_of_opp h.1 h.2
