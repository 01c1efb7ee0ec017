/-! two pieces that meet: the class's test and the reference's -/
def opp (a b : Int) : Prop := (a < 0 ∧ 0 < b) ∨ (0 < a ∧ b < 0)
def alk (a b : Int) : Prop := (a < 0 ∧ b < 0) ∨ (0 < a ∧ 0 < b)
def spn (a b c d : Int) : Prop := (a ≤ c ∨ a ≤ d ∨ b ≤ c ∨ b ≤ d) ∧ (c ≤ a ∨ c ≤ b ∨ d ≤ a ∨ d ≤ b)
/-- the class's -/
def smt (p1 p2 q1 q2 r1 r2 s1 s2 : Int) : Prop := spn p1 q1 r1 s1 ∧ spn p2 q2 r2 s2 ∧ ¬ alk (crs p1 p2 q1 q2 r1 r2) (crs p1 p2 q1 q2 s1 s2) ∧ ¬ alk (crs r1 r2 s1 s2 p1 p2) (crs r1 r2 s1 s2 q1 q2)
/-- the reference's -/
def rmt (p1 p2 q1 q2 r1 r2 s1 s2 : Int) : Prop := onp r1 r2 s1 s2 p1 p2 ∨ onp r1 r2 s1 s2 q1 q2 ∨ onp p1 p2 q1 q2 r1 r2 ∨ onp p1 p2 q1 q2 s1 s2 ∨ (opp (crs p1 p2 q1 q2 r1 r2) (crs p1 p2 q1 q2 s1 s2) ∧ opp (crs r1 r2 s1 s2 p1 p2) (crs r1 r2 s1 s2 q1 q2))
theorem smt_sw {p1 p2 q1 q2 r1 r2 s1 s2 : Int} : smt q1 q2 p1 p2 r1 r2 s1 s2 ↔ smt p1 p2 q1 q2 r1 r2 s1 s2 := by
  unfold smt
  rw [crs_sw p1 p2 q1 q2 r1 r2, crs_sw p1 p2 q1 q2 s1 s2]
  unfold spn alk
  omega
theorem smt_cm {p1 p2 q1 q2 r1 r2 s1 s2 : Int} : smt r1 r2 s1 s2 p1 p2 q1 q2 ↔ smt p1 p2 q1 q2 r1 r2 s1 s2 := by
  unfold smt spn alk
  omega
theorem rmt_cm {p1 p2 q1 q2 r1 r2 s1 s2 : Int} : rmt r1 r2 s1 s2 p1 p2 q1 q2 ↔ rmt p1 p2 q1 q2 r1 r2 s1 s2 := by
  unfold rmt
  constructor
  · rintro (h | h | h | h | h)
    · exact Or.inr (Or.inr (Or.inl h))
    · exact Or.inr (Or.inr (Or.inr (Or.inl h)))
    · exact Or.inl h
    · exact Or.inr (Or.inl h)
    · exact Or.inr (Or.inr (Or.inr (Or.inr ⟨h.2, h.1⟩)))
  · rintro (h | h | h | h | h)
    · exact Or.inr (Or.inr (Or.inl h))
    · exact Or.inr (Or.inr (Or.inr (Or.inl h)))
    · exact Or.inl h
    · exact Or.inr (Or.inl h)
    · exact Or.inr (Or.inr (Or.inr (Or.inr ⟨h.2, h.1⟩)))
theorem id_d (p1 p2 q1 q2 r1 r2 s1 s2 : Int) : crs r1 r2 s1 s2 p1 p2 - crs r1 r2 s1 s2 q1 q2 = crs p1 p2 q1 q2 s1 s2 - crs p1 p2 q1 q2 r1 r2 := by unfold crs; grind
theorem id_x (p1 p2 q1 q2 r1 r2 s1 s2 t : Int) : crs r1 r2 s1 s2 p1 p2 * (q1 - t) - crs r1 r2 s1 s2 q1 q2 * (p1 - t) = crs p1 p2 q1 q2 s1 s2 * (r1 - t) - crs p1 p2 q1 q2 r1 r2 * (s1 - t) := by unfold crs; grind
theorem id_y (p1 p2 q1 q2 r1 r2 s1 s2 t : Int) : crs r1 r2 s1 s2 p1 p2 * (q2 - t) - crs r1 r2 s1 s2 q1 q2 * (p2 - t) = crs p1 p2 q1 q2 s1 s2 * (r2 - t) - crs p1 p2 q1 q2 r1 r2 * (s2 - t) := by unfold crs; grind
/-- an end on the other piece: they meet -/
theorem smt_of_on {p1 p2 q1 q2 r1 r2 s1 s2 : Int} (h : onp r1 r2 s1 s2 p1 p2) : smt p1 p2 q1 q2 r1 r2 s1 s2 := by
  obtain ⟨h1, h2, h3⟩ := h
  have e1 : crs p1 p2 q1 q2 r1 r2 * (s1 - p1) - crs p1 p2 q1 q2 s1 s2 * (r1 - p1) = -(q1 - p1) * crs r1 r2 s1 s2 p1 p2 := by unfold crs; grind
  have e2 : crs p1 p2 q1 q2 r1 r2 * (s2 - p2) - crs p1 p2 q1 q2 s1 s2 * (r2 - p2) = -(q2 - p2) * crs r1 r2 s1 s2 p1 p2 := by unfold crs; grind
  rw [h3, Int.mul_zero] at e1 e2
  have m1 := msg (crs p1 p2 q1 q2 r1 r2) (s1 - p1)
  have m2 := msg (crs p1 p2 q1 q2 s1 s2) (r1 - p1)
  have m3 := msg (crs p1 p2 q1 q2 r1 r2) (s2 - p2)
  have m4 := msg (crs p1 p2 q1 q2 s1 s2) (r2 - p2)
  have dg : r1 = p1 → r2 = p2 → crs p1 p2 q1 q2 r1 r2 = 0 := fun a b => by rw [a, b]; unfold crs; simp
  unfold btw at h1 h2
  refine ⟨by unfold spn; omega, by unfold spn; omega, ?_, ?_⟩
  · unfold alk
    generalize crs p1 p2 q1 q2 r1 r2 * (s1 - p1) = u1 at *
    generalize crs p1 p2 q1 q2 s1 s2 * (r1 - p1) = u2 at *
    generalize crs p1 p2 q1 q2 r1 r2 * (s2 - p2) = u3 at *
    generalize crs p1 p2 q1 q2 s1 s2 * (r2 - p2) = u4 at *
    generalize crs p1 p2 q1 q2 r1 r2 = o1 at *
    generalize crs p1 p2 q1 q2 s1 s2 = o2 at *
    have x1 : (o1 < 0 ∧ o2 < 0) ∨ (0 < o1 ∧ 0 < o2) → r1 = p1 := by clear m3 m4 dg h2 e2; omega
    have x2 : (o1 < 0 ∧ o2 < 0) ∨ (0 < o1 ∧ 0 < o2) → r2 = p2 := by clear m1 m2 dg h1 e1; omega
    intro h
    have := dg (x1 h) (x2 h)
    omega
  · rw [h3]; unfold alk; omega
theorem smt_of_opp {p1 p2 q1 q2 r1 r2 s1 s2 : Int} (h1 : opp (crs p1 p2 q1 q2 r1 r2) (crs p1 p2 q1 q2 s1 s2)) (h2 : opp (crs r1 r2 s1 s2 p1 p2) (crs r1 r2 s1 s2 q1 q2)) : smt p1 p2 q1 q2 r1 r2 s1 s2 := by
  have D := id_d p1 p2 q1 q2 r1 r2 s1 s2
  have key : ∀ o1 o2 o3 o4 p q r s : Int, (∀ t, o3 * (q - t) - o4 * (p - t) = o2 * (r - t) - o1 * (s - t)) → o3 - o4 = o2 - o1 → opp o1 o2 → opp o3 o4 → spn p q r s := by
    intro o1 o2 o3 o4 p q r s I D h1 h2
    have fin : ∀ t, ((t < p ∧ t < q ∧ r ≤ t ∧ s ≤ t) ∨ (p < t ∧ q < t ∧ t ≤ r ∧ t ≤ s)) → False := by
      intro t ht
      have I := I t
      have m1 := msg o3 (q - t)
      have m2 := msg o4 (p - t)
      have m3 := msg o2 (r - t)
      have m4 := msg o1 (s - t)
      unfold opp at h1 h2
      generalize o3 * (q - t) = u1 at *
      generalize o4 * (p - t) = u2 at *
      generalize o2 * (r - t) = u3 at *
      generalize o1 * (s - t) = u4 at *
      rcases ht with ht | ht <;> rcases h1 with h1 | h1 <;> rcases h2 with h2 | h2 <;> omega
    unfold spn
    have f1 := fin r
    have f2 := fin s
    clear h1 h2 I fin
    omega
  refine ⟨key _ _ _ _ p1 q1 r1 s1 (id_x p1 p2 q1 q2 r1 r2 s1 s2) D h1 h2, key _ _ _ _ p2 q2 r2 s2 (id_y p1 p2 q1 q2 r1 r2 s1 s2) D h1 h2, ?_, ?_⟩
  · unfold opp at h1; unfold alk; omega
  · unfold opp at h2; unfold alk; omega
/-- not parallel, no line passes beside: they meet -/
theorem rmt_of {p1 p2 q1 q2 r1 r2 s1 s2 : Int} (h1 : ¬ alk (crs p1 p2 q1 q2 r1 r2) (crs p1 p2 q1 q2 s1 s2)) (h2 : ¬ alk (crs r1 r2 s1 s2 p1 p2) (crs r1 r2 s1 s2 q1 q2)) (hD : crs r1 r2 s1 s2 p1 p2 ≠ crs r1 r2 s1 s2 q1 q2) : rmt p1 p2 q1 q2 r1 r2 s1 s2 := by
  have D := id_d p1 p2 q1 q2 r1 r2 s1 s2
  -- two products alike whose factors are not of one sign
  have key : ∀ o o' u v t : Int, o * (u - t) = o' * (v - t) → ¬ alk o o' → o ≠ o' → btw t v u := by
    intro o o' u v t e ha hn
    have m1 := msg o (u - t)
    have m2 := msg o' (v - t)
    unfold alk at ha
    unfold btw
    rw [e] at m1
    generalize o' * (v - t) = w at *
    clear e
    omega
  unfold rmt
  by_cases z1 : crs p1 p2 q1 q2 r1 r2 = 0
  · refine Or.inr (Or.inr (Or.inl ⟨key _ _ q1 p1 r1 ?_ h2 hD, key _ _ q2 p2 r2 ?_ h2 hD, z1⟩))
    · have := id_x p1 p2 q1 q2 r1 r2 s1 s2 r1
      rw [z1] at this; simp at this; omega
    · have := id_y p1 p2 q1 q2 r1 r2 s1 s2 r2
      rw [z1] at this; simp at this; omega
  by_cases z2 : crs p1 p2 q1 q2 s1 s2 = 0
  · refine Or.inr (Or.inr (Or.inr (Or.inl ⟨key _ _ q1 p1 s1 ?_ h2 hD, key _ _ q2 p2 s2 ?_ h2 hD, z2⟩)))
    · have := id_x p1 p2 q1 q2 r1 r2 s1 s2 s1
      rw [z2] at this; simp at this; omega
    · have := id_y p1 p2 q1 q2 r1 r2 s1 s2 s2
      rw [z2] at this; simp at this; omega
  have hD' : crs p1 p2 q1 q2 s1 s2 ≠ crs p1 p2 q1 q2 r1 r2 := by omega
  have h1' : ¬ alk (crs p1 p2 q1 q2 s1 s2) (crs p1 p2 q1 q2 r1 r2) := by unfold alk at h1 ⊢; omega
  have bsw : ∀ {v a b : Int}, btw v a b → btw v b a := by intro v a b h; unfold btw at *; omega
  by_cases z3 : crs r1 r2 s1 s2 p1 p2 = 0
  · refine Or.inl ⟨bsw (key _ _ r1 s1 p1 ?_ h1' hD'), bsw (key _ _ r2 s2 p2 ?_ h1' hD'), z3⟩
    · have := id_x p1 p2 q1 q2 r1 r2 s1 s2 p1
      rw [z3] at this; simp at this; omega
    · have := id_y p1 p2 q1 q2 r1 r2 s1 s2 p2
      rw [z3] at this; simp at this; omega
  by_cases z4 : crs r1 r2 s1 s2 q1 q2 = 0
  · refine Or.inr (Or.inl ⟨bsw (key _ _ r1 s1 q1 ?_ h1' hD'), bsw (key _ _ r2 s2 q2 ?_ h1' hD'), z4⟩)
    · have := id_x p1 p2 q1 q2 r1 r2 s1 s2 q1
      rw [z4] at this; simp at this; omega
    · have := id_y p1 p2 q1 q2 r1 r2 s1 s2 q2
      rw [z4] at this; simp at this; omega
  refine Or.inr (Or.inr (Or.inr (Or.inr ⟨?_, ?_⟩)))
  · unfold alk at h1; unfold opp; omega
  · unfold alk at h2; unfold opp; omega
/-- on one line, the one coordinate's order is the other's -/
theorem line_btw {d m u1 u2 v1 v2 w1 w2 : Int} (hd : d ≠ 0) (e1 : d * (u2 - v2) = m * (u1 - v1)) (e2 : d * (w2 - u2) = m * (w1 - u1)) (h : btw u1 v1 w1) : btw u2 v2 w2 := by
  have m1 := msg d (u2 - v2)
  have m2 := msg m (u1 - v1)
  have m3 := msg d (w2 - u2)
  have m4 := msg m (w1 - u1)
  rw [e1] at m1
  rw [e2] at m3
  unfold btw at *
  generalize m * (u1 - v1) = x1 at *
  generalize m * (w1 - u1) = x2 at *
  clear e1 e2
  omega
theorem on_line {p1 p2 q1 q2 u1 u2 v1 v2 : Int} (h1 : crs p1 p2 q1 q2 u1 u2 = 0) (h2 : crs p1 p2 q1 q2 v1 v2 = 0) : (q1 - p1) * (u2 - v2) = (q2 - p2) * (u1 - v1) := by
  unfold crs at h1 h2
  grind
theorem meet_iff {p1 p2 q1 q2 r1 r2 s1 s2 : Int} : smt p1 p2 q1 q2 r1 r2 s1 s2 ↔ rmt p1 p2 q1 q2 r1 r2 s1 s2 := by
  constructor
  · intro h
    obtain ⟨x, y, h1, h2⟩ := h
    by_cases hD : crs r1 r2 s1 s2 p1 p2 = crs r1 r2 s1 s2 q1 q2
    · have D := id_d p1 p2 q1 q2 r1 r2 s1 s2
      have o1 : crs p1 p2 q1 q2 r1 r2 = 0 := by unfold alk at h1; omega
      have o2 : crs p1 p2 q1 q2 s1 s2 = 0 := by unfold alk at h1; omega
      have o3 : crs r1 r2 s1 s2 p1 p2 = 0 := by unfold alk at h2; omega
      have op : crs p1 p2 q1 q2 p1 p2 = 0 := by unfold crs; simp
      have oq : crs p1 p2 q1 q2 q1 q2 = 0 := (onp_end p1 p2 q1 q2).2.2
      unfold rmt
      by_cases z : q1 - p1 = 0
      · by_cases z2 : q2 - p2 = 0
        · refine Or.inl ⟨?_, ?_, o3⟩
          · unfold spn at x; unfold btw; omega
          · unfold spn at y; unfold btw; omega
        · -- the second coordinate tells
          have lb : ∀ {u1 u2 v1 v2 w1 w2 : Int}, crs p1 p2 q1 q2 u1 u2 = 0 → crs p1 p2 q1 q2 v1 v2 = 0 → crs p1 p2 q1 q2 w1 w2 = 0 → btw u2 v2 w2 → btw u1 v1 w1 := fun hu hv hw hb => line_btw z2 (on_line hu hv).symm (on_line hw hu).symm hb
          have c : btw r2 p2 q2 ∨ btw s2 p2 q2 ∨ btw p2 r2 s2 := by unfold spn at y; unfold btw; omega
          rcases c with c | c | c
          · exact Or.inr (Or.inr (Or.inl ⟨lb o1 op oq c, c, o1⟩))
          · exact Or.inr (Or.inr (Or.inr (Or.inl ⟨lb o2 op oq c, c, o2⟩)))
          · exact Or.inl ⟨lb op o1 o2 c, c, o3⟩
      · have lb : ∀ {u1 u2 v1 v2 w1 w2 : Int}, crs p1 p2 q1 q2 u1 u2 = 0 → crs p1 p2 q1 q2 v1 v2 = 0 → crs p1 p2 q1 q2 w1 w2 = 0 → btw u1 v1 w1 → btw u2 v2 w2 := fun hu hv hw hb => line_btw z (on_line hu hv) (on_line hw hu) hb
        have c : btw r1 p1 q1 ∨ btw s1 p1 q1 ∨ btw p1 r1 s1 := by unfold spn at x; unfold btw; omega
        rcases c with c | c | c
        · exact Or.inr (Or.inr (Or.inl ⟨c, lb o1 op oq c, o1⟩))
        · exact Or.inr (Or.inr (Or.inr (Or.inl ⟨c, lb o2 op oq c, o2⟩)))
        · exact Or.inl ⟨c, lb op o1 o2 c, o3⟩
    · exact rmt_of h1 h2 hD
  · rintro (h | h | h | h | h)
    · exact smt_of_on h
    · exact smt_sw.mp (smt_of_on h)
    · exact smt_cm.mp (smt_of_on h)
    · exact smt_cm.mp (smt_sw.mp (smt_of_on h))
    · exact smt_of_opp h.1 h.2
