/-! a segment covered by others -/
def dg (s : Q4) : Prop := s.1 = s.2.2.1 ∧ s.2.1 = s.2.2.2
def co (s : Q4) (x y : Int) : Int := if s.1 = s.2.2.1 then y else x
def cr (s : Q4) (x y : Int) : Int := crs s.1 s.2.1 s.2.2.1 s.2.2.2 x y
def ln (s a : Q4) : Prop := cr s a.1 a.2.1 = 0 ∧ cr s a.2.2.1 a.2.2.2 = 0
def lo (s a : Q4) : Int := min (co s a.1 a.2.1) (co s a.2.2.1 a.2.2.2)
def hi (s a : Q4) : Int := max (co s a.1 a.2.1) (co s a.2.2.1 a.2.2.2)
def UC (s : Q4) (A : Nat → Q4) (c : Nat) : Prop := ∀ t, lo s s ≤ t → t < hi s s → ∃ k, k < c ∧ ln s (A k) ∧ lo s (A k) ≤ t ∧ t + 1 ≤ hi s (A k)
def Cov (s : Q4) (A : Nat → Q4) (c : Nat) : Prop := (dg s ∧ ∃ k, k < c ∧ onQ (A k) s.1 s.2.1) ∨ (¬ dg s ∧ UC s A c)
theorem co_t {s : Q4} {x y : Int} (h : s.1 = s.2.2.1) : co s x y = y := if_pos h
theorem co_f {s : Q4} {x y : Int} (h : ¬ s.1 = s.2.2.1) : co s x y = x := if_neg h
theorem co_ne {s : Q4} (h : ¬ dg s) : co s s.1 s.2.1 ≠ co s s.2.2.1 s.2.2.2 := by
  by_cases z : s.1 = s.2.2.1
  · rw [co_t z, co_t z]; exact fun y => h ⟨z, y⟩
  · rw [co_f z, co_f z]; exact z
theorem cr_s (s : Q4) : cr s s.1 s.2.1 = 0 := crs_s _ _ _ _
theorem cr_e (s : Q4) : cr s s.2.2.1 s.2.2.2 = 0 := crs_e _ _ _ _
theorem col3 {s : Q4} (h : ¬ dg s) {p1 p2 q1 q2 r1 r2 : Int} (hp : cr s p1 p2 = 0) (hq : cr s q1 q2 = 0) (hr : cr s r1 r2 = 0) : crs p1 p2 q1 q2 r1 r2 = 0 := by
  have a := on_line hq hp
  have b := on_line hr hp
  have e1 : (s.2.2.1 - s.1) * crs p1 p2 q1 q2 r1 r2 = (q1 - p1) * ((s.2.2.1 - s.1) * (r2 - p2)) - ((s.2.2.1 - s.1) * (q2 - p2)) * (r1 - p1) := by unfold crs; grind
  have e2 : (s.2.2.2 - s.2.1) * crs p1 p2 q1 q2 r1 r2 = ((s.2.2.2 - s.2.1) * (q1 - p1)) * (r2 - p2) - (q2 - p2) * ((s.2.2.2 - s.2.1) * (r1 - p1)) := by unfold crs; grind
  have f1 : (s.2.2.1 - s.1) * crs p1 p2 q1 q2 r1 r2 = 0 := by rw [e1, a, b]; grind
  have f2 : (s.2.2.2 - s.2.1) * crs p1 p2 q1 q2 r1 r2 = 0 := by rw [e2, ← a, ← b]; grind
  rcases Int.mul_eq_zero.mp f1 with z | z
  · rcases Int.mul_eq_zero.mp f2 with y | y
    · exact absurd ⟨by omega, by omega⟩ h
    · exact y
  · exact z
theorem on_co {s a : Q4} {x y : Int} (h : ¬ dg s) (la : ln s a) (lp : cr s x y = 0) : onQ a x y ↔ btw (co s x y) (co s a.1 a.2.1) (co s a.2.2.1 a.2.2.2) := by
  constructor
  · rintro ⟨b1, b2, -⟩
    by_cases z : s.1 = s.2.2.1
    · rw [co_t z, co_t z, co_t z]; exact b2
    · rw [co_f z, co_f z, co_f z]; exact b1
  · intro b
    have c3 := col3 h la.1 la.2 lp
    by_cases z : s.1 = s.2.2.1
    · rw [co_t z, co_t z, co_t z] at b
      have z2 : s.2.2.2 - s.2.1 ≠ 0 := fun y => h ⟨z, by omega⟩
      exact ⟨line_btw z2 (on_line lp la.1).symm (on_line la.2 lp).symm b, b, c3⟩
    · rw [co_f z, co_f z, co_f z] at b
      exact ⟨b, line_btw (show s.2.2.1 - s.1 ≠ 0 by omega) (on_line lp la.1) (on_line la.2 lp) b, c3⟩
theorem cov_fam {s : Q4} {A B : Nat → Q4} {c m : Nat} (h : ∀ k, k < c → ∃ j, j < m ∧ sub4 (A k) (B j)) (g : Cov s A c) : Cov s B m := by
  rcases g with ⟨d, k, hk, o⟩ | ⟨d, u⟩
  · obtain ⟨j, hj, z⟩ := h k hk
    exact Or.inl ⟨d, j, hj, sub_on z o⟩
  · refine Or.inr ⟨d, fun t t1 t2 => ?_⟩
    obtain ⟨k, hk, l, u1, u2⟩ := u t t1 t2
    obtain ⟨j, hj, z⟩ := h k hk
    refine ⟨j, hj, ?_⟩
    rcases z with e | e | e | e
    · rw [← e]; exact ⟨l, u1, u2⟩
    · rw [e] at l u1 u2
      unfold lo at u1 ⊢
      unfold hi at u2 ⊢
      rw [Int.min_comm] at u1
      rw [Int.max_comm] at u2
      exact ⟨⟨l.2, l.1⟩, u1, u2⟩
    · rw [e] at u1 u2
      unfold lo at u1
      unfold hi at u2
      exfalso
      have u1 : min (co s (B j).1 (B j).2.1) (co s (B j).1 (B j).2.1) ≤ t := u1
      have u2 : t + 1 ≤ max (co s (B j).1 (B j).2.1) (co s (B j).1 (B j).2.1) := u2
      omega
    · rw [e] at u1 u2
      unfold lo at u1
      unfold hi at u2
      exfalso
      have u1 : min (co s (B j).2.2.1 (B j).2.2.2) (co s (B j).2.2.1 (B j).2.2.2) ≤ t := u1
      have u2 : t + 1 ≤ max (co s (B j).2.2.1 (B j).2.2.2) (co s (B j).2.2.1 (B j).2.2.2) := u2
      omega
/-- what covers a segment holds its ends -/
theorem uc_pt {s : Q4} {A : Nat → Q4} {c : Nat} {x y z : Int} {x' y' : Int} (h : ¬ dg s) (u : UC s A c) (lp : cr s x y = 0) (e1 : lo s s = min (co s x y) z) (e2 : hi s s = max (co s x y) z) (n : co s x y ≠ z) : ∃ k, k < c ∧ onQ (A k) x y := by
  by_cases q : co s x y < z
  · obtain ⟨k, hk, l, u1, u2⟩ := u (co s x y) (by omega) (by omega)
    refine ⟨k, hk, (on_co h l lp).mpr ?_⟩
    unfold lo at u1
    unfold hi at u2
    unfold btw
    clear e1 e2
    omega
  · obtain ⟨k, hk, l, u1, u2⟩ := u (co s x y - 1) (by omega) (by omega)
    refine ⟨k, hk, (on_co h l lp).mpr ?_⟩
    unfold lo at u1
    unfold hi at u2
    unfold btw
    clear e1 e2
    omega
theorem cov_sub {a b : Q4} {A : Nat → Q4} {c : Nat} (h : sub4 a b) (g : Cov b A c) : Cov a A c := by
  rcases h with e | e | e | e
  · rw [e]; exact g
  · rw [e]
    rcases g with ⟨d, k, hk, o⟩ | ⟨d, u⟩
    · refine Or.inl ⟨⟨d.1.symm, d.2.symm⟩, k, hk, ?_⟩
      show onQ (A k) b.2.2.1 b.2.2.2
      rw [← d.1, ← d.2]; exact o
    · refine Or.inr ⟨fun z => d ⟨z.1.symm, z.2.symm⟩, fun t t1 t2 => ?_⟩
      have ec : ∀ x y, co (swQ b) x y = co b x y := fun x y => by
        by_cases z : b.1 = b.2.2.1
        · rw [co_t z]; exact co_t (s := swQ b) z.symm
        · rw [co_f z]; exact co_f (s := swQ b) (fun y => z y.symm)
      have el : ∀ q, lo (swQ b) q = lo b q := fun q => by unfold lo; rw [ec, ec]
      have eh : ∀ q, hi (swQ b) q = hi b q := fun q => by unfold hi; rw [ec, ec]
      rw [el] at t1
      rw [eh] at t2
      have e1 : lo b (swQ b) = lo b b := Int.min_comm _ _
      have e2 : hi b (swQ b) = hi b b := Int.max_comm _ _
      rw [e1] at t1
      rw [e2] at t2
      obtain ⟨k, hk, l, u1, u2⟩ := u t t1 t2
      have cn : ∀ x y, cr b x y = 0 → cr (swQ b) x y = 0 := fun x y z => by
        show crs b.2.2.1 b.2.2.2 b.1 b.2.1 x y = 0
        rw [crs_sw]
        have z : crs b.1 b.2.1 b.2.2.1 b.2.2.2 x y = 0 := z
        rw [z]; rfl
      exact ⟨k, hk, ⟨cn _ _ l.1, cn _ _ l.2⟩, by rw [el]; exact u1, by rw [eh]; exact u2⟩
  · rw [e]
    refine Or.inl ⟨⟨rfl, rfl⟩, ?_⟩
    show ∃ k, k < c ∧ onQ (A k) b.1 b.2.1
    rcases g with ⟨d, k, hk, o⟩ | ⟨d, u⟩
    · exact ⟨k, hk, o⟩
    · exact uc_pt (x' := 0) (y' := 0) d u (cr_s b) rfl rfl (co_ne d)
  · rw [e]
    refine Or.inl ⟨⟨rfl, rfl⟩, ?_⟩
    show ∃ k, k < c ∧ onQ (A k) b.2.2.1 b.2.2.2
    rcases g with ⟨d, k, hk, o⟩ | ⟨d, u⟩
    · rw [← d.1, ← d.2]; exact ⟨k, hk, o⟩
    · exact uc_pt (x' := 0) (y' := 0) (z := co b b.1 b.2.1) d u (cr_e b) (Int.min_comm _ _) (Int.max_comm _ _) (fun z => co_ne d z.symm)
/-- a number that grows along the segment -/
def dt (s : Q4) (p1 p2 q1 q2 : Int) : Int := (s.2.2.1 - s.1) * (p1 - q1) + (s.2.2.2 - s.2.1) * (p2 - q2)
theorem dt_x {s : Q4} {p1 p2 q1 q2 : Int} (lp : cr s p1 p2 = 0) (lq : cr s q1 q2 = 0) : (s.2.2.1 - s.1) * dt s p1 p2 q1 q2 = lng s.1 s.2.1 s.2.2.1 s.2.2.2 * (p1 - q1) := by
  have a := on_line lp lq
  have e : (s.2.2.1 - s.1) * dt s p1 p2 q1 q2 = (s.2.2.1 - s.1) * (s.2.2.1 - s.1) * (p1 - q1) + (s.2.2.2 - s.2.1) * ((s.2.2.1 - s.1) * (p2 - q2)) := by unfold dt; grind
  rw [e, a]
  unfold lng
  grind
theorem ev_props {s : Q4} (h : ¬ dg s) : ∃ e : Int → Int → Int, e s.1 s.2.1 < e s.2.2.1 s.2.2.2 ∧ (∀ p1 p2 q1 q2, cr s p1 p2 = 0 → cr s q1 q2 = 0 → (0 < dt s p1 p2 q1 q2 ↔ e q1 q2 < e p1 p2)) ∧
    (∀ a x y, ln s a → cr s x y = 0 → (onQ a x y ↔ btw (e x y) (e a.1 a.2.1) (e a.2.2.1 a.2.2.2))) ∧
    (∀ A c, UC s A c ↔ ∀ t, e s.1 s.2.1 ≤ t → t < e s.2.2.1 s.2.2.2 → ∃ k, k < c ∧ ln s (A k) ∧ min (e (A k).1 (A k).2.1) (e (A k).2.2.1 (A k).2.2.2) ≤ t ∧ t + 1 ≤ max (e (A k).1 (A k).2.1) (e (A k).2.2.1 (A k).2.2.2)) ∧
    ∀ x y, -500000000 ≤ x → x ≤ 500000000 → -500000000 ≤ y → y ≤ 500000000 → -500000000 ≤ e x y ∧ e x y ≤ 500000000 := by
  have L : 0 < lng s.1 s.2.1 s.2.2.1 s.2.2.2 := by
    have := lng_nn s.1 s.2.1 s.2.2.1 s.2.2.2
    have n : lng s.1 s.2.1 s.2.2.1 s.2.2.2 ≠ 0 := fun z => by obtain ⟨a, b⟩ := lng_0 z; exact h ⟨a.symm, b.symm⟩
    omega
  -- ahead, by the coordinate
  have ah : ∀ p1 p2 q1 q2, cr s p1 p2 = 0 → cr s q1 q2 = 0 → (0 < dt s p1 p2 q1 q2 ↔ (co s s.1 s.2.1 < co s s.2.2.1 s.2.2.2 ∧ co s q1 q2 < co s p1 p2) ∨ (co s s.2.2.1 s.2.2.2 < co s s.1 s.2.1 ∧ co s p1 p2 < co s q1 q2)) := by
    intro p1 p2 q1 q2 lp lq
    have key : ∀ d u v K : Int, d ≠ 0 → 0 < K → d * u = K * v → (0 < u ↔ (0 < d ∧ 0 < v) ∨ (d < 0 ∧ v < 0)) := by
      intro d u v K hd hK e
      rcases Int.lt_trichotomy u 0 with hu | hu | hu
      · rcases Int.lt_trichotomy d 0 with z | z | z
        · have a := Int.mul_pos_of_neg_of_neg z hu
          have b : 0 < v * K := by rw [Int.mul_comm]; omega
          have b := i_p hK b
          omega
        · omega
        · have a := Int.mul_neg_of_pos_of_neg z hu
          have b : v * K < 0 := by rw [Int.mul_comm]; omega
          have b := i_n hK b
          omega
      · rw [hu, Int.mul_zero] at e
        rcases Int.mul_eq_zero.mp e.symm with z | z <;> omega
      · rcases Int.lt_trichotomy d 0 with z | z | z
        · have a := Int.mul_neg_of_neg_of_pos z hu
          have b : v * K < 0 := by rw [Int.mul_comm]; omega
          have b := i_n hK b
          omega
        · omega
        · have a := Int.mul_pos z hu
          have b : 0 < v * K := by rw [Int.mul_comm]; omega
          have b := i_p hK b
          omega
    by_cases z : s.1 = s.2.2.1
    · rw [co_t z, co_t z, co_t z, co_t z]
      have z2 : s.2.2.2 - s.2.1 ≠ 0 := fun y => h ⟨z, by omega⟩
      have e : dt s p1 p2 q1 q2 = (s.2.2.2 - s.2.1) * (p2 - q2) := by
        unfold dt
        rw [show s.2.2.1 - s.1 = 0 by omega, Int.zero_mul, Int.zero_add]
      have k := key (s.2.2.2 - s.2.1) (dt s p1 p2 q1 q2) (p2 - q2) ((s.2.2.2 - s.2.1) * (s.2.2.2 - s.2.1)) z2 (by
        have a := sq_nn (s.2.2.2 - s.2.1)
        have b : (s.2.2.2 - s.2.1) * (s.2.2.2 - s.2.1) ≠ 0 := fun y => z2 (sq_0 y)
        omega) (by rw [e]; grind)
      rw [k]
      omega
    · rw [co_f z, co_f z, co_f z, co_f z]
      have k := key (s.2.2.1 - s.1) (dt s p1 p2 q1 q2) (p1 - q1) _ (by omega) L (dt_x lp lq)
      rw [k]
      omega
  have bd : ∀ x y, -500000000 ≤ x → x ≤ 500000000 → -500000000 ≤ y → y ≤ 500000000 → -500000000 ≤ co s x y ∧ co s x y ≤ 500000000 := by
    intro x y a b c d
    by_cases z : s.1 = s.2.2.1
    · rw [co_t z]; omega
    · rw [co_f z]; omega
  have ne := co_ne h
  by_cases up : co s s.1 s.2.1 < co s s.2.2.1 s.2.2.2
  · refine ⟨co s, up, fun p1 p2 q1 q2 lp lq => ?_, fun a x y la lp => on_co h la lp, fun A c => ?_, bd⟩
    · rw [ah p1 p2 q1 q2 lp lq]; omega
    · have e1 : lo s s = co s s.1 s.2.1 := by unfold lo; omega
      have e2 : hi s s = co s s.2.2.1 s.2.2.2 := by unfold hi; omega
      unfold UC
      rw [e1, e2]
      exact Iff.rfl
  · obtain ⟨e, he⟩ : ∃ e : Int → Int → Int, ∀ x y, e x y = -co s x y := ⟨fun x y => -co s x y, fun _ _ => rfl⟩
    refine ⟨e, by rw [he, he]; omega, fun p1 p2 q1 q2 lp lq => ?_, fun a x y la lp => ?_, fun A c => ?_, fun x y a b c d => ?_⟩
    · rw [ah p1 p2 q1 q2 lp lq, he, he]; omega
    · rw [on_co h la lp, he, he, he]; unfold btw; omega
    · have e1 : lo s s = co s s.2.2.1 s.2.2.2 := by unfold lo; omega
      have e2 : hi s s = co s s.1 s.2.1 := by unfold hi; omega
      unfold UC
      rw [e1, e2]
      simp only [he]
      constructor
      · intro u t t1 t2
        obtain ⟨k, hk, l, u1, u2⟩ := u (-t - 1) (by omega) (by omega)
        unfold lo at u1
        unfold hi at u2
        refine ⟨k, hk, l, ?_, ?_⟩
        · clear e1 e2 t1 t2 u1 bd ah; omega
        · clear e1 e2 t1 t2 u2 bd ah; omega
      · intro u t t1 t2
        obtain ⟨k, hk, l, u1, u2⟩ := u (-t - 1) (by omega) (by omega)
        refine ⟨k, hk, l, ?_, ?_⟩
        · unfold lo; clear e1 e2 t1 t2 u1 bd ah; omega
        · unfold hi; clear e1 e2 t1 t2 u2 bd ah; omega
    · have := bd x y a b c d
      rw [he]
      omega
