/-! a segment that meets no side of closed rings: both its ends in, or both out -/
theorem s_pn {a b : Int} (ha : 0 ≤ a) (hb : b ≤ 0) : a * b ≤ 0 := by
  have := Int.mul_nonneg ha (show 0 ≤ -b by omega)
  rw [Int.mul_neg] at this
  omega
theorem s_np {a b : Int} (ha : a ≤ 0) (hb : 0 ≤ b) : a * b ≤ 0 := by rw [Int.mul_comm]; exact s_pn hb ha
theorem s_nn {a b : Int} (ha : a ≤ 0) (hb : b ≤ 0) : 0 ≤ a * b := Int.mul_nonneg_of_nonpos_of_nonpos ha hb
theorem i_p {a b : Int} (hb : 0 < b) (h : 0 < a * b) : 0 < a := by
  by_cases z : a ≤ 0
  · have := s_np z (Int.le_of_lt hb); omega
  · omega
theorem i_n {a b : Int} (hb : 0 < b) (h : a * b < 0) : a < 0 := by
  by_cases z : 0 ≤ a
  · have := Int.mul_nonneg z (Int.le_of_lt hb); omega
  · omega
theorem i_np {a b : Int} (hb : 0 < b) (h : a * b ≤ 0) : a ≤ 0 := by
  by_cases z : 0 < a
  · have := Int.mul_pos z hb; omega
  · omega
theorem i_nn {a b : Int} (hb : 0 < b) (h : 0 ≤ a * b) : 0 ≤ a := by
  by_cases z : a < 0
  · have := Int.mul_neg_of_neg_of_pos z hb; omega
  · omega
theorem alk_f {a b : Int} (h : (a ≤ 0 ∧ 0 ≤ b) ∨ (0 ≤ a ∧ b ≤ 0)) : ¬ alk a b := by unfold alk; omega
/-- the lower end below both, the upper above both -/
theorem ed_3 {Q U V U' V' o1 o2 o3 o4 : Int} (hQ : 0 ≤ Q) (hU : U ≤ 0) (hV : 0 < V) (hU' : U' ≤ 0) (hV' : 0 < V') (I1 : o3 * Q = o2 * U - o1 * V) (I2 : o4 * Q = o2 * U' - o1 * V') (nR : ¬ alk o1 o2 → ¬ alk o3 o4 → o3 ≠ o4 → False) (z3 : o3 ≠ 0) (z4 : o4 ≠ 0) : 0 < o3 ↔ 0 < o4 := by
  have key : ∀ {o1 o2 o3 o4 : Int}, o3 * Q = o2 * U - o1 * V → o4 * Q = o2 * U' - o1 * V' → 0 < o3 → o4 < 0 → ¬ alk o1 o2 := by
    intro o1 o2 o3 o4 I1 I2 h3 h4 a
    rcases a with ⟨a, b⟩ | ⟨a, b⟩
    · have t1 := s_np (Int.le_of_lt h4) hQ
      have t2 := s_nn (Int.le_of_lt b) hU'
      have t3 := Int.mul_neg_of_neg_of_pos a hV'
      omega
    · have t1 := Int.mul_nonneg (Int.le_of_lt h3) hQ
      have t2 := s_pn (Int.le_of_lt b) hU
      have t3 := Int.mul_pos a hV
      omega
  constructor
  · intro h
    by_cases y : 0 < o4
    · exact y
    · exact (nR (key I1 I2 h (by omega)) (alk_f (by omega)) (by omega)).elim
  · intro h
    by_cases y : 0 < o3
    · exact y
    · have k := key (o1 := -o1) (o2 := -o2) (o3 := -o3) (o4 := -o4) (by rw [Int.neg_mul, Int.neg_mul, Int.neg_mul]; omega) (by rw [Int.neg_mul, Int.neg_mul, Int.neg_mul]; omega) (by omega) (by omega)
      exact (nR (fun a => k (alk_neg.mpr a)) (alk_f (by omega)) (by omega)).elim
/-- the lower end below, the upper between -/
theorem ed_4 {Q U V U' V' o1 o2 o3 o4 : Int} (hQ : 0 < Q) (hU : U ≤ 0) (hV : 0 < V) (hU' : U' < 0) (hV' : V' ≤ 0) (I1 : o3 * Q = o2 * U - o1 * V) (I2 : o4 * Q = o2 * U' - o1 * V') (nR : ¬ alk o1 o2 → ¬ alk o3 o4 → o3 ≠ o4 → False) (z3 : o3 ≠ 0) (z2 : o2 ≠ 0) : 0 < o3 ↔ o2 < 0 := by
  have key : ∀ {o1 o2 o3 o4 : Int}, o3 * Q = o2 * U - o1 * V → o4 * Q = o2 * U' - o1 * V' → 0 < o3 → 0 < o2 → o1 < 0 ∧ o4 < 0 := by
    intro o1 o2 o3 o4 I1 I2 h3 h2
    have t1 := Int.mul_pos h3 hQ
    have t2 := s_pn (Int.le_of_lt h2) hU
    have a1 : o1 < 0 := i_n hV (by omega)
    have t3 := Int.mul_neg_of_pos_of_neg h2 hU'
    have t4 := s_nn (Int.le_of_lt a1) hV'
    exact ⟨a1, i_n hQ (by omega)⟩
  constructor
  · intro h
    by_cases y : o2 < 0
    · exact y
    · obtain ⟨a, b⟩ := key I1 I2 h (by omega)
      exact (nR (alk_f (by omega)) (alk_f (by omega)) (by omega)).elim
  · intro h
    by_cases y : 0 < o3
    · exact y
    · obtain ⟨a, b⟩ := key (o1 := -o1) (o2 := -o2) (o3 := -o3) (o4 := -o4) (by rw [Int.neg_mul, Int.neg_mul, Int.neg_mul]; omega) (by rw [Int.neg_mul, Int.neg_mul, Int.neg_mul]; omega) (by omega) (by omega)
      exact (nR (alk_f (by omega)) (alk_f (by omega)) (by omega)).elim
/-- both between -/
theorem ed_5 {Q U V U' V' o1 o2 o3 o4 : Int} (hQ : 0 < Q) (hU : 0 < U) (hV : 0 < V) (hU' : U' ≤ 0) (hV' : V' ≤ 0) (I1 : o3 * Q = o2 * U - o1 * V) (I2 : o4 * Q = o2 * U' - o1 * V') (D : o3 - o4 = o2 - o1) (nR : ¬ alk o1 o2 → ¬ alk o3 o4 → o3 ≠ o4 → False) (z1 : o1 ≠ 0) (z2 : o2 ≠ 0) : o1 < 0 ↔ o2 < 0 := by
  have key : ∀ {o1 o2 o3 o4 : Int}, o3 * Q = o2 * U - o1 * V → o4 * Q = o2 * U' - o1 * V' → o1 < 0 → 0 < o2 → 0 < o3 ∧ o4 ≤ 0 := by
    intro o1 o2 o3 o4 I1 I2 h1 h2
    have t1 := Int.mul_pos h2 hU
    have t2 := Int.mul_neg_of_neg_of_pos h1 hV
    have t3 := s_pn (Int.le_of_lt h2) hU'
    have t4 := s_nn (Int.le_of_lt h1) hV'
    exact ⟨i_p hQ (by omega), i_np hQ (by omega)⟩
  constructor
  · intro h
    by_cases y : o2 < 0
    · exact y
    · obtain ⟨a, b⟩ := key I1 I2 h (by omega)
      exact (nR (alk_f (by omega)) (alk_f (by omega)) (by omega)).elim
  · intro h
    by_cases y : o1 < 0
    · exact y
    · obtain ⟨a, b⟩ := key (o1 := -o1) (o2 := -o2) (o3 := -o3) (o4 := -o4) (by rw [Int.neg_mul, Int.neg_mul, Int.neg_mul]; omega) (by rw [Int.neg_mul, Int.neg_mul, Int.neg_mul]; omega) (by omega) (by omega)
      exact (nR (alk_f (by omega)) (alk_f (by omega)) (by omega)).elim
/-- the lower end between, the upper above -/
theorem ed_6 {Q U V U' V' o1 o2 o3 o4 : Int} (hQ : 0 < Q) (hU : 0 < U) (hV : 0 < V) (hU' : U' ≤ 0) (hV' : 0 < V') (I1 : o3 * Q = o2 * U - o1 * V) (I2 : o4 * Q = o2 * U' - o1 * V') (nR : ¬ alk o1 o2 → ¬ alk o3 o4 → o3 ≠ o4 → False) (z4 : o4 ≠ 0) (z1 : o1 ≠ 0) : 0 < o4 ↔ o1 < 0 := by
  have key : ∀ {o1 o2 o3 o4 : Int}, o3 * Q = o2 * U - o1 * V → o4 * Q = o2 * U' - o1 * V' → 0 < o4 → 0 < o1 → o2 < 0 ∧ o3 < 0 := by
    intro o1 o2 o3 o4 I1 I2 h4 h1
    have t1 := Int.mul_pos h4 hQ
    have t2 := Int.mul_pos h1 hV'
    have a2 : o2 < 0 := by
      by_cases z : 0 ≤ o2
      · have := s_pn z hU'; omega
      · omega
    have t3 := Int.mul_neg_of_neg_of_pos a2 hU
    have t4 := Int.mul_pos h1 hV
    exact ⟨a2, i_n hQ (by omega)⟩
  constructor
  · intro h
    by_cases y : o1 < 0
    · exact y
    · obtain ⟨a, b⟩ := key I1 I2 h (by omega)
      exact (nR (alk_f (by omega)) (alk_f (by omega)) (by omega)).elim
  · intro h
    by_cases y : 0 < o4
    · exact y
    · obtain ⟨a, b⟩ := key (o1 := -o1) (o2 := -o2) (o3 := -o3) (o4 := -o4) (by rw [Int.neg_mul, Int.neg_mul, Int.neg_mul]; omega) (by rw [Int.neg_mul, Int.neg_mul, Int.neg_mul]; omega) (by omega) (by omega)
      exact (nR (alk_f (by omega)) (alk_f (by omega)) (by omega)).elim
def Spl (p1 p2 q1 q2 z1 z2 : Int) : Prop := p2 < z2 ∧ ¬ q2 < z2 ∧ crs p1 p2 q1 q2 z1 z2 < 0
theorem crf_up {u1 u2 v1 v2 x y : Int} (h : u2 ≤ v2) : crf (u1, u2, v1, v2) x y ↔ (u2 ≤ y ∧ y < v2 ∧ 0 < crs u1 u2 v1 v2 x y) := by
  show ((y < u2 ∧ ¬ y < v2 ∧ ¬ 0 < crs u1 u2 v1 v2 x y) ∨ (¬ y < u2 ∧ y < v2 ∧ 0 < crs u1 u2 v1 v2 x y)) ↔ _
  omega
theorem par4 {A B C D : Prop} (h : (A ↔ C) ∧ ¬ B ∧ ¬ D ∨ (A ↔ D) ∧ ¬ B ∧ ¬ C ∨ (B ↔ C) ∧ ¬ A ∧ ¬ D ∨ (B ↔ D) ∧ ¬ A ∧ ¬ C ∨ (A ↔ B) ∧ ¬ C ∧ ¬ D ∨ (C ↔ D) ∧ ¬ A ∧ ¬ B) : (nP A + nP B) % 2 = (nP C + nP D) % 2 := by
  have two : ∀ n : Nat, (n + n) % 2 = 0 := fun n => by omega
  rcases h with ⟨e, a, b⟩ | ⟨e, a, b⟩ | ⟨e, a, b⟩ | ⟨e, a, b⟩ | ⟨e, a, b⟩ | ⟨e, a, b⟩
  · rw [nP_f a, nP_f b, nP_c e]
  · rw [nP_f a, nP_f b, nP_c e, Nat.add_comm]
  · rw [nP_f a, nP_f b, nP_c e, Nat.add_comm]
  · rw [nP_f a, nP_f b, nP_c e]
  · rw [nP_f a, nP_f b, nP_c e, two]
  · rw [nP_f a, nP_f b, nP_c e, two (nP D)]
theorem edge_up {p1 p2 q1 q2 u1 u2 v1 v2 : Int} (hpq : p2 ≤ q2) (huv : u2 ≤ v2) (n : ¬ rmt p1 p2 q1 q2 u1 u2 v1 v2) : (nP (crf (u1, u2, v1, v2) p1 p2) + nP (crf (u1, u2, v1, v2) q1 q2)) % 2 = (nP (Spl p1 p2 q1 q2 u1 u2) + nP (Spl p1 p2 q1 q2 v1 v2)) % 2 := by
  have nR : ¬ alk (crs p1 p2 q1 q2 u1 u2) (crs p1 p2 q1 q2 v1 v2) → ¬ alk (crs u1 u2 v1 v2 p1 p2) (crs u1 u2 v1 v2 q1 q2) → crs u1 u2 v1 v2 p1 p2 ≠ crs u1 u2 v1 v2 q1 q2 → False := fun a b c => n (rmt_of a b c)
  have z3 : u2 ≤ p2 → p2 < v2 → crs u1 u2 v1 v2 p1 p2 ≠ 0 := fun a b z => n (Or.inl (on_y z (by omega) (by unfold btw; omega)))
  have z4 : u2 ≤ q2 → q2 < v2 → crs u1 u2 v1 v2 q1 q2 ≠ 0 := fun a b z => n (Or.inr (Or.inl (on_y z (by omega) (by unfold btw; omega))))
  have z1 : p2 < u2 → u2 ≤ q2 → crs p1 p2 q1 q2 u1 u2 ≠ 0 := fun a b z => n (Or.inr (Or.inr (Or.inl (on_y z (by omega) (by unfold btw; omega)))))
  have z2 : p2 < v2 → v2 ≤ q2 → crs p1 p2 q1 q2 v1 v2 ≠ 0 := fun a b z => n (Or.inr (Or.inr (Or.inr (Or.inl (on_y z (by omega) (by unfold btw; omega))))))
  have I1 : crs u1 u2 v1 v2 p1 p2 * (q2 - p2) = crs p1 p2 q1 q2 v1 v2 * (u2 - p2) - crs p1 p2 q1 q2 u1 u2 * (v2 - p2) := by
    have := id_y p1 p2 q1 q2 u1 u2 v1 v2 p2
    rw [Int.sub_self, Int.mul_zero] at this
    omega
  have I2 : crs u1 u2 v1 v2 q1 q2 * (q2 - p2) = crs p1 p2 q1 q2 v1 v2 * (u2 - q2) - crs p1 p2 q1 q2 u1 u2 * (v2 - q2) := by
    have := id_y p1 p2 q1 q2 u1 u2 v1 v2 q2
    rw [Int.sub_self, Int.mul_zero, show p2 - q2 = -(q2 - p2) by omega, Int.mul_neg] at this
    omega
  have D := id_d p1 p2 q1 q2 u1 u2 v1 v2
  rw [nP_c (crf_up (x := p1) (y := p2) huv), nP_c (crf_up (x := q1) (y := q2) huv)]
  unfold Spl
  generalize crs u1 u2 v1 v2 p1 p2 = o3 at *
  generalize crs u1 u2 v1 v2 q1 q2 = o4 at *
  generalize crs p1 p2 q1 q2 u1 u2 = o1 at *
  generalize crs p1 p2 q1 q2 v1 v2 = o2 at *
  clear n
  by_cases hu : u2 ≤ p2
  · by_cases hv : v2 ≤ p2
    · rw [nP_f (by omega), nP_f (by omega), nP_f (by omega), nP_f (by omega)]
    · by_cases hv2 : v2 ≤ q2
      · have e := ed_4 (Q := q2 - p2) (U := u2 - p2) (V := v2 - p2) (U' := u2 - q2) (V' := v2 - q2) (by omega) (by omega) (by omega) (by omega) (by omega) I1 I2 nR (z3 hu (by omega)) (z2 (by omega) hv2)
        clear I1 I2 nR z1 z2 z3 z4 D
        exact par4 (Or.inr (Or.inl ⟨by omega, by omega, by omega⟩))
      · have e := ed_3 (Q := q2 - p2) (U := u2 - p2) (V := v2 - p2) (U' := u2 - q2) (V' := v2 - q2) (by omega) (by omega) (by omega) (by omega) (by omega) I1 I2 nR (z3 hu (by omega)) (z4 (by omega) (by omega))
        clear I1 I2 nR z1 z2 z3 z4 D
        exact par4 (Or.inr (Or.inr (Or.inr (Or.inr (Or.inl ⟨by omega, by omega, by omega⟩)))))
  · by_cases hu2 : u2 ≤ q2
    · by_cases hv2 : v2 ≤ q2
      · have e := ed_5 (Q := q2 - p2) (U := u2 - p2) (V := v2 - p2) (U' := u2 - q2) (V' := v2 - q2) (by omega) (by omega) (by omega) (by omega) (by omega) I1 I2 D nR (z1 (by omega) hu2) (z2 (by omega) hv2)
        clear I1 I2 nR z1 z2 z3 z4 D
        exact par4 (Or.inr (Or.inr (Or.inr (Or.inr (Or.inr ⟨by omega, by omega, by omega⟩)))))
      · have e := ed_6 (Q := q2 - p2) (U := u2 - p2) (V := v2 - p2) (U' := u2 - q2) (V' := v2 - q2) (by omega) (by omega) (by omega) (by omega) (by omega) I1 I2 nR (z4 hu2 (by omega)) (z1 (by omega) hu2)
        clear I1 I2 nR z1 z2 z3 z4 D
        exact par4 (Or.inr (Or.inr (Or.inl ⟨by omega, by omega, by omega⟩)))
    · rw [nP_f (by omega), nP_f (by omega), nP_f (by omega), nP_f (by omega)]
theorem edge_par {p1 p2 q1 q2 : Int} {s : Q4} (hpq : p2 ≤ q2) (n : ¬ rmt p1 p2 q1 q2 s.1 s.2.1 s.2.2.1 s.2.2.2) : (nP (crf s p1 p2) + nP (crf s q1 q2)) % 2 = (nP (Spl p1 p2 q1 q2 s.1 s.2.1) + nP (Spl p1 p2 q1 q2 s.2.2.1 s.2.2.2)) % 2 := by
  by_cases h : s.2.1 ≤ s.2.2.2
  · exact edge_up hpq h n
  · have n' : ¬ rmt p1 p2 q1 q2 s.2.2.1 s.2.2.2 s.1 s.2.1 := fun z => n (rmt_cm.mp (rmt_sw.mp (rmt_cm.mp z)))
    have o1 : ¬ onQ s p1 p2 := fun z => n (Or.inl z)
    have o2 : ¬ onQ s q1 q2 := fun z => n (Or.inr (Or.inl z))
    have e := edge_up (u1 := s.2.2.1) (u2 := s.2.2.2) (v1 := s.1) (v2 := s.2.1) hpq (by omega) n'
    have e1 : nP (crf (s.2.2.1, s.2.2.2, s.1, s.2.1) p1 p2) = nP (crf s p1 p2) := nP_c (crf_sw o1)
    have e2 : nP (crf (s.2.2.1, s.2.2.2, s.1, s.2.1) q1 q2) = nP (crf s q1 q2) := nP_c (crf_sw o2)
    rw [e1, e2] at e
    rw [e, Nat.add_comm]
theorem sm_add (f g : Nat → Nat) : ∀ n, sm (fun k => f k + g k) n = sm f n + sm g n
  | 0 => rfl
  | n + 1 => by
    show sm (fun k => f k + g k) n + (f n + g n) = (sm f n + f n) + (sm g n + g n)
    rw [sm_add f g n]; omega
theorem sm_mod {f g : Nat → Nat} : ∀ n, (∀ k, k < n → f k % 2 = g k % 2) → sm f n % 2 = sm g n % 2
  | 0, _ => rfl
  | n + 1, h => by
    show (sm f n + f n) % 2 = (sm g n + g n) % 2
    have a := sm_mod n (fun k hk => h k (by omega))
    have b := h n (by omega)
    omega
theorem ring_even {w : SV} {c : Nat} (G : Rgs w c) (F : Nat → Nat) : sm (fun k => F k + F (eE w k)) c % 2 = 0 := by
  obtain ⟨g, B, b0, bg, b1, E⟩ := G
  have all : ∀ r, r ≤ g → sm (fun k => F k + F (eE w k)) (B r) % 2 = 0 := by
    intro r
    induction r with
    | zero => intro _; rw [b0]; rfl
    | succ r ih =>
      intro hr
      have i0 := ih (by omega)
      have b := b1 r (by omega)
      have inn : ∀ d, B r + d < B (r + 1) → sm (fun k => F k + F (eE w k)) (B r + d) % 2 = (F (B r) + F (B r + d)) % 2 := by
        intro d
        induction d with
        | zero => intro _; rw [Nat.add_zero, i0]; omega
        | succ d id =>
          intro hd
          have i1 := id (by omega)
          have e := E r (B r + d) (by omega) (by omega) (by omega)
          have e' : eE w (B r + d) = B r + (d + 1) := by rw [e]; unfold bh; rw [if_pos (by omega)]; omega
          show (sm (fun k => F k + F (eE w k)) (B r + d) + (F (B r + d) + F (eE w (B r + d)))) % 2 = _
          rw [e']
          omega
      have i2 := inn (B (r + 1) - 1 - B r) (by omega)
      have el : B r + (B (r + 1) - 1 - B r) = B (r + 1) - 1 := by omega
      rw [el] at i2
      have e := E r (B (r + 1) - 1) (by omega) (by omega) (by omega)
      have e' : eE w (B (r + 1) - 1) = B r := by rw [e]; unfold bh; rw [if_neg (by omega)]
      have es : sm (fun k => F k + F (eE w k)) (B (r + 1)) = sm (fun k => F k + F (eE w k)) (B (r + 1) - 1) + (F (B (r + 1) - 1) + F (eE w (B (r + 1) - 1))) := by
        obtain ⟨z, ez⟩ : ∃ z, B (r + 1) = z + 1 := ⟨B (r + 1) - 1, by omega⟩
        rw [ez, Nat.add_sub_cancel]; rfl
      rw [es, e']
      omega
  have := all g (Nat.le_refl g)
  rw [bg] at this
  exact this
theorem par_seg {w : SV} {c : Nat} (G : Rgs w c) {p1 p2 q1 q2 : Int} (n : ∀ k, k < c → ¬ rmt p1 p2 q1 q2 (cs w k).1 (cs w k).2.1 (cs w k).2.2.1 (cs w k).2.2.2) : sm (fun k => nP (crf (cs w k) p1 p2)) c % 2 = sm (fun k => nP (crf (cs w k) q1 q2)) c % 2 := by
  have main : ∀ {p1 p2 q1 q2 : Int}, p2 ≤ q2 → (∀ k, k < c → ¬ rmt p1 p2 q1 q2 (cs w k).1 (cs w k).2.1 (cs w k).2.2.1 (cs w k).2.2.2) → sm (fun k => nP (crf (cs w k) p1 p2)) c % 2 = sm (fun k => nP (crf (cs w k) q1 q2)) c % 2 := by
    intro p1 p2 q1 q2 hpq n
    have a := sm_mod (f := fun k => nP (crf (cs w k) p1 p2) + nP (crf (cs w k) q1 q2)) (g := fun k => nP (Spl p1 p2 q1 q2 (zx w k) (zy w k)) + nP (Spl p1 p2 q1 q2 (zx w (eE w k)) (zy w (eE w k)))) c (fun k hk => edge_par hpq (n k hk))
    have b := ring_even G (fun k => nP (Spl p1 p2 q1 q2 (zx w k) (zy w k)))
    rw [sm_add] at a
    have b' : sm (fun k => nP (Spl p1 p2 q1 q2 (zx w k) (zy w k)) + nP (Spl p1 p2 q1 q2 (zx w (eE w k)) (zy w (eE w k)))) c % 2 = 0 := b
    rw [b'] at a
    omega
  by_cases h : p2 ≤ q2
  · exact main h n
  · exact (main (show q2 ≤ p2 by omega) (fun k hk z => n k hk (rmt_sw.mp z))).symm
