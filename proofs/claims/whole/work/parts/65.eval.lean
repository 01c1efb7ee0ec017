/-! answers and loops -/
noncomputable def bP (P : Prop) : Int32 := @ite _ P (Classical.propDecidable P) 1 0
theorem bP_t {P : Prop} (h : P) : bP P = 1 := by unfold bP; exact if_pos h
theorem bP_f {P : Prop} (h : ¬ P) : bP P = 0 := by unfold bP; exact if_neg h
theorem bP_c {P Q : Prop} (h : P ↔ Q) : bP P = bP Q := by rw [propext h]
theorem one_n0 : ¬ (1 : Int32) = 0 := by decide
theorem bP_z {P : Prop} : bP P = 0 ↔ ¬ P := by
  by_cases h : P
  · rw [bP_t h]; exact ⟨fun z => absurd z one_n0, fun z => absurd h z⟩
  · rw [bP_f h]; exact ⟨fun _ => h, fun _ => rfl⟩
theorem bP_rb (P : Prop) : rb (bP P) = some (bP P) := by
  by_cases h : P
  · rw [bP_t h]; exact rb_1
  · rw [bP_f h]; exact rb_0
theorem lp_ex {α : Type} {L : Nat → Int32 → Option α} {lo c : Nat} {P : Nat → Prop} {yes no : Option α} (hend : ∀ n, L (n + 1) (nI c) = no)
    (hst : ∀ n k, lo ≤ k → k < c → (P k ∧ L (n + 1) (nI k) = yes) ∨ (¬ P k ∧ L (n + 1) (nI k) = L n (nI (k + 1)))) :
    ∀ n k, lo ≤ k → k ≤ c → c < k + n → ((∃ j, k ≤ j ∧ j < c ∧ P j) ∧ L n (nI k) = yes) ∨ ((¬ ∃ j, k ≤ j ∧ j < c ∧ P j) ∧ L n (nI k) = no) := by
  intro n
  induction n with
  | zero => intro k h0 h1 h2; omega
  | succ n ih =>
    intro k h0 h1 h2
    by_cases z : k = c
    · subst z; exact Or.inr ⟨fun ⟨j, a, b, _⟩ => by omega, hend n⟩
    · rcases hst n k h0 (by omega) with ⟨p, e⟩ | ⟨p, e⟩
      · exact Or.inl ⟨⟨k, by omega, by omega, p⟩, e⟩
      · rcases ih (k + 1) (by omega) (by omega) (by omega) with ⟨⟨j, a, b, q⟩, e'⟩ | ⟨q, e'⟩
        · exact Or.inl ⟨⟨j, by omega, b, q⟩, e.trans e'⟩
        · refine Or.inr ⟨fun ⟨j, a, b, r⟩ => ?_, e.trans e'⟩
          by_cases y : j = k
          · subst y; exact p r
          · exact q ⟨j, by omega, b, r⟩
/-- the same, with 1 and 0 for answers -/
theorem lp_b {L : Nat → Int32 → Option Int32} {lo c : Nat} {P : Nat → Prop} (hend : ∀ n, L (n + 1) (nI c) = some 0)
    (hst : ∀ n k, lo ≤ k → k < c → (P k ∧ L (n + 1) (nI k) = some 1) ∨ (¬ P k ∧ L (n + 1) (nI k) = L n (nI (k + 1)))) {n k : Nat} (h1 : lo ≤ k) (h2 : k ≤ c) (h3 : c < k + n) : L n (nI k) = some (bP (∃ j, k ≤ j ∧ j < c ∧ P j)) := by
  rcases lp_ex hend hst n k h1 h2 h3 with ⟨p, e⟩ | ⟨p, e⟩
  · rw [e, bP_t p]
  · rw [e, bP_f p]
/-- all of them -/
theorem lp_al {α : Type} {L : Nat → Int32 → Int32 → Option α} {lo c : Nat} {P : Nat → Prop} {K : Int32 → Option α} (hend : ∀ n F, L (n + 1) (bP F) (nI c) = K (bP F))
    (hst : ∀ n F k, lo ≤ k → k < c → L (n + 1) (bP F) (nI k) = L n (bP (F ∧ P k)) (nI (k + 1))) :
    ∀ n k F, lo ≤ k → k ≤ c → c < k + n → L n (bP F) (nI k) = K (bP (F ∧ ∀ j, k ≤ j → j < c → P j)) := by
  intro n
  induction n with
  | zero => intro k F h0 h1 h2; omega
  | succ n ih =>
    intro k F h0 h1 h2
    by_cases z : k = c
    · subst z; rw [hend]; exact congrArg K (bP_c ⟨fun h => ⟨h, fun j a b => by omega⟩, fun h => h.1⟩)
    · rw [hst n F k h0 (by omega), ih (k + 1) _ (by omega) (by omega) (by omega)]
      refine congrArg K (bP_c ⟨fun h => ⟨h.1.1, fun j a b => ?_⟩, fun h => ⟨⟨h.1, h.2 k (by omega) (by omega)⟩, fun j a b => h.2 j (by omega) b⟩⟩)
      by_cases y : j = k
      · subst y; exact h.1.2
      · exact h.2 j (by omega) b
/-- any of them, all asked -/
theorem lp_or {α : Type} {L : Nat → Int32 → Int32 → Option α} {lo c : Nat} {P : Nat → Prop} {K : Int32 → Option α} (hend : ∀ n F, L (n + 1) (bP F) (nI c) = K (bP F))
    (hst : ∀ n F k, lo ≤ k → k < c → L (n + 1) (bP F) (nI k) = L n (bP (F ∨ P k)) (nI (k + 1))) :
    ∀ n k F, lo ≤ k → k ≤ c → c < k + n → L n (bP F) (nI k) = K (bP (F ∨ ∃ j, k ≤ j ∧ j < c ∧ P j)) := by
  intro n
  induction n with
  | zero => intro k F h0 h1 h2; omega
  | succ n ih =>
    intro k F h0 h1 h2
    by_cases z : k = c
    · subst z; rw [hend]; exact congrArg K (bP_c ⟨fun h => Or.inl h, fun h => h.elim id (fun ⟨j, a, b, _⟩ => by omega)⟩)
    · rw [hst n F k h0 (by omega), ih (k + 1) _ (by omega) (by omega) (by omega)]
      refine congrArg K (bP_c ⟨?_, ?_⟩)
      · rintro ((h | h) | ⟨j, a, b, h⟩)
        · exact Or.inl h
        · exact Or.inr ⟨k, by omega, by omega, h⟩
        · exact Or.inr ⟨j, by omega, b, h⟩
      · rintro (h | ⟨j, a, b, h⟩)
        · exact Or.inl (Or.inl h)
        · by_cases y : j = k
          · subst y; exact Or.inl (Or.inr h)
          · exact Or.inr ⟨j, by omega, b, h⟩
theorem nI_hle {a b : Nat} (ha : a < 2 ^ 31) (hb : b < 2 ^ 31) : (nI a ≤ nI b) ↔ a ≤ b := nI_leI ha hb
/-! the reference's answers about places -/
theorem plc_h {x y : Int64} (h : Plc x y) : Hlf x ∧ Hlf y := ⟨⟨h.1, h.2.1⟩, ⟨h.2.2.1, h.2.2.2⟩⟩
theorem turn_ev {px py qx qy rx ry : Int64} (hp : Plc px py) (hq : Plc qx qy) (hr : Plc rx ry) : f_M_turnOf px py qx qy rx ry = some (cmpZ (crs px.toInt py.toInt qx.toInt qy.toInt rx.toInt ry.toInt) 0) := by
  obtain ⟨p1, p2⟩ := plc_h hp
  obtain ⟨q1, q2⟩ := plc_h hq
  obtain ⟨r1, r2⟩ := plc_h hr
  obtain ⟨a1, a2⟩ := d_sub q1 p1
  obtain ⟨b1, b2⟩ := d_sub q2 p2
  obtain ⟨c1, c2⟩ := d_sub r1 p1
  obtain ⟨d1, d2⟩ := d_sub r2 p2
  obtain ⟨e, -⟩ := d_sub2 a2 d2 b2 c2
  unfold f_M_turnOf f_M_cross
  rw [Option.bind_some, msign, Option.bind_some, e, a1, b1, c1, d1]
  rfl
theorem cmp_0 {z : Int} : cmpZ z 0 = 0 ↔ z = 0 := by
  unfold cmpZ
  by_cases h : z < 0
  · rw [if_pos h]; exact ⟨fun a => absurd a (by decide), fun a => by omega⟩
  · rw [if_neg h]
    by_cases h2 : z = 0
    · rw [if_pos h2]; exact ⟨fun _ => h2, fun _ => rfl⟩
    · rw [if_neg h2]; exact ⟨fun a => absurd a (by decide), fun a => absurd a h2⟩
theorem cmp_opp {a b : Int} : (0 ≤ cmpZ a 0 * cmpZ b 0) ↔ ¬ opp a b := by
  unfold opp cmpZ
  by_cases h : a < 0
  · rw [if_pos h]
    by_cases h2 : b < 0
    · rw [if_pos h2]; exact ⟨fun _ => by omega, fun _ => by decide⟩
    · rw [if_neg h2]
      by_cases h3 : b = 0
      · rw [if_pos h3]; exact ⟨fun _ => by omega, fun _ => by decide⟩
      · rw [if_neg h3]; exact ⟨fun z => absurd z (by decide), fun z => by omega⟩
  · rw [if_neg h]
    by_cases h1 : a = 0
    · rw [if_pos h1]
      refine ⟨fun _ => by omega, fun _ => ?_⟩
      rw [Int32.zero_mul]; decide
    · rw [if_neg h1]
      by_cases h2 : b < 0
      · rw [if_pos h2]; exact ⟨fun z => absurd z (by decide), fun z => by omega⟩
      · rw [if_neg h2]
        by_cases h3 : b = 0
        · rw [if_pos h3]; exact ⟨fun _ => by omega, fun _ => by decide⟩
        · rw [if_neg h3]; exact ⟨fun _ => by omega, fun _ => by decide⟩
theorem btw_ev (v a b : Int64) : f_M_between v a b = some (bP (btw v.toInt a.toInt b.toInt)) := by
  have j13 : f_M_between_j13 v a b = some (bP (b.toInt ≤ v.toInt ∧ v.toInt ≤ a.toInt)) := by
    unfold f_M_between_j13 f_M_between_j26 f_M_between_j30 f_M_between_j31
    simp only [lgc_lt, lgc_gt]
    by_cases h : v.toInt < b.toInt
    · rw [if_pos h, bP_f (by omega)]; exact rb_0
    · rw [if_neg h]
      by_cases h2 : a.toInt < v.toInt
      · rw [if_pos h2, bP_f (by omega)]; exact rb_0
      · rw [if_neg h2, bP_t (by omega)]; exact rb_1
  unfold f_M_between
  rw [j13]
  unfold f_M_between_j26 f_M_between_j31 btw
  simp only [lgc_lt, lgc_le]
  by_cases h : v.toInt < a.toInt
  · rw [if_pos h]; exact congrArg some (bP_c (by omega))
  · rw [if_neg h]
    by_cases h2 : v.toInt ≤ b.toInt
    · rw [if_pos h2, bP_t (by omega)]; exact rb_1
    · rw [if_neg h2]; exact congrArg some (bP_c (by omega))
theorem ison_ev {x y px py qx qy : Int64} (h : Plc x y) (hp : Plc px py) (hq : Plc qx qy) : f_M_isOn x y px py qx qy = some (bP (onp px.toInt py.toInt qx.toInt qy.toInt x.toInt y.toInt)) := by
  unfold f_M_isOn f_M_isOn_j42 f_M_isOn_j43
  rw [btw_ev, Option.bind_some, btw_ev, Option.bind_some, turn_ev hp hq h, Option.bind_some]
  unfold onp
  by_cases h1 : btw x.toInt px.toInt qx.toInt
  · rw [if_neg (fun z => bP_z.mp z h1)]
    by_cases h2 : btw y.toInt py.toInt qy.toInt
    · rw [if_neg (fun z => bP_z.mp z h2)]
      by_cases h3 : crs px.toInt py.toInt qx.toInt qy.toInt x.toInt y.toInt = 0
      · rw [if_pos (cmp_0.mpr h3), bP_t ⟨h1, h2, h3⟩]; exact rb_1
      · rw [if_neg (fun z => h3 (cmp_0.mp z)), bP_f (fun z => h3 z.2.2)]; exact rb_0
    · rw [if_pos (bP_f h2), bP_f (fun z => h2 z.2.1)]; exact rb_0
  · rw [if_pos (bP_f h1), bP_f (fun z => h1 z.1)]; exact rb_0
theorem meet_ev {px py qx qy rx ry sx sy : Int64} (hp : Plc px py) (hq : Plc qx qy) (hr : Plc rx ry) (hs : Plc sx sy) : f_M_meet px py qx qy rx ry sx sy = some (bP (rmt px.toInt py.toInt qx.toInt qy.toInt rx.toInt ry.toInt sx.toInt sy.toInt)) := by
  have j66 : f_M_meet_j66 px py qx qy rx ry sx sy = some 1 := by
    unfold f_M_meet_j66 f_M_meet_j71 f_M_meet_j108 f_M_meet_j152 f_M_meet_j157
    rw [turn_ev hp hq hr, Option.bind_some, turn_ev hp hq hs, Option.bind_some, if_neg one_n0, if_neg one_n0, rb_1]
    split <;> rfl
  unfold f_M_meet
  rw [j66, ison_ev hp hr hs, ison_ev hq hr hs, ison_ev hr hp hq, ison_ev hs hp hq]
  simp only [Option.bind_some]
  unfold rmt
  by_cases h1 : onp rx.toInt ry.toInt sx.toInt sy.toInt px.toInt py.toInt
  · rw [if_neg (fun z => bP_z.mp z h1), bP_t (Or.inl h1)]
  rw [if_pos (bP_f h1)]
  by_cases h2 : onp rx.toInt ry.toInt sx.toInt sy.toInt qx.toInt qy.toInt
  · rw [if_neg (fun z => bP_z.mp z h2), bP_t (Or.inr (Or.inl h2))]
  rw [if_pos (bP_f h2)]
  by_cases h3 : onp px.toInt py.toInt qx.toInt qy.toInt rx.toInt ry.toInt
  · rw [if_neg (fun z => bP_z.mp z h3), bP_t (Or.inr (Or.inr (Or.inl h3)))]
  rw [if_pos (bP_f h3)]
  by_cases h4 : onp px.toInt py.toInt qx.toInt qy.toInt sx.toInt sy.toInt
  · rw [if_neg (fun z => bP_z.mp z h4), bP_t (Or.inr (Or.inr (Or.inr (Or.inl h4))))]
  rw [if_pos (bP_f h4)]
  unfold f_M_meet_j71 f_M_meet_j108 f_M_meet_j156 f_M_meet_j152 f_M_meet_j157
  rw [turn_ev hp hq hr, turn_ev hp hq hs, turn_ev hr hs hp, turn_ev hr hs hq]
  simp only [Option.bind_some, if_true, if_neg one_n0]
  by_cases h5 : opp (crs px.toInt py.toInt qx.toInt qy.toInt rx.toInt ry.toInt) (crs px.toInt py.toInt qx.toInt qy.toInt sx.toInt sy.toInt)
  · rw [if_neg (fun z => cmp_opp.mp z h5)]
    by_cases h6 : opp (crs rx.toInt ry.toInt sx.toInt sy.toInt px.toInt py.toInt) (crs rx.toInt ry.toInt sx.toInt sy.toInt qx.toInt qy.toInt)
    · rw [if_neg (fun z => cmp_opp.mp z h6), bP_t (Or.inr (Or.inr (Or.inr (Or.inr ⟨h5, h6⟩))))]; exact rb_1
    · rw [if_pos (cmp_opp.mpr h6), bP_f]
      · exact rb_0
      · rintro (z | z | z | z | z)
        · exact h1 z
        · exact h2 z
        · exact h3 z
        · exact h4 z
        · exact h6 z.2
  · rw [if_pos (cmp_opp.mpr h5), bP_f]
    · exact rb_0
    · rintro (z | z | z | z | z)
      · exact h1 z
      · exact h2 z
      · exact h3 z
      · exact h4 z
      · exact h5 z.1
/-! the class's -/
theorem j_min (x y : Int64) : (if y < x then y else x).toInt = min x.toInt y.toInt := by
  by_cases h : y < x
  · rw [if_pos h]; rw [Int64.lt_iff_toInt_lt] at h; omega
  · rw [if_neg h]; rw [Int64.lt_iff_toInt_lt] at h; omega
theorem j_max (x y : Int64) : (if y < x then x else y).toInt = max x.toInt y.toInt := by
  by_cases h : y < x
  · rw [if_pos h]; rw [Int64.lt_iff_toInt_lt] at h; omega
  · rw [if_neg h]; rw [Int64.lt_iff_toInt_lt] at h; omega
theorem spans_ev (a b c d : Int64) : f_P_spansMeet a b c d = some (bP (spn a.toInt b.toInt c.toInt d.toInt)) := by
  unfold f_P_spansMeet f_P_spansMeet_j39
  simp only [Option.bind_some, lgc_gt, j_min, j_max]
  generalize a.toInt = a
  generalize b.toInt = b
  generalize c.toInt = c
  generalize d.toInt = d
  by_cases h : min (max a b) (max c d) < max (min a b) (min c d)
  · rw [if_pos h, bP_f]
    · exact rb_0
    · rintro ⟨h1, h2⟩
      omega
  · rw [if_neg h, bP_t]
    · exact rb_1
    · exact ⟨by omega, by omega⟩
