/-! THE RELATION between the class's state and the reference's -/
/-- one shape of the reference: kind, radius, many, rings, corners, rings' ends -/
abbrev QV : Type := Int32 × Int64 × Int32 × Int32 × (Nat → Int64) × (Nat → Int64) × (Nat → Int32)
def qK (q : QV) : Int32 := q.1
def qR (q : QV) : Int64 := q.2.1
def qN (q : QV) : Int32 := q.2.2.1
def qG (q : QV) : Int32 := q.2.2.2.1
def qX (q : QV) : Nat → Int64 := q.2.2.2.2.1
def qY (q : QV) : Nat → Int64 := q.2.2.2.2.2.1
def qE (q : QV) : Nat → Int32 := q.2.2.2.2.2.2
def mvS (mv : MV) (i : Nat) : QV := (md_kinds mv i, md_radii mv i, md_many mv i, md_rings mv i, fun k => md_cornerX mv (48 * i + k), fun k => md_cornerY mv (48 * i + k), fun r => md_ends mv (16 * i + r))
/-- corners that follow one another differ -/
def Dif (w : SV) (k j : Nat) : Prop := sX w k ≠ sX w j ∨ sY w k ≠ sY w j
def SameC (w : SV) (q : QV) (c : Nat) : Prop := ∀ k, k < c → qX q k = sX w k ∧ qY q k = sY w k
/-- a circle or a trace -/
def RelL (w : SV) (q : QV) (c : Nat) : Prop := sB w = 0 ∧ qN q = nI c ∧ qG q = 0 ∧ SameC w q c ∧ (∀ k, k < c → sE w k = nI (if k + 1 < c then k + 1 else k)) ∧ ∀ k, k + 1 < c → Dif w k (k + 1)
/-- a polygon: B the rings' bounds -/
def RelP (w : SV) (q : QV) (c o : Nat) : Prop := sB w = 1 ∧ qN q = nI c ∧ SameC w q c ∧ ∃ (g : Nat) (B : Nat → Nat), qG q = nI g ∧ B 0 = 0 ∧ B g = o ∧ (∀ r, r < g → B r + 3 ≤ B (r + 1) ∧ qE q r = nI (B (r + 1))) ∧
  (∀ r k, r < g → B r ≤ k → k < B (r + 1) → sE w k = nI (if k + 1 < B (r + 1) then k + 1 else B r)) ∧ (∀ k, o ≤ k → k < c → sE w k = nI (if k + 1 < c then k + 1 else o)) ∧ ∀ k, o ≤ k → k + 1 < c → Dif w k (k + 1)
/-- the four corners of a rectangle, in their order -/
def rcX (x0 x1 : Int64) (k : Nat) : Int64 := if k % 4 = 1 ∨ k % 4 = 2 then x1 else x0
def rcY (y0 y1 : Int64) (k : Nat) : Int64 := if k % 4 = 2 ∨ k % 4 = 3 then y1 else y0
/-- a box: with an area its four corners stand in one of eight orders (from t on, forward or back) -/
def RelB (w : SV) (q : QV) (c : Nat) : Prop := qN q = 2 ∧ qG q = 0 ∧ Plc (qX q 0) (qY q 0) ∧ Plc (qX q 1) (qY q 1) ∧ (qX q 0).toInt ≤ (qX q 1).toInt ∧ (qY q 0).toInt ≤ (qY q 1).toInt ∧
  ((qX q 0 ≠ qX q 1 ∧ qY q 0 ≠ qY q 1 ∧ sB w = 1 ∧ c = 4 ∧ (∀ k, k < 4 → sE w k = nI (if k + 1 < 4 then k + 1 else 0)) ∧ ∃ t, (∀ k, k < 4 → sX w k = rcX (qX q 0) (qX q 1) (t + k) ∧ sY w k = rcY (qY q 0) (qY q 1) (t + k)) ∨ (∀ k, k < 4 → sX w k = rcX (qX q 0) (qX q 1) (t + 4 - k) ∧ sY w k = rcY (qY q 0) (qY q 1) (t + 4 - k))) ∨
   ((qX q 0 = qX q 1 ∨ qY q 0 = qY q 1) ∧ ¬ (qX q 0 = qX q 1 ∧ qY q 0 = qY q 1) ∧ sB w = 0 ∧ c = 2 ∧ sE w 0 = 1 ∧ sE w 1 = 1 ∧ ((sX w 0 = qX q 0 ∧ sY w 0 = qY q 0 ∧ sX w 1 = qX q 1 ∧ sY w 1 = qY q 1) ∨ (sX w 0 = qX q 1 ∧ sY w 0 = qY q 1 ∧ sX w 1 = qX q 0 ∧ sY w 1 = qY q 0))) ∨
   (qX q 0 = qX q 1 ∧ qY q 0 = qY q 1 ∧ sB w = 0 ∧ c = 1 ∧ sE w 0 = 0 ∧ sX w 0 = qX q 0 ∧ sY w 0 = qY q 0))
def RelS (w : SV) (q : QV) : Prop := ∃ c o : Nat, c ≤ 48 ∧ o ≤ c ∧ sN w = nI c ∧ sO w = nI o ∧ Rad (sR w) ∧ qR q = sR w ∧ qK q = sF w ∧ (∀ k, k < c → Plc (sX w k) (sY w k)) ∧
  ((sF w = 0 ∧ o = 0 ∧ c = 1 ∧ RelL w q c) ∨ (sF w = 1 ∧ o = 0 ∧ RelB w q c) ∨ (sF w = 2 ∧ RelP w q c o) ∨ (sF w = 3 ∧ o = 0 ∧ RelL w q c))
def Rel (v : CV) (mv : MV) : Prop := v.1 ≤ 40 ∧ md_shapes mv = nI v.1 ∧ ∀ i, i < v.1 → RelS (v.2 i) (mvS mv i)
theorem rel_0 : Rel cv0 mv0 := ⟨by decide, by decide, fun i hi => absurd hi (Nat.not_lt_zero i)⟩
theorem rel_thrown {v : CV} {mv : MV} {t : Int32} (h : Rel v mv) : Rel v (ms_thrown mv t) := h
/-- a shape's number: both sides know it or both don't -/
theorem find_or {v : CV} {mv : MV} (h : Rel v mv) (x : Int32) :
    (f_F_find v x = none ∧ g_F_find v x = some "java/lang/IndexOutOfBoundsException" ∧ f_M_isShape mv x = some 0) ∨
    (∃ i, i < v.1 ∧ x = nI i ∧ f_F_find v x = some i ∧ g_F_find v x = none ∧ f_M_isShape mv x = some 1) := by
  obtain ⟨h40, hs, -⟩ := h
  unfold f_F_find g_F_find f_M_isShape f_M_isShape_j16 f_M_isShape_j17
  rw [hs]
  by_cases h1 : x < 0
  · left
    rw [if_pos (Or.inl h1), if_pos (Or.inl h1), if_pos h1]
    exact ⟨rfl, rfl, rb_0⟩
  · by_cases h2 : nI v.1 ≤ x
    · left
      rw [if_pos (Or.inr h2), if_pos (Or.inr h2), if_neg h1, if_pos h2]
      exact ⟨rfl, rfl, rb_0⟩
    · right
      obtain ⟨i, hi, e⟩ := nI_of h1
      have hno : ¬ (x < 0 ∨ nI v.1 ≤ x) := fun z => z.elim h1 h2
      have hlt : i < v.1 := by rw [e, nI_leI (by omega) hi] at h2; omega
      refine ⟨i, hlt, e, ?_, ?_, ?_⟩
      · rw [if_neg hno, e, nI_clamp hi]
      · rw [if_neg hno]
      · rw [if_neg h1, if_neg h2]; exact rb_1
theorem sim_kind : Sim_kind Rel := by
  intro v mv h x
  rcases find_or h x with ⟨e1, e2, e3⟩ | ⟨i, hi, ex, e1, e2, e3⟩
  · refine ⟨(0, ms_thrown mv 1), ?_, Or.inr ⟨?_, rfl, rel_thrown h⟩⟩
    · simp only [f_M_kind, e3, Option.bind_some, f_M_kind_j14, if_true]
      rfl
    · unfold g_F_kind; rw [e2]; rfl
  · obtain ⟨c, o, -, -, -, -, hr, er, ek, -, -⟩ := h.2.2 i hi
    have h40 := h.1
    have ek : md_kinds mv i = sF (v.2 i) := ek
    have er : md_radii mv i = sR (v.2 i) := er
    have l1 : ld 40 (md_kinds (ms_thrown mv 0)) x = some (sF (v.2 i)) := by rw [ex]; show ld 40 (md_kinds mv) (nI i) = _; rw [ld_nI (by omega) (by decide), ek]
    have l2 : ld 40 (md_radii (ms_thrown mv 0)) x = some (sR (v.2 i)) := by rw [ex]; show ld 40 (md_radii mv) (nI i) = _; rw [ld_nI (by omega) (by decide), er]
    have t0 : md_thrown (ms_thrown mv 0) = 0 := rfl
    have n1 : ¬ (1 : Int32) = 0 := by decide
    by_cases c1 : sF (v.2 i) = 2
    · by_cases c2 : lg_cmp (sR (v.2 i)) 0 ≤ 0
      · refine ⟨(sF (v.2 i), ms_thrown mv 0), ?_, Or.inl ⟨sF (v.2 i), ?_, rfl, rfl, rel_thrown h⟩⟩
        · simp only [f_M_kind, e3, Option.bind_some, if_neg n1, f_M_kind_j14, t0, if_true, l1, l2, if_pos c1, if_pos c2, f_M_kind_j51, f_M_kind_j57]
        · simp only [f_F_kind, e1, Option.bind_some, if_pos c1, if_pos c2, f_F_kind_j27, f_F_kind_j31]
      · refine ⟨(4, ms_thrown mv 0), ?_, Or.inl ⟨4, ?_, rfl, rfl, rel_thrown h⟩⟩
        · simp only [f_M_kind, e3, Option.bind_some, if_neg n1, f_M_kind_j14, t0, if_true, l1, l2, if_pos c1, if_neg c2, f_M_kind_j57]
        · simp only [f_F_kind, e1, Option.bind_some, if_pos c1, if_neg c2, f_F_kind_j31]
    · refine ⟨(sF (v.2 i), ms_thrown mv 0), ?_, Or.inl ⟨sF (v.2 i), ?_, rfl, rfl, rel_thrown h⟩⟩
      · simp only [f_M_kind, e3, Option.bind_some, if_neg n1, f_M_kind_j14, t0, if_true, l1, if_neg c1, f_M_kind_j51, f_M_kind_j57]
      · simp only [f_F_kind, e1, Option.bind_some, if_neg c1, f_F_kind_j27, f_F_kind_j31]
