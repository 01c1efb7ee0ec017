/-! whole shapes; boxOf -/
theorem closed_c {mv : MV} {i : Nat} (t : Int32) : f_M_closed (ms_thrown mv t) (nI i) = f_M_closed mv (nI i) := rfl
def Whl (w : SV) (c o : Nat) : Prop := 0 < c ∧ (sF w = 2 → o = c)
theorem bounds_le {B : Nat → Nat} {g : Nat} (h : ∀ r, r < g → B r + 3 ≤ B (r + 1)) : ∀ d r, r + d ≤ g → B r ≤ B (r + d) := by
  intro d
  induction d with
  | zero => intro r _; exact Nat.le_refl _
  | succ d ih => intro r hr; have h1 := ih r (by omega); have h2 := h (r + d) (by omega); have e : r + (d + 1) = r + d + 1 := by omega
                 rw [e]; omega
/-- a whole shape, on both sides, or none -/
theorem whole_or {v : CV} {mv : MV} {i : Nat} (h : Rel v mv) (hi : i < v.1) : ∃ c o : Nat, c ≤ 48 ∧ o ≤ c ∧ sN (v.2 i) = nI c ∧ sO (v.2 i) = nI o ∧ (∀ k, k < c → Plc (sX (v.2 i) k) (sY (v.2 i) k)) ∧
    ((sF (v.2 i) = 0 ∧ o = 0 ∧ c = 1 ∧ RelL (v.2 i) (mvS mv i) c) ∨ (sF (v.2 i) = 1 ∧ o = 0 ∧ RelB (v.2 i) (mvS mv i) c) ∨ (sF (v.2 i) = 2 ∧ RelP (v.2 i) (mvS mv i) c o) ∨ (sF (v.2 i) = 3 ∧ o = 0 ∧ RelL (v.2 i) (mvS mv i) c)) ∧
    ((Whl (v.2 i) c o ∧ f_F_needWhole (v.2 i) = some () ∧ g_F_needWhole (v.2 i) = none ∧ f_M_isWhole mv (nI i) = some 1) ∨
     (f_F_needWhole (v.2 i) = none ∧ g_F_needWhole (v.2 i) = some "java/lang/IllegalStateException" ∧ f_M_isWhole mv (nI i) = some 0)) := by
  have h40 : i < 40 := by have := h.1; omega
  have n1 : ¬ (1 : Int32) = 0 := by decide
  obtain ⟨lk, -, -, -⟩ := kind_ld h hi
  obtain ⟨c, o, hc, ho, e1, e2, hr, e3, e4, hp, hh⟩ := h.2.2 i hi
  refine ⟨c, o, hc, ho, e1, e2, hp, hh, ?_⟩
  have yes : f_S_isWhole (v.2 i) = some 1 → f_F_needWhole (v.2 i) = some () ∧ g_F_needWhole (v.2 i) = none := fun e => by
    constructor
    · simp only [f_F_needWhole, e, Option.bind_some, if_neg n1]
    · simp only [g_F_needWhole, e, Option.bind_some, if_neg n1]
  have no : f_S_isWhole (v.2 i) = some 0 → f_F_needWhole (v.2 i) = none ∧ g_F_needWhole (v.2 i) = some "java/lang/IllegalStateException" := fun e => by
    constructor
    · simp only [f_F_needWhole, e, Option.bind_some, if_true]
    · simp only [g_F_needWhole, e, Option.bind_some, if_true]
  have c0 : (nI c ≤ 0) ↔ c = 0 := by rw [show (0 : Int32) = nI 0 from rfl, nI_leI (by omega) (by decide)]; omega
  have lm : qN (mvS mv i) = nI c → ld 40 (md_many mv) (nI i) = some (nI c) := fun e => by rw [ld_nI h40 (by decide)]; exact congrArg some e
  rcases hh with ⟨f, f2, f3, r⟩ | ⟨f, f2, r⟩ | ⟨f, r⟩ | ⟨f, f2, r⟩
  · left
    have hS : f_S_isWhole (v.2 i) = some 1 := by
      simp only [f_S_isWhole, e1, c0, show ¬ (c = 0) by omega, if_false, f_S_hasOpenRing, f, show ¬ (0 : Int32) = 2 by decide, f_S_hasOpenRing_j23, f_S_hasOpenRing_j24, rb_0, Option.bind_some, if_true, f_S_isWhole_j19, rb_1]
    refine ⟨⟨by omega, fun z => absurd z (by rw [f]; decide)⟩, (yes hS).1, (yes hS).2, ?_⟩
    simp only [f_M_isWhole, lk, f, Option.bind_some, show ¬ (0 : Int32) = 2 by decide, show ¬ (0 : Int32) = 3 by decide, if_false, f_M_isWhole_j58, f_M_isWhole_j63, rb_1]
  · left
    have hcp : 0 < c := by
      rcases r.2.2.2.2.2.2 with ⟨-, -, -, z, -⟩ | ⟨-, -, -, z, -⟩ | ⟨-, -, -, z, -⟩ <;> omega
    have hS : f_S_isWhole (v.2 i) = some 1 := by
      simp only [f_S_isWhole, e1, c0, show ¬ (c = 0) by omega, if_false, f_S_hasOpenRing, f, show ¬ (1 : Int32) = 2 by decide, f_S_hasOpenRing_j23, f_S_hasOpenRing_j24, rb_0, Option.bind_some, if_true, f_S_isWhole_j19, rb_1]
    refine ⟨⟨by omega, fun z => absurd z (by rw [f]; decide)⟩, (yes hS).1, (yes hS).2, ?_⟩
    simp only [f_M_isWhole, lk, f, Option.bind_some, show ¬ (1 : Int32) = 2 by decide, show ¬ (1 : Int32) = 3 by decide, if_false, f_M_isWhole_j58, f_M_isWhole_j63, rb_1]
  · obtain ⟨-, -, -, -, -, -, -, -, hcl, -⟩ := polytrace h hi (Or.inl f)
    have hcl : ∃ o', o' = o ∧ f_M_closed mv (nI i) = some (nI o') := by
      obtain ⟨b1, b2, b3, g, B, g1, g2, g3, g4, -⟩ := r
      have hg : 3 * g ≤ B g := ring_many g2 (fun r hr => (g4 r hr).1) g (Nat.le_refl g)
      rcases Nat.eq_zero_or_pos g with z | z
      · subst z
        have : o = 0 := by rw [← g3]; exact g2
        exact ⟨o, rfl, by rw [this]; exact closed_0 (t := md_thrown mv) h40 g1⟩
      · have h5 := (g4 (g - 1) (by omega)).2
        rw [show g - 1 + 1 = g by omega, g3] at h5
        exact ⟨o, rfl, closed_g (t := md_thrown mv) h40 (by omega) z g1 h5⟩
    obtain ⟨o', eo, hcl⟩ := hcl
    subst eo
    have lmm := lm r.2.1
    obtain ⟨b1, b2, b3, g, B, g1, g2, g3, g4, -⟩ := r
    have hg : 3 * g ≤ B g := ring_many g2 (fun r hr => (g4 r hr).1) g (Nat.le_refl g)
    have lg : ld 40 (md_rings mv) (nI i) = some (nI g) := by rw [ld_nI h40 (by decide)]; exact congrArg some g1
    have g0 : (nI g ≤ 0) ↔ g = 0 := by rw [show (0 : Int32) = nI 0 from rfl, nI_leI (by omega) (by decide)]; omega
    by_cases hw : 0 < c ∧ o' = c
    · left
      have hgp : ¬ g = 0 := fun z => by rw [z] at g3; omega
      have hle : nI c ≤ nI o' := by rw [nI_leI (by omega) (by omega)]; omega
      have hS : f_S_isWhole (v.2 i) = some 1 := by
        simp only [f_S_isWhole, e1, e2, c0, show ¬ (c = 0) by omega, if_false, f_S_hasOpenRing, f, if_true, if_pos hle, f_S_hasOpenRing_j23, f_S_hasOpenRing_j24, rb_0, Option.bind_some, f_S_isWhole_j19, rb_1]
      refine ⟨⟨by omega, fun _ => hw.2⟩, (yes hS).1, (yes hS).2, ?_⟩
      simp only [f_M_isWhole, lk, f, Option.bind_some, if_true, lg, g0, if_neg hgp, hcl, lmm, show nI o' = nI c by rw [hw.2], f_M_isWhole_j38, rb_1]
    · right
      have hS : f_S_isWhole (v.2 i) = some 0 := by
        by_cases z : c = 0
        · simp only [f_S_isWhole, e1, c0, if_pos z, f_S_isWhole_j18, f_S_isWhole_j19, rb_0]
        · have hle : ¬ nI c ≤ nI o' := by rw [nI_leI (by omega) (by omega)]; omega
          simp only [f_S_isWhole, e1, e2, c0, if_neg z, f_S_hasOpenRing, f, if_true, if_neg hle, f_S_hasOpenRing_j24, rb_1, Option.bind_some, if_neg n1, f_S_isWhole_j18, f_S_isWhole_j19, rb_0]
      refine ⟨(no hS).1, (no hS).2, ?_⟩
      by_cases z : g = 0
      · simp only [f_M_isWhole, lk, f, Option.bind_some, if_true, lg, g0, if_pos z, f_M_isWhole_j37, f_M_isWhole_j38, rb_0]
      · have hne : ¬ nI o' = nI c := fun q => by rw [nI_eq (by omega) (by omega)] at q; have := hg; omega
        simp only [f_M_isWhole, lk, f, Option.bind_some, if_true, lg, g0, if_neg z, hcl, lmm, if_neg hne, f_M_isWhole_j37, f_M_isWhole_j38, rb_0]
  · have lmm := lm r.2.1
    by_cases z : c = 0
    · right
      have hS : f_S_isWhole (v.2 i) = some 0 := by simp only [f_S_isWhole, e1, c0, if_pos z, f_S_isWhole_j18, f_S_isWhole_j19, rb_0]
      refine ⟨(no hS).1, (no hS).2, ?_⟩
      simp only [f_M_isWhole, lk, f, Option.bind_some, show ¬ (3 : Int32) = 2 by decide, if_false, if_true, lmm, c0, if_pos z, f_M_isWhole_j63, rb_0]
    · left
      have hS : f_S_isWhole (v.2 i) = some 1 := by
        simp only [f_S_isWhole, e1, c0, if_neg z, f_S_hasOpenRing, f, show ¬ (3 : Int32) = 2 by decide, if_false, f_S_hasOpenRing_j23, f_S_hasOpenRing_j24, rb_0, Option.bind_some, if_true, f_S_isWhole_j19, rb_1]
      refine ⟨⟨by omega, fun z => absurd z (by rw [f]; decide)⟩, (yes hS).1, (yes hS).2, ?_⟩
      simp only [f_M_isWhole, lk, f, Option.bind_some, show ¬ (3 : Int32) = 2 by decide, if_false, if_true, lmm, c0, if_neg z, f_M_isWhole_j58, f_M_isWhole_j63, rb_1]
/-- the least and the greatest of a row -/
def Lst (f : Nat → Int64) (c : Nat) (m : Int64) : Prop := (∃ k, k < c ∧ f k = m) ∧ ∀ k, k < c → m.toInt ≤ (f k).toInt
def Gst (f : Nat → Int64) (c : Nat) (m : Int64) : Prop := (∃ k, k < c ∧ f k = m) ∧ ∀ k, k < c → (f k).toInt ≤ m.toInt
theorem lst_one {f : Nat → Int64} {c : Nat} {m m' : Int64} (h : Lst f c m) (h' : Lst f c m') : m = m' := by
  obtain ⟨⟨k, hk, e⟩, h⟩ := h
  obtain ⟨⟨k', hk', e'⟩, h'⟩ := h'
  have a := h k' hk'
  have b := h' k hk
  rw [e'] at a; rw [e] at b
  exact Int64.toInt_inj.mp (by omega)
theorem gst_one {f : Nat → Int64} {c : Nat} {m m' : Int64} (h : Gst f c m) (h' : Gst f c m') : m = m' := by
  obtain ⟨⟨k, hk, e⟩, h⟩ := h
  obtain ⟨⟨k', hk', e'⟩, h'⟩ := h'
  have a := h k' hk'
  have b := h' k hk
  rw [e'] at a; rw [e] at b
  exact Int64.toInt_inj.mp (by omega)
theorem lst_next {f : Nat → Int64} {k : Nat} {m : Int64} (h : Lst f k m) : Lst f (k + 1) (if f k < m then f k else m) := by
  obtain ⟨⟨j, hj, e⟩, h⟩ := h
  by_cases g : f k < m
  · rw [if_pos g]
    rw [Int64.lt_iff_toInt_lt] at g
    refine ⟨⟨k, by omega, rfl⟩, fun i hi => ?_⟩
    by_cases z : i = k
    · rw [z]; exact Int.le_refl _
    · have := h i (by omega); omega
  · rw [if_neg g]
    rw [Int64.lt_iff_toInt_lt] at g
    refine ⟨⟨j, by omega, e⟩, fun i hi => ?_⟩
    by_cases z : i = k
    · rw [z]; omega
    · exact h i (by omega)
theorem gst_next {f : Nat → Int64} {k : Nat} {m : Int64} (h : Gst f k m) : Gst f (k + 1) (if f k < m then m else f k) := by
  obtain ⟨⟨j, hj, e⟩, h⟩ := h
  by_cases g : f k < m
  · rw [if_pos g]
    rw [Int64.lt_iff_toInt_lt] at g
    refine ⟨⟨j, by omega, e⟩, fun i hi => ?_⟩
    by_cases z : i = k
    · rw [z]; omega
    · exact h i (by omega)
  · rw [if_neg g]
    rw [Int64.lt_iff_toInt_lt] at g
    refine ⟨⟨k, by omega, rfl⟩, fun i hi => ?_⟩
    by_cases z : i = k
    · rw [z]; exact Int.le_refl _
    · have := h i (by omega); omega
theorem lst_0 {f : Nat → Int64} : Lst f 1 (f 0) := ⟨⟨0, by decide, rfl⟩, fun k hk => by rw [show k = 0 by omega]; exact Int.le_refl _⟩
theorem gst_0 {f : Nat → Int64} : Gst f 1 (f 0) := ⟨⟨0, by decide, rfl⟩, fun k hk => by rw [show k = 0 by omega]; exact Int.le_refl _⟩
theorem outer_l {w : SV} {c : Nat} {f : Nat → Int64} {s : Int32} (hc : c ≤ 48) (e : sN w = nI c) : ∀ n k lo hi, c < k + n → k ≤ c → Lst f k lo → Gst f k hi → ∃ lo' hi', Lst f c lo' ∧ Gst f c hi' ∧ f_S_outermost_l30 w n s f lo hi (nI k) = some (if (2 : Int32) ≤ s then hi' + sR w else lo' - sR w) := by
  intro n
  induction n with
  | zero => intro k lo hi h1 h2; omega
  | succ n ih =>
    intro k lo hi h1 h2 h3 h4
    by_cases z : k = c
    · subst z
      refine ⟨lo, hi, h3, h4, ?_⟩
      have hle : nI k ≤ nI k := by rw [nI_leI (by omega) (by omega)]; omega
      by_cases g : (2 : Int32) ≤ s
      · simp only [f_S_outermost_l30, e, if_pos hle, if_pos g, f_S_outermost_j86]
      · simp only [f_S_outermost_l30, e, if_pos hle, if_neg g, f_S_outermost_j86]
    · have hle : ¬ nI c ≤ nI k := by rw [nI_leI (by omega) (by omega)]; omega
      have l : ld 48 f (nI k) = some (f k) := ld_nI (by omega) (by decide)
      obtain ⟨lo', hi', g1, g2, g3⟩ := ih (k + 1) _ _ (by omega) (by omega) (lst_next h3) (gst_next h4)
      refine ⟨lo', hi', g1, g2, ?_⟩
      simp only [f_S_outermost_l30, e, if_neg hle, l, Option.bind_some, nI_1]
      exact g3
theorem mx_ev {mv : MV} {i k : Nat} (hi : i < 40) (hk : k < 48) : f_M_x mv (nI i) (nI k) = some (qX (mvS mv i) k) ∧ f_M_y mv (nI i) (nI k) = some (qY (mvS mv i) k) := by
  have e : (48 : Int32) * nI i + nI k = nI (48 * i + k) := by rw [show (48 : Int32) = nI 48 from rfl, pk_mul, nI_add]
  have l1 : ld 1920 (md_cornerX mv) (nI (48 * i + k)) = some (md_cornerX mv (48 * i + k)) := ld_nI (by omega) (by decide)
  have l2 : ld 1920 (md_cornerY mv) (nI (48 * i + k)) = some (md_cornerY mv (48 * i + k)) := ld_nI (by omega) (by decide)
  constructor
  · simp only [f_M_x, e, l1, Option.bind_some]; rfl
  · simp only [f_M_y, e, l2, Option.bind_some]; rfl
theorem mbox_l {mv : MV} {i c : Nat} {f : Nat → Int64} {s p3 : Int32} (hi : i < 40) (hc : c ≤ 48) (e : qN (mvS mv i) = nI c) (hf : (p3 = 0 ∧ f = qY (mvS mv i)) ∨ (¬ p3 = 0 ∧ f = qX (mvS mv i))) : ∀ n k b, c < k + n → k ≤ c → (if (2 : Int32) ≤ s then Gst f k b else Lst f k b) → ∃ b', (if (2 : Int32) ≤ s then Gst f c b' else Lst f c b') ∧ f_M_boxOf_l83 n mv (nI i) s p3 b (nI k) = some (if (2 : Int32) ≤ s then b' + qR (mvS mv i) else b' - qR (mvS mv i), mv) := by
  have lm : ld 40 (md_many mv) (nI i) = some (nI c) := by rw [ld_nI hi (by decide)]; exact congrArg some e
  have lr : ld 40 (md_radii mv) (nI i) = some (qR (mvS mv i)) := by rw [ld_nI hi (by decide)]; rfl
  intro n
  induction n with
  | zero => intro k b h1 h2; omega
  | succ n ih =>
    intro k b h1 h2 h3
    by_cases z : k = c
    · subst z
      refine ⟨b, h3, ?_⟩
      have hle : nI k ≤ nI k := by rw [nI_leI (by omega) (by omega)]; omega
      by_cases g : (2 : Int32) ≤ s
      · simp only [f_M_boxOf_l83, lm, lr, Option.bind_some, if_pos hle, if_pos g, f_M_boxOf_j199]
      · simp only [f_M_boxOf_l83, lm, lr, Option.bind_some, if_pos hle, if_neg g, f_M_boxOf_j199]
    · have hle : ¬ nI c ≤ nI k := by rw [nI_leI (by omega) (by omega)]; omega
      have step : f_M_boxOf_l83 (n + 1) mv (nI i) s p3 b (nI k) = f_M_boxOf_j115 (f_M_boxOf_l83 n) mv (nI i) s p3 b (nI k) (f k) := by
        rcases hf with ⟨q, ef⟩ | ⟨q, ef⟩
        · simp only [f_M_boxOf_l83, lm, Option.bind_some, if_neg hle, if_pos q, (mx_ev hi (show k < 48 by omega)).2, ef]
        · simp only [f_M_boxOf_l83, lm, Option.bind_some, if_neg hle, if_neg q, (mx_ev hi (show k < 48 by omega)).1, ef]
      rw [step]
      by_cases g : (2 : Int32) ≤ s
      · rw [if_pos g] at h3
        have h4 := gst_next h3
        obtain ⟨b', g1, g2⟩ := ih (k + 1) (if f k < b then b else f k) (by omega) (by omega) (by rw [if_pos g]; exact h4)
        refine ⟨b', g1, ?_⟩
        rw [← g2]
        by_cases q : lg_cmp (f k) b ≤ 0
        · have q' := (lgc_le _ _).mp q
          simp only [f_M_boxOf_j115, if_pos g, if_pos q, f_M_boxOf_j151, if_true, f_M_boxOf_j165, nI_1]
          by_cases q2 : f k < b
          · rw [if_pos q2]
          · rw [if_neg q2]; rw [Int64.lt_iff_toInt_lt] at q2
            rw [show b = f k from Int64.toInt_inj.mp (by omega)]
        · have q' : ¬ f k < b := fun u => q ((lgc_le _ _).mpr (by rw [Int64.lt_iff_toInt_lt] at u; omega))
          simp only [f_M_boxOf_j115, if_pos g, if_neg q, f_M_boxOf_j151, show ¬ (1 : Int32) = 0 by decide, if_false, f_M_boxOf_j165, nI_1, if_neg q']
      · rw [if_neg g] at h3
        have h4 := lst_next h3
        obtain ⟨b', g1, g2⟩ := ih (k + 1) (if f k < b then f k else b) (by omega) (by omega) (by rw [if_neg g]; exact h4)
        refine ⟨b', g1, ?_⟩
        rw [← g2]
        by_cases q : 0 ≤ lg_cmp (f k) b
        · have q' : ¬ f k < b := fun u => by rw [Int64.lt_iff_toInt_lt] at u; have := (lgc_ge _ _).mp q; omega
          simp only [f_M_boxOf_j115, if_neg g, if_pos q, f_M_boxOf_j151, if_true, f_M_boxOf_j165, nI_1, if_neg q']
        · have q' : f k < b := by rw [Int64.lt_iff_toInt_lt]; exact Int.not_le.mp (fun u => q ((lgc_ge _ _).mpr u))
          simp only [f_M_boxOf_j115, if_neg g, if_neg q, f_M_boxOf_j151, show ¬ (1 : Int32) = 0 by decide, if_false, f_M_boxOf_j165, nI_1, if_pos q']
/-- a box's corners: each coordinate is one of two, and both are there -/
theorem relB_xy {w : SV} {q : QV} {c : Nat} (r : RelB w q c) : (∀ k, k < c → (sX w k = qX q 0 ∨ sX w k = qX q 1) ∧ (sY w k = qY q 0 ∨ sY w k = qY q 1)) ∧ (∃ k, k < c ∧ sX w k = qX q 0) ∧ (∃ k, k < c ∧ sX w k = qX q 1) ∧ (∃ k, k < c ∧ sY w k = qY q 0) ∧ (∃ k, k < c ∧ sY w k = qY q 1) := by
  obtain ⟨-, -, -, -, -, -, h⟩ := r
  rcases h with ⟨-, -, -, hc, -, t, ht⟩ | ⟨h1, -, -, hc, -, -, h2⟩ | ⟨h1, h2, -, hc, -, h3, h4⟩
  · subst hc
    have rx : ∀ k, rcX (qX q 0) (qX q 1) k = qX q 0 ∨ rcX (qX q 0) (qX q 1) k = qX q 1 := fun k => by unfold rcX; by_cases z : k % 4 = 1 ∨ k % 4 = 2 <;> simp only [z, if_true, if_false, or_true, true_or]
    have ry : ∀ k, rcY (qY q 0) (qY q 1) k = qY q 0 ∨ rcY (qY q 0) (qY q 1) k = qY q 1 := fun k => by unfold rcY; by_cases z : k % 4 = 2 ∨ k % 4 = 3 <;> simp only [z, if_true, if_false, or_true, true_or]
    have x0 : ∀ n, n % 4 = 0 ∨ n % 4 = 3 → rcX (qX q 0) (qX q 1) n = qX q 0 := fun n hn => if_neg (by omega)
    have x1 : ∀ n, n % 4 = 1 ∨ n % 4 = 2 → rcX (qX q 0) (qX q 1) n = qX q 1 := fun n hn => if_pos hn
    have y0 : ∀ n, n % 4 = 0 ∨ n % 4 = 1 → rcY (qY q 0) (qY q 1) n = qY q 0 := fun n hn => if_neg (by omega)
    have y1 : ∀ n, n % 4 = 2 ∨ n % 4 = 3 → rcY (qY q 0) (qY q 1) n = qY q 1 := fun n hn => if_pos hn
    rcases ht with ht | ht
    · refine ⟨fun k hk => ⟨by rw [(ht k hk).1]; exact rx _, by rw [(ht k hk).2]; exact ry _⟩, ⟨(4 - t % 4) % 4, by omega, ?_⟩, ⟨(5 - t % 4) % 4, by omega, ?_⟩, ⟨(4 - t % 4) % 4, by omega, ?_⟩, ⟨(6 - t % 4) % 4, by omega, ?_⟩⟩
      · rw [(ht _ (by omega)).1]; exact x0 _ (by omega)
      · rw [(ht _ (by omega)).1]; exact x1 _ (by omega)
      · rw [(ht _ (by omega)).2]; exact y0 _ (by omega)
      · rw [(ht _ (by omega)).2]; exact y1 _ (by omega)
    · refine ⟨fun k hk => ⟨by rw [(ht k hk).1]; exact rx _, by rw [(ht k hk).2]; exact ry _⟩, ⟨t % 4, by omega, ?_⟩, ⟨(t + 3) % 4, by omega, ?_⟩, ⟨t % 4, by omega, ?_⟩, ⟨(t + 2) % 4, by omega, ?_⟩⟩
      · rw [(ht _ (by omega)).1]; exact x0 _ (by omega)
      · rw [(ht _ (by omega)).1]; exact x1 _ (by omega)
      · rw [(ht _ (by omega)).2]; exact y0 _ (by omega)
      · rw [(ht _ (by omega)).2]; exact y1 _ (by omega)
  · subst hc
    rcases h2 with ⟨a, b, d, e⟩ | ⟨a, b, d, e⟩
    · refine ⟨fun k hk => ?_, ⟨0, by decide, a⟩, ⟨1, by decide, d⟩, ⟨0, by decide, b⟩, ⟨1, by decide, e⟩⟩
      rcases (show k = 0 ∨ k = 1 by omega) with z | z <;> subst z
      · exact ⟨Or.inl a, Or.inl b⟩
      · exact ⟨Or.inr d, Or.inr e⟩
    · refine ⟨fun k hk => ?_, ⟨1, by decide, d⟩, ⟨0, by decide, a⟩, ⟨1, by decide, e⟩, ⟨0, by decide, b⟩⟩
      rcases (show k = 0 ∨ k = 1 by omega) with z | z <;> subst z
      · exact ⟨Or.inr a, Or.inr b⟩
      · exact ⟨Or.inl d, Or.inl e⟩
  · subst hc
    refine ⟨fun k hk => ?_, ⟨0, by decide, h3⟩, ⟨0, by decide, by rw [h3, h1]⟩, ⟨0, by decide, h4⟩, ⟨0, by decide, by rw [h4, h2]⟩⟩
    rw [show k = 0 by omega]
    exact ⟨Or.inl h3, Or.inl h4⟩
/-- least and greatest are alike on both sides -/
theorem ext_same {w : SV} {q : QV} {c o : Nat} (hh : (sF w = 0 ∧ o = 0 ∧ c = 1 ∧ RelL w q c) ∨ (sF w = 1 ∧ o = 0 ∧ RelB w q c) ∨ (sF w = 2 ∧ RelP w q c o) ∨ (sF w = 3 ∧ o = 0 ∧ RelL w q c)) (hc : c ≤ 48) :
    ∃ n : Nat, n ≤ 48 ∧ (0 < c → 0 < n) ∧ qN q = nI n ∧ (∀ m, Lst (qX q) n m → Lst (sX w) c m) ∧ (∀ m, Lst (qY q) n m → Lst (sY w) c m) ∧ (∀ m, Gst (qX q) n m → Gst (sX w) c m) ∧ (∀ m, Gst (qY q) n m → Gst (sY w) c m) := by
  have sc : SameC w q c → qN q = nI c → ∃ n : Nat, n ≤ 48 ∧ (0 < c → 0 < n) ∧ qN q = nI n ∧ (∀ m, Lst (qX q) n m → Lst (sX w) c m) ∧ (∀ m, Lst (qY q) n m → Lst (sY w) c m) ∧ (∀ m, Gst (qX q) n m → Gst (sX w) c m) ∧ (∀ m, Gst (qY q) n m → Gst (sY w) c m) := by
    intro s hn
    refine ⟨c, hc, id, hn, ?_, ?_, ?_, ?_⟩ <;> rintro m ⟨⟨k, hk, e⟩, h⟩
    · exact ⟨⟨k, hk, by rw [← (s k hk).1]; exact e⟩, fun j hj => by rw [← (s j hj).1]; exact h j hj⟩
    · exact ⟨⟨k, hk, by rw [← (s k hk).2]; exact e⟩, fun j hj => by rw [← (s j hj).2]; exact h j hj⟩
    · exact ⟨⟨k, hk, by rw [← (s k hk).1]; exact e⟩, fun j hj => by rw [← (s j hj).1]; exact h j hj⟩
    · exact ⟨⟨k, hk, by rw [← (s k hk).2]; exact e⟩, fun j hj => by rw [← (s j hj).2]; exact h j hj⟩
  rcases hh with ⟨f, f2, f3, r⟩ | ⟨f, f2, r⟩ | ⟨f, r⟩ | ⟨f, f2, r⟩
  · exact sc r.2.2.2.1 r.2.1
  · obtain ⟨h1, ⟨k0, z0, e0⟩, ⟨k1, z1, e1⟩, ⟨k2, z2, e2⟩, ⟨k3, z3, e3⟩⟩ := relB_xy r
    obtain ⟨hn, -, -, -, hx, hy, -⟩ := r
    refine ⟨2, by decide, fun _ => by decide, hn, ?_, ?_, ?_, ?_⟩ <;> rintro m ⟨⟨k, hk, e⟩, h⟩
    · have a : m = qX q 0 := by
        have := h 0 (by decide)
        rcases (show k = 0 ∨ k = 1 by omega) with z | z
        · rw [← e, z]
        · rw [← e, z] at this ⊢; exact Int64.toInt_inj.mp (by omega)
      rw [a]
      exact ⟨⟨k0, z0, e0⟩, fun j hj => by rcases (h1 j hj).1 with z | z <;> rw [z] <;> omega⟩
    · have a : m = qY q 0 := by
        have := h 0 (by decide)
        rcases (show k = 0 ∨ k = 1 by omega) with z | z
        · rw [← e, z]
        · rw [← e, z] at this ⊢; exact Int64.toInt_inj.mp (by omega)
      rw [a]
      exact ⟨⟨k2, z2, e2⟩, fun j hj => by rcases (h1 j hj).2 with z | z <;> rw [z] <;> omega⟩
    · have a : m = qX q 1 := by
        have := h 1 (by decide)
        rcases (show k = 0 ∨ k = 1 by omega) with z | z
        · rw [← e, z] at this ⊢; exact Int64.toInt_inj.mp (by omega)
        · rw [← e, z]
      rw [a]
      exact ⟨⟨k1, z1, e1⟩, fun j hj => by rcases (h1 j hj).1 with z | z <;> rw [z] <;> omega⟩
    · have a : m = qY q 1 := by
        have := h 1 (by decide)
        rcases (show k = 0 ∨ k = 1 by omega) with z | z
        · rw [← e, z] at this ⊢; exact Int64.toInt_inj.mp (by omega)
        · rw [← e, z]
      rw [a]
      exact ⟨⟨k3, z3, e3⟩, fun j hj => by rcases (h1 j hj).2 with z | z <;> rw [z] <;> omega⟩
  · exact sc r.2.2.1 r.2.1
  · exact sc r.2.2.2.1 r.2.1
theorem sim_boxOf : Sim_boxOf Rel := by
  intro v mv h x s
  have n1 : ¬ (1 : Int32) = 0 := by decide
  have bad : ∀ t : Int32, ¬ t = 0 → f_M_boxOf_j35 mv x s t = some (0, ms_thrown mv t) := fun t ht => by simp only [f_M_boxOf_j35, Option.bind_some, if_neg (thr_ne ht)]
  rcases find_or h x with ⟨e1, e2, e3⟩ | ⟨i, hi, ex, e1, e2, e3⟩
  · refine ⟨(0, ms_thrown mv 1), by simp only [f_M_boxOf, e3, Option.bind_some, if_true, f_M_boxOf_j18, bad 1 n1], Or.inr (Or.inl ⟨?_, rfl, rel_thrown h⟩)⟩
    unfold g_F_boxOf; rw [e2]; rfl
  have h40 : i < 40 := by have := h.1; omega
  have out : (s < 0 ∨ ¬ s < 4) → ∃ o : Int64 × MV, f_M_boxOf mv x s = some o ∧ ((∃ r : Int64, f_F_boxOf v x s = some r ∧ md_thrown o.2 = 0 ∧ r = o.1 ∧ Rel v o.2) ∨ (g_F_boxOf v x s = some "java/lang/IndexOutOfBoundsException" ∧ md_thrown o.2 = 1 ∧ Rel v o.2) ∨ (g_F_boxOf v x s = some "java/lang/IllegalStateException" ∧ md_thrown o.2 = 2 ∧ Rel v o.2)) := by
    intro hs
    refine ⟨(0, ms_thrown mv 1), ?_, Or.inr (Or.inl ⟨?_, rfl, rel_thrown h⟩)⟩
    · by_cases a : s < 0
      · simp only [f_M_boxOf, e3, Option.bind_some, if_neg n1, if_pos a, f_M_boxOf_j18, bad 1 n1]
      · have b : ¬ s ≤ 3 := by
          rcases hs with z | z
          · exact absurd z a
          · rw [Int32.lt_iff_toInt_lt] at z; rw [Int32.le_iff_toInt_le]
            have u1 : (4 : Int32).toInt = 4 := by decide
            have u2 : (3 : Int32).toInt = 3 := by decide
            omega
        simp only [f_M_boxOf, e3, Option.bind_some, if_neg n1, if_neg a, if_neg b, f_M_boxOf_j18, bad 1 n1]
    · by_cases a : s < 0
      · simp only [g_F_boxOf, e1, e2, xthen, Option.bind_some, if_pos a, g_F_boxOf_j15]
      · have b : ¬ s < 4 := hs.resolve_left a
        simp only [g_F_boxOf, e1, e2, xthen, Option.bind_some, if_neg a, if_neg b, g_F_boxOf_j15]
  by_cases s0 : s < 0
  · exact out (Or.inl s0)
  by_cases s4 : s < 4
  · have s3 : s ≤ 3 := by
      rw [Int32.lt_iff_toInt_lt] at s4; rw [Int32.le_iff_toInt_le]
      have u1 : (4 : Int32).toInt = 4 := by decide
      have u2 : (3 : Int32).toInt = 3 := by decide
      omega
    obtain ⟨c, o, hc, ho, c1, c2, hp, hh, hw | hw⟩ := whole_or h hi
    · obtain ⟨hW, w1, w2, w3⟩ := hw
      rw [← ex] at w3
      obtain ⟨n, hn, hpos, en, x1, x2, x3, x4⟩ := ext_same hh hc
      have hcp : 0 < c := hW.1
      have hnp := hpos hcp
      have er : qR (mvS mv i) = sR (v.2 i) := by obtain ⟨_, _, _, _, _, _, _, er, _⟩ := h.2.2 i hi; exact er
      -- a row on both sides
      have row : ∀ (p3 : Int32) (f g : Nat → Int64), ((p3 = 0 ∧ f = qY (mvS mv i)) ∨ (¬ p3 = 0 ∧ f = qX (mvS mv i))) → (∀ m, Lst f n m → Lst g c m) → (∀ m, Gst f n m → Gst g c m) → ∃ r, f_S_outermost_j17 (v.2 i) s g = some r ∧ f_M_boxOf_j78 (ms_thrown mv 0) x s p3 (f 0) = some (r, ms_thrown mv 0) := by
        intro p3 f g hf y1 y2
        have l0 : ld 48 g (0 : Int32) = some (g 0) := ld_nI (k := 0) (by decide) (by decide)
        have hst : (if (2 : Int32) ≤ s then Gst f 1 (f 0) else Lst f 1 (f 0)) := by
          by_cases z : (2 : Int32) ≤ s
          · rw [if_pos z]; exact gst_0
          · rw [if_neg z]; exact lst_0
        obtain ⟨lo, hi', a1, a2, a3⟩ := outer_l (w := v.2 i) (s := s) hc c1 64 1 (g 0) (g 0) (by omega) hcp lst_0 gst_0
        obtain ⟨b, b1, b2⟩ := mbox_l (mv := ms_thrown mv 0) (s := s) (p3 := p3) (f := f) h40 hn en hf 64 1 (f 0) (by omega) hnp hst
        refine ⟨(if (2 : Int32) ≤ s then hi' + sR (v.2 i) else lo - sR (v.2 i)), ?_, ?_⟩
        · simp only [f_S_outermost_j17, l0, Option.bind_some]
          exact a3
        · unfold f_M_boxOf_j78
          rw [ex]
          refine b2.trans ?_
          have er' : qR (mvS (ms_thrown mv 0) i) = sR (v.2 i) := er
          by_cases z : (2 : Int32) ≤ s
          · simp only [if_pos z] at b1 ⊢
            rw [er', gst_one a2 (y2 b b1)]
          · simp only [if_neg z] at b1 ⊢
            rw [er', lst_one a1 (y1 b b1)]
      by_cases p : s - s / (2 : Int32) * (2 : Int32) = 0
      · obtain ⟨r, r1, r2⟩ := row 1 (qX (mvS mv i)) (sX (v.2 i)) (Or.inr ⟨n1, rfl⟩) x1 x3
        have mx := (mx_ev (mv := ms_thrown mv 0) h40 (show 0 < 48 by decide)).1
        rw [← ex] at mx
        refine ⟨(r, ms_thrown mv 0), ?_, Or.inl ⟨r, ?_, rfl, rfl, rel_thrown h⟩⟩
        · simp only [f_M_boxOf, e3, Option.bind_some, if_neg n1, if_neg s0, if_pos s3, w3, f_M_boxOf_j35, if_pos thr_0, if_pos p, f_M_boxOf_j58]
          rw [show f_M_x (ms_thrown mv 0) x (0 : Int32) = _ from mx]
          exact r2
        · simp only [f_F_boxOf, e1, Option.bind_some, if_neg s0, if_pos s4, w1, f_S_outermost, if_pos p, r1]
      · obtain ⟨r, r1, r2⟩ := row 0 (qY (mvS mv i)) (sY (v.2 i)) (Or.inl ⟨rfl, rfl⟩) x2 x4
        have mx := (mx_ev (mv := ms_thrown mv 0) h40 (show 0 < 48 by decide)).2
        rw [← ex] at mx
        refine ⟨(r, ms_thrown mv 0), ?_, Or.inl ⟨r, ?_, rfl, rfl, rel_thrown h⟩⟩
        · simp only [f_M_boxOf, e3, Option.bind_some, if_neg n1, if_neg s0, if_pos s3, w3, f_M_boxOf_j35, if_pos thr_0, if_neg p, f_M_boxOf_j58, if_true]
          rw [show f_M_y (ms_thrown mv 0) x (0 : Int32) = _ from mx]
          exact r2
        · simp only [f_F_boxOf, e1, Option.bind_some, if_neg s0, if_pos s4, w1, f_S_outermost, if_neg p, r1]
    · obtain ⟨w1, w2, w3⟩ := hw
      rw [← ex] at w3
      refine ⟨(0, ms_thrown mv 2), ?_, Or.inr (Or.inr ⟨?_, rfl, rel_thrown h⟩)⟩
      · simp only [f_M_boxOf, e3, Option.bind_some, if_neg n1, if_neg s0, if_pos s3, w3, if_true, bad 2 (by decide)]
      · simp only [g_F_boxOf, e1, e2, xthen, Option.bind_some, if_neg s0, if_pos s4, w2]
  · exact out (Or.inr s4)
