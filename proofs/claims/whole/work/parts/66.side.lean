/-! two sides of shapes of the class -/
abbrev zx (w : SV) (k : Nat) : Int := (sX w k).toInt
abbrev zy (w : SV) (k : Nat) : Int := (sY w k).toInt
def eE (w : SV) (k : Nat) : Nat := (sE w k).toNatClampNeg
theorem eE_of {w : SV} {k m : Nat} (h : sE w k = nI m) (hm : m < 2 ^ 31) : eE w k = m := by unfold eE; rw [h, nI_clamp hm]
theorem sds_of {w : SV} {c : Nat} (hc : c ≤ 48) (e : sN w = nI c) (hp : ∀ k, k < c → Plc (sX w k) (sY w k)) (he : ∀ k, k < c → ∃ m, m < c ∧ sE w k = nI m) : Sds w c (eE w) := by
  refine ⟨hc, e, hp, fun k hk => ?_⟩
  obtain ⟨m, hm, em⟩ := he k hk
  rw [eE_of em (by omega)]
  exact ⟨em, hm⟩
theorem passes_ev {v w : SV} {c c' i j : Nat} {e e' : Nat → Nat} (S : Sds v c e) (S' : Sds w c' e') (hi : i < c) (hj : j < c') : f_P_passesBeside v w (nI i) (nI j) = some (bP (alk (crs (zx v i) (zy v i) (zx v (e i)) (zy v (e i)) (zx w j) (zy w j)) (crs (zx v i) (zy v i) (zx v (e i)) (zy v (e i)) (zx w (e' j)) (zy w (e' j))))) := by
  have hc' := S'.1
  obtain ⟨ee, he⟩ := S'.2.2.2 j hj
  obtain ⟨z1, f1, g1, -, -⟩ := cross_ev (x := sX w j) (y := sY w j) S hi (S'.2.2.1 j hj)
  obtain ⟨z2, f2, g2, -, -⟩ := cross_ev (x := sX w (e' j)) (y := sY w (e' j)) S hi (S'.2.2.1 _ he)
  have l1 : ld 48 (sE w) (nI j) = some (nI (e' j)) := by rw [ld_nI (by omega) (by decide), ee]
  have l2 : ld 48 (sX w) (nI j) = some (sX w j) := ld_nI (by omega) (by decide)
  have l3 : ld 48 (sY w) (nI j) = some (sY w j) := ld_nI (by omega) (by decide)
  have l4 : ld 48 (sX w) (nI (e' j)) = some (sX w (e' j)) := ld_nI (by omega) (by decide)
  have l5 : ld 48 (sY w) (nI (e' j)) = some (sY w (e' j)) := ld_nI (by omega) (by decide)
  have t0 : (0 : Int64).toInt = 0 := by decide
  unfold f_P_passesBeside f_P_passesBeside_j62 f_P_passesBeside_j76 f_P_passesBeside_j80 f_P_passesBeside_j81
  rw [l1, l2, l3, Option.bind_some, Option.bind_some, Option.bind_some, f1, Option.bind_some, l4, l5, Option.bind_some, Option.bind_some, f2, Option.bind_some]
  simp only [lgc_ge, lgc_le, lgc_lt, t0, g1, g2]
  unfold alk
  generalize crs (sX v i).toInt (sY v i).toInt (sX v (e i)).toInt (sY v (e i)).toInt (sX w j).toInt (sY w j).toInt = a
  generalize crs (sX v i).toInt (sY v i).toInt (sX v (e i)).toInt (sY v (e i)).toInt (sX w (e' j)).toInt (sY w (e' j)).toInt = b
  by_cases h1 : 0 ≤ a
  · rw [if_pos h1]
    by_cases h2 : a ≤ 0
    · rw [if_pos h2, bP_f (by omega)]; exact rb_0
    · rw [if_neg h2]
      by_cases h3 : b ≤ 0
      · rw [if_pos h3, bP_f (by omega)]; exact rb_0
      · rw [if_neg h3, bP_t (by omega)]; exact rb_1
  · rw [if_neg h1]
    by_cases h2 : b < 0
    · rw [if_pos h2, bP_t (by omega)]; exact rb_1
    · rw [if_neg h2, if_pos (by omega), bP_f (by omega)]; exact rb_0
/-- side i of v and side j of w meet -/
def smS (v : SV) (e : Nat → Nat) (i : Nat) (w : SV) (e' : Nat → Nat) (j : Nat) : Prop := smt (zx v i) (zy v i) (zx v (e i)) (zy v (e i)) (zx w j) (zy w j) (zx w (e' j)) (zy w (e' j))
theorem sides_ev {v w : SV} {c c' i j : Nat} {e e' : Nat → Nat} (S : Sds v c e) (S' : Sds w c' e') (hi : i < c) (hj : j < c') : f_P_sidesMeet v w (nI i) (nI j) = some (bP (smS v e i w e' j)) := by
  have hc := S.1
  have hc' := S'.1
  obtain ⟨ei, hei⟩ := S.2.2.2 i hi
  obtain ⟨ej, hej⟩ := S'.2.2.2 j hj
  have l1 : ld 48 (sE v) (nI i) = some (nI (e i)) := by rw [ld_nI (by omega) (by decide), ei]
  have l2 : ld 48 (sE w) (nI j) = some (nI (e' j)) := by rw [ld_nI (by omega) (by decide), ej]
  have a1 : ld 48 (sX v) (nI i) = some (sX v i) := ld_nI (by omega) (by decide)
  have a2 : ld 48 (sX v) (nI (e i)) = some (sX v (e i)) := ld_nI (by omega) (by decide)
  have a3 : ld 48 (sX w) (nI j) = some (sX w j) := ld_nI (by omega) (by decide)
  have a4 : ld 48 (sX w) (nI (e' j)) = some (sX w (e' j)) := ld_nI (by omega) (by decide)
  have b1 : ld 48 (sY v) (nI i) = some (sY v i) := ld_nI (by omega) (by decide)
  have b2 : ld 48 (sY v) (nI (e i)) = some (sY v (e i)) := ld_nI (by omega) (by decide)
  have b3 : ld 48 (sY w) (nI j) = some (sY w j) := ld_nI (by omega) (by decide)
  have b4 : ld 48 (sY w) (nI (e' j)) = some (sY w (e' j)) := ld_nI (by omega) (by decide)
  unfold f_P_sidesMeet f_P_sidesMeet_j104 f_P_sidesMeet_j105
  rw [l1, l2, a1, b1, a3, b3]
  simp only [Option.bind_some]
  rw [a2, a4, b2, b4, passes_ev S S' hi hj, passes_ev S' S hj hi]
  simp only [Option.bind_some, spans_ev]
  unfold smS smt
  by_cases h1 : spn (zx v i) (zx v (e i)) (zx w j) (zx w (e' j))
  · rw [if_neg (fun z => bP_z.mp z h1)]
    by_cases h2 : spn (zy v i) (zy v (e i)) (zy w j) (zy w (e' j))
    · rw [if_neg (fun z => bP_z.mp z h2)]
      by_cases h3 : alk (crs (zx v i) (zy v i) (zx v (e i)) (zy v (e i)) (zx w j) (zy w j)) (crs (zx v i) (zy v i) (zx v (e i)) (zy v (e i)) (zx w (e' j)) (zy w (e' j)))
      · rw [if_neg (fun z => bP_z.mp z h3), bP_f (fun z => z.2.2.1 h3)]; exact rb_0
      · rw [if_pos (bP_f h3)]
        by_cases h4 : alk (crs (zx w j) (zy w j) (zx w (e' j)) (zy w (e' j)) (zx v i) (zy v i)) (crs (zx w j) (zy w j) (zx w (e' j)) (zy w (e' j)) (zx v (e i)) (zy v (e i)))
        · rw [if_neg (fun z => bP_z.mp z h4), bP_f (fun z => z.2.2.2 h4)]; exact rb_0
        · rw [if_pos (bP_f h4), bP_t ⟨h1, h2, h3, h4⟩]; exact rb_1
    · rw [if_pos (bP_f h2), bP_f (fun z => h2 z.2.1)]; exact rb_0
  · rw [if_pos (bP_f h1), bP_f (fun z => h1 z.1)]; exact rb_0
/-! the ring that is being closed -/
def bh (k o c : Nat) : Nat := if k + 1 < c then k + 1 else o
theorem bh_or {k o c : Nat} (h : k < c) : (bh k o c = k + 1 ∧ k + 1 < c) ∨ (bh k o c = o ∧ k + 1 = c) := by
  unfold bh
  by_cases z : k + 1 < c
  · rw [if_pos z]; exact Or.inl ⟨rfl, z⟩
  · rw [if_neg z]; exact Or.inr ⟨rfl, by omega⟩
theorem behind_ev {k o c : Nat} (hk : k < c) (hc : c ≤ 48) : f_M_behind (nI k) (nI o) (nI c) = some (nI (bh k o c)) := by
  unfold f_M_behind f_M_behind_j14
  rw [nI_1]
  unfold bh
  by_cases z : k + 1 < c
  · rw [if_pos z, if_neg (fun q => by rw [nI_hle (by omega) (by omega)] at q; omega)]
  · rw [if_neg z, if_pos (nI_hle (by omega) (by omega) |>.mpr (by omega))]
theorem empty_S {w : SV} {c o : Nat} (S : Sds w c (eE w)) (ho : sO w = nI o) (hoc : o < c) : f_S_isOpenRingEmpty w = some (bP (∀ i, o + 2 ≤ i → i < c → crs (zx w o) (zy w o) (zx w (eE w o)) (zy w (eE w o)) (zx w i) (zy w i) = 0)) := by
  have hc := S.1
  have t0 : (0 : Int64).toInt = 0 := by decide
  have e2 : sO w + 2 = nI (o + 2) := by rw [ho, show (2 : Int32) = nI 2 from rfl, nI_add]
  unfold f_S_isOpenRingEmpty
  rw [e2]
  by_cases z : o + 2 ≤ c
  · rcases lp_ex (L := f_S_isOpenRingEmpty_l7 w) (lo := o + 2) (c := c) (P := fun i => ¬ crs (zx w o) (zy w o) (zx w (eE w o)) (zy w (eE w o)) (zx w i) (zy w i) = 0) (yes := some 0) (no := some 1)
      (fun n => by simp only [f_S_isOpenRingEmpty_l7]; rw [S.2.1, if_pos (nI_hle (by omega) (by omega) |>.mpr (Nat.le_refl c))]; exact rb_1)
      (fun n k h1 h2 => by
        obtain ⟨y, f1, g1, -, -⟩ := cross_ev (x := sX w k) (y := sY w k) S hoc (S.2.2.1 k h2)
        have l2 : ld 48 (sX w) (nI k) = some (sX w k) := ld_nI (by omega) (by decide)
        have l3 : ld 48 (sY w) (nI k) = some (sY w k) := ld_nI (by omega) (by decide)
        simp only [f_S_isOpenRingEmpty_l7]
        rw [S.2.1, if_neg (fun q => by rw [nI_hle (by omega) (by omega)] at q; omega), l2, l3, Option.bind_some, Option.bind_some, ho, f1, Option.bind_some, nI_1]
        by_cases h : y.toInt = 0
        · rw [if_pos ((lgc_eq _ _).mpr (by rw [t0]; exact h))]; exact Or.inr ⟨fun q => q (by rw [← g1]; exact h), rfl⟩
        · rw [if_neg (fun q => h (by have := (lgc_eq _ _).mp q; rw [t0] at this; exact this))]; exact Or.inl ⟨fun q => h (by rw [g1]; exact q), rb_0⟩) 64 (o + 2) (Nat.le_refl _) z (by omega) with ⟨⟨j, a, b, q⟩, e⟩ | ⟨q, e⟩
    · rw [e, bP_f (fun h => q (h j a b))]
    · rw [e, bP_t (fun i a b => Classical.byContradiction fun y => q ⟨i, a, b, y⟩)]
  · rw [bP_t (fun i a b => by omega)]
    have st : ∀ n, f_S_isOpenRingEmpty_l7 w (n + 1) (nI (o + 2)) = some 1 := fun n => by
      simp only [f_S_isOpenRingEmpty_l7]
      rw [S.2.1, if_pos (nI_hle (by omega) (by omega) |>.mpr (by omega))]; exact rb_1
    exact st 63
theorem crossing_S {w : SV} {c o : Nat} (S : Sds w c (eE w)) (ho : sO w = nI o) (hoc : o < c) : f_S_isOpenRingCrossing w = some (bP (∃ i, o ≤ i ∧ i < c ∧ ∃ j, 0 ≤ j ∧ j < i ∧ eE w i ≠ j ∧ eE w j ≠ i ∧ smS w (eE w) i w (eE w) j)) := by
  have hc := S.1
  have inner : ∀ (K : Int32 → Option Int32) (i : Nat), i < c → ((∃ j, 0 ≤ j ∧ j < i ∧ eE w i ≠ j ∧ eE w j ≠ i ∧ smS w (eE w) i w (eE w) j) ∧ f_S_isOpenRingCrossing_l15 w K 64 (nI i) 0 = some 1) ∨ ((¬ ∃ j, 0 ≤ j ∧ j < i ∧ eE w i ≠ j ∧ eE w j ≠ i ∧ smS w (eE w) i w (eE w) j) ∧ f_S_isOpenRingCrossing_l15 w K 64 (nI i) 0 = K (nI (i + 1))) := by
    intro K i hi
    obtain ⟨ei, hei⟩ := S.2.2.2 i hi
    refine lp_ex (L := fun n p => f_S_isOpenRingCrossing_l15 w K n (nI i) p) (lo := 0) (c := i) (P := fun j => eE w i ≠ j ∧ eE w j ≠ i ∧ smS w (eE w) i w (eE w) j) (yes := some 1) (no := K (nI (i + 1))) (fun n => ?_) (fun n j _ hj => ?_) 64 0 (Nat.le_refl 0) (by omega) (by omega)
    · simp only [f_S_isOpenRingCrossing_l15]
      rw [if_pos (nI_hle (by omega) (by omega) |>.mpr (Nat.le_refl i)), nI_1]
    · obtain ⟨ej, hej⟩ := S.2.2.2 j (by omega)
      have l1 : ld 48 (sE w) (nI i) = some (nI (eE w i)) := by rw [ld_nI (by omega) (by decide), ei]
      have l2 : ld 48 (sE w) (nI j) = some (nI (eE w j)) := by rw [ld_nI (by omega) (by decide), ej]
      simp only [f_S_isOpenRingCrossing_l15]
      rw [if_neg (fun q => by rw [nI_hle (by omega) (by omega)] at q; omega), l1, l2, Option.bind_some, Option.bind_some]
      have q1 : (nI (eE w i) = nI j) ↔ eE w i = j := nI_eq (by omega) (by omega)
      have q2 : (nI (eE w j) = nI i) ↔ eE w j = i := nI_eq (by omega) (by omega)
      unfold f_S_isOpenRingCrossing_j40 f_S_isOpenRingCrossing_j45 f_S_isOpenRingCrossing_j62
      rw [if_neg one_n0, if_pos rfl, sides_ev S S hi (by omega), Option.bind_some, nI_1]
      by_cases h1 : eE w i = j
      · rw [if_pos (q1.mpr h1)]; exact Or.inr ⟨fun q => q.1 h1, rfl⟩
      · rw [if_neg (fun z => h1 (q1.mp z))]
        by_cases h2 : eE w j = i
        · rw [if_pos (q2.mpr h2)]; exact Or.inr ⟨fun q => q.2.1 h2, rfl⟩
        · rw [if_neg (fun z => h2 (q2.mp z))]
          by_cases h3 : smS w (eE w) i w (eE w) j
          · rw [if_neg (fun z => bP_z.mp z h3)]; exact Or.inl ⟨⟨h1, h2, h3⟩, rb_1⟩
          · rw [if_pos (bP_f h3)]; exact Or.inr ⟨fun q => h3 q.2.2, rfl⟩
  unfold f_S_isOpenRingCrossing
  rw [ho]
  refine lp_b (L := f_S_isOpenRingCrossing_l5 w) (lo := o) (c := c) (fun n => ?_) (fun n k h1 h2 => ?_) (Nat.le_refl o) (by omega) (by omega)
  · simp only [f_S_isOpenRingCrossing_l5]
    rw [S.2.1, if_pos (nI_hle (by omega) (by omega) |>.mpr (Nat.le_refl c))]; exact rb_0
  · simp only [f_S_isOpenRingCrossing_l5]
    rw [S.2.1, if_neg (fun q => by rw [nI_hle (by omega) (by omega)] at q; omega)]
    exact inner _ k h2
