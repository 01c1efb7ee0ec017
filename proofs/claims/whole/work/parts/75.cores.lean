/-! two cores: the class -/
def Enc (w : SV) (c : Nat) (x y : Int) : Prop := sB w = 1 ∧ sm (fun k => nP (crf (cs w k) x y)) c % 2 = 1
theorem enco_ev {v w : SV} {c c' : Nat} (S : Sds v c (eE v)) (hb : sB v = 0 ∨ sB v = 1) (S' : Sds w c' (eE w)) : f_S_enclosesCornerOf v w = some (bP (∃ k, 0 ≤ k ∧ k < c' ∧ Enc v c (zx w k) (zy w k))) := by
  have hc' := S'.1
  unfold f_S_enclosesCornerOf
  refine lp_b (L := f_S_enclosesCornerOf_l2 v w) (lo := 0) (c := c') (fun n => ?_) (fun n k _ hk => ?_) (Nat.le_refl 0) (Nat.zero_le c') (by omega)
  · simp only [f_S_enclosesCornerOf_l2]
    rw [S'.2.1, if_pos (nI_hle (by omega) (by omega) |>.mpr (Nat.le_refl c'))]; exact rb_0
  · have l1 : ld 48 (sX w) (nI k) = some (sX w k) := ld_nI (by omega) (by decide)
    have l2 : ld 48 (sY w) (nI k) = some (sY w k) := ld_nI (by omega) (by decide)
    have hle : ¬ nI c' ≤ nI k := fun q => by rw [nI_hle (by omega) (by omega)] at q; omega
    have e : f_S_encloses v (sX w k) (sY w k) = some (bP (Enc v c (zx w k) (zy w k))) := encl_ev (x := sX w k) (y := sY w k) S (S'.2.2.1 k hk) hb
    simp only [f_S_enclosesCornerOf_l2, S'.2.1, if_neg hle, l1, l2, Option.bind_some, e, nI_1]
    by_cases h : Enc v c (zx w k) (zy w k)
    · rw [if_neg (fun z => bP_z.mp z h)]; exact Or.inl ⟨h, rb_1⟩
    · rw [if_pos (bP_f h)]; exact Or.inr ⟨h, rfl⟩
def Mts (v : SV) (c : Nat) (w : SV) (c' : Nat) : Prop := ∃ i, 0 ≤ i ∧ i < c ∧ ∃ j, 0 ≤ j ∧ j < c' ∧ mtQ (cs v i) (cs w j)
theorem meets_ev {v w : SV} {c c' : Nat} (S : Sds v c (eE v)) (hb : sB v = 0 ∨ sB v = 1) (S' : Sds w c' (eE w)) (hb' : sB w = 0 ∨ sB w = 1) : f_P_coresMeet v w = some (bP (Mts v c w c' ∨ (∃ k, 0 ≤ k ∧ k < c' ∧ Enc v c (zx w k) (zy w k)) ∨ ∃ k, 0 ≤ k ∧ k < c ∧ Enc w c' (zx v k) (zy v k))) := by
  have hc := S.1
  have hc' := S'.1
  have inner : ∀ (K : Int32 → Option Int32) (i : Nat), i < c → ((∃ j, 0 ≤ j ∧ j < c' ∧ mtQ (cs v i) (cs w j)) ∧ f_P_coresMeet_l12 v w K 64 (nI i) 0 = some 1) ∨ ((¬ ∃ j, 0 ≤ j ∧ j < c' ∧ mtQ (cs v i) (cs w j)) ∧ f_P_coresMeet_l12 v w K 64 (nI i) 0 = K (nI (i + 1))) := by
    intro K i hi
    refine lp_ex (L := fun n p => f_P_coresMeet_l12 v w K n (nI i) p) (lo := 0) (c := c') (P := fun j => mtQ (cs v i) (cs w j)) (yes := some 1) (no := K (nI (i + 1))) (fun n => ?_) (fun n j _ hj => ?_) 64 0 (Nat.le_refl 0) (Nat.zero_le c') (by omega)
    · simp only [f_P_coresMeet_l12]
      rw [S'.2.1, if_pos (nI_hle (by omega) (by omega) |>.mpr (Nat.le_refl c')), nI_1]
    · have hle : ¬ nI c' ≤ nI j := fun q => by rw [nI_hle (by omega) (by omega)] at q; omega
      have e := sides_ev S S' hi hj
      simp only [f_P_coresMeet_l12, S'.2.1, if_neg hle, e, Option.bind_some, nI_1]
      by_cases h : smS v (eE v) i w (eE w) j
      · rw [if_neg (fun z => bP_z.mp z h)]; exact Or.inl ⟨meet_iff.mp h, rb_1⟩
      · rw [if_pos (bP_f h)]; exact Or.inr ⟨fun q => h (meet_iff.mpr q), rfl⟩
  unfold f_P_coresMeet
  have fin : ∀ n, f_P_coresMeet_l2 v w (n + 1) (nI c) = some (bP ((∃ k, 0 ≤ k ∧ k < c' ∧ Enc v c (zx w k) (zy w k)) ∨ ∃ k, 0 ≤ k ∧ k < c ∧ Enc w c' (zx v k) (zy v k))) := fun n => by
    have hle : nI c ≤ nI c := nI_hle (by omega) (by omega) |>.mpr (Nat.le_refl c)
    simp only [f_P_coresMeet_l2, S.2.1, if_pos hle, enco_ev S hb S', enco_ev S' hb' S, Option.bind_some, f_P_coresMeet_j60, f_P_coresMeet_j65, rb_0, rb_1]
    by_cases h1 : ∃ k, 0 ≤ k ∧ k < c' ∧ Enc v c (zx w k) (zy w k)
    · rw [if_neg (fun z => bP_z.mp z h1), bP_t (P := _ ∨ _) (Or.inl h1)]
    · rw [if_pos (bP_f h1)]
      by_cases h2 : ∃ k, 0 ≤ k ∧ k < c ∧ Enc w c' (zx v k) (zy v k)
      · rw [if_neg (fun z => bP_z.mp z h2), bP_t (P := _ ∨ _) (Or.inr h2)]
      · rw [if_pos (bP_f h2), bP_f (P := _ ∨ _) (fun z => z.elim h1 h2)]
  rcases lp_ex (L := f_P_coresMeet_l2 v w) (lo := 0) (c := c) (P := fun i => ∃ j, 0 ≤ j ∧ j < c' ∧ mtQ (cs v i) (cs w j)) (yes := some 1) fin (fun n i _ hi => by
      have hle : ¬ nI c ≤ nI i := fun q => by rw [nI_hle (by omega) (by omega)] at q; omega
      simp only [f_P_coresMeet_l2, S.2.1, if_neg hle]
      exact inner _ i hi) 64 0 (Nat.le_refl 0) (Nat.zero_le c) (by omega) with ⟨p, e⟩ | ⟨p, e⟩
  · exact e.trans (by rw [bP_t (P := Mts v c w c' ∨ _) (Or.inl p)])
  · exact e.trans (congrArg some (bP_c ⟨fun z => Or.inr z, fun z => z.elim (fun y => absurd y p) id⟩))
/-- a corner of v to the sides of w -/
def LtC (v : SV) (c : Nat) (w : SV) (c' : Nat) (r : Int) : Prop := ∃ i, i < c ∧ ∃ j, j < c' ∧ dQ (cs w j) (zx v i) (zy v i) r = -1
def LeC (v : SV) (c : Nat) (w : SV) (c' : Nat) (r : Int) : Prop := ∃ i, i < c ∧ ∃ j, j < c' ∧ dQ (cs w j) (zx v i) (zy v i) r ≠ 1
theorem ccor_ev {v w : SV} {c c' : Nat} {r : Int64} (S : Sds v c (eE v)) (S' : Sds w c' (eE w)) (hr : Rch r) : f_P_compareCorners v w r = some (mn (LtC v c w c' r.toInt) (LeC v c w c' r.toInt)) := by
  have hc := S.1
  unfold f_P_compareCorners
  have M := lp_mn (L := fun n a p => f_P_compareCorners_l6 v w n r a p) (lo := 0) (c := c) (P := fun i => ∃ j, j < c' ∧ dQ (cs w j) (zx v i) (zy v i) r.toInt = -1) (R := fun i => ∃ j, j < c' ∧ dQ (cs w j) (zx v i) (zy v i) r.toInt ≠ 1) (K := some) (fun n A B => ?_) (fun n A B k h1 h2 => ?_) 64 0 False False (Nat.le_refl 0) (Nat.zero_le c) (by omega)
  · rw [mn_ff] at M
    exact M.trans (congrArg some (mn_c or_ff or_ff))
  · simp only [f_P_compareCorners_l6]
    rw [S.2.1, if_pos (nI_hle (by omega) (by omega) |>.mpr (Nat.le_refl c))]; rfl
  · have hle : ¬ nI c ≤ nI k := fun q => by rw [nI_hle (by omega) (by omega)] at q; omega
    have l1 : ld 48 (sX v) (nI k) = some (sX v k) := ld_nI (by omega) (by decide)
    have l2 : ld 48 (sY v) (nI k) = some (sY v k) := ld_nI (by omega) (by decide)
    have e := ctos_ev (x := sX v k) (y := sY v k) S' (S.2.2.1 k h2) hr
    simp only [f_P_compareCorners_l6, S.2.1, if_neg hle, l1, l2, e, Option.bind_some, nI_1]
    by_cases h : A
    · rw [if_pos (mn_lt.mpr h)]; exact Or.inl ⟨h, rfl⟩
    · rw [if_neg (fun z => h (mn_lt.mp z)), mn_min]; exact Or.inr rfl
theorem ccores_ev {v w : SV} {c c' : Nat} {r : Int64} (S : Sds v c (eE v)) (hb : sB v = 0 ∨ sB v = 1) (S' : Sds w c' (eE w)) (hb' : sB w = 0 ∨ sB w = 1) (hr : Rch r) {M : Prop} (hM : f_P_coresMeet v w = some (bP M)) : (M ∧ f_P_compareCores v w r = some (cmpZ 0 r.toInt)) ∨ (¬ M ∧ f_P_compareCores v w r = some (mn (LtC v c w c' r.toInt ∨ LtC w c' v c r.toInt) (LeC v c w c' r.toInt ∨ LeC w c' v c r.toInt))) := by
  have t0 : (0 : Int64).toInt = 0 := by decide
  unfold f_P_compareCores
  rw [hM, Option.bind_some, jlc, t0, Option.bind_some]
  by_cases h : M
  · rw [if_neg (fun z => bP_z.mp z h)]; exact Or.inl ⟨h, rfl⟩
  · rw [if_pos (bP_f h), ccor_ev S S' hr, ccor_ev S' S hr]
    simp only [Option.bind_some]
    rw [mn_min]; exact Or.inr ⟨h, rfl⟩
/-! two cores: the reference -/
def Two (u : MV) (m : Nat) (f : Nat → Sg) (m' : Nat) (f' : Nat → Sg) : Prop := m ≤ 48 ∧ m' ≤ 48 ∧ md_size u 0 = nI m ∧ md_size u 1 = nI m' ∧ (∀ j, j < m → sg u j = f j) ∧ (∀ j, j < m' → sg u (48 + j) = f' j) ∧ (∀ j, j < m → Plc (f j).1 (f j).2.1 ∧ Plc (f j).2.2.1 (f j).2.2.2) ∧ ∀ j, j < m' → Plc (f' j).1 (f' j).2.1 ∧ Plc (f' j).2.2.1 (f' j).2.2.2
theorem two_sz {u : MV} {m m' : Nat} {f f' : Nat → Sg} (T : Two u m f m' f') : ld 2 (md_size u) 0 = some (nI m) ∧ ld 2 (md_size u) 1 = some (nI m') := by
  refine ⟨?_, ?_⟩
  · show ld 2 (md_size u) (nI 0) = _; rw [ld_nI (by decide) (by decide), T.2.2.1]
  · show ld 2 (md_size u) (nI 1) = _; rw [ld_nI (by decide) (by decide), T.2.2.2.1]
theorem sg_rd {u : MV} {k : Nat} {s : Sg} (hk : k < 96) (h : sg u k = s) : ld 96 (md_ax u) (nI k) = some s.1 ∧ ld 96 (md_ay u) (nI k) = some s.2.1 ∧ ld 96 (md_bx u) (nI k) = some s.2.2.1 ∧ ld 96 (md_by u) (nI k) = some s.2.2.2 := by
  rw [ld_nI hk (by decide), ld_nI hk (by decide), ld_nI hk (by decide), ld_nI hk (by decide), ← h]
  exact ⟨rfl, rfl, rfl, rfl⟩
def InC (m : Nat) (f : Nat → Sg) (A : Prop) (x y : Int) : Prop := (∃ j, j < m ∧ onQ (toQ (f j)) x y) ∨ (A ∧ sm (fun j => nP (crf (toQ (f j)) x y)) m % 2 = 1)
def HvC (m : Nat) (f : Nat → Sg) (A : Prop) (m' : Nat) (f' : Nat → Sg) (A' : Prop) : Prop := (∃ i, 0 ≤ i ∧ i < m ∧ (InC m' f' A' (f i).1.toInt (f i).2.1.toInt ∨ ∃ j, 0 ≤ j ∧ j < m' ∧ mtQ (toQ (f i)) (toQ (f' j)))) ∨ ∃ j, 0 ≤ j ∧ j < m' ∧ InC m f A (f' j).1.toInt (f' j).2.1.toInt
theorem common_ev {u : MV} {m m' a b : Nat} {f f' : Nat → Sg} {A A' : Prop} (T : Two u m f m' f') (ha : f_M_hasArea u (nI a) = some (bP A)) (hb : f_M_hasArea u (nI b) = some (bP A')) : f_M_haveCommon u (nI a) (nI b) = some (bP (HvC m f A m' f' A')) := by
  obtain ⟨s0, s1⟩ := two_sz T
  obtain ⟨hm, hm', z0, z1, hf, hf', pl, pl'⟩ := T
  have ic0 : ∀ {x y : Int64}, Plc x y → f_M_isInCore u 0 (nI a) x y = some (bP (InC m f A x.toInt y.toInt)) := fun p => incore_ev (h := 0) (by decide) hm z0 (fun j hj => by rw [show 48 * 0 + j = j by omega]; exact hf j hj) pl p ha
  have ic1 : ∀ {x y : Int64}, Plc x y → f_M_isInCore u 1 (nI b) x y = some (bP (InC m' f' A' x.toInt y.toInt)) := fun p => incore_ev (h := 1) (by decide) hm' z1 (fun j hj => by rw [show 48 * 1 + j = 48 + j by omega]; exact hf' j hj) pl' p hb
  have e48 : ∀ j, (48 : Int32) + nI j = nI (48 + j) := fun j => by rw [show (48 : Int32) = nI 48 from rfl, nI_add]
  have sh : ∀ {k n : Nat}, 48 + k < 2 ^ 31 → nI (48 + k) + 1 = nI (48 + (k + 1)) := fun _ => by rw [nI_1, Nat.add_assoc]
  -- the other's starts
  have l128 : f_M_haveCommon_l128 u 64 (nI a) 48 = some (bP (∃ j, 0 ≤ j ∧ j < m' ∧ InC m f A (f' j).1.toInt (f' j).2.1.toInt)) := by
    have M := lp_b (L := fun n p => f_M_haveCommon_l128 u n (nI a) (48 + p)) (lo := 0) (c := m') (P := fun j => InC m f A (f' j).1.toInt (f' j).2.1.toInt) (n := 64) (k := 0) (fun n => ?_) (fun n j _ hj => ?_) (Nat.le_refl 0) (Nat.zero_le m') (by omega)
    · exact M
    · have hle : nI (48 + m') ≤ nI (48 + m') := nI_hle (by omega) (by omega) |>.mpr (Nat.le_refl _)
      simp only [f_M_haveCommon_l128, s1, Option.bind_some, e48, if_pos hle, rb_0]
    · have hle : ¬ nI (48 + m') ≤ nI (48 + j) := fun q => by rw [nI_hle (by omega) (by omega)] at q; omega
      obtain ⟨r1, r2, r3, r4⟩ := sg_rd (by omega) (hf' j hj)
      simp only [f_M_haveCommon_l128, s1, Option.bind_some, e48, if_neg hle, r1, r2, ic0 (pl' j hj).1, nI_1, ← Nat.add_assoc, rb_1]
      by_cases h : InC m f A (f' j).1.toInt (f' j).2.1.toInt
      · rw [if_neg (fun z => bP_z.mp z h)]; exact Or.inl ⟨h, rfl⟩
      · rw [if_pos (bP_f h)]; exact Or.inr ⟨h, rfl⟩
  have l39 : ∀ (K2 : Int32 → Int32 → Int32 → Option Int32) (i : Nat), i < m → ((∃ j, 0 ≤ j ∧ j < m' ∧ mtQ (toQ (f i)) (toQ (f' j))) ∧ f_M_haveCommon_l39 u K2 64 (nI a) (nI b) (nI i) 48 = some 1) ∨ ((¬ ∃ j, 0 ≤ j ∧ j < m' ∧ mtQ (toQ (f i)) (toQ (f' j))) ∧ f_M_haveCommon_l39 u K2 64 (nI a) (nI b) (nI i) 48 = K2 (nI a) (nI b) (nI (i + 1))) := by
    intro K2 i hi
    have M := lp_ex (L := fun n p => f_M_haveCommon_l39 u K2 n (nI a) (nI b) (nI i) (48 + p)) (lo := 0) (c := m') (P := fun j => mtQ (toQ (f i)) (toQ (f' j))) (yes := some 1) (no := K2 (nI a) (nI b) (nI (i + 1))) (fun n => ?_) (fun n j _ hj => ?_) 64 0 (Nat.le_refl 0) (Nat.zero_le m') (by omega)
    · exact M
    · have hle : nI (48 + m') ≤ nI (48 + m') := nI_hle (by omega) (by omega) |>.mpr (Nat.le_refl _)
      simp only [f_M_haveCommon_l39, s1, Option.bind_some, e48, if_pos hle, nI_1]
    · have hle : ¬ nI (48 + m') ≤ nI (48 + j) := fun q => by rw [nI_hle (by omega) (by omega)] at q; omega
      obtain ⟨r1, r2, r3, r4⟩ := sg_rd (by omega) (hf' j hj)
      obtain ⟨q1, q2, q3, q4⟩ := sg_rd (by omega) (hf i hi)
      have me : f_M_meet (f i).1 (f i).2.1 (f i).2.2.1 (f i).2.2.2 (f' j).1 (f' j).2.1 (f' j).2.2.1 (f' j).2.2.2 = some (bP (mtQ (toQ (f i)) (toQ (f' j)))) := meet_ev (pl i hi).1 (pl i hi).2 (pl' j hj).1 (pl' j hj).2
      simp only [f_M_haveCommon_l39, s1, Option.bind_some, e48, if_neg hle, r1, r2, r3, r4, q1, q2, q3, q4, me, nI_1, ← Nat.add_assoc, rb_1]
      by_cases h : mtQ (toQ (f i)) (toQ (f' j))
      · rw [if_neg (fun z => bP_z.mp z h)]; exact Or.inl ⟨h, rfl⟩
      · rw [if_pos (bP_f h)]; exact Or.inr ⟨h, rfl⟩
  unfold f_M_haveCommon HvC
  have fin : ∀ n, f_M_haveCommon_l2 u (n + 1) (nI a) (nI b) (nI m) = some (bP (∃ j, 0 ≤ j ∧ j < m' ∧ InC m f A (f' j).1.toInt (f' j).2.1.toInt)) := fun n => by
    have hle : nI m ≤ nI m := nI_hle (by omega) (by omega) |>.mpr (Nat.le_refl _)
    simp only [f_M_haveCommon_l2, s0, Option.bind_some, if_pos hle, l128]
  rcases lp_ex (L := fun n p => f_M_haveCommon_l2 u n (nI a) (nI b) p) (lo := 0) (c := m) (P := fun i => InC m' f' A' (f i).1.toInt (f i).2.1.toInt ∨ ∃ j, 0 ≤ j ∧ j < m' ∧ mtQ (toQ (f i)) (toQ (f' j))) (yes := some 1) fin (fun n i _ hi => by
      have hle : ¬ nI m ≤ nI i := fun q => by rw [nI_hle (by omega) (by omega)] at q; omega
      obtain ⟨q1, q2, q3, q4⟩ := sg_rd (by omega) (hf i hi)
      simp only [f_M_haveCommon_l2, s0, Option.bind_some, if_neg hle, q1, q2, ic1 (pl i hi).1, rb_1]
      by_cases h : InC m' f' A' (f i).1.toInt (f i).2.1.toInt
      · rw [if_neg (fun z => bP_z.mp z h)]; exact Or.inl ⟨Or.inl h, rfl⟩
      · rw [if_pos (bP_f h)]
        rcases l39 (f_M_haveCommon_l2 u n) i hi with ⟨p, e⟩ | ⟨p, e⟩
        · exact Or.inl ⟨Or.inr p, e⟩
        · exact Or.inr ⟨fun z => z.elim h p, e⟩) 64 0 (Nat.le_refl 0) (Nat.zero_le m) (by omega) with ⟨p, e⟩ | ⟨p, e⟩
  · exact e.trans (by rw [bP_t (P := _ ∨ _) (Or.inl p)])
  · exact e.trans (congrArg some (bP_c ⟨fun z => Or.inr z, fun z => z.elim (fun y => absurd y p) id⟩))
