/-! the reference's ring -/
def rmS (w : SV) (a m b n : Nat) : Prop := rmt (zx w a) (zy w a) (zx w m) (zy w m) (zx w b) (zy w b) (zx w n) (zy w n)
/-- shape i of the reference has the corners of w -/
def Crn (mv : MV) (i : Nat) (w : SV) (c : Nat) : Prop := i < 40 ∧ c ≤ 48 ∧ SameC w (mvS mv i) c ∧ ∀ k, k < c → Plc (sX w k) (sY w k)
theorem crn_xy {mv : MV} {i c k : Nat} {w : SV} (C : Crn mv i w c) (hk : k < c) : f_M_x mv (nI i) (nI k) = some (sX w k) ∧ f_M_y mv (nI i) (nI k) = some (sY w k) := by
  obtain ⟨hi, hc, hs, -⟩ := C
  obtain ⟨e1, e2⟩ := mx_ev (mv := mv) (i := i) (k := k) hi (by omega)
  obtain ⟨s1, s2⟩ := hs k hk
  rw [e1, e2, s1, s2]; exact ⟨rfl, rfl⟩
theorem bh_lt {k o c t : Nat} (h1 : k < t) (h2 : t ≤ c) (h3 : o < c) : bh k o t < c := by
  rcases bh_or (o := o) h1 with ⟨e, z⟩ | ⟨e, z⟩ <;> omega
theorem sidesM_ev {mv : MV} {i c a f t b f' t' : Nat} {w : SV} (C : Crn mv i w c) (ha : a < t) (ht : t ≤ c) (hf : f < c) (hb : b < t') (ht' : t' ≤ c) (hf' : f' < c) : f_M_sidesMeet mv (nI i) (nI a) (nI f) (nI t) (nI b) (nI f') (nI t') = some (bP (rmS w a (bh a f t) b (bh b f' t'))) := by
  have hc := C.2.1
  have m1 := bh_lt ha ht hf
  have m2 := bh_lt hb ht' hf'
  obtain ⟨x1, y1⟩ := crn_xy C (show a < c by omega)
  obtain ⟨x2, y2⟩ := crn_xy C m1
  obtain ⟨x3, y3⟩ := crn_xy C (show b < c by omega)
  obtain ⟨x4, y4⟩ := crn_xy C m2
  unfold f_M_sidesMeet
  rw [behind_ev ha (by omega), behind_ev hb (by omega), Option.bind_some, Option.bind_some, x1, y1, x2, y2, x3, y3, x4, y4]
  simp only [Option.bind_some]
  rw [meet_ev (C.2.2.2 a (by omega)) (C.2.2.2 _ m1) (C.2.2.2 b (by omega)) (C.2.2.2 _ m2), Option.bind_some]
  exact bP_rb _
def fld (w : SV) (k m n : Nat) : Prop := crs (zx w k) (zy w k) (zx w m) (zy w m) (zx w n) (zy w n) = 0 ∧ ¬ onp (zx w k) (zy w k) (zx w n) (zy w n) (zx w m) (zy w m) ∧ ¬ ((sX w k = sX w m ∧ sY w k = sY w m) ∨ (sX w m = sX w n ∧ sY w m = sY w n))
theorem folds_ev {mv : MV} {i c o k : Nat} {w : SV} (C : Crn mv i w c) (hk : k < c) (ho : o < c) : f_M_foldsBack mv (nI i) (nI k) (nI o) (nI c) = some (bP (fld w k (bh k o c) (bh (bh k o c) o c))) := by
  have hc := C.2.1
  have m1 := bh_lt hk (Nat.le_refl c) ho
  have m2 := bh_lt m1 (Nat.le_refl c) ho
  unfold f_M_foldsBack
  rw [behind_ev hk (by omega), Option.bind_some, behind_ev m1 (by omega), Option.bind_some]
  generalize bh (bh k o c) o c = n at *
  generalize bh k o c = m at *
  obtain ⟨x1, y1⟩ := crn_xy C hk
  obtain ⟨x2, y2⟩ := crn_xy C m1
  obtain ⟨x3, y3⟩ := crn_xy C m2
  have j70 : ∀ s : Int32, f_M_foldsBack_j70 mv (nI i) (nI k) (nI m) (nI n) s = f_M_foldsBack_j192 mv s (bP (onp (zx w k) (zy w k) (zx w n) (zy w n) (zx w m) (zy w m))) (bP ((sX w k = sX w m ∧ sY w k = sY w m) ∨ (sX w m = sX w n ∧ sY w m = sY w n))) := by
    intro s
    unfold f_M_foldsBack_j70 f_M_foldsBack_j151 f_M_foldsBack_j187 f_M_foldsBack_j191
    rw [x1, y1, x2, y2, x3, y3]
    simp only [Option.bind_some]
    rw [ison_ev (C.2.2.2 m m1) (C.2.2.2 k hk) (C.2.2.2 n m2), Option.bind_some]
    simp only [lgc_same]
    by_cases h1 : sX w k = sX w m
    · rw [if_pos h1]
      by_cases h2 : sY w k = sY w m
      · rw [if_pos h2, bP_t (Or.inl ⟨h1, h2⟩)]
      · rw [if_neg h2]
        by_cases h3 : sX w m = sX w n
        · rw [if_pos h3]
          by_cases h4 : sY w m = sY w n
          · rw [if_pos h4, bP_t (Or.inr ⟨h3, h4⟩)]
          · rw [if_neg h4, bP_f (P := _ ∨ _) (fun z => z.elim (fun y => h2 y.2) (fun y => h4 y.2))]
        · rw [if_neg h3, bP_f (P := _ ∨ _) (fun z => z.elim (fun y => h2 y.2) (fun y => h3 y.1))]
    · rw [if_neg h1]
      by_cases h3 : sX w m = sX w n
      · rw [if_pos h3]
        by_cases h4 : sY w m = sY w n
        · rw [if_pos h4, bP_t (Or.inr ⟨h3, h4⟩)]
        · rw [if_neg h4, bP_f (P := _ ∨ _) (fun z => z.elim (fun y => h1 y.1) (fun y => h4 y.2))]
      · rw [if_neg h3, bP_f (P := _ ∨ _) (fun z => z.elim (fun y => h1 y.1) (fun y => h3 y.1))]
  rw [x1, y1, x2, y2, x3, y3]
  simp only [Option.bind_some]
  rw [turn_ev (C.2.2.2 k hk) (C.2.2.2 m m1) (C.2.2.2 n m2), Option.bind_some, j70, j70]
  unfold f_M_foldsBack_j192 f_M_foldsBack_j213 f_M_foldsBack_j214 fld
  rw [if_neg one_n0, if_pos rfl]
  by_cases h1 : crs (zx w k) (zy w k) (zx w m) (zy w m) (zx w n) (zy w n) = 0
  · rw [if_pos (cmp_0.mpr h1)]
    by_cases h2 : onp (zx w k) (zy w k) (zx w n) (zy w n) (zx w m) (zy w m)
    · rw [if_neg (fun z => bP_z.mp z h2), bP_f (P := _ ∧ _) (fun z => z.2.1 h2)]; exact rb_0
    · rw [if_pos (bP_f h2)]
      by_cases h3 : ((sX w k = sX w m ∧ sY w k = sY w m) ∨ (sX w m = sX w n ∧ sY w m = sY w n))
      · rw [if_neg (fun z => bP_z.mp z h3), bP_f (P := _ ∧ _) (fun z => z.2.2 h3)]; exact rb_0
      · rw [if_pos (bP_f h3), bP_t ⟨h1, h2, h3⟩]; exact rb_1
  · rw [if_neg (fun z => h1 (cmp_0.mp z)), bP_f (P := _ ∧ _) (fun z => h1 z.1)]; exact rb_0
theorem empty_M {mv : MV} {i c o : Nat} {w : SV} (C : Crn mv i w c) (ho : o < c) : f_M_isEmpty mv (nI i) (nI o) (nI c) = some (bP (True ∧ ∀ a, o ≤ a → a < c → ∀ b, o ≤ b → b < c → crs (zx w o) (zy w o) (zx w a) (zy w a) (zx w b) (zy w b) = 0)) := by
  have hc := C.2.1
  obtain ⟨x1, y1⟩ := crn_xy C ho
  have inner : ∀ (K : Int32 → Int32 → Int32 → Int32 → Int32 → Option Int32) (a : Nat) (F : Prop), o ≤ a → a < c → f_M_isEmpty_l15 mv K 64 (nI i) (nI o) (nI c) (bP F) (nI a) (nI o) = K (nI i) (nI o) (nI c) (bP (F ∧ ∀ b, o ≤ b → b < c → crs (zx w o) (zy w o) (zx w a) (zy w a) (zx w b) (zy w b) = 0)) (nI (a + 1)) := by
    intro K a F h1 h2
    obtain ⟨x2, y2⟩ := crn_xy C h2
    refine lp_al (L := fun n f p => f_M_isEmpty_l15 mv K n (nI i) (nI o) (nI c) f (nI a) p) (K := fun f => K (nI i) (nI o) (nI c) f (nI (a + 1))) (lo := o) (c := c) (fun n F => ?_) (fun n F b h3 h4 => ?_) 64 o F (Nat.le_refl o) (by omega) (by omega)
    · simp only [f_M_isEmpty_l15]
      rw [if_pos (nI_hle (by omega) (by omega) |>.mpr (Nat.le_refl c)), nI_1]
    · obtain ⟨x3, y3⟩ := crn_xy C h4
      simp only [f_M_isEmpty_l15]
      rw [if_neg (fun q => by rw [nI_hle (by omega) (by omega)] at q; omega), x1, y1, x2, y2, x3, y3]
      simp only [Option.bind_some]
      rw [turn_ev (C.2.2.2 o ho) (C.2.2.2 a h2) (C.2.2.2 b h4), Option.bind_some]
      unfold f_M_isEmpty_j76 f_M_isEmpty_j77
      rw [nI_1]
      by_cases hF : F
      · rw [if_neg (fun z => bP_z.mp z hF)]
        by_cases h5 : crs (zx w o) (zy w o) (zx w a) (zy w a) (zx w b) (zy w b) = 0
        · rw [if_pos (cmp_0.mpr h5), bP_t ⟨hF, h5⟩]
        · rw [if_neg (fun z => h5 (cmp_0.mp z)), bP_f (P := _ ∧ _) (fun z => h5 z.2)]
      · rw [if_pos (bP_f hF), bP_f (P := _ ∧ _) (fun z => hF z.1)]
  unfold f_M_isEmpty
  rw [show (1 : Int32) = bP True from (bP_t trivial).symm]
  refine lp_al (L := fun n f p => f_M_isEmpty_l6 mv n (nI i) (nI o) (nI c) f p) (K := fun f => some f) (lo := o) (c := c) (fun n F => ?_) (fun n F a h1 h2 => ?_) 64 o True (Nat.le_refl o) (by omega) (by omega)
  · simp only [f_M_isEmpty_l6]
    rw [if_pos (nI_hle (by omega) (by omega) |>.mpr (Nat.le_refl c))]; exact bP_rb _
  · simp only [f_M_isEmpty_l6]
    rw [if_neg (fun q => by rw [nI_hle (by omega) (by omega)] at q; omega)]
    exact inner _ a F h1 h2
def XM (w : SV) (o c g : Nat) (B : Nat → Nat) (a : Nat) : Prop := fld w a (bh a o c) (bh (bh a o c) o c) ∨ (∃ b, o ≤ b ∧ b < c ∧ (a ≠ b ∧ bh a o c ≠ b ∧ bh b o c ≠ a) ∧ rmS w a (bh a o c) b (bh b o c)) ∨ ∃ r, 0 ≤ r ∧ r < g ∧ ∃ b, B r ≤ b ∧ b < B (r + 1) ∧ rmS w a (bh a o c) b (bh b (B r) (B (r + 1)))
theorem crossing_M {mv : MV} {i c o g : Nat} {B : Nat → Nat} {w : SV} (C : Crn mv i w c) (ho : o < c) (hg : g ≤ 16) (eg : qG (mvS mv i) = nI g) (hB : ∀ r, r < g → B r < B (r + 1) ∧ B (r + 1) ≤ o ∧ qE (mvS mv i) r = nI (B (r + 1))) (hB0 : B 0 = 0) : f_M_isCrossing mv (nI i) (nI o) (nI c) = some (bP (∃ a, o ≤ a ∧ a < c ∧ XM w o c g B a)) := by
  have hc := C.2.1
  have h40 := C.1
  -- an old ring
  have l134 : ∀ (K3 : Int32 → Int32 → Int32 → Int32 → Option Int32) (K105 : Int32 → Int32 → Int32 → Int32 → Int32 → Int32 → Option Int32) (a r : Nat), a < c → r < g → ((∃ b, B r ≤ b ∧ b < B (r + 1) ∧ rmS w a (bh a o c) b (bh b (B r) (B (r + 1)))) ∧ f_M_isCrossing_l134 mv K3 K105 64 (nI i) (nI o) (nI c) (nI a) (nI (B r)) (nI r) (nI (B (r + 1))) (nI (B r)) = some 1) ∨ ((¬ ∃ b, B r ≤ b ∧ b < B (r + 1) ∧ rmS w a (bh a o c) b (bh b (B r) (B (r + 1)))) ∧ f_M_isCrossing_l134 mv K3 K105 64 (nI i) (nI o) (nI c) (nI a) (nI (B r)) (nI r) (nI (B (r + 1))) (nI (B r)) = K105 (nI i) (nI o) (nI c) (nI a) (nI (B (r + 1))) (nI (r + 1))) := by
    intro K3 K105 a r ha hr
    obtain ⟨b1, b2, -⟩ := hB r hr
    refine lp_ex (L := fun n p => f_M_isCrossing_l134 mv K3 K105 n (nI i) (nI o) (nI c) (nI a) (nI (B r)) (nI r) (nI (B (r + 1))) p) (lo := B r) (c := B (r + 1)) (fun n => ?_) (fun n b h1 h2 => ?_) 64 (B r) (Nat.le_refl _) (by omega) (by omega)
    · simp only [f_M_isCrossing_l134]
      rw [if_pos (nI_hle (by omega) (by omega) |>.mpr (Nat.le_refl _)), nI_1]
    · simp only [f_M_isCrossing_l134]
      rw [if_neg (fun q => by rw [nI_hle (by omega) (by omega)] at q; omega), sidesM_ev C ha (Nat.le_refl c) ho h2 (by omega) (by omega), Option.bind_some, nI_1]
      by_cases h : rmS w a (bh a o c) b (bh b (B r) (B (r + 1)))
      · rw [if_neg (fun z => bP_z.mp z h)]; exact Or.inl ⟨h, rb_1⟩
      · rw [if_pos (bP_f h)]; exact Or.inr ⟨h, rfl⟩
  -- all old rings
  have l105 : ∀ (K3 : Int32 → Int32 → Int32 → Int32 → Option Int32) (a : Nat), a < c → ((∃ r, 0 ≤ r ∧ r < g ∧ ∃ b, B r ≤ b ∧ b < B (r + 1) ∧ rmS w a (bh a o c) b (bh b (B r) (B (r + 1)))) ∧ f_M_isCrossing_l105 mv K3 64 (nI i) (nI o) (nI c) (nI a) 0 0 = some 1) ∨ ((¬ ∃ r, 0 ≤ r ∧ r < g ∧ ∃ b, B r ≤ b ∧ b < B (r + 1) ∧ rmS w a (bh a o c) b (bh b (B r) (B (r + 1)))) ∧ f_M_isCrossing_l105 mv K3 64 (nI i) (nI o) (nI c) (nI a) 0 0 = K3 (nI i) (nI o) (nI c) (nI (a + 1))) := by
    intro K3 a ha
    have lg : ld 40 (md_rings mv) (nI i) = some (nI g) := by rw [ld_nI h40 (by decide)]; exact congrArg some eg
    have M := lp_ex (L := fun n p => f_M_isCrossing_l105 mv K3 n (nI i) (nI o) (nI c) (nI a) (nI (B p.toNatClampNeg)) p) (lo := 0) (c := g) (P := fun r => ∃ b, B r ≤ b ∧ b < B (r + 1) ∧ rmS w a (bh a o c) b (bh b (B r) (B (r + 1)))) (yes := some 1) (no := K3 (nI i) (nI o) (nI c) (nI (a + 1))) (fun n => ?_) (fun n r h1 h2 => ?_) 64 0 (Nat.le_refl _) (by omega) (by omega)
    · have z : nI (B (nI 0).toNatClampNeg) = 0 := by rw [nI_clamp (by decide), hB0]; rfl
      simp only [z] at M
      exact M
    · simp only [f_M_isCrossing_l105]
      rw [lg, Option.bind_some, if_pos (nI_hle (by omega) (by omega) |>.mpr (Nat.le_refl _)), nI_1]
    · simp only [f_M_isCrossing_l105]
      have le : ld 640 (md_ends mv) ((16 : Int32) * nI i + nI r) = some (nI (B (r + 1))) := by
        rw [show (16 : Int32) = nI 16 from rfl, pk_mul, nI_add, ld_nI (by omega) (by decide)]; exact congrArg some (hB r h2).2.2
      rw [lg, Option.bind_some, if_neg (fun q => by rw [nI_hle (by omega) (by omega)] at q; omega), le, Option.bind_some, nI_clamp (by omega), nI_clamp (by omega)]
      exact l134 K3 _ a r ha h2
  -- the ring itself
  have l26 : ∀ (K3 : Int32 → Int32 → Int32 → Int32 → Option Int32) (a : Nat), a < c → ((∃ b, o ≤ b ∧ b < c ∧ (a ≠ b ∧ bh a o c ≠ b ∧ bh b o c ≠ a) ∧ rmS w a (bh a o c) b (bh b o c)) ∧ f_M_isCrossing_l26 mv K3 64 (nI i) (nI o) (nI c) (nI a) (nI o) = some 1) ∨ ((¬ ∃ b, o ≤ b ∧ b < c ∧ (a ≠ b ∧ bh a o c ≠ b ∧ bh b o c ≠ a) ∧ rmS w a (bh a o c) b (bh b o c)) ∧ f_M_isCrossing_l26 mv K3 64 (nI i) (nI o) (nI c) (nI a) (nI o) = f_M_isCrossing_l105 mv K3 64 (nI i) (nI o) (nI c) (nI a) 0 0) := by
    intro K3 a ha
    refine lp_ex (L := fun n p => f_M_isCrossing_l26 mv K3 n (nI i) (nI o) (nI c) (nI a) p) (lo := o) (c := c) (P := fun b => (a ≠ b ∧ bh a o c ≠ b ∧ bh b o c ≠ a) ∧ rmS w a (bh a o c) b (bh b o c)) (fun n => ?_) (fun n b h1 h2 => ?_) 64 o (Nat.le_refl _) (by omega) (by omega)
    · simp only [f_M_isCrossing_l26]
      rw [if_pos (nI_hle (by omega) (by omega) |>.mpr (Nat.le_refl _))]
    · have m1 := bh_lt ha (Nat.le_refl c) ho
      have m2 := bh_lt h2 (Nat.le_refl c) ho
      simp only [f_M_isCrossing_l26]
      rw [if_neg (fun q => by rw [nI_hle (by omega) (by omega)] at q; omega), behind_ev ha (by omega), behind_ev h2 (by omega), Option.bind_some, Option.bind_some]
      have q1 : (nI a = nI b) ↔ a = b := nI_eq (by omega) (by omega)
      have q2 : (nI (bh a o c) = nI b) ↔ bh a o c = b := nI_eq (by omega) (by omega)
      have q3 : (nI (bh b o c) = nI a) ↔ bh b o c = a := nI_eq (by omega) (by omega)
      unfold f_M_isCrossing_j67 f_M_isCrossing_j68 f_M_isCrossing_j93
      rw [if_neg one_n0, if_pos rfl, sidesM_ev C ha (Nat.le_refl c) ho h2 (Nat.le_refl c) ho, Option.bind_some, nI_1]
      by_cases z1 : a = b
      · rw [if_pos (q1.mpr z1)]; exact Or.inr ⟨fun q => q.1.1 z1, rfl⟩
      rw [if_neg (fun z => z1 (q1.mp z))]
      by_cases z2 : bh a o c = b
      · rw [if_pos (q2.mpr z2)]; exact Or.inr ⟨fun q => q.1.2.1 z2, rfl⟩
      rw [if_neg (fun z => z2 (q2.mp z))]
      by_cases z3 : bh b o c = a
      · rw [if_pos (q3.mpr z3)]; exact Or.inr ⟨fun q => q.1.2.2 z3, rfl⟩
      rw [if_neg (fun z => z3 (q3.mp z))]
      by_cases z4 : rmS w a (bh a o c) b (bh b o c)
      · rw [if_neg (fun z => bP_z.mp z z4)]; exact Or.inl ⟨⟨⟨z1, z2, z3⟩, z4⟩, rb_1⟩
      · rw [if_pos (bP_f z4)]; exact Or.inr ⟨fun q => z4 q.2, rfl⟩
  unfold f_M_isCrossing
  refine lp_b (L := fun n p => f_M_isCrossing_l3 mv n (nI i) (nI o) (nI c) p) (lo := o) (c := c) (fun n => ?_) (fun n a h1 h2 => ?_) (Nat.le_refl o) (by omega) (by omega)
  · simp only [f_M_isCrossing_l3]
    rw [if_pos (nI_hle (by omega) (by omega) |>.mpr (Nat.le_refl c))]; exact rb_0
  · simp only [f_M_isCrossing_l3]
    rw [if_neg (fun q => by rw [nI_hle (by omega) (by omega)] at q; omega), folds_ev C h2 ho, Option.bind_some]
    unfold XM
    by_cases z1 : fld w a (bh a o c) (bh (bh a o c) o c)
    · rw [if_neg (fun z => bP_z.mp z z1)]; exact Or.inl ⟨Or.inl z1, rb_1⟩
    rw [if_pos (bP_f z1)]
    rcases l26 (f_M_isCrossing_l3 mv n) a h2 with ⟨p, e⟩ | ⟨p, e⟩
    · exact Or.inl ⟨Or.inr (Or.inl p), e⟩
    · rcases l105 (f_M_isCrossing_l3 mv n) a h2 with ⟨p', e'⟩ | ⟨p', e'⟩
      · exact Or.inl ⟨Or.inr (Or.inr p'), e.trans e'⟩
      · exact Or.inr ⟨fun z => z.elim z1 (fun z => z.elim p p'), e.trans e'⟩
