/-! closing a ring -/
theorem crs_cy (a b c d x y : Int) : crs c d x y a b = crs a b c d x y := by unfold crs; grind
theorem crs_tr (a b c d x y : Int) : crs a b x y c d = -crs a b c d x y := by unfold crs; grind
theorem crs_s (a b c d : Int) : crs a b c d a b = 0 := (onp_start a b c d).2.2
theorem crs_e (a b c d : Int) : crs a b c d c d = 0 := (onp_end a b c d).2.2
theorem crs_lin {o1 o2 d1 d2 u1 u2 v1 v2 : Int} (hd : ¬ (d1 = o1 ∧ d2 = o2)) (hu : crs o1 o2 d1 d2 u1 u2 = 0) (hv : crs o1 o2 d1 d2 v1 v2 = 0) : crs o1 o2 u1 u2 v1 v2 = 0 := by
  have e1 : (d1 - o1) * crs o1 o2 u1 u2 v1 v2 = (u1 - o1) * crs o1 o2 d1 d2 v1 v2 - (v1 - o1) * crs o1 o2 d1 d2 u1 u2 := by unfold crs; grind
  have e2 : (d2 - o2) * crs o1 o2 u1 u2 v1 v2 = (u2 - o2) * crs o1 o2 d1 d2 v1 v2 - (v2 - o2) * crs o1 o2 d1 d2 u1 u2 := by unfold crs; grind
  rw [hu, hv, Int.mul_zero, Int.mul_zero] at e1 e2
  rcases Int.mul_eq_zero.mp e1 with z1 | z1
  · rcases Int.mul_eq_zero.mp e2 with z2 | z2
    · exact absurd ⟨by omega, by omega⟩ hd
    · exact z2
  · exact z1
theorem dif_z {w : SV} {k j : Nat} (h : Dif w k j) : ¬ (zx w j = zx w k ∧ zy w j = zy w k) := by
  rintro ⟨a, b⟩
  rcases h with h | h
  · exact h (Int64.toInt_inj.mp a.symm)
  · exact h (Int64.toInt_inj.mp b.symm)
theorem empty_iff {w : SV} {c o : Nat} (hoc : o < c) (he : o + 1 < c → eE w o = o + 1) (hd : o + 1 < c → Dif w o (o + 1)) : (∀ i, o + 2 ≤ i → i < c → crs (zx w o) (zy w o) (zx w (eE w o)) (zy w (eE w o)) (zx w i) (zy w i) = 0) ↔ (True ∧ ∀ a, o ≤ a → a < c → ∀ b, o ≤ b → b < c → crs (zx w o) (zy w o) (zx w a) (zy w a) (zx w b) (zy w b) = 0) := by
  constructor
  · intro h
    refine ⟨trivial, fun a a1 a2 b b1 b2 => ?_⟩
    by_cases z : o + 1 < c
    · rw [he z] at h
      have all : ∀ i, o ≤ i → i < c → crs (zx w o) (zy w o) (zx w (o + 1)) (zy w (o + 1)) (zx w i) (zy w i) = 0 := by
        intro i i1 i2
        by_cases y1 : i = o
        · rw [y1]; exact crs_s _ _ _ _
        · by_cases y2 : i = o + 1
          · rw [y2]; exact crs_e _ _ _ _
          · exact h i (by omega) i2
      exact crs_lin (dif_z (hd z)) (all a a1 a2) (all b b1 b2)
    · rw [show b = o by omega]; exact crs_s _ _ _ _
  · rintro ⟨-, h⟩ i i1 i2
    rw [he (by omega)]
    exact h (o + 1) (by omega) (by omega) i (by omega) i2
theorem fold_on {k1 k2 m1 m2 n1 n2 : Int} (h : crs k1 k2 m1 m2 n1 n2 = 0) (ha : ¬ onp k1 k2 n1 n2 m1 m2) (hk : ¬ (m1 = k1 ∧ m2 = k2)) : onp k1 k2 m1 m2 n1 n2 ∨ onp m1 m2 n1 n2 k1 k2 := by
  have hK := crs_s k1 k2 m1 m2
  have hM := crs_e k1 k2 m1 m2
  have h2 : crs m1 m2 n1 n2 k1 k2 = 0 := by rw [crs_cy]; exact h
  have h3 : crs k1 k2 n1 n2 m1 m2 = 0 := by rw [crs_tr, h]; rfl
  by_cases z : m1 - k1 = 0
  · have z2 : m2 - k2 ≠ 0 := fun y => hk ⟨by omega, by omega⟩
    have lb : ∀ {u1 u2 v1 v2 w1 w2 : Int}, crs k1 k2 m1 m2 u1 u2 = 0 → crs k1 k2 m1 m2 v1 v2 = 0 → crs k1 k2 m1 m2 w1 w2 = 0 → btw u2 v2 w2 → btw u1 v1 w1 := fun hu hv hw hb => line_btw z2 (on_line hu hv).symm (on_line hw hu).symm hb
    have c : btw n2 k2 m2 ∨ btw k2 m2 n2 ∨ btw m2 k2 n2 := by unfold btw; omega
    rcases c with c | c | c
    · exact Or.inl ⟨lb h hK hM c, c, h⟩
    · exact Or.inr ⟨lb hK hM h c, c, h2⟩
    · exact absurd ⟨lb hM hK h c, c, h3⟩ ha
  · have lb : ∀ {u1 u2 v1 v2 w1 w2 : Int}, crs k1 k2 m1 m2 u1 u2 = 0 → crs k1 k2 m1 m2 v1 v2 = 0 → crs k1 k2 m1 m2 w1 w2 = 0 → btw u1 v1 w1 → btw u2 v2 w2 := fun hu hv hw hb => line_btw z (on_line hu hv) (on_line hw hu) hb
    have c : btw n1 k1 m1 ∨ btw k1 m1 n1 ∨ btw m1 k1 n1 := by unfold btw; omega
    rcases c with c | c | c
    · exact Or.inl ⟨c, lb h hK hM c, h⟩
    · exact Or.inr ⟨c, lb hK hM h c, h2⟩
    · exact absurd ⟨c, lb hM hK h c, h3⟩ ha
theorem ring_of {B : Nat → Nat} (h0 : B 0 = 0) : ∀ g j, j < B g → ∃ r, r < g ∧ B r ≤ j ∧ j < B (r + 1)
  | 0, j, h => by omega
  | g + 1, j, h => by
    by_cases z : j < B g
    · obtain ⟨r, a, b, d⟩ := ring_of h0 g j z
      exact ⟨r, by omega, b, d⟩
    · exact ⟨g, by omega, by omega, h⟩
theorem cross_iff {w : SV} {c o g : Nat} {B : Nat → Nat} (E : ∀ k, o ≤ k → k < c → eE w k = bh k o c) (E' : ∀ r k, r < g → B r ≤ k → k < B (r + 1) → eE w k = bh k (B r) (B (r + 1))) (hB0 : B 0 = 0) (hBg : B g = o) (hB : ∀ r, r < g → B r + 3 ≤ B (r + 1) ∧ B (r + 1) ≤ o) (hne : ∃ i, o + 2 ≤ i ∧ i < c ∧ ¬ crs (zx w o) (zy w o) (zx w (o + 1)) (zy w (o + 1)) (zx w i) (zy w i) = 0) :
    (∃ i, o ≤ i ∧ i < c ∧ ∃ j, 0 ≤ j ∧ j < i ∧ eE w i ≠ j ∧ eE w j ≠ i ∧ smS w (eE w) i w (eE w) j) ↔ ∃ a, o ≤ a ∧ a < c ∧ XM w o c g B a := by
  have sr : ∀ i j, smS w (eE w) i w (eE w) j ↔ rmS w i (eE w i) j (eE w j) := fun i j => meet_iff
  constructor
  · rintro ⟨i, i1, i2, j, -, j2, f1, f2, m⟩
    rw [sr] at m
    by_cases z : o ≤ j
    · rw [E i i1 i2, E j z (by omega)] at m
      rw [E i i1 i2] at f1
      rw [E j z (by omega)] at f2
      exact ⟨i, i1, i2, Or.inr (Or.inl ⟨j, z, by omega, ⟨by omega, f1, f2⟩, m⟩)⟩
    · obtain ⟨r, r1, r2, r3⟩ := ring_of hB0 g j (by omega)
      rw [E i i1 i2, E' r j r1 r2 r3] at m
      exact ⟨i, i1, i2, Or.inr (Or.inr ⟨r, Nat.zero_le r, r1, j, r2, r3, m⟩)⟩
  · -- two sides of the ring that don't follow one another
    have pair : ∀ x y, o ≤ x → x < c → o ≤ y → y < c → x ≠ y → bh x o c ≠ y → bh y o c ≠ x → rmS w x (bh x o c) y (bh y o c) → ∃ i, o ≤ i ∧ i < c ∧ ∃ j, 0 ≤ j ∧ j < i ∧ eE w i ≠ j ∧ eE w j ≠ i ∧ smS w (eE w) i w (eE w) j := by
      intro x y x1 x2 y1 y2 n f1 f2 m
      rw [← E x x1 x2] at f1 m
      rw [← E y y1 y2] at f2 m
      by_cases z : y < x
      · exact ⟨x, x1, x2, y, Nat.zero_le y, z, f1, f2, (sr x y).mpr m⟩
      · exact ⟨y, y1, y2, x, Nat.zero_le x, by omega, f2, f1, (sr y x).mpr (rmt_cm.mp m)⟩
    rintro ⟨a, a1, a2, h | ⟨b, b1, b2, ⟨n, f1, f2⟩, m⟩ | ⟨r, -, r1, b, b1, b2, m⟩⟩
    · obtain ⟨h1, h2, h3⟩ := h
      have m1 : bh a o c < c := bh_lt a2 (Nat.le_refl c) (by omega)
      have m2 : bh (bh a o c) o c < c := bh_lt m1 (Nat.le_refl c) (by omega)
      have q1 := bh_or (o := o) a2
      have q2 := bh_or (o := o) m1
      have q3 := bh_or (o := o) m2
      have hk : ¬ (zx w (bh a o c) = zx w a ∧ zy w (bh a o c) = zy w a) := fun z => h3 (Or.inl ⟨Int64.toInt_inj.mp z.1.symm, Int64.toInt_inj.mp z.2.symm⟩)
      obtain ⟨i, i1, i2, i3⟩ := hne
      by_cases z : c = o + 3
      · exfalso
        have ei : i = o + 2 := by omega
        rw [ei] at i3
        have c3 : a = o ∨ a = o + 1 ∨ a = o + 2 := by omega
        rcases c3 with y | y | y
        · have e1 : bh a o c = o + 1 := by omega
          have e2 : bh (bh a o c) o c = o + 2 := by omega
          rw [e2, e1, y] at h1
          exact i3 h1
        · have e1 : bh a o c = o + 2 := by omega
          have e2 : bh (bh a o c) o c = o := by omega
          rw [e2, e1, y, crs_cy] at h1
          exact i3 h1
        · have e1 : bh a o c = o := by omega
          have e2 : bh (bh a o c) o c = o + 1 := by omega
          rw [e2, e1, y, ← crs_cy] at h1
          exact i3 h1
      · rcases fold_on h1 h2 hk with F | F
        · refine pair (bh (bh a o c) o c) a (by omega) m2 a1 a2 ?_ ?_ ?_ (Or.inl F)
          · clear h1 h2 h3 hk i3 F pair sr E E'; omega
          · clear h1 h2 h3 hk i3 F pair sr E E'; omega
          · clear h1 h2 h3 hk i3 F pair sr E E'; omega
        · obtain ⟨p, ep⟩ : ∃ p, p = if a = o then c - 1 else a - 1 := ⟨_, rfl⟩
          have p1 : o ≤ p ∧ p < c ∧ ((a = o ∧ p + 1 = c) ∨ (a = p + 1)) := by
            by_cases y : a = o
            · rw [if_pos y] at ep; omega
            · rw [if_neg y] at ep; omega
          have q4 := bh_or (o := o) p1.2.1
          have bp : bh p o c = a := by clear h1 h2 h3 hk i3 F pair sr E E'; omega
          refine pair p (bh a o c) p1.1 p1.2.1 (by omega) m1 ?_ ?_ ?_ ?_
          · clear h1 h2 h3 hk i3 F pair sr E E'; omega
          · clear h1 h2 h3 hk i3 F pair sr E E'; omega
          · clear h1 h2 h3 hk i3 F pair sr E E'; omega
          · rw [bp]; exact Or.inr (Or.inl F)
    · exact pair a b a1 a2 b1 b2 n f1 f2 m
    · have r2 := (hB r r1).2
      have e1 := E a a1 a2
      have e2 := E' r b r1 b1 b2
      have q1 := bh_or (o := o) a2
      have q2 := bh_or (o := B r) b2
      refine ⟨a, a1, a2, b, Nat.zero_le b, by omega, by omega, by omega, (sr a b).mpr ?_⟩
      rw [e1, e2]; exact m
theorem sim_ring : Sim_ring Rel := by
  intro v mv h x
  have j42b : ∀ (t : Int32), ¬ t = 0 → f_M_ring_j42 mv x t = some (0, ms_thrown mv t) := fun t ht => by simp only [f_M_ring_j42, Option.bind_some, if_neg (thr_ne ht), rb_0]
  rcases find_or h x with ⟨e1, e2, e3⟩ | ⟨i, hi, ex, e1, e2, e3⟩
  · refine ⟨(0, ms_thrown mv 1), by simp only [f_M_ring, e3, Option.bind_some, if_true, j42b 1 (by decide)], Or.inr (Or.inl ⟨?_, rfl, rel_thrown h⟩)⟩
    unfold g_F_ring; rw [e2]; rfl
  have h40 : i < 40 := by have := h.1; omega
  obtain ⟨lk, -, -, -⟩ := kind_ld h hi
  rw [← ex] at lk
  have stop : f_S_hasOpenRing (v.2 i) = some 0 → f_M_ring mv x = f_M_ring_j37 mv x → ∃ o : Int32 × MV, f_M_ring mv x = some o ∧ ((∃ r : Int32 × CV, f_F_ring v x = some r ∧ md_thrown o.2 = 0 ∧ bl r.1 = bl o.1 ∧ Rel r.2 o.2) ∨ (g_F_ring v x = some "java/lang/IndexOutOfBoundsException" ∧ md_thrown o.2 = 1 ∧ Rel v o.2) ∨ (g_F_ring v x = some "java/lang/IllegalStateException" ∧ md_thrown o.2 = 2 ∧ Rel v o.2)) := by
    intro ht hm
    refine ⟨(0, ms_thrown mv 2), by rw [hm]; simp only [f_M_ring_j37, j42b 2 (by decide)], Or.inr (Or.inr ⟨?_, rfl, rel_thrown h⟩)⟩
    unfold g_F_ring; rw [e1, e2]; show (f_S_hasOpenRing (v.2 i)).bind _ = _; rw [ht]; rfl
  have flat : ∀ k : Int32, sF (v.2 i) = k → ¬ k = 2 → f_S_hasOpenRing (v.2 i) = some 0 ∧ f_M_ring mv x = f_M_ring_j37 mv x := fun k f nk => by
    constructor
    · simp only [f_S_hasOpenRing, f, if_neg nk, f_S_hasOpenRing_j23, f_S_hasOpenRing_j24, rb_0]
    · simp only [f_M_ring, e3, Option.bind_some, if_neg one_n0, lk, f, if_neg nk]
  obtain ⟨c, o, hc, ho, en, eo, hr, er, ek, hp, hh⟩ := h.2.2 i hi
  rcases hh with ⟨f, -⟩ | ⟨f, -⟩ | ⟨f, r⟩ | ⟨f, -⟩
  · obtain ⟨a, b⟩ := flat 0 f (by decide); exact stop a b
  · obtain ⟨a, b⟩ := flat 1 f (by decide); exact stop a b
  · obtain ⟨c', o', hc', ho', en', eo', -, -, hcl, -⟩ := polytrace h hi (Or.inl f)
    have ec : c' = c := (nI_eq (by omega) (by omega)).mp (en'.symm.trans en)
    have eo2 : o' = o := (nI_eq (by omega) (by omega)).mp (eo'.symm.trans eo)
    subst ec; subst eo2
    obtain ⟨b1, b2, b3, g, B, g1, g2, g3, g4, g5, g6, g7⟩ := r
    have hg : 3 * g ≤ B g := ring_many g2 (fun r hr => (g4 r hr).1) g (Nat.le_refl g)
    have mono : ∀ r, r < g → B (r + 1) ≤ o' := fun r hr => by
      have := bounds_le (fun r hr => (g4 r hr).1) (g - (r + 1)) (r + 1) (by omega)
      rw [show r + 1 + (g - (r + 1)) = g by omega, g3] at this
      exact this
    have cl0 : f_M_closed mv x = some (nI o') := by rw [ex]; exact hcl (md_thrown mv)
    have cl : f_M_closed (ms_thrown mv 0) x = some (nI o') := by rw [ex]; exact hcl 0
    have lm : ld 40 (md_many mv) x = some (nI c') := by rw [ex, ld_nI h40 (by decide)]; exact congrArg some b2
    have lm0 : ld 40 (md_many (ms_thrown mv 0)) x = some (nI c') := lm
    by_cases hlt : o' < c'
    · have hS : f_S_hasOpenRing (v.2 i) = some 1 := by
        simp only [f_S_hasOpenRing, f, if_true, en, eo, nI_hle (show c' < 2 ^ 31 by omega) (show o' < 2 ^ 31 by omega), if_neg (show ¬ c' ≤ o' by omega), f_S_hasOpenRing_j24, rb_1]
      have hM : f_M_ring mv x = f_M_ring_j42 mv x 0 := by
        have ne : ¬ nI o' = nI c' := fun z => by rw [nI_eq (by omega) (by omega)] at z; omega
        simp only [f_M_ring, e3, Option.bind_some, if_neg one_n0, lk, f, if_true, cl0, lm, if_neg ne]
      have E : ∀ k, o' ≤ k → k < c' → eE (v.2 i) k = bh k o' c' := fun k k1 k2 => eE_of (m := bh k o' c') (g6 k k1 k2) (by have := bh_lt k2 (Nat.le_refl c') hlt; omega)
      have E' : ∀ r k, r < g → B r ≤ k → k < B (r + 1) → eE (v.2 i) k = bh k (B r) (B (r + 1)) := fun r k r1 k1 k2 => eE_of (m := bh k (B r) (B (r + 1))) (g5 r k r1 k1 k2) (by have := mono r r1; have := bh_or (o := B r) k2; omega)
      have S : Sds (v.2 i) c' (eE (v.2 i)) := by
        refine sds_of hc en hp (fun k hk => ?_)
        by_cases z : o' ≤ k
        · exact ⟨_, bh_lt hk (Nat.le_refl c') hlt, g6 k z hk⟩
        · obtain ⟨r, r1, r2, r3⟩ := ring_of g2 g k (by omega)
          have := mono r r1
          exact ⟨_, bh_lt (o := B r) r3 (show B (r + 1) ≤ c' by omega) (by omega), g5 r k r1 r2 r3⟩
      have C : Crn (ms_thrown mv 0) i (v.2 i) c' := ⟨h40, hc, b3, hp⟩
      have he : o' + 1 < c' → eE (v.2 i) o' = o' + 1 := fun z => by rw [E o' (Nat.le_refl _) hlt]; unfold bh; rw [if_pos z]
      have xE := empty_iff (w := v.2 i) hlt he (fun z => g7 o' (Nat.le_refl _) z)
      have hsE := empty_S S eo hlt
      have mE := empty_M C hlt
      rw [← bP_c xE, ← ex] at mE
      have htr := rel_thrown (t := 0) h
      -- the corners go
      have gone : ∃ mv', mv' = ms_many (ms_thrown mv 0) (upd (md_many (ms_thrown mv 0)) i (nI o')) ∧ Rel (v.1, va_up v.2 i (ss_count (v.2 i) (sO (v.2 i)))) mv' := by
        refine ⟨_, rfl, rel_upd htr hi rfl (fun j hj => ⟨rfl, rfl, pk_un hj, rfl, fun _ _ => ⟨rfl, rfl⟩, fun _ _ => rfl⟩) ?_⟩
        refine ⟨o', o', by omega, Nat.le_refl _, eo, eo, hr, er, ek, fun k hk => hp k (by omega), Or.inr (Or.inr (Or.inl ⟨f, b1, pk_us, fun k hk => b3 k (by omega), g, B, g1, g2, g3, g4, g5, fun k k1 k2 => by omega, fun k k1 k2 => by omega⟩))⟩
      obtain ⟨mvD, eD, RD⟩ := gone
      have ckx : ck 40 x = some () := by rw [ex]; exact ck_nI h40 (by decide)
      have clx : x.toNatClampNeg = i := by rw [ex]; exact nI_clamp (by omega)
      have lgD : ld 40 (md_rings mvD) x = some (nI g) := by rw [eD, ex, ld_nI h40 (by decide)]; exact congrArg some g1
      have o0 : (nI o' ≤ 0) ↔ o' = 0 := by rw [show (0 : Int32) = nI 0 from rfl, nI_leI (by omega) (by decide)]; omega
      have g0 : (nI g ≤ 0) ↔ g = 0 := by rw [show (0 : Int32) = nI 0 from rfl, nI_leI (by omega) (by decide)]; omega
      have og : o' = 0 ↔ g = 0 := ⟨fun z => by omega, fun z => by rw [z] at g3; omega⟩
      by_cases hE : ∀ i_1, o' + 2 ≤ i_1 → i_1 < c' → crs (zx (v.2 i) o') (zy (v.2 i) o') (zx (v.2 i) (eE (v.2 i) o')) (zy (v.2 i) (eE (v.2 i) o')) (zx (v.2 i) i_1) (zy (v.2 i) i_1) = 0
      · rw [bP_t hE] at hsE mE
        have eM : f_M_ring mv x = (if g = 0 then some (0, mvD) else some (1, mvD)) := by
          rw [hM]
          simp only [f_M_ring_j42, Option.bind_some, if_pos thr_0, cl, lm0, mE, if_neg one_n0, f_M_ring_j95, f_M_ring_j96, if_true, ckx, clx, ← eD, lgD, g0, f_M_ring_j157, f_M_ring_j158, rb_0, rb_1]
        have eS : f_S_closeRing (v.2 i) = if o' = 0 then some (0, ss_count (v.2 i) (sO (v.2 i))) else some (1, ss_count (v.2 i) (sO (v.2 i))) := by
          have z : sO (ss_count (v.2 i) (sO (v.2 i))) = nI o' := eo
          simp only [f_S_closeRing, hsE, Option.bind_some, if_neg one_n0, z, o0, f_S_closeRing_j27, rb_0, rb_1]
        by_cases z : g = 0
        · rw [if_pos z] at eM
          rw [if_pos (og.mpr z)] at eS
          refine ⟨_, eM, Or.inl ⟨(0, (v.1, va_up v.2 i (ss_count (v.2 i) (sO (v.2 i))))), ?_, by rw [eD]; rfl, rfl, RD⟩⟩
          simp only [f_F_ring, e1, hS, Option.bind_some, if_neg one_n0, eS, rb_0]
        · rw [if_neg z] at eM
          rw [if_neg (fun y => z (og.mp y))] at eS
          refine ⟨_, eM, Or.inl ⟨(1, (v.1, va_up v.2 i (ss_count (v.2 i) (sO (v.2 i))))), ?_, by rw [eD]; rfl, rfl, RD⟩⟩
          simp only [f_F_ring, e1, hS, Option.bind_some, if_neg one_n0, eS, rb_1]
      · rw [bP_f hE] at hsE mE
        have hne : ∃ j, o' + 2 ≤ j ∧ j < c' ∧ ¬ crs (zx (v.2 i) o') (zy (v.2 i) o') (zx (v.2 i) (o' + 1)) (zy (v.2 i) (o' + 1)) (zx (v.2 i) j) (zy (v.2 i) j) = 0 := by
          refine Classical.byContradiction fun y => hE fun j j1 j2 => ?_
          rw [he (by omega)]
          exact Classical.byContradiction fun q => y ⟨j, j1, j2, q⟩
        have c3 : o' + 3 ≤ c' := by obtain ⟨j, j1, j2, -⟩ := hne; omega
        have xC := cross_iff E E' g2 g3 (fun r hr => ⟨(g4 r hr).1, mono r hr⟩) hne
        have sC := crossing_S S eo hlt
        have mC := crossing_M (g := g) (B := B) C hlt (by omega) g1 (fun r hr => ⟨by have := (g4 r hr).1; omega, mono r hr, (g4 r hr).2⟩) g2
        rw [← bP_c xC, ← ex] at mC
        by_cases hC : ∃ i_1, o' ≤ i_1 ∧ i_1 < c' ∧ ∃ j, 0 ≤ j ∧ j < i_1 ∧ eE (v.2 i) i_1 ≠ j ∧ eE (v.2 i) j ≠ i_1 ∧ smS (v.2 i) (eE (v.2 i)) i_1 (v.2 i) (eE (v.2 i)) j
        · rw [bP_t hC] at sC mC
          have eM : f_M_ring mv x = some (0, mvD) := by
            rw [hM]
            simp only [f_M_ring_j42, Option.bind_some, if_pos thr_0, cl, lm0, mE, if_true, mC, if_neg one_n0, f_M_ring_j95, f_M_ring_j96, ckx, clx, ← eD, f_M_ring_j157, f_M_ring_j158, rb_0]
          refine ⟨_, eM, Or.inl ⟨(0, (v.1, va_up v.2 i (ss_count (v.2 i) (sO (v.2 i))))), ?_, by rw [eD]; rfl, rfl, RD⟩⟩
          simp only [f_F_ring, e1, hS, Option.bind_some, if_neg one_n0, f_S_closeRing, hsE, if_true, sC, rb_0]
        · rw [bP_f hC] at sC mC
          obtain ⟨mvG, eG⟩ : ∃ m, m = ms_rings (ms_ends (ms_thrown mv 0) (upd (md_ends (ms_thrown mv 0)) (16 * i + g) (nI c'))) (upd (md_rings (ms_thrown mv 0)) i (nI (g + 1))) := ⟨_, rfl⟩
          have lg0 : ld 40 (md_rings (ms_thrown mv 0)) x = some (nI g) := by rw [ex, ld_nI h40 (by decide)]; exact congrArg some g1
          have lg1 : ∀ t, ld 40 (md_rings (ms_ends (ms_thrown mv 0) t)) x = some (nI g) := fun _ => lg0
          have ei : (16 : Int32) * x + nI g = nI (16 * i + g) := by rw [ex, show (16 : Int32) = nI 16 from rfl, pk_mul, nI_add]
          have ck2 : ck 640 (nI (16 * i + g)) = some () := ck_nI (by omega) (by decide)
          have cl2 : (nI (16 * i + g)).toNatClampNeg = 16 * i + g := nI_clamp (by omega)
          have rr : ∀ t, md_rings (ms_ends (ms_thrown mv 0) t) = md_rings (ms_thrown mv 0) := fun _ => rfl
          have eM : f_M_ring mv x = some (1, mvG) := by
            rw [hM]
            simp only [f_M_ring_j42, Option.bind_some, if_pos thr_0, cl, lm0, mE, if_true, mC, f_M_ring_j96, if_neg one_n0, lg0, lg1, ei, ck2, cl2, ckx, clx, nI_1, rb_1, rr, ← eG]
          refine ⟨_, eM, Or.inl ⟨(1, (v.1, va_up v.2 i (ss_open (v.2 i) (sN (v.2 i))))), ?_, by rw [eG]; rfl, rfl, ?_⟩⟩
          · simp only [f_F_ring, e1, hS, Option.bind_some, if_neg one_n0, f_S_closeRing, hsE, if_true, sC, rb_1]
          · rw [eG]
            refine rel_upd htr hi rfl (fun j hj => ⟨rfl, rfl, rfl, pk_un hj, fun _ _ => ⟨rfl, rfl⟩, fun r hr => pk_un (by omega)⟩) ?_
            refine ⟨c', c', hc, Nat.le_refl _, en, en, hr, er, ek, hp, Or.inr (Or.inr (Or.inl ⟨f, b1, b2, b3, g + 1, (fun r => if r ≤ g then B r else c'), pk_us, ?_, ?_, ?_, ?_, fun k k1 k2 => by omega, fun k k1 k2 => by omega⟩))⟩
            · show (if 0 ≤ g then B 0 else c') = 0
              rw [if_pos (Nat.zero_le g)]; exact g2
            · show (if g + 1 ≤ g then B (g + 1) else c') = c'
              rw [if_neg (by omega)]
            · intro r hr
              show (if r ≤ g then B r else c') + 3 ≤ (if r + 1 ≤ g then B (r + 1) else c') ∧ upd (md_ends (ms_thrown mv 0)) (16 * i + g) (nI c') (16 * i + r) = nI (if r + 1 ≤ g then B (r + 1) else c')
              rw [if_pos (by omega)]
              by_cases z : r = g
              · subst z
                rw [if_neg (by omega), g3]
                exact ⟨c3, pk_us⟩
              · rw [if_pos (by omega), pk_un (by omega)]
                exact g4 r (by omega)
            · intro r k r1
              show (if r ≤ g then B r else c') ≤ k → k < (if r + 1 ≤ g then B (r + 1) else c') → sE (v.2 i) k = nI (if k + 1 < (if r + 1 ≤ g then B (r + 1) else c') then k + 1 else (if r ≤ g then B r else c'))
              rw [if_pos (show r ≤ g by omega)]
              by_cases z : r = g
              · subst z
                rw [if_neg (by omega), g3]
                exact fun k1 k2 => g6 k k1 k2
              · rw [if_pos (by omega)]
                exact g5 r k (by omega)
    · have hS : f_S_hasOpenRing (v.2 i) = some 0 := by
        simp only [f_S_hasOpenRing, f, if_true, en, eo, nI_hle (show c' < 2 ^ 31 by omega) (show o' < 2 ^ 31 by omega), if_pos (show c' ≤ o' by omega), f_S_hasOpenRing_j23, f_S_hasOpenRing_j24, rb_0]
      have oc : nI o' = nI c' := by rw [show o' = c' by omega]
      refine stop hS ?_
      simp only [f_M_ring, e3, Option.bind_some, if_neg one_n0, lk, f, if_true, cl0, lm, if_pos oc]
  · obtain ⟨a, b⟩ := flat 3 f (by decide); exact stop a b
