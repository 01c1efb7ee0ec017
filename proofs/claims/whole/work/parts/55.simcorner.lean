/-! corner -/
theorem closed_0 {mv : MV} {i : Nat} {t : Int32} (hi : i < 40) (h : qG (mvS mv i) = 0) : f_M_closed (ms_thrown mv t) (nI i) = some 0 := by
  have l1 : ld 40 (md_rings (ms_thrown mv t)) (nI i) = some 0 := by show ld 40 (md_rings mv) (nI i) = _; rw [ld_nI hi (by decide)]; exact congrArg some h
  simp only [f_M_closed, l1, Option.bind_some, if_true, f_M_closed_j31]
theorem closed_g {mv : MV} {i g o : Nat} {t : Int32} (hi : i < 40) (hg : g ≤ 16) (h0 : 0 < g) (h : qG (mvS mv i) = nI g) (he : qE (mvS mv i) (g - 1) = nI o) : f_M_closed (ms_thrown mv t) (nI i) = some (nI o) := by
  have l1 : ld 40 (md_rings (ms_thrown mv t)) (nI i) = some (nI g) := by show ld 40 (md_rings mv) (nI i) = _; rw [ld_nI hi (by decide)]; exact congrArg some h
  have e : (16 : Int32) * nI i + nI g - 1 = nI (16 * i + (g - 1)) := by
    rw [show (16 : Int32) = nI 16 from rfl, pk_mul, nI_add, pred_nI (by omega), show 16 * i + g - 1 = 16 * i + (g - 1) by omega]
  have l2 : ld 640 (md_ends (ms_thrown mv t)) (nI (16 * i + (g - 1))) = some (nI o) := by show ld 640 (md_ends mv) _ = _; rw [ld_nI (by omega) (by decide)]; exact congrArg some he
  simp only [f_M_closed, l1, Option.bind_some, if_neg (nI_ne0 h0 (by omega)), e, l2, f_M_closed_j31]
theorem polytrace {v : CV} {mv : MV} {i : Nat} (h : Rel v mv) (hi : i < v.1) (hk : sF (v.2 i) = 2 ∨ sF (v.2 i) = 3) :
    ∃ c o : Nat, c ≤ 48 ∧ o ≤ c ∧ sN (v.2 i) = nI c ∧ sO (v.2 i) = nI o ∧ qN (mvS mv i) = nI c ∧ SameC (v.2 i) (mvS mv i) c ∧ (∀ t, f_M_closed (ms_thrown mv t) (nI i) = some (nI o)) ∧
      ∀ (x y : Int64) (q' : QV), c < 48 → Plc x y → (o < c → ¬ (sX (v.2 i) (c - 1) = x ∧ sY (v.2 i) (c - 1) = y)) → qK q' = qK (mvS mv i) → qR q' = qR (mvS mv i) → qN q' = nI (c + 1) → qG q' = qG (mvS mv i) → qE q' = qE (mvS mv i) → (∀ k, qX q' k = if k = c then x else qX (mvS mv i) k) → (∀ k, qY q' k = if k = c then y else qY (mvS mv i) k) → RelS (adC (v.2 i) c o x y) q' := by
  have h40 : i < 40 := by have := h.1; omega
  obtain ⟨c, o, hc, ho, e1, e2, hr, e3, e4, hp, hh⟩ := h.2.2 i hi
  rcases hh with ⟨f, _⟩ | ⟨f, _⟩ | ⟨f, r⟩ | ⟨f, f2, r⟩
  · rw [f] at hk; exact absurd hk (by decide)
  · rw [f] at hk; exact absurd hk (by decide)
  · refine ⟨c, o, hc, ho, e1, e2, r.2.1, r.2.2.1, fun t => ?_, fun x y q' h48 hpl hd k1 k2 k3 k4 k5 k6 k7 => ?_⟩
    · obtain ⟨b1, b2, b3, g, B, g1, g2, g3, g4, -⟩ := r
      have hg : 3 * g ≤ B g := ring_many g2 (fun r hr => (g4 r hr).1) g (Nat.le_refl g)
      rcases Nat.eq_zero_or_pos g with z | z
      · subst z
        have : o = 0 := by rw [← g3]; exact g2
        rw [this]
        exact closed_0 h40 g1
      · have h5 := (g4 (g - 1) (by omega)).2
        rw [show g - 1 + 1 = g by omega, g3] at h5
        exact closed_g h40 (by omega) z g1 h5
    · refine ⟨c + 1, o, by omega, by omega, adC_rest.2.2.2.1, by rw [adC_rest.2.2.2.2]; exact e2, by rw [adC_rest.2.2.1]; exact hr, by rw [k2, adC_rest.2.2.1]; exact e3, by rw [k1, adC_rest.1]; exact e4, plc_add hp hpl, Or.inr (Or.inr (Or.inl ⟨by rw [adC_rest.1]; exact f, ?_⟩))⟩
      exact relP_add ho r hd k3 k4 k5 k6 k7
  · subst f2
    refine ⟨c, 0, hc, ho, e1, e2, r.2.1, r.2.2.2.1, fun t => closed_0 h40 r.2.2.1, fun x y q' h48 hpl hd k1 k2 k3 k4 k5 k6 k7 => ?_⟩
    refine ⟨c + 1, 0, by omega, by omega, adC_rest.2.2.2.1, by rw [adC_rest.2.2.2.2]; exact e2, by rw [adC_rest.2.2.1]; exact hr, by rw [k2, adC_rest.2.2.1]; exact e3, by rw [k1, adC_rest.1]; exact e4, plc_add hp hpl, Or.inr (Or.inr (Or.inr ⟨by rw [adC_rest.1]; exact f, rfl, ?_⟩))⟩
    exact relL_add r hd k3 k4 k6 k7
theorem kind_ld {v : CV} {mv : MV} {i : Nat} (h : Rel v mv) (hi : i < v.1) : ld 40 (md_kinds mv) (nI i) = some (sF (v.2 i)) ∧ ld 40 (md_radii mv) (nI i) = some (sR (v.2 i)) ∧ Rad (sR (v.2 i)) ∧ (sF (v.2 i) = 0 ∨ sF (v.2 i) = 1 ∨ sF (v.2 i) = 2 ∨ sF (v.2 i) = 3) := by
  have h40 : i < 40 := by have := h.1; omega
  obtain ⟨c, o, -, -, -, -, hr, er, ek, -, hh⟩ := h.2.2 i hi
  have ek : md_kinds mv i = sF (v.2 i) := ek
  have er : md_radii mv i = sR (v.2 i) := er
  refine ⟨by rw [ld_nI h40 (by decide), ek], by rw [ld_nI h40 (by decide), er], hr, ?_⟩
  rcases hh with ⟨f, -⟩ | ⟨f, -⟩ | ⟨f, -⟩ | ⟨f, -⟩
  · exact Or.inl f
  · exact Or.inr (Or.inl f)
  · exact Or.inr (Or.inr (Or.inl f))
  · exact Or.inr (Or.inr (Or.inr f))
theorem sim_corner : Sim_corner Rel := by
  intro v mv h x px py
  have n1 : ¬ (1 : Int32) = 0 := by decide
  have j62b : ∀ (t : Int32), ¬ t = 0 → f_M_corner_j62 mv x px py t = some (0, ms_thrown mv t) := fun t ht => by simp only [f_M_corner_j62, Option.bind_some, if_neg (thr_ne ht), f_M_corner_j83, rb_0]
  rcases find_or h x with ⟨e1, e2, e3⟩ | ⟨i, hi, ex, e1, e2, e3⟩
  · refine ⟨(0, ms_thrown mv 1), by simp only [f_M_corner, e3, Option.bind_some, if_true, j62b 1 (by decide)], Or.inr (Or.inl ⟨?_, rfl, rel_thrown h⟩)⟩
    unfold g_F_corner; rw [e2]; rfl
  have h40 : i < 40 := by have := h.1; omega
  obtain ⟨lk, lr, hr, hkk⟩ := kind_ld h hi
  rw [← ex] at lk lr
  -- it takes no corners
  have stop : f_S_takesCorners (v.2 i) = some 0 → f_M_corner mv x px py = f_M_corner_j44 mv x px py → ∃ o : Int32 × MV, f_M_corner mv x px py = some o ∧ ((∃ r : Int32 × CV, f_F_corner v x px py = some r ∧ md_thrown o.2 = 0 ∧ bl r.1 = bl o.1 ∧ Rel r.2 o.2) ∨ (g_F_corner v x px py = some "java/lang/IndexOutOfBoundsException" ∧ md_thrown o.2 = 1 ∧ Rel v o.2) ∨ (g_F_corner v x px py = some "java/lang/IllegalStateException" ∧ md_thrown o.2 = 2 ∧ Rel v o.2) ∨ (g_F_corner v x px py = some "java/lang/IllegalArgumentException" ∧ md_thrown o.2 = 3 ∧ Rel v o.2)) := by
    intro ht hm
    refine ⟨(0, ms_thrown mv 2), by rw [hm]; simp only [f_M_corner_j44, j62b 2 (by decide)], Or.inr (Or.inr (Or.inl ⟨?_, rfl, rel_thrown h⟩))⟩
    unfold g_F_corner; rw [e1, e2]; show (f_S_takesCorners (v.2 i)).bind _ = _; rw [ht]; rfl
  -- it takes them
  have go : f_S_takesCorners (v.2 i) = some 1 → f_M_corner mv x px py = f_M_corner_j48 mv x px py → (sF (v.2 i) = 2 ∨ sF (v.2 i) = 3) → ∃ o : Int32 × MV, f_M_corner mv x px py = some o ∧ ((∃ r : Int32 × CV, f_F_corner v x px py = some r ∧ md_thrown o.2 = 0 ∧ bl r.1 = bl o.1 ∧ Rel r.2 o.2) ∨ (g_F_corner v x px py = some "java/lang/IndexOutOfBoundsException" ∧ md_thrown o.2 = 1 ∧ Rel v o.2) ∨ (g_F_corner v x px py = some "java/lang/IllegalStateException" ∧ md_thrown o.2 = 2 ∧ Rel v o.2) ∨ (g_F_corner v x px py = some "java/lang/IllegalArgumentException" ∧ md_thrown o.2 = 3 ∧ Rel v o.2)) := by
    intro ht hm hk
    rw [hm]
    rcases need_place px py with ⟨hp, p1, p2, p3⟩ | ⟨hp, p1, p2, p3⟩
    · obtain ⟨c, o, hc, hoc, c1, c2, c3, c4, c5, c6⟩ := polytrace h hi hk
      have htr := rel_thrown (t := 0) h
      have lm : ld 40 (md_many (ms_thrown mv 0)) x = some (nI c) := by rw [ex]; show ld 40 (md_many mv) (nI i) = _; rw [ld_nI h40 (by decide)]; exact congrArg some c3
      have hcl := c5 0
      rw [← ex] at hcl
      have keepR : Rel (v.1, va_up v.2 i (v.2 i)) (ms_thrown mv 0) := rel_upd htr hi rfl (fun j _ => Agr.rf) (htr.2.2 i hi)
      have fin0 : f_S_addCorner (v.2 i) px py = some (0, v.2 i) → f_F_corner v x px py = some (0, (v.1, va_up v.2 i (v.2 i))) := fun ha => by simp only [f_F_corner, e1, ht, Option.bind_some, if_neg n1, p1, ha, rb_0]
      by_cases h48 : c = 48
      · refine ⟨(0, ms_thrown mv 0), ?_, Or.inl ⟨_, fin0 (addC_full (by rw [c1, h48])), rfl, rfl, keepR⟩⟩
        have e48 : nI c = 48 := by rw [h48]; rfl
        simp only [f_M_corner_j48, p3, Option.bind_some, if_neg n1, f_M_corner_j62, if_pos thr_0, lm, if_pos e48, f_M_corner_j83, rb_0]
      · have hlt : c < 48 := by omega
        have e48 : ¬ nI c = 48 := by rw [show (48 : Int32) = nI 48 from rfl, nI_eq (by omega) (by decide)]; exact h48
        have ha := add_ev (mv := ms_thrown mv 0) (x := px) (y := py) h40 (show md_many (ms_thrown mv 0) i = nI c from c3) hlt
        rw [← ex] at ha
        obtain ⟨m1, m2, m3, m4, m5, m6, m7⟩ := mAdd_self (mv := ms_thrown mv 0) (i := i) (c := c) (x := px) (y := py)
        -- it is added on both sides
        have added : (o < c → ¬ (sX (v.2 i) (c - 1) = px ∧ sY (v.2 i) (c - 1) = py)) → ∃ r : Int32 × CV, f_F_corner v x px py = some r ∧ (0 : Int32) = 0 ∧ bl r.1 = bl 1 ∧ Rel r.2 (mAdd (ms_thrown mv 0) i c px py) := fun hd => by
          refine ⟨(1, (v.1, va_up v.2 i (adC (v.2 i) c o px py))), by simp only [f_F_corner, e1, ht, Option.bind_some, if_neg n1, p1, addC_ev c1 c2 hoc hlt hd, rb_1], rfl, rfl, ?_⟩
          exact rel_upd htr hi rfl (fun j hj => mAdd_other hlt hj) (c6 px py _ hlt hp hd m1 m2 m3 m4 m7 m5 m6)
        have j153 : f_M_corner_j153 (ms_thrown mv 0) x px py = some (1, mAdd (ms_thrown mv 0) i c px py) := by simp only [f_M_corner_j153, ha, Option.bind_some, rb_1]
        by_cases hof : o < c
        · have hle : ¬ nI c ≤ nI o := fun z => by rw [nI_leI (by omega) (by omega)] at z; omega
          have eu : (48 : Int32) * x + nI c - 1 = nI (48 * i + (c - 1)) := by
            rw [ex, show (48 : Int32) = nI 48 from rfl, pk_mul, nI_add, pred_nI (by omega), show 48 * i + c - 1 = 48 * i + (c - 1) by omega]
          have lx : ld 1920 (md_cornerX (ms_thrown mv 0)) (nI (48 * i + (c - 1))) = some (sX (v.2 i) (c - 1)) := by rw [ld_nI (by omega) (by decide)]; exact congrArg some (c4 (c - 1) (by omega)).1
          have ly : ld 1920 (md_cornerY (ms_thrown mv 0)) (nI (48 * i + (c - 1))) = some (sY (v.2 i) (c - 1)) := by rw [ld_nI (by omega) (by decide)]; exact congrArg some (c4 (c - 1) (by omega)).2
          by_cases d1 : lg_cmp (sX (v.2 i) (c - 1)) px = 0
          · by_cases d2 : lg_cmp (sY (v.2 i) (c - 1)) py = 0
            · refine ⟨(0, ms_thrown mv 0), ?_, Or.inl ⟨_, fin0 (addC_same c1 c2 hof hlt (lgc_same.mp d1) (lgc_same.mp d2)), rfl, rfl, keepR⟩⟩
              simp only [f_M_corner_j48, p3, Option.bind_some, if_neg n1, f_M_corner_j62, if_pos thr_0, lm, if_neg e48, eu, hcl, if_neg hle, f_M_corner_j119, lx, ly, if_pos d1, if_pos d2, rb_0]
            · refine ⟨(1, mAdd (ms_thrown mv 0) i c px py), ?_, Or.inl (added (fun _ z => d2 (lgc_same.mpr z.2)))⟩
              simp only [f_M_corner_j48, p3, Option.bind_some, if_neg n1, f_M_corner_j62, if_pos thr_0, lm, if_neg e48, eu, hcl, if_neg hle, f_M_corner_j119, lx, ly, if_pos d1, if_neg d2, j153]
          · refine ⟨(1, mAdd (ms_thrown mv 0) i c px py), ?_, Or.inl (added (fun _ z => d1 (lgc_same.mpr z.1)))⟩
            simp only [f_M_corner_j48, p3, Option.bind_some, if_neg n1, f_M_corner_j62, if_pos thr_0, lm, if_neg e48, eu, hcl, if_neg hle, f_M_corner_j119, lx, if_neg d1, j153]
        · have hle : nI c ≤ nI o := by rw [nI_leI (by omega) (by omega)]; omega
          refine ⟨(1, mAdd (ms_thrown mv 0) i c px py), ?_, Or.inl (added (fun z => absurd z hof))⟩
          simp only [f_M_corner_j48, p3, Option.bind_some, if_neg n1, f_M_corner_j62, if_pos thr_0, lm, if_neg e48, hcl, if_pos hle, f_M_corner_j119, if_true, j153]
    · refine ⟨(0, ms_thrown mv 3), by simp only [f_M_corner_j48, p3, Option.bind_some, if_true, j62b 3 (by decide)], Or.inr (Or.inr (Or.inr ⟨?_, rfl, rel_thrown h⟩))⟩
      simp only [g_F_corner, e1, e2, ht, p2, xthen, Option.bind_some, if_neg n1]
  have lt2 : ∀ k : Int32, (k = 0 ∨ k = 1) → k < 2 := fun k hk => by rcases hk with e | e <;> rw [e] <;> decide
  rcases hkk with f | f | f | f
  · refine stop ?_ ?_
    · simp only [f_S_takesCorners, f, show ¬ (0 : Int32) = 3 by decide, show ¬ (0 : Int32) = 2 by decide, if_false, f_S_takesCorners_j29, f_S_takesCorners_j30, rb_0]
    · simp only [f_M_corner, e3, Option.bind_some, if_neg n1, lk, f, if_pos (lt2 0 (Or.inl rfl))]
  · refine stop ?_ ?_
    · simp only [f_S_takesCorners, f, show ¬ (1 : Int32) = 3 by decide, show ¬ (1 : Int32) = 2 by decide, if_false, f_S_takesCorners_j29, f_S_takesCorners_j30, rb_0]
    · simp only [f_M_corner, e3, Option.bind_some, if_neg n1, lk, f, if_pos (lt2 1 (Or.inr rfl))]
  · have z0 : (0 : Int64).toInt = 0 := by decide
    by_cases hz : lg_cmp (sR (v.2 i)) 0 = 0
    · have hle : lg_cmp (sR (v.2 i)) 0 ≤ 0 := by rw [lgc_le]; rw [lgc_eq] at hz; omega
      refine go ?_ ?_ (Or.inl f)
      · simp only [f_S_takesCorners, f, show ¬ (2 : Int32) = 3 by decide, if_false, if_true, if_pos hz, f_S_takesCorners_j25, f_S_takesCorners_j30, rb_1]
      · simp only [f_M_corner, e3, Option.bind_some, if_neg n1, lk, lr, f, show ¬ (2 : Int32) < 2 by decide, if_false, if_true, if_pos hle]
    · have hle : ¬ lg_cmp (sR (v.2 i)) 0 ≤ 0 := by rw [lgc_le, z0]; rw [lgc_eq, z0] at hz; have := hr.1; omega
      refine stop ?_ ?_
      · simp only [f_S_takesCorners, f, show ¬ (2 : Int32) = 3 by decide, if_false, if_true, if_neg hz, f_S_takesCorners_j29, f_S_takesCorners_j30, rb_0]
      · simp only [f_M_corner, e3, Option.bind_some, if_neg n1, lk, lr, f, show ¬ (2 : Int32) < 2 by decide, if_false, if_true, if_neg hle]
  · refine go ?_ ?_ (Or.inr f)
    · simp only [f_S_takesCorners, f, if_true, f_S_takesCorners_j25, f_S_takesCorners_j30, rb_1]
    · simp only [f_M_corner, e3, Option.bind_some, if_neg n1, lk, f, show ¬ (3 : Int32) < 2 by decide, show ¬ (3 : Int32) = 2 by decide, if_false]
