/-! trace; corners on both sides; circle; corner -/
theorem need_place (x y : Int64) : (Plc x y ∧ f_F_needPlace x y = some () ∧ g_F_needPlace x y = none ∧ f_M_isPlace x y = some 1) ∨ (¬ Plc x y ∧ f_F_needPlace x y = none ∧ g_F_needPlace x y = some "java/lang/IllegalArgumentException" ∧ f_M_isPlace x y = some 0) := by
  have n1 : ¬ (1 : Int32) = 0 := by decide
  rcases place_M (x := x) (y := y) with ⟨h, e⟩ | ⟨h, e⟩
  · left; refine ⟨h, ?_, ?_, e⟩
    · simp only [f_F_needPlace, place_F, e, Option.bind_some, if_neg n1]
    · simp only [g_F_needPlace, place_F, e, Option.bind_some, if_neg n1]
  · right; refine ⟨h, ?_, ?_, e⟩
    · simp only [f_F_needPlace, place_F, e, Option.bind_some, if_true]
    · simp only [g_F_needPlace, place_F, e, Option.bind_some, if_true]
theorem need_len (r : Int64) : (Rad r ∧ f_F_needLength r = some () ∧ g_F_needLength r = none ∧ f_M_isRadius r = some 1) ∨ (¬ Rad r ∧ f_F_needLength r = none ∧ g_F_needLength r = some "java/lang/IllegalArgumentException" ∧ f_M_isRadius r = some 0) := by
  have n1 : ¬ (1 : Int32) = 0 := by decide
  rcases rad_M (r := r) with ⟨h, e⟩ | ⟨h, e⟩
  · left; refine ⟨h, ?_, ?_, e⟩
    · simp only [f_F_needLength, rad_F, e, Option.bind_some, if_neg n1]
    · simp only [g_F_needLength, rad_F, e, Option.bind_some, if_neg n1]
  · right; refine ⟨h, ?_, ?_, e⟩
    · simp only [f_F_needLength, rad_F, e, Option.bind_some, if_true]
    · simp only [g_F_needLength, rad_F, e, Option.bind_some, if_true]
theorem half_rad {x : Int64} (h1 : ¬ x.toInt < 0) (h2 : ¬ 2000000000 < x.toInt) : Rad (x / 2) := by
  obtain ⟨k, hk, e⟩ := pk_lOf (x := x) (by rw [Int64.lt_iff_toInt_lt]; exact h1)
  subst e
  rw [pk_lT hk] at h1 h2
  rw [show (2 : Int64) = lN 2 from rfl, pk_lDiv hk (by decide) (by decide)]
  unfold Rad
  rw [pk_lT (by omega)]
  omega
theorem thr_ne {mv : MV} {t : Int32} (h : ¬ t = 0) : ¬ md_thrown (ms_thrown mv t) = 0 := h
theorem thr_0 {mv : MV} : md_thrown (ms_thrown mv 0) = 0 := rfl
theorem sim_trace : Sim_trace Rel := by
  intro v mv h x
  have n1 : ¬ (1 : Int32) = 0 := by decide
  have bad : f_M_trace_j29 mv x = some (0, ms_thrown mv 1) := by simp only [f_M_trace_j29, f_M_trace_j30, Option.bind_some, if_neg (thr_ne n1)]
  by_cases c1 : lg_cmp x 0 < 0
  · exact ⟨(0, ms_thrown mv 1), by simp only [f_M_trace, if_pos c1, bad], Or.inr ⟨by simp only [g_F_trace, if_pos c1, g_F_trace_j24], rfl, rel_thrown h⟩⟩
  by_cases c2 : 0 < lg_cmp x 2000000000
  · exact ⟨(0, ms_thrown mv 1), by simp only [f_M_trace, if_neg c1, if_pos c2, bad], Or.inr ⟨by simp only [g_F_trace, if_neg c1, if_pos c2, g_F_trace_j24], rfl, rel_thrown h⟩⟩
  by_cases c3 : lg_cmp (x - x / 2 * 2) 0 = 0
  · have ht := rel_thrown (t := 0) h
    have hF : f_F_trace v x = some (f_F_keep v (sv0 3 0 (x / 2))) := by simp only [f_F_trace, if_neg c1, if_neg c2, if_pos c3, bz_0, Option.bind_some]
    have hr : Rad (x / 2) := half_rad (fun z => c1 ((lgc_lt _ _).mpr z)) (fun z => c2 ((lgc_gt _ _).mpr z))
    by_cases hn : v.1 < 40
    · refine ⟨(nI v.1, mBeg (ms_thrown mv 0) v.1 3 (x / 2)), ?_, Or.inl ⟨_, hF, rfl, ?_, ?_⟩⟩
      · simp only [f_M_trace, if_neg c1, if_neg c2, if_pos c3, f_M_trace_j30, Option.bind_some, if_pos thr_0, if_neg (fun z => absurd ((full_iff ht).mp z) (fun q => q hn)), begin_ev (k := 3) (r := x / 2) ht.2.1 hn, f_M_trace_j65]
      · rw [show f_F_keep v (sv0 3 0 (x / 2)) = _ from if_pos hn]
      · rw [show f_F_keep v (sv0 3 0 (x / 2)) = _ from if_pos hn]
        refine rel_push ht hn rfl (fun j hj => Agr.of (mBeg_other (by omega))) ?_
        refine relT_new hr ?_
        rw [mBeg_self]; exact ⟨rfl, rfl, rfl, rfl⟩
    · refine ⟨(-1, ms_thrown mv 0), ?_, Or.inl ⟨_, hF, rfl, ?_, ?_⟩⟩
      · simp only [f_M_trace, if_neg c1, if_neg c2, if_pos c3, f_M_trace_j30, Option.bind_some, if_pos thr_0, if_pos ((full_iff ht).mpr hn), f_M_trace_j65]
      · rw [show f_F_keep v (sv0 3 0 (x / 2)) = _ from if_neg hn]
      · rw [show f_F_keep v (sv0 3 0 (x / 2)) = _ from if_neg hn]; exact ht
  · exact ⟨(0, ms_thrown mv 1), by simp only [f_M_trace, if_neg c1, if_neg c2, if_neg c3, bad], Or.inr ⟨by simp only [g_F_trace, if_neg c1, if_neg c2, if_neg c3, g_F_trace_j24], rfl, rel_thrown h⟩⟩
/-- the class's addCorner, where it adds -/
def adR (u : SV) (c o : Nat) (x y : Int64) : SV := (sF u, sB u, sR u, vp_updL (sX u) c x, vp_updL (sY u) c y, upd (sE u) c (nI (if sB u = 0 then c else o)), nI (c + 1), sO u)
def adC (w : SV) (c o : Nat) (x y : Int64) : SV := adR (if o < c then ss_ends w (upd (sE w) (c - 1) (nI c)) else w) c o x y
theorem j71_ev {u : SV} {c o : Nat} {x y : Int64} (hc : sN u = nI c) (ho : sO u = nI o) (h48 : c < 48) : f_S_addCorner_j71 u x y = some (1, adR u c o x y) := by
  have k0 : ck 48 (nI c) = some () := ck_nI h48 (by decide)
  have k1 : (nI c).toNatClampNeg = c := nI_clamp (by omega)
  have a1 : ∀ f, sN (ss_xs u f) = nI c := fun _ => hc
  have a2 : ∀ f g, sN (ss_ys (ss_xs u f) g) = nI c := fun _ _ => hc
  have a3 : ∀ f g, sO (ss_ys (ss_xs u f) g) = nI o := fun _ _ => ho
  have a4 : ∀ f g, sB (ss_ys (ss_xs u f) g) = sB u := fun _ _ => rfl
  have a5 : ∀ f g t, sN (ss_ends (ss_ys (ss_xs u f) g) t) = nI c := fun _ _ _ => hc
  unfold adR
  by_cases b0 : sB u = 0
  · simp only [f_S_addCorner_j71, hc, a1, a2, a3, a4, k0, k1, Option.bind_some, if_pos b0, f_S_addCorner_j117, a5, nI_1, rb_1]
    rfl
  · simp only [f_S_addCorner_j71, hc, a1, a2, a3, a4, k0, k1, Option.bind_some, if_neg b0, f_S_addCorner_j117, a5, nI_1, rb_1]
    rfl
theorem pred_nI {c : Nat} (h : 0 < c) : nI c - 1 = nI (c - 1) := by
  have e : c = (c - 1) + 1 := by omega
  rw [e, nI_pred]
  rfl
theorem lgc_same {a b : Int64} : lg_cmp a b = 0 ↔ a = b := by rw [lgc_eq, Int64.toInt_inj]
theorem addC_ev {w : SV} {c o : Nat} {x y : Int64} (hc : sN w = nI c) (ho : sO w = nI o) (hoc : o ≤ c) (h48 : c < 48) (hd : o < c → ¬ (sX w (c - 1) = x ∧ sY w (c - 1) = y)) : f_S_addCorner w x y = some (1, adC w c o x y) := by
  have l48 : nI c < 48 := (nI_ltI (a := c) (b := 48) (by omega) (by decide)).mpr h48
  by_cases h : o < c
  · have h1 : ¬ nI c ≤ nI o := fun z => by rw [nI_leI (by omega) (by omega)] at z; omega
    have hp : nI c - 1 = nI (c - 1) := pred_nI (by omega)
    have l1 : ld 48 (sX w) (nI (c - 1)) = some (sX w (c - 1)) := ld_nI (by omega) (by decide)
    have l2 : ld 48 (sY w) (nI (c - 1)) = some (sY w (c - 1)) := ld_nI (by omega) (by decide)
    have k0 : ck 48 (nI (c - 1)) = some () := ck_nI (by omega) (by decide)
    have k1 : (nI (c - 1)).toNatClampNeg = c - 1 := nI_clamp (by omega)
    have e56 : f_S_addCorner_j56 w x y = some (1, adC w c o x y) := by
      simp only [f_S_addCorner_j56, hc, hp, k0, k1, Option.bind_some]
      rw [j71_ev (u := ss_ends w (upd (sE w) (c - 1) (nI c))) (c := c) (o := o) hc ho h48]
      simp only [adC, if_pos h]
    by_cases e1 : lg_cmp (sX w (c - 1)) x = 0
    · by_cases e2 : lg_cmp (sY w (c - 1)) y = 0
      · exact absurd ⟨lgc_same.mp e1, lgc_same.mp e2⟩ (hd h)
      · simp only [f_S_addCorner, hc, ho, if_pos l48, if_neg h1, hp, l1, l2, Option.bind_some, if_pos e1, if_neg e2, e56]
    · simp only [f_S_addCorner, hc, ho, if_pos l48, if_neg h1, hp, l1, Option.bind_some, if_neg e1, e56]
  · have h1 : nI c ≤ nI o := by rw [nI_leI (by omega) (by omega)]; omega
    simp only [f_S_addCorner, hc, ho, if_pos l48, if_pos h1, j71_ev hc ho h48, adC, if_neg h]
theorem addC_full {w : SV} {x y : Int64} (hc : sN w = nI 48) : f_S_addCorner w x y = some (0, w) := by
  have l48 : ¬ nI 48 < (48 : Int32) := by decide
  simp only [f_S_addCorner, hc, if_neg l48, rb_0, Option.bind_some]
theorem addC_same {w : SV} {c o : Nat} {x y : Int64} (hc : sN w = nI c) (ho : sO w = nI o) (h : o < c) (h48 : c < 48) (hx : sX w (c - 1) = x) (hy : sY w (c - 1) = y) : f_S_addCorner w x y = some (0, w) := by
  have l48 : nI c < 48 := (nI_ltI (a := c) (b := 48) (by omega) (by decide)).mpr h48
  have h1 : ¬ nI c ≤ nI o := fun z => by rw [nI_leI (by omega) (by omega)] at z; omega
  have hp : nI c - 1 = nI (c - 1) := pred_nI (by omega)
  have l1 : ld 48 (sX w) (nI (c - 1)) = some (sX w (c - 1)) := ld_nI (by omega) (by decide)
  have l2 : ld 48 (sY w) (nI (c - 1)) = some (sY w (c - 1)) := ld_nI (by omega) (by decide)
  simp only [f_S_addCorner, hc, ho, if_pos l48, if_neg h1, hp, l1, l2, Option.bind_some, if_pos (lgc_same.mpr hx), if_pos (lgc_same.mpr hy), rb_0]
/-- the reference's add -/
def mAdd (mv : MV) (i c : Nat) (x y : Int64) : MV := ms_many (ms_cornerY (ms_cornerX mv (vp_updL (md_cornerX mv) (48 * i + c) x)) (vp_updL (md_cornerY mv) (48 * i + c) y)) (upd (md_many mv) i (nI (c + 1)))
theorem add_ev {mv : MV} {i c : Nat} {x y : Int64} (hi : i < 40) (hm : md_many mv i = nI c) (hc : c < 48) : f_M_add mv (nI i) x y = some (mAdd mv i c x y) := by
  have l1 : ld 40 (md_many mv) (nI i) = some (nI c) := by rw [ld_nI hi (by decide), hm]
  have l2 : ∀ f, ld 40 (md_many (ms_cornerX mv f)) (nI i) = some (nI c) := fun _ => l1
  have l3 : ∀ f g, ld 40 (md_many (ms_cornerY (ms_cornerX mv f) g)) (nI i) = some (nI c) := fun _ _ => l1
  have e : (48 : Int32) * nI i + nI c = nI (48 * i + c) := by rw [show (48 : Int32) = nI 48 from rfl, pk_mul, nI_add]
  have k0 : ck 1920 (nI (48 * i + c)) = some () := ck_nI (by omega) (by decide)
  have k1 : (nI (48 * i + c)).toNatClampNeg = 48 * i + c := nI_clamp (by omega)
  have k2 : ck 40 (nI i) = some () := ck_nI hi (by decide)
  have k3 : (nI i).toNatClampNeg = i := nI_clamp (by omega)
  simp only [f_M_add, l1, l2, l3, Option.bind_some, e, k0, k1, k2, k3, nI_1]
  rfl
theorem mAdd_other {mv : MV} {i c : Nat} {x y : Int64} {j : Nat} (hc : c < 48) (hj : j ≠ i) : Agr (mvS mv j) (mvS (mAdd mv i c x y) j) := by
  refine ⟨rfl, rfl, pk_un hj, rfl, fun k hk => ⟨?_, ?_⟩, fun _ _ => rfl⟩
  · show vp_updL (md_cornerX mv) (48 * i + c) x (48 * j + k) = md_cornerX mv (48 * j + k)
    exact pk_uLn (by omega)
  · show vp_updL (md_cornerY mv) (48 * i + c) y (48 * j + k) = md_cornerY mv (48 * j + k)
    exact pk_uLn (by omega)
theorem mAdd_self {mv : MV} {i c : Nat} {x y : Int64} : qK (mvS (mAdd mv i c x y) i) = qK (mvS mv i) ∧ qR (mvS (mAdd mv i c x y) i) = qR (mvS mv i) ∧ qN (mvS (mAdd mv i c x y) i) = nI (c + 1) ∧ qG (mvS (mAdd mv i c x y) i) = qG (mvS mv i) ∧ (∀ k, qX (mvS (mAdd mv i c x y) i) k = if k = c then x else qX (mvS mv i) k) ∧ (∀ k, qY (mvS (mAdd mv i c x y) i) k = if k = c then y else qY (mvS mv i) k) ∧ qE (mvS (mAdd mv i c x y) i) = qE (mvS mv i) := by
  refine ⟨rfl, rfl, pk_us, rfl, fun k => ?_, fun k => ?_, rfl⟩
  · show vp_updL (md_cornerX mv) (48 * i + c) x (48 * i + k) = _
    by_cases h : k = c
    · rw [if_pos h, h, pk_uLs]
    · rw [if_neg h, pk_uLn (by omega)]; rfl
  · show vp_updL (md_cornerY mv) (48 * i + c) y (48 * i + k) = _
    by_cases h : k = c
    · rw [if_pos h, h, pk_uLs]
    · rw [if_neg h, pk_uLn (by omega)]; rfl
