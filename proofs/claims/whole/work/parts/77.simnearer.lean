/-! nearer: the simulation -/
theorem two_of {mv u1 u2 : MV} {v w : SV} {c c' m m' : Nat} {f f' : Nat → Sg} (A : Adv mv u1 0 0 m f) (A' : Adv u1 u2 1 0 m' f') (F : Fig v c m f) (F' : Fig w c' m' f') : Two u2 m f m' f' := by
  have hm := F.2.2.1
  have hm' := F'.2.2.1
  refine ⟨hm, hm', (A'.2.2.1 0 (by decide)).trans A.2.1, A'.2.1, fun j hj => ?_, fun j hj => ?_, F.2.2.2.1, F'.2.2.2.1⟩
  · have a := A'.2.2.2.2 j (by omega)
    have b := A.2.2.2.1 j (Nat.zero_le j) hj
    rw [a]
    rw [show 48 * 0 + j = j by omega] at b
    exact b
  · have b := A'.2.2.2.1 j (Nat.zero_le j) hj
    rw [show 48 * 1 + j = 48 + j by omega] at b
    exact b
theorem false_or_iff (p : Prop) : (False ∨ p) ↔ p := ⟨fun h => h.elim False.elim id, Or.inr⟩
theorem neg_sub (x : Int32) : (0 : Int32) - x = -x := by rw [Int32.sub_eq_add_neg, Int32.zero_add]
theorem pos_le (x : Int32) : (0 < x) ↔ ¬ x ≤ 0 := by
  rw [Int32.lt_iff_toInt_lt, Int32.le_iff_toInt_le]; omega
theorem sum_rch {a b d : Int64} (ha : Rad a) (hb : Rad b) (hd : Rad d) : Rch (a + b + d) := by
  obtain ⟨a1, a2⟩ := ha
  obtain ⟨b1, b2⟩ := hb
  obtain ⟨d1, d2⟩ := hd
  have e1 := j_add (a := a) (b := b) (by omega) (by omega)
  have e2 := j_add (a := a + b) (b := d) (by omega) (by omega)
  unfold Rch
  rw [e2, e1]
  omega
theorem capart_0 {mv u1 u2 : MV} {a b : Int32} {r : Int64} (pe : f_M_pieces mv (nI 0) a = some u1) (pe' : f_M_pieces u1 (nI 1) b = some u2) (hH : f_M_haveCommon u2 a b = some 0) : f_M_coresApart mv a b r = f_M_coresApart_l39 64 u2 r 1 (nI 0) := by
  unfold f_M_coresApart
  have pe0 : f_M_pieces mv 0 a = some u1 := pe
  have pe1 : f_M_pieces u1 1 b = some u2 := pe'
  rw [pe0, Option.bind_some, pe1, Option.bind_some, hH, Option.bind_some, if_pos rfl]
  rfl
theorem capart_1 {mv u1 u2 : MV} {a b : Int32} {r : Int64} (pe : f_M_pieces mv (nI 0) a = some u1) (pe' : f_M_pieces u1 (nI 1) b = some u2) (hH : f_M_haveCommon u2 a b = some 1) (hr : Rch r) : f_M_coresApart mv a b r = some (cmpZ 0 r.toInt, u2) := by
  have t0 : (0 : Int64).toInt = 0 := by decide
  unfold f_M_coresApart
  have pe0 : f_M_pieces mv 0 a = some u1 := pe
  have pe1 : f_M_pieces u1 1 b = some u2 := pe'
  rw [pe0, Option.bind_some, pe1, Option.bind_some, hH, Option.bind_some, if_neg one_n0]
  unfold f_M_coresApart_j32 cmpZ
  have r0 := hr.1
  by_cases z : r.toInt ≤ 0
  · rw [if_pos ((lgc_le _ _).mpr (by rw [t0]; exact z)), if_neg (show ¬ (0 : Int) < r.toInt by omega), if_pos (show (0 : Int) = r.toInt by omega)]
  · rw [if_neg (fun y => z (by have := (lgc_le _ _).mp y; rw [t0] at this; exact this)), if_pos (show (0 : Int) < r.toInt by omega)]
theorem ap_fin {u : MV} {m m' : Nat} {f f' : Nat → Sg} {r : Int64} (T : Two u m f m' f') (hr : Rch r) : ∃ t', f_M_coresApart_l39 64 u r 1 (nI 0) = some (mn (∃ i, 0 ≤ i ∧ i < m ∧ ∃ j, 0 ≤ j ∧ j < m' ∧ D1 (fun z => z = -1) (toQ (f i)) (toQ (f' j)) r.toInt) (∃ i, 0 ≤ i ∧ i < m ∧ ∃ j, 0 ≤ j ∧ j < m' ∧ D1 (fun z => z ≠ 1) (toQ (f i)) (toQ (f' j)) r.toInt), ms_digits u t') := by
  obtain ⟨t', e'⟩ := ap_out T hr 64 0 (md_digits u) False False (Nat.zero_le m) (by have := T.1; omega)
  refine ⟨t', ?_⟩
  have su : ms_digits u (md_digits u) = u := rfl
  rw [mn_ff, su] at e'
  rw [e', mn_c (false_or_iff _) (false_or_iff _)]
theorem apart_fig {mv u1 u2 : MV} {v w : SV} {a b c c' m m' : Nat} {f f' : Nat → Sg} {r : Int64} (A : Adv mv u1 0 0 m f) (A' : Adv u1 u2 1 0 m' f') (F : Fig v c m f) (F' : Fig w c' m' f') (hr : Rch r) (pe : f_M_pieces mv (nI 0) (nI a) = some u1) (pe' : f_M_pieces u1 (nI 1) (nI b) = some u2) (ha : f_M_hasArea u2 (nI a) = some (bP (sB v = 1))) (hb : f_M_hasArea u2 (nI b) = some (bP (sB w = 1))) :
    ∃ z mv', f_P_compareCores v w r = some z ∧ f_M_coresApart mv (nI a) (nI b) r = some (z, mv') ∧ Kep u2 mv' := by
  have T := two_of A A' F F'
  have hM := meets_ev F.1 (fig_b F) F'.1 (fig_b F')
  have hH := common_ev T ha hb
  rw [← bP_c (fig_M F F')] at hH
  rcases ccores_ev F.1 (fig_b F) F'.1 (fig_b F') hr hM with ⟨q, e⟩ | ⟨q, e⟩
  · rw [bP_t q] at hH
    exact ⟨_, u2, e, capart_1 pe pe' hH hr, ⟨rfl, rfl, fun _ => rfl⟩⟩
  · rw [bP_f q] at hH
    obtain ⟨t', e'⟩ := ap_fin T hr
    rw [← capart_0 pe pe' hH] at e'
    refine ⟨_, ms_digits u2 t', e, e'.trans ?_, dig_k u2 t'⟩
    refine congrArg (fun z => some (z, ms_digits u2 t')) (mn_c ?_ ?_)
    · exact (fig_T F F' (fun z => z = -1) (fun s h => (sub_d s).1 h)).symm
    · exact (fig_T F F' (fun z => z ≠ 1) (fun s h => (sub_d s).2 h)).symm
theorem apart_all {v : CV} {mv : MV} {a b c o c' o' : Nat} {r : Int64} (R : Rel v mv) (ha : a < v.1) (hb : b < v.1) (hr : Rch r)
    (hc : c ≤ 48) (en : sN (v.2 a) = nI c) (hp : ∀ k, k < c → Plc (sX (v.2 a) k) (sY (v.2 a) k))
    (sh : (sF (v.2 a) = 0 ∧ o = 0 ∧ c = 1 ∧ RelL (v.2 a) (mvS mv a) c) ∨ (sF (v.2 a) = 1 ∧ o = 0 ∧ RelB (v.2 a) (mvS mv a) c) ∨ (sF (v.2 a) = 2 ∧ RelP (v.2 a) (mvS mv a) c o) ∨ (sF (v.2 a) = 3 ∧ o = 0 ∧ RelL (v.2 a) (mvS mv a) c)) (W : Whl (v.2 a) c o)
    (hc' : c' ≤ 48) (en' : sN (v.2 b) = nI c') (hp' : ∀ k, k < c' → Plc (sX (v.2 b) k) (sY (v.2 b) k))
    (sh' : (sF (v.2 b) = 0 ∧ o' = 0 ∧ c' = 1 ∧ RelL (v.2 b) (mvS mv b) c') ∨ (sF (v.2 b) = 1 ∧ o' = 0 ∧ RelB (v.2 b) (mvS mv b) c') ∨ (sF (v.2 b) = 2 ∧ RelP (v.2 b) (mvS mv b) c' o') ∨ (sF (v.2 b) = 3 ∧ o' = 0 ∧ RelL (v.2 b) (mvS mv b) c')) (W' : Whl (v.2 b) c' o') :
    ∃ z mv', f_P_compareCores (v.2 a) (v.2 b) r = some z ∧ f_M_coresApart mv (nI a) (nI b) r = some (z, mv') ∧ Kep mv mv' := by
  obtain ⟨m, f, u1, pe, A, F⟩ := fig_ev (h := 0) R ha (by decide) hc en hp sh W
  have R1 : Rel v u1 := kep_rel R A.1
  rw [← A.1.2.2 b] at sh'
  obtain ⟨m', f', u2, pe', A', F'⟩ := fig_ev (h := 1) R1 hb (by decide) hc' en' hp' sh' W'
  have R2 : Rel v u2 := kep_rel R1 A'.1
  obtain ⟨z, mv', e, e', K⟩ := apart_fig A A' F F' hr pe pe' (area_ev R2 ha) (area_ev R2 hb)
  exact ⟨z, mv', e, e', (A.1.tr A'.1).tr K⟩
theorem sim_nearer : Sim_nearer Rel := by
  intro v mv h x x' d
  have j53b : ∀ (t : Int32), ¬ t = 0 → f_M_nearer_j53 mv x x' d t = some (0, ms_thrown mv t) := fun t ht => by simp only [f_M_nearer_j53, Option.bind_some, if_neg (thr_ne ht)]
  rcases find_or h x with ⟨e1, e2, e3⟩ | ⟨a, ha, ex, e1, e2, e3⟩
  · refine ⟨(0, ms_thrown mv 1), by simp only [f_M_nearer, e3, Option.bind_some, if_true, f_M_nearer_j17, j53b 1 (by decide)], Or.inr (Or.inl ⟨?_, rfl, rel_thrown h⟩)⟩
    unfold g_F_nearer; rw [e2]; rfl
  rcases find_or h x' with ⟨y1, y2, y3⟩ | ⟨b, hb, ey, y1, y2, y3⟩
  · refine ⟨(0, ms_thrown mv 1), by simp only [f_M_nearer, e3, y3, Option.bind_some, if_neg one_n0, if_true, f_M_nearer_j17, j53b 1 (by decide)], Or.inr (Or.inl ⟨?_, rfl, rel_thrown h⟩)⟩
    simp only [g_F_nearer, e1, e2, y2, xthen, Option.bind_some]
  obtain ⟨c, o, hc, ho, en, eo, hp, sh, W⟩ := whole_or h ha
  rw [← ex] at W
  rcases W.symm with ⟨w1, w2, w3⟩ | ⟨W, w1, w2, w3⟩
  · refine ⟨(0, ms_thrown mv 2), by simp only [f_M_nearer, e3, y3, w3, Option.bind_some, if_neg one_n0, if_true, f_M_nearer_j37, j53b 2 (by decide)], Or.inr (Or.inr (Or.inl ⟨?_, rfl, rel_thrown h⟩))⟩
    simp only [g_F_nearer, e1, e2, y1, y2, w2, xthen, Option.bind_some]
  obtain ⟨c', o', hc', ho', en', eo', hp', sh', W'⟩ := whole_or h hb
  rw [← ey] at W'
  rcases W'.symm with ⟨v1, v2, v3⟩ | ⟨W', v1, v2, v3⟩
  · refine ⟨(0, ms_thrown mv 2), by simp only [f_M_nearer, e3, y3, w3, v3, Option.bind_some, if_neg one_n0, if_true, f_M_nearer_j37, j53b 2 (by decide)], Or.inr (Or.inr (Or.inl ⟨?_, rfl, rel_thrown h⟩))⟩
    simp only [g_F_nearer, e1, e2, y1, y2, w1, w2, v2, xthen, Option.bind_some]
  rcases (need_len d).symm with ⟨pl, p1, p2, p3⟩ | ⟨pl, p1, p2, p3⟩
  · refine ⟨(0, ms_thrown mv 3), by simp only [f_M_nearer, e3, y3, w3, v3, p3, Option.bind_some, if_neg one_n0, if_true, j53b 3 (by decide)], Or.inr (Or.inr (Or.inr ⟨?_, rfl, rel_thrown h⟩))⟩
    simp only [g_F_nearer, e1, e2, y1, y2, w1, w2, v1, v2, p2, xthen, Option.bind_some]
  obtain ⟨-, lra, rada, -⟩ := kind_ld h ha
  obtain ⟨-, lrb, radb, -⟩ := kind_ld h hb
  have hr := sum_rch rada radb pl
  have R0 := rel_thrown (t := 0) h
  obtain ⟨z, mv', ec, em, K⟩ := apart_all R0 ha hb hr hc en hp sh W hc' en' hp' sh' W'
  have es : d + sR (v.2 a) + sR (v.2 b) = sR (v.2 a) + sR (v.2 b) + d := by rw [Int64.add_assoc, Int64.add_comm]
  have l1 : ld 40 (md_radii (ms_thrown mv 0)) x = some (sR (v.2 a)) := by rw [ex]; exact lra
  have l2 : ld 40 (md_radii (ms_thrown mv 0)) x' = some (sR (v.2 b)) := by rw [ey]; exact lrb
  rw [← ex, ← ey] at em
  have R' : Rel v mv' := kep_rel R0 K
  have eC : f_F_nearer v x x' d = some (if lg_cmp d 0 = 0 then (if 0 < z then -1 else 0) else -z) := by
    simp only [f_F_nearer, e1, y1, w1, v1, p1, ec, Option.bind_some, f_F_nearer_j66]
    split
    · split <;> rfl
    · rfl
  have eM : f_M_nearer mv x x' d = some (if lg_cmp d 0 = 0 then (if 0 < z then -1 else 0) else -z, mv') := by
    simp only [f_M_nearer, e3, y3, w3, v3, p3, Option.bind_some, if_neg one_n0, f_M_nearer_j53, if_pos thr_0, l1, l2, es, em, f_M_nearer_j104, neg_sub]
    by_cases q : lg_cmp d 0 = 0
    · rw [if_pos q, if_pos q]
      by_cases p : z ≤ 0
      · rw [if_pos p, if_neg (fun y => (pos_le z).mp y p)]
      · rw [if_neg p, if_pos ((pos_le z).mpr p)]
    · rw [if_neg q, if_neg q]
  exact ⟨_, eM, Or.inl ⟨_, eC, K.2.1, rfl, R'⟩⟩
