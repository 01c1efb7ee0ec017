/-! box -/
def Bgd (x y w h r : Int64) : Prop := Plc x y ∧ Rad w ∧ Rad h ∧ Plc (x + w) (y + h) ∧ 0 ≤ r.toInt ∧ 2 * r.toInt ≤ w.toInt ∧ 2 * r.toInt ≤ h.toInt
theorem half_int {x : Int64} (h1 : 0 ≤ x.toInt) : (x / 2).toInt = x.toInt / 2 := by
  obtain ⟨k, hk, e⟩ := pk_lOf (x := x) (by rw [Int64.lt_iff_toInt_lt]; exact Int.not_lt.mpr h1)
  subst e
  rw [show (2 : Int64) = lN 2 from rfl, pk_lDiv hk (by decide) (by decide), pk_lT (by omega), pk_lT hk]
  omega
theorem mbox_ev {mv : MV} {x y w h r : Int64} : (Bgd x y w h r ∧ f_M_box mv x y w h r = f_M_box_j101 mv x y w h r 0) ∨ (¬ Bgd x y w h r ∧ f_M_box mv x y w h r = some (0, ms_thrown mv 1)) := by
  have n1 : ¬ (1 : Int32) = 0 := by decide
  have bad : f_M_box_j101 mv x y w h r 1 = some (0, ms_thrown mv 1) := by simp only [f_M_box_j101, Option.bind_some, if_neg (thr_ne n1)]
  have z0 : (0 : Int64).toInt = 0 := by decide
  have z9 : (1000000000 : Int64).toInt = 1000000000 := by decide
  have bw := Int64.toInt_lt w
  have bh := Int64.toInt_lt h
  have br := Int64.toInt_lt r
  unfold Bgd
  unfold f_M_box
  simp only [lgc_lt, lgc_gt, z0, z9, f_M_box_j73, f_M_box_j74, f_M_box_j100, if_true, bad, if_neg n1]
  rcases place_M (x := x) (y := y) with ⟨p0, p1⟩ | ⟨p0, p1⟩
  · simp only [p1, Option.bind_some, if_neg n1]
    by_cases a1 : w.toInt < 0
    · right; simp only [if_pos a1]; exact ⟨fun q => absurd q.2.1.1 (by omega), trivial⟩
    by_cases a2 : 1000000000 < w.toInt
    · right; simp only [if_neg a1, if_pos a2]; exact ⟨fun q => absurd q.2.1.2 (by omega), trivial⟩
    by_cases a3 : h.toInt < 0
    · right; simp only [if_neg a1, if_neg a2, if_pos a3]; exact ⟨fun q => absurd q.2.2.1.1 (by omega), trivial⟩
    by_cases a4 : 1000000000 < h.toInt
    · right; simp only [if_neg a1, if_neg a2, if_neg a3, if_pos a4]; exact ⟨fun q => absurd q.2.2.1.2 (by omega), trivial⟩
    by_cases a5 : r.toInt < 0
    · right; simp only [if_neg a1, if_neg a2, if_neg a3, if_neg a4, if_pos a5]; exact ⟨fun q => absurd q.2.2.2.2.1 (by omega), trivial⟩
    have s1 : (w - r).toInt = w.toInt - r.toInt := j_sub (by omega) (by omega)
    have s2 : (h - r).toInt = h.toInt - r.toInt := j_sub (by omega) (by omega)
    rw [s1, s2]
    by_cases a6 : w.toInt - r.toInt < r.toInt
    · right; simp only [if_neg a1, if_neg a2, if_neg a3, if_neg a4, if_neg a5, if_pos a6]; exact ⟨fun q => absurd q.2.2.2.2.2.1 (by omega), trivial⟩
    by_cases a7 : h.toInt - r.toInt < r.toInt
    · right; simp only [if_neg a1, if_neg a2, if_neg a3, if_neg a4, if_neg a5, if_neg a6, if_pos a7]; exact ⟨fun q => absurd q.2.2.2.2.2.2 (by omega), trivial⟩
    simp only [if_neg a1, if_neg a2, if_neg a3, if_neg a4, if_neg a5, if_neg a6, if_neg a7]
    rcases place_M (x := x + w) (y := y + h) with ⟨q0, q1⟩ | ⟨q0, q1⟩
    · left; simp only [q1, Option.bind_some, if_neg n1]; exact ⟨⟨p0, ⟨by omega, by omega⟩, ⟨by omega, by omega⟩, q0, by omega, by omega, by omega⟩, trivial⟩
    · right; simp only [q1, Option.bind_some, if_true]; exact ⟨fun q => q0 q.2.2.2.1, trivial⟩
  · right; simp only [p1, Option.bind_some, if_true]; exact ⟨fun q => p0 q.1, trivial⟩
theorem fbox_ev {v : CV} {x y w h r : Int64} : (Bgd x y w h r → f_F_box v x y w h r = (f_F_roundedBox (x + r) (y + r) ((x + w) - r) ((y + h) - r) r).bind fun u => some (f_F_keep v u)) ∧ (¬ Bgd x y w h r → g_F_box v x y w h r = some "java/lang/IllegalArgumentException") := by
  have z0 : (0 : Int64).toInt = 0 := by decide
  unfold Bgd f_F_box g_F_box
  simp only [lgc_lt, lgc_gt, lgc_le, z0, g_F_box_j57]
  rcases need_place x y with ⟨p0, p1, p2, p3⟩ | ⟨p0, p1, p2, p3⟩
  · rcases need_len w with ⟨q0, q1, q2, q3⟩ | ⟨q0, q1, q2, q3⟩
    · rcases need_len h with ⟨t0, t1, t2, t3⟩ | ⟨t0, t1, t2, t3⟩
      · rcases need_place (x + w) (y + h) with ⟨u0, u1, u2, u3⟩ | ⟨u0, u1, u2, u3⟩
        · simp only [p1, p2, q1, q2, t1, t2, u1, u2, xthen, Option.bind_some]
          rw [half_int q0.1, half_int t0.1]
          by_cases a1 : r.toInt < 0
          · simp only [if_pos a1]; exact ⟨fun q => absurd q.2.2.2.2.1 (by omega), fun _ => trivial⟩
          by_cases a2 : w.toInt / 2 < r.toInt
          · simp only [if_neg a1, if_pos a2]; exact ⟨fun q => absurd q.2.2.2.2.2.1 (by omega), fun _ => trivial⟩
          by_cases a3 : r.toInt ≤ h.toInt / 2
          · simp only [if_neg a1, if_neg a2, if_pos a3]; exact ⟨fun _ => trivial, fun q => absurd ⟨p0, q0, t0, u0, by omega, by omega, by omega⟩ q⟩
          · simp only [if_neg a1, if_neg a2, if_neg a3]; exact ⟨fun q => absurd q.2.2.2.2.2.2 (by omega), fun _ => trivial⟩
        · simp only [p1, p2, q1, q2, t1, t2, u2, xthen, Option.bind_some]; exact ⟨fun q => absurd q.2.2.2.1 u0, fun _ => trivial⟩
      · simp only [p1, p2, q1, q2, t2, xthen, Option.bind_some]; exact ⟨fun q => absurd q.2.2.1 t0, fun _ => trivial⟩
    · simp only [p1, p2, q2, xthen, Option.bind_some]; exact ⟨fun q => absurd q.2.1 q0, fun _ => trivial⟩
  · simp only [p2, xthen]; exact ⟨fun q => absurd q.1 p0, fun _ => trivial⟩
theorem sv0_rest {f b : Int32} {r : Int64} : sN (sv0 f b r) = nI 0 ∧ sO (sv0 f b r) = nI 0 ∧ sB (sv0 f b r) = b ∧ sF (sv0 f b r) = f ∧ sR (sv0 f b r) = r := ⟨rfl, rfl, rfl, rfl, rfl⟩
/-- the class's box and the reference's -/
theorem rbox {q : QV} {l b rr t r : Int64} (hl : Plc l b) (hr : Plc rr t) (h1 : l.toInt ≤ rr.toInt) (h2 : b.toInt ≤ t.toInt) (hrad : Rad r) (k1 : qK q = 1) (k2 : qR q = r) (k3 : qN q = 2) (k4 : qG q = 0) (k5 : qX q 0 = l) (k6 : qX q 1 = rr) (k7 : qY q 0 = b) (k8 : qY q 1 = t) : ∃ u, f_F_roundedBox l b rr t r = some u ∧ RelS u q := by
  have n1 : ¬ (1 : Int32) = 0 := by decide
  by_cases hf : l.toInt < rr.toInt ∧ b.toInt < t.toInt
  · have nx : ¬ l = rr := fun z => by rw [z] at hf; omega
    have ny : ¬ b = t := fun z => by rw [z] at hf; omega
    have nx' : ¬ rr = l := fun z => nx z.symm
    have ny' : ¬ t = b := fun z => ny z.symm
    let u1 := adC (sv0 1 1 r) 0 0 l b
    let u2 := adC u1 1 0 rr b
    let u3 := adC u2 2 0 rr t
    let u4 := adC u3 3 0 l t
    have a1 : f_S_addCorner (sv0 1 1 r) l b = some (1, u1) := addC_ev (c := 0) (o := 0) rfl rfl (Nat.le_refl 0) (by decide) (fun z => absurd z (by decide))
    have a2 : f_S_addCorner u1 rr b = some (1, u2) := addC_ev (c := 1) (o := 0) adC_rest.2.2.2.1 adC_rest.2.2.2.2 (by decide) (by decide) (fun _ z => nx (by have := z.1; rw [(adC_X _).1, if_pos rfl] at this; exact this))
    have a3 : f_S_addCorner u2 rr t = some (1, u3) := addC_ev (c := 2) (o := 0) adC_rest.2.2.2.1 (adC_rest.2.2.2.2.trans adC_rest.2.2.2.2) (by decide) (by decide) (fun _ z => ny (by have := z.2; rw [(adC_X _).2, if_pos rfl] at this; exact this))
    have a4 : f_S_addCorner u3 l t = some (1, u4) := addC_ev (c := 3) (o := 0) adC_rest.2.2.2.1 (adC_rest.2.2.2.2.trans (adC_rest.2.2.2.2.trans adC_rest.2.2.2.2)) (by decide) (by decide) (fun _ z => nx' (by have := z.1; rw [(adC_X _).1, if_pos rfl] at this; exact this))
    have g1 : ¬ 0 ≤ lg_cmp l rr := fun z => by have := (lgc_ge _ _).mp z; omega
    have g2 : ¬ 0 ≤ lg_cmp b t := fun z => by have := (lgc_ge _ _).mp z; omega
    have B1 : sB u1 = 1 := adC_rest.2.1
    have B2 : sB u2 = 1 := adC_rest.2.1.trans B1
    have B3 : sB u3 = 1 := adC_rest.2.1.trans B2
    have B4 : sB u4 = 1 := adC_rest.2.1.trans B3
    have X4 : ∀ k, sX u4 k = if k = 3 then l else if k = 2 then rr else if k = 1 then rr else if k = 0 then l else 0 := fun k => by
      rw [(adC_X k).1, (adC_X k).1, (adC_X k).1, (adC_X k).1]; rfl
    have Y4 : ∀ k, sY u4 k = if k = 3 then t else if k = 2 then t else if k = 1 then b else if k = 0 then b else 0 := fun k => by
      rw [(adC_X k).2, (adC_X k).2, (adC_X k).2, (adC_X k).2]; rfl
    refine ⟨u4, ?_, ?_⟩
    · simp only [f_F_roundedBox, if_neg g1, if_neg g2, f_F_roundedBox_j19, bz_1, Option.bind_some, a1, if_neg n1, a2, f_F_roundedBox_j57, a3, a4, f_F_roundedBox_j81]
    · have F4 : sF u4 = 1 := adC_rest.1.trans (adC_rest.1.trans (adC_rest.1.trans adC_rest.1))
      have R4 : sR u4 = r := adC_rest.2.2.1.trans (adC_rest.2.2.1.trans (adC_rest.2.2.1.trans adC_rest.2.2.1))
      refine ⟨4, 0, by decide, by decide, adC_rest.2.2.2.1, adC_rest.2.2.2.2.trans (adC_rest.2.2.2.2.trans (adC_rest.2.2.2.2.trans adC_rest.2.2.2.2)), by rw [R4]; exact hrad, by rw [R4]; exact k2, by rw [F4]; exact k1, fun k hk => ?_, Or.inr (Or.inl ⟨F4, rfl, ?_⟩)⟩
      · rw [X4, Y4]
        have hA := hl.1; have hA2 := hl.2.1; have hA3 := hl.2.2.1; have hA4 := hl.2.2.2
        have hC := hr.1; have hC2 := hr.2.1; have hC3 := hr.2.2.1; have hC4 := hr.2.2.2
        rcases (show k = 0 ∨ k = 1 ∨ k = 2 ∨ k = 3 by omega) with z | z | z | z <;> subst z <;> refine ⟨?_, ?_, ?_, ?_⟩ <;> simp <;> assumption
      · unfold RelB
        rw [k5, k6, k7, k8]
        refine ⟨k3, k4, hl, hr, h1, h2, Or.inl ⟨nx, ny, B4, rfl, fun k hk => ?_, 0, Or.inl fun k hk => ?_⟩⟩
        · rw [adC_E]
          rcases (show k = 0 ∨ k = 1 ∨ k = 2 ∨ k = 3 by omega) with z | z | z | z <;> subst z
          · rw [if_neg (by decide), if_neg (by decide), adC_E, if_neg (by decide), if_neg (by decide), adC_E, if_neg (by decide), if_pos (by decide)]; rfl
          · rw [if_neg (by decide), if_neg (by decide), adC_E, if_neg (by decide), if_pos (by decide)]; rfl
          · rw [if_neg (by decide), if_pos (by decide)]; rfl
          · rw [if_pos rfl, B3]; rfl
        · rw [X4, Y4]
          rcases (show k = 0 ∨ k = 1 ∨ k = 2 ∨ k = 3 by omega) with z | z | z | z <;> subst z <;> exact ⟨rfl, rfl⟩
  · let u1 := adC (sv0 1 0 r) 0 0 l b
    have a1 : f_S_addCorner (sv0 1 0 r) l b = some (1, u1) := addC_ev (c := 0) (o := 0) rfl rfl (Nat.le_refl 0) (by decide) (fun z => absurd z (by decide))
    have hR : f_F_roundedBox l b rr t r = (f_S_addCorner u1 rr t).bind fun u7 => some u7.2 := by
      by_cases g1 : 0 ≤ lg_cmp l rr
      · simp only [f_F_roundedBox, if_pos g1, f_F_roundedBox_j18, f_F_roundedBox_j19, bz_0, Option.bind_some, a1, if_true, f_F_roundedBox_j57, f_F_roundedBox_j81]
      · have g2 : 0 ≤ lg_cmp b t := (lgc_ge _ _).mpr (by have q : ¬ rr.toInt ≤ l.toInt := fun z => g1 ((lgc_ge l rr).mpr z); omega)
        simp only [f_F_roundedBox, if_neg g1, if_pos g2, f_F_roundedBox_j18, f_F_roundedBox_j19, bz_0, Option.bind_some, a1, if_true, f_F_roundedBox_j57, f_F_roundedBox_j81]
    have X1 : sX u1 0 = l := by rw [(adC_X 0).1, if_pos rfl]
    have Y1 : sY u1 0 = b := by rw [(adC_X 0).2, if_pos rfl]
    have hd : l = rr ∨ b = t := by
      by_cases z : l.toInt < rr.toInt
      · right; exact Int64.toInt_inj.mp (by omega)
      · left; exact Int64.toInt_inj.mp (by omega)
    by_cases hs : l = rr ∧ b = t
    · have a2 : f_S_addCorner u1 rr t = some (0, u1) := addC_same (c := 1) (o := 0) adC_rest.2.2.2.1 adC_rest.2.2.2.2 (by decide) (by decide) (X1.trans hs.1) (Y1.trans hs.2)
      refine ⟨u1, by rw [hR, a2]; rfl, ?_⟩
      refine ⟨1, 0, by decide, by decide, adC_rest.2.2.2.1, adC_rest.2.2.2.2, by rw [adC_rest.2.2.1]; exact hrad, by rw [adC_rest.2.2.1]; exact k2, by rw [adC_rest.1]; exact k1, fun k hk => ?_, Or.inr (Or.inl ⟨adC_rest.1, rfl, ?_⟩)⟩
      · rw [show k = 0 by omega, X1, Y1]; exact hl
      · unfold RelB
        rw [k5, k6, k7, k8]
        refine ⟨k3, k4, hl, hr, h1, h2, Or.inr (Or.inr ⟨hs.1, hs.2, adC_rest.2.1, rfl, ?_, X1, Y1⟩)⟩
        rw [adC_E, if_pos rfl]; rfl
    · let u2 := adC u1 1 0 rr t
      have a2 : f_S_addCorner u1 rr t = some (1, u2) := addC_ev (c := 1) (o := 0) adC_rest.2.2.2.1 adC_rest.2.2.2.2 (by decide) (by decide) (fun _ z => hs ⟨X1.symm.trans z.1, Y1.symm.trans z.2⟩)
      have X2 : ∀ k, sX u2 k = if k = 1 then rr else if k = 0 then l else 0 := fun k => by rw [(adC_X k).1, (adC_X k).1]; rfl
      have Y2 : ∀ k, sY u2 k = if k = 1 then t else if k = 0 then b else 0 := fun k => by rw [(adC_X k).2, (adC_X k).2]; rfl
      have F2 : sF u2 = 1 := adC_rest.1.trans adC_rest.1
      have R2 : sR u2 = r := adC_rest.2.2.1.trans adC_rest.2.2.1
      refine ⟨u2, by rw [hR, a2]; rfl, ?_⟩
      refine ⟨2, 0, by decide, by decide, adC_rest.2.2.2.1, adC_rest.2.2.2.2.trans adC_rest.2.2.2.2, by rw [R2]; exact hrad, by rw [R2]; exact k2, by rw [F2]; exact k1, fun k hk => ?_, Or.inr (Or.inl ⟨F2, rfl, ?_⟩)⟩
      · rcases (show k = 0 ∨ k = 1 by omega) with z | z <;> subst z <;> rw [X2, Y2]
        · exact hl
        · exact hr
      · unfold RelB
        rw [k5, k6, k7, k8]
        refine ⟨k3, k4, hl, hr, h1, h2, Or.inr (Or.inl ⟨hd, hs, adC_rest.2.1.trans adC_rest.2.1, rfl, ?_, ?_, Or.inl ⟨by rw [X2]; rfl, by rw [Y2]; rfl, by rw [X2]; rfl, by rw [Y2]; rfl⟩⟩)⟩
        · rw [adC_E, if_neg (by decide), if_pos (by decide)]; rfl
        · rw [adC_E, if_pos rfl, show sB u1 = 0 from adC_rest.2.1]; rfl
theorem sim_box : Sim_box Rel := by
  intro v mv h x y w hh r
  have n1 : ¬ (1 : Int32) = 0 := by decide
  rcases mbox_ev (mv := mv) (x := x) (y := y) (w := w) (h := hh) (r := r) with ⟨hg, hM⟩ | ⟨hg, hM⟩
  · have ht := rel_thrown (t := 0) h
    have hF := (fbox_ev (v := v)).1 hg
    obtain ⟨⟨x1, x2, y1, y2⟩, ⟨w1, w2⟩, ⟨h1, h2⟩, ⟨x3, x4, y3, y4⟩, r1, r2, r3⟩ := hg
    have e1 : (x + r).toInt = x.toInt + r.toInt := j_add (by omega) (by omega)
    have e2 : (y + r).toInt = y.toInt + r.toInt := j_add (by omega) (by omega)
    have e3 : (x + w).toInt = x.toInt + w.toInt := j_add (by omega) (by omega)
    have e4 : (y + hh).toInt = y.toInt + hh.toInt := j_add (by omega) (by omega)
    have e5 : (x + w - r).toInt = x.toInt + w.toInt - r.toInt := by rw [j_sub (by omega) (by omega), e3]
    have e6 : (y + hh - r).toInt = y.toInt + hh.toInt - r.toInt := by rw [j_sub (by omega) (by omega), e4]
    rw [e3] at x3 x4
    rw [e4] at y3 y4
    have core : ∀ q : QV, qK q = 1 → qR q = r → qN q = 2 → qG q = 0 → qX q 0 = x + r → qX q 1 = x + w - r → qY q 0 = y + r → qY q 1 = y + hh - r → ∃ u, f_F_roundedBox (x + r) (y + r) (x + w - r) (y + hh - r) r = some u ∧ RelS u q := fun q k1 k2 k3 k4 k5 k6 k7 k8 =>
      rbox ⟨by omega, by omega, by omega, by omega⟩ ⟨by omega, by omega, by omega, by omega⟩ (by omega) (by omega) ⟨by omega, by omega⟩ k1 k2 k3 k4 k5 k6 k7 k8
    by_cases hn : v.1 < 40
    · have hb : f_M_begin (ms_thrown mv 0) 1 r = some (nI v.1, mBeg (ms_thrown mv 0) v.1 1 r) := begin_ev ht.2.1 hn
      have hm : md_many (mBeg (ms_thrown mv 0) v.1 1 r) v.1 = nI 0 := pk_us
      have ha := add_ev (x := x + r) (y := y + r) hn hm (by decide)
      have hm2 : md_many (mAdd (mBeg (ms_thrown mv 0) v.1 1 r) v.1 0 (x + r) (y + r)) v.1 = nI 1 := pk_us
      have ha2 := add_ev (x := x + w - r) (y := y + hh - r) hn hm2 (by decide)
      obtain ⟨m1, m2, m3, m4, m5, m6, m7⟩ := mAdd_self (mv := mBeg (ms_thrown mv 0) v.1 1 r) (i := v.1) (c := 0) (x := x + r) (y := y + r)
      obtain ⟨o1, o2, o3, o4, o5, o6, o7⟩ := mAdd_self (mv := mAdd (mBeg (ms_thrown mv 0) v.1 1 r) v.1 0 (x + r) (y + r)) (i := v.1) (c := 1) (x := x + w - r) (y := y + hh - r)
      have bs := mBeg_self (mv := ms_thrown mv 0) (n := v.1) (k := 1) (r := r)
      obtain ⟨u, u1, u2⟩ := core (mvS (mAdd (mAdd (mBeg (ms_thrown mv 0) v.1 1 r) v.1 0 (x + r) (y + r)) v.1 1 (x + w - r) (y + hh - r)) v.1) (by rw [o1, m1, bs]; rfl) (by rw [o2, m2, bs]; rfl) o3 (by rw [o4, m4, bs]; rfl) (by rw [o5, if_neg (by decide), m5, if_pos rfl]) (by rw [o5, if_pos rfl]) (by rw [o6, if_neg (by decide), m6, if_pos rfl]) (by rw [o6, if_pos rfl])
      rw [u1] at hF
      refine ⟨(nI v.1, mAdd (mAdd (mBeg (ms_thrown mv 0) v.1 1 r) v.1 0 (x + r) (y + r)) v.1 1 (x + w - r) (y + hh - r)), ?_, Or.inl ⟨_, hF, rfl, ?_, ?_⟩⟩
      · rw [hM]
        simp only [f_M_box_j101, Option.bind_some, if_pos thr_0, if_neg (fun z => absurd ((full_iff ht).mp z) (fun q => q hn)), hb, ha, ha2]
      · rw [show f_F_keep v u = _ from if_pos hn]
      · rw [show f_F_keep v u = _ from if_pos hn]
        refine rel_push ht hn rfl (fun j hj => ?_) u2
        have a1 := mAdd_other (mv := mBeg (ms_thrown mv 0) v.1 1 r) (i := v.1) (c := 0) (x := x + r) (y := y + r) (j := j) (by decide) (by omega)
        rw [mBeg_other (by omega)] at a1
        exact a1.tr (mAdd_other (by decide) (by omega))
    · obtain ⟨u, u1, u2⟩ := core (1, r, 2, 0, (fun k => if k = 0 then x + r else x + w - r), (fun k => if k = 0 then y + r else y + hh - r), fun _ => 0) rfl rfl rfl rfl rfl rfl rfl rfl
      rw [u1] at hF
      refine ⟨(-1, ms_thrown mv 0), ?_, Or.inl ⟨_, hF, rfl, ?_, ?_⟩⟩
      · rw [hM]
        simp only [f_M_box_j101, Option.bind_some, if_pos thr_0, if_pos ((full_iff ht).mpr hn)]
      · rw [show f_F_keep v u = _ from if_neg hn]
      · rw [show f_F_keep v u = _ from if_neg hn]; exact ht
  · exact ⟨(0, ms_thrown mv 1), hM, Or.inr ⟨(fbox_ev (v := v)).2 hg, rfl, rel_thrown h⟩⟩
