/-! same -/
theorem isc_ev {u : MV} {I h m : Nat} {σ : Sg} {f : Nat → Sg} (hh : h < 2) (hm : m ≤ 48) (hI : I < 96) (hs : sg u I = σ) (p1 : Plc σ.1 σ.2.1) (p2 : Plc σ.2.2.1 σ.2.2.2) (T : Stch u (48 * h) m f) (hz : md_size u h = nI m) : f_M_isCovered u (nI I) (nI h) = some (bP (Cov (toQ σ) (fun j => toQ (f j)) m)) := by
  obtain ⟨r1, r2, r3, r4⟩ := sg_rd hI hs
  have sz : ld 2 (md_size u) (nI h) = some (nI m) := by rw [ld_nI hh (by decide), hz]
  have e48 : (48 : Int32) * nI h = nI (48 * h) := by rw [show (48 : Int32) = nI 48 from rfl, pk_mul]
  have far : ¬ dg (toQ σ) → f_M_isCovered_j127 u (nI I) (nI (48 * h)) (nI (48 * h + m)) = some (bP (Cov (toQ σ) (fun j => toQ (f j)) m)) := fun nd => by
    rw [cov_out hI hm hs p1 p2 T nd]
    exact congrArg some (bP_c ⟨fun z => Or.inr ⟨nd, z⟩, fun z => z.elim (fun y => absurd y.1 nd) (fun y => y.2)⟩)
  have near : dg (toQ σ) → f_M_isCovered_l53 u 64 (nI I) (nI (48 * h + m)) 0 (nI (48 * h)) = some (bP (Cov (toQ σ) (fun j => toQ (f j)) m)) := fun d => by
    have M := lp_or (L := fun n a p => f_M_isCovered_l53 u n (nI I) (nI (48 * h + m)) a (nI (48 * h) + p)) (lo := 0) (c := m) (P := fun j => onQ (toQ (f j)) σ.1.toInt σ.2.1.toInt) (K := some) (fun n F => ?_) (fun n F k _ hk => ?_) 64 0 False (Nat.le_refl 0) (Nat.zero_le m) (by omega)
    · have f0 : bP False = 0 := bP_f id
      have n0 : nI (48 * h) + nI 0 = nI (48 * h) := by rw [nI_add, Nat.add_zero]
      simp only [f0, n0] at M
      refine M.trans (congrArg some (bP_c ⟨?_, ?_⟩))
      · rintro (z | ⟨j, -, hj, z⟩)
        · exact z.elim
        · exact Or.inl ⟨d, j, hj, z⟩
      · rintro (⟨-, j, hj, z⟩ | ⟨z, -⟩)
        · exact Or.inr ⟨j, Nat.zero_le j, hj, z⟩
        · exact absurd d z
    · have hle : nI (48 * h + m) ≤ nI (48 * h + m) := nI_hle (by omega) (by omega) |>.mpr (Nat.le_refl _)
      simp only [f_M_isCovered_l53, nI_add, if_pos hle, bP_rb]
    · have hle : ¬ nI (48 * h + m) ≤ nI (48 * h + k) := fun q => by rw [nI_hle (by omega) (by omega)] at q; omega
      obtain ⟨q1, q2⟩ := T.2.2 k hk
      obtain ⟨s1, s2, s3, s4⟩ := sg_rd (by omega) (T.2.1 k hk)
      have io : f_M_isOn σ.1 σ.2.1 (f k).1 (f k).2.1 (f k).2.2.1 (f k).2.2.2 = some (bP (onQ (toQ (f k)) σ.1.toInt σ.2.1.toInt)) := ison_ev p1 q1 q2
      have e1 : nI (48 * h + k) + 1 = nI (48 * h + (k + 1)) := by rw [nI_1, Nat.add_assoc]
      by_cases hF : F
      · have l : ¬ bP F = 0 := fun z => bP_z.mp z hF
        simp only [f_M_isCovered_l53, nI_add, if_neg hle, if_neg l, f_M_isCovered_j111, f_M_isCovered_j116, e1]
        rw [bP_t (P := F ∨ _) (Or.inl hF)]
      · have l : bP F = 0 := bP_f hF
        by_cases hO : onQ (toQ (f k)) σ.1.toInt σ.2.1.toInt
        · have l2 : ¬ bP (onQ (toQ (f k)) σ.1.toInt σ.2.1.toInt) = 0 := fun z => bP_z.mp z hO
          simp only [f_M_isCovered_l53, nI_add, if_neg hle, if_pos l, r1, r2, s1, s2, s3, s4, Option.bind_some, io, if_neg l2, f_M_isCovered_j111, f_M_isCovered_j116, e1]
          rw [bP_t (P := F ∨ _) (Or.inr hO)]
        · have l2 : bP (onQ (toQ (f k)) σ.1.toInt σ.2.1.toInt) = 0 := bP_f hO
          simp only [f_M_isCovered_l53, nI_add, if_neg hle, if_pos l, r1, r2, s1, s2, s3, s4, Option.bind_some, io, if_pos l2, f_M_isCovered_j116, e1]
          rw [bP_f (P := F ∨ _) (fun z => z.elim hF hO)]
  unfold f_M_isCovered
  rw [sz, Option.bind_some, Option.bind_some, r1, Option.bind_some, r3, Option.bind_some, e48, nI_add]
  by_cases hx : lg_cmp σ.1 σ.2.2.1 = 0
  · rw [if_pos hx, r2, Option.bind_some, r4, Option.bind_some]
    rw [lgc_eq] at hx
    by_cases hy : lg_cmp σ.2.1 σ.2.2.2 = 0
    · rw [if_pos hy]
      rw [lgc_eq] at hy
      exact near ⟨hx, hy⟩
    · rw [if_neg hy]
      exact far (fun d => hy ((lgc_eq _ _).mpr d.2))
  · rw [if_neg hx]
    exact far (fun d => hx ((lgc_eq _ _).mpr d.1))
theorem covs_ev {u : MV} {h h' m m' : Nat} {f f' : Nat → Sg} (hh : h < 2) (hh' : h' < 2) (hm : m ≤ 48) (hm' : m' ≤ 48) (T : Stch u (48 * h) m f) (T' : Stch u (48 * h') m' f') (hz : md_size u h = nI m) (hz' : md_size u h' = nI m') : f_M_covers u (nI h) (nI h') = some (bP (∀ i, i < m' → Cov (toQ (f' i)) (fun j => toQ (f j)) m)) := by
  have sz : ld 2 (md_size u) (nI h') = some (nI m') := by rw [ld_nI hh' (by decide), hz']
  have e48 : (48 : Int32) * nI h' = nI (48 * h') := by rw [show (48 : Int32) = nI 48 from rfl, pk_mul]
  have M := lp_al (L := fun n a p => f_M_covers_l8 u n (nI h) (nI h') a (nI (48 * h') + p)) (lo := 0) (c := m') (P := fun i => Cov (toQ (f' i)) (fun j => toQ (f j)) m) (K := some) (fun n F => ?_) (fun n F i _ hi => ?_) 64 0 True (Nat.le_refl 0) (Nat.zero_le m') (by omega)
  · have f0 : bP True = 1 := bP_t trivial
    have n0 : nI (48 * h') + nI 0 = nI (48 * h') := by rw [nI_add, Nat.add_zero]
    simp only [f0, n0] at M
    unfold f_M_covers
    rw [e48]
    refine M.trans (congrArg some (bP_c ⟨fun z i hi => z.2 i (Nat.zero_le i) hi, fun z => ⟨trivial, fun i _ hi => z i hi⟩⟩))
  · have hle : nI (48 * h' + m') ≤ nI (48 * h' + m') := nI_hle (by omega) (by omega) |>.mpr (Nat.le_refl _)
    simp only [f_M_covers_l8, sz, Option.bind_some, e48, nI_add, if_pos hle, bP_rb]
  · have hle : ¬ nI (48 * h' + m') ≤ nI (48 * h' + i) := fun q => by rw [nI_hle (by omega) (by omega)] at q; omega
    have e1 : nI (48 * h' + i) + 1 = nI (48 * h' + (i + 1)) := by rw [nI_1, Nat.add_assoc]
    have ic := isc_ev hh hm (show 48 * h' + i < 96 by omega) (T'.2.1 i hi) (T'.2.2 i hi).1 (T'.2.2 i hi).2 T hz
    by_cases hF : F
    · have l : ¬ bP F = 0 := fun z => bP_z.mp z hF
      by_cases hC : Cov (toQ (f' i)) (fun j => toQ (f j)) m
      · have l2 : ¬ bP (Cov (toQ (f' i)) (fun j => toQ (f j)) m) = 0 := fun z => bP_z.mp z hC
        simp only [f_M_covers_l8, sz, Option.bind_some, e48, nI_add, if_neg hle, if_neg l, ic, if_neg l2, f_M_covers_j43, e1]
        rw [bP_t (P := F ∧ _) ⟨hF, hC⟩]
      · have l2 : bP (Cov (toQ (f' i)) (fun j => toQ (f j)) m) = 0 := bP_f hC
        simp only [f_M_covers_l8, sz, Option.bind_some, e48, nI_add, if_neg hle, if_neg l, ic, if_pos l2, f_M_covers_j42, f_M_covers_j43, e1]
        rw [bP_f (P := F ∧ _) (fun z => hC z.2)]
    · have l : bP F = 0 := bP_f hF
      simp only [f_M_covers_l8, sz, Option.bind_some, e48, nI_add, if_neg hle, if_pos l, f_M_covers_j42, f_M_covers_j43, e1]
      rw [bP_f (P := F ∧ _) (fun z => hF z.1)]
theorem fig_cov {v w : SV} {c c' m m' : Nat} {f f' : Nat → Sg} (F : Fig v c m f) (F' : Fig w c' m' f') : (∀ q, q < c' → Cov (cs w q) (cs v) c) ↔ ∀ i, i < m' → Cov (toQ (f' i)) (fun j => toQ (f j)) m := by
  constructor
  · intro h i hi
    obtain ⟨k, hk, s⟩ := F'.2.2.2.2.2.1 i hi
    exact cov_fam F.2.2.2.2.1 (cov_sub s (h k hk))
  · intro h q hq
    obtain ⟨i, hi, s⟩ := F'.2.2.2.2.1 q hq
    exact cov_fam (B := cs v) (m := c) F.2.2.2.2.2.1 (cov_sub s (h i hi))
theorem same_fig {mv u1 u2 : MV} {v w : SV} {c c' m m' : Nat} {f f' : Nat → Sg} (A : Adv mv u1 0 0 m f) (A' : Adv u1 u2 1 0 m' f') (F : Fig v c m f) (F' : Fig w c' m' f') : ∃ P Q : Prop, f_P_coversAll v w = some (bP P) ∧ f_P_coversAll w v = some (bP Q) ∧ f_M_covers u2 (nI 0) (nI 1) = some (bP P) ∧ f_M_covers u2 (nI 1) (nI 0) = some (bP Q) := by
  obtain ⟨hm, hm', z0, z1, hf, hf', pl, pl'⟩ := two_of A A' F F'
  have T0 : Stch u2 (48 * 0) m f := ⟨by omega, fun j hj => by rw [show 48 * 0 + j = j by omega]; exact hf j hj, pl⟩
  have T1 : Stch u2 (48 * 1) m' f' := ⟨by omega, fun j hj => by rw [show 48 * 1 + j = 48 + j by omega]; exact hf' j hj, pl'⟩
  refine ⟨_, _, call_ev F.1 F'.1, call_ev F'.1 F.1, ?_, ?_⟩
  · rw [covs_ev (by decide) (by decide) hm hm' T0 T1 z0 z1, bP_c (fig_cov F F')]
  · rw [covs_ev (by decide) (by decide) hm' hm T1 T0 z1 z0, bP_c (fig_cov F' F)]
theorem msame_st {mv u1 u2 : MV} {x y : Int32} {ra rb' : Int64} {A B P Q : Prop} (t0 : md_thrown (ms_thrown mv 0) = 0) (l1 : ld 40 (md_radii (ms_thrown mv 0)) x = some ra) (l2 : ld 40 (md_radii (ms_thrown mv 0)) y = some rb') (a1 : f_M_hasArea (ms_thrown mv 0) x = some (bP A)) (a2 : f_M_hasArea (ms_thrown mv 0) y = some (bP B)) (pe : f_M_pieces (ms_thrown mv 0) (nI 0) x = some u1) (pe' : f_M_pieces u1 (nI 1) y = some u2) (c1 : f_M_covers u2 (nI 0) (nI 1) = some (bP P)) (c2 : f_M_covers u2 (nI 1) (nI 0) = some (bP Q)) : ∃ u, (u = ms_thrown mv 0 ∨ u = u2) ∧ f_M_same_j42 mv x y 0 = some (bP (ra = rb' ∧ (A ↔ B) ∧ P ∧ Q), u) := by
  have pe0 : f_M_pieces (ms_thrown mv 0) 0 x = some u1 := pe
  have pe1 : f_M_pieces u1 1 y = some u2 := pe'
  have c01 : f_M_covers u2 0 1 = some (bP P) := c1
  have c10 : f_M_covers u2 1 0 = some (bP Q) := c2
  have ab : (bP A = bP B) ↔ (A ↔ B) := by
    by_cases h1 : A
    · by_cases h2 : B
      · rw [bP_t h1, bP_t h2]; exact ⟨fun _ => ⟨fun _ => h2, fun _ => h1⟩, fun _ => rfl⟩
      · rw [bP_t h1, bP_f h2]; exact ⟨fun z => absurd z one_n0, fun z => absurd (z.mp h1) h2⟩
    · by_cases h2 : B
      · rw [bP_f h1, bP_t h2]; exact ⟨fun z => absurd z.symm one_n0, fun z => absurd (z.mpr h2) h1⟩
      · rw [bP_f h1, bP_f h2]; exact ⟨fun _ => ⟨fun z => absurd z h1, fun z => absurd z h2⟩, fun _ => rfl⟩
  by_cases h1 : lg_cmp ra rb' = 0
  · have q1 := lgc_same.mp h1
    by_cases h2 : bP A = bP B
    · have q2 := ab.mp h2
      refine ⟨u2, Or.inr rfl, ?_⟩
      by_cases h3 : P
      · have l3 : ¬ bP P = 0 := fun z => bP_z.mp z h3
        by_cases h4 : Q
        · have l4 : ¬ bP Q = 0 := fun z => bP_z.mp z h4
          rw [bP_t (P := _ ∧ _) ⟨q1, q2, h3, h4⟩]
          simp only [f_M_same_j42, Option.bind_some, if_pos t0, l1, l2, if_pos h1, a1, a2, if_pos h2, pe0, pe1, c01, if_neg l3, c10, if_neg l4, f_M_same_j118, rb_1]
        · have l4 : bP Q = 0 := bP_f h4
          rw [bP_f (P := _ ∧ _) (fun z => h4 z.2.2.2)]
          simp only [f_M_same_j42, Option.bind_some, if_pos t0, l1, l2, if_pos h1, a1, a2, if_pos h2, pe0, pe1, c01, if_neg l3, c10, if_pos l4, f_M_same_j117, f_M_same_j118, rb_0]
      · have l3 : bP P = 0 := bP_f h3
        rw [bP_f (P := _ ∧ _) (fun z => h3 z.2.2.1)]
        simp only [f_M_same_j42, Option.bind_some, if_pos t0, l1, l2, if_pos h1, a1, a2, if_pos h2, pe0, pe1, c01, if_pos l3, f_M_same_j117, f_M_same_j118, rb_0]
    · refine ⟨ms_thrown mv 0, Or.inl rfl, ?_⟩
      rw [bP_f (P := _ ∧ _) (fun z => h2 (ab.mpr z.2.1))]
      simp only [f_M_same_j42, Option.bind_some, if_pos t0, l1, l2, if_pos h1, a1, a2, if_neg h2, f_M_same_j81, rb_0]
  · refine ⟨ms_thrown mv 0, Or.inl rfl, ?_⟩
    rw [bP_f (P := _ ∧ _) (fun z => h1 (lgc_same.mpr z.1))]
    simp only [f_M_same_j42, Option.bind_some, if_pos t0, l1, l2, if_neg h1, f_M_same_j81, rb_0]
theorem csame_st {v w : SV} {P Q : Prop} (c1 : f_P_coversAll v w = some (bP P)) (c2 : f_P_coversAll w v = some (bP Q)) : f_P_haveOneCore v w = some (bP (sB v = sB w ∧ P ∧ Q)) := by
  unfold f_P_haveOneCore f_P_haveOneCore_j31 f_P_haveOneCore_j32
  rw [c1, c2, Option.bind_some, Option.bind_some, rb_0, rb_1]
  by_cases h1 : sB v = sB w
  · rw [if_pos h1]
    by_cases h2 : P
    · rw [if_neg (fun z => bP_z.mp z h2)]
      by_cases h3 : Q
      · rw [if_neg (fun z => bP_z.mp z h3), bP_t (P := _ ∧ _) ⟨h1, h2, h3⟩]
      · rw [if_pos (bP_f h3), bP_f (P := _ ∧ _) (fun z => h3 z.2.2)]
    · rw [if_pos (bP_f h2), bP_f (P := _ ∧ _) (fun z => h2 z.2.1)]
  · rw [if_neg h1, bP_f (P := _ ∧ _) (fun z => h1 z.1)]
theorem sim_same : Sim_same Rel := by
  intro v mv h x x'
  have j42b : ∀ (t : Int32), ¬ t = 0 → f_M_same_j42 mv x x' t = some (0, ms_thrown mv t) := fun t ht => by simp only [f_M_same_j42, Option.bind_some, if_neg (thr_ne ht), f_M_same_j81, rb_0]
  rcases find_or h x with ⟨e1, e2, e3⟩ | ⟨a, ha, ex, e1, e2, e3⟩
  · refine ⟨(0, ms_thrown mv 1), by simp only [f_M_same, e3, Option.bind_some, if_true, f_M_same_j17, j42b 1 (by decide)], Or.inr (Or.inl ⟨?_, rfl, rel_thrown h⟩)⟩
    unfold g_F_same; rw [e2]; rfl
  rcases find_or h x' with ⟨y1, y2, y3⟩ | ⟨b, hb, ey, y1, y2, y3⟩
  · refine ⟨(0, ms_thrown mv 1), by simp only [f_M_same, e3, y3, Option.bind_some, if_neg one_n0, if_true, f_M_same_j17, j42b 1 (by decide)], Or.inr (Or.inl ⟨?_, rfl, rel_thrown h⟩)⟩
    simp only [g_F_same, e1, e2, y2, xthen, Option.bind_some]
  obtain ⟨c, o, hc, ho, en, eo, hp, sh, W⟩ := whole_or h ha
  rw [← ex] at W
  rcases W.symm with ⟨w1, w2, w3⟩ | ⟨W, w1, w2, w3⟩
  · refine ⟨(0, ms_thrown mv 2), by simp only [f_M_same, e3, y3, w3, Option.bind_some, if_neg one_n0, if_true, f_M_same_j37, j42b 2 (by decide)], Or.inr (Or.inr ⟨?_, rfl, rel_thrown h⟩)⟩
    simp only [g_F_same, e1, e2, y1, y2, w2, xthen, Option.bind_some]
  obtain ⟨c', o', hc', ho', en', eo', hp', sh', W'⟩ := whole_or h hb
  rw [← ey] at W'
  rcases W'.symm with ⟨v1, v2, v3⟩ | ⟨W', v1, v2, v3⟩
  · refine ⟨(0, ms_thrown mv 2), by simp only [f_M_same, e3, y3, w3, v3, Option.bind_some, if_neg one_n0, if_true, f_M_same_j37, j42b 2 (by decide)], Or.inr (Or.inr ⟨?_, rfl, rel_thrown h⟩)⟩
    simp only [g_F_same, e1, e2, y1, y2, w1, w2, v2, xthen, Option.bind_some]
  obtain ⟨-, lra, rada, -⟩ := kind_ld h ha
  obtain ⟨-, lrb, radb, -⟩ := kind_ld h hb
  have R0 := rel_thrown (t := 0) h
  obtain ⟨m, f, u1, pe, A, F⟩ := fig_ev (h := 0) R0 ha (by decide) hc en hp sh W
  have R1 : Rel v u1 := kep_rel R0 A.1
  have sh2 : mvS u1 b = mvS mv b := A.1.2.2 b
  rw [← sh2] at sh'
  obtain ⟨m', f', u2, pe', A', F'⟩ := fig_ev (h := 1) R1 hb (by decide) hc' en' hp' sh' W'
  have R2 : Rel v u2 := kep_rel R1 A'.1
  obtain ⟨P, Q, c1, c2, c3, c4⟩ := same_fig A A' F F'
  have a1 := area_ev R0 ha
  have a2 := area_ev R0 hb
  rw [← ex] at pe a1
  rw [← ey] at pe' a2
  obtain ⟨u, hu, eM⟩ := msame_st (ra := sR (v.2 a)) (rb' := sR (v.2 b)) thr_0 (by rw [ex]; exact lra) (by rw [ey]; exact lrb) a1 a2 pe pe' c3 c4
  have eM : f_M_same mv x x' = some (bP (sR (v.2 a) = sR (v.2 b) ∧ (sB (v.2 a) = 1 ↔ sB (v.2 b) = 1) ∧ P ∧ Q), u) := by
    simp only [f_M_same, e3, y3, w3, v3, Option.bind_some, if_neg one_n0, eM]
  have hB : sB (v.2 a) = sB (v.2 b) ↔ (sB (v.2 a) = 1 ↔ sB (v.2 b) = 1) := by
    rcases fig_b F with z | z <;> rcases fig_b F' with y | y <;> rw [z, y] <;> decide
  have eC : f_F_same v x x' = some (bP (sR (v.2 a) = sR (v.2 b) ∧ (sB (v.2 a) = 1 ↔ sB (v.2 b) = 1) ∧ P ∧ Q)) := by
    simp only [f_F_same, e1, y1, w1, v1, Option.bind_some, csame_st c1 c2, f_F_same_j48, f_F_same_j49, rb_0, rb_1]
    by_cases h1 : lg_cmp (sR (v.2 a)) (sR (v.2 b)) = 0
    · rw [if_pos h1]
      by_cases h2 : sB (v.2 a) = sB (v.2 b) ∧ P ∧ Q
      · rw [if_neg (fun z => bP_z.mp z h2), bP_t (P := _ ∧ _) ⟨lgc_same.mp h1, hB.mp h2.1, h2.2⟩]
      · rw [if_pos (bP_f h2), bP_f (P := _ ∧ _) (fun z => h2 ⟨hB.mpr z.2.1, z.2.2⟩)]
    · rw [if_neg h1, bP_f (P := _ ∧ _) (fun z => h1 (lgc_same.mpr z.1))]
  refine ⟨_, eM, Or.inl ⟨_, eC, ?_, rfl, ?_⟩⟩
  · rcases hu with z | z
    · show md_thrown u = 0
      rw [z]; rfl
    · show md_thrown u = 0
      rw [z, A'.1.2.1, A.1.2.1]; rfl
  · rcases hu with z | z
    · show Rel v u
      rw [z]; exact R0
    · show Rel v u
      rw [z]; exact R2
