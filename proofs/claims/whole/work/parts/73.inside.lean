/-! inside -/
theorem fig_d {w : SV} {c m : Nat} {f : Nat → Sg} {x y r : Int} (F : Fig w c m f) : ((∃ k, k < c ∧ dQ (cs w k) x y r = -1) ↔ ∃ j, j < m ∧ dQ (toQ (f j)) x y r = -1) ∧ ((∃ k, k < c ∧ dQ (cs w k) x y r ≠ 1) ↔ ∃ j, j < m ∧ dQ (toQ (f j)) x y r ≠ 1) := by
  obtain ⟨-, -, -, -, a, b, -⟩ := F
  refine ⟨⟨fun ⟨k, hk, d⟩ => ?_, fun ⟨j, hj, d⟩ => ?_⟩, ⟨fun ⟨k, hk, d⟩ => ?_, fun ⟨j, hj, d⟩ => ?_⟩⟩
  · obtain ⟨j, hj, s⟩ := a k hk; exact ⟨j, hj, (sub_d s).1 d⟩
  · obtain ⟨k, hk, s⟩ := b j hj; exact ⟨k, hk, (sub_d s).1 d⟩
  · obtain ⟨j, hj, s⟩ := a k hk; exact ⟨j, hj, (sub_d s).2 d⟩
  · obtain ⟨k, hk, s⟩ := b j hj; exact ⟨k, hk, (sub_d s).2 d⟩
theorem fig_on {w : SV} {c m : Nat} {f : Nat → Sg} {x y : Int} (F : Fig w c m f) : (∃ k, k < c ∧ onQ (cs w k) x y) ↔ ∃ j, j < m ∧ onQ (toQ (f j)) x y := by
  obtain ⟨-, -, -, -, a, b, -⟩ := F
  refine ⟨fun ⟨k, hk, d⟩ => ?_, fun ⟨j, hj, d⟩ => ?_⟩
  · obtain ⟨j, hj, s⟩ := a k hk; exact ⟨j, hj, sub_on s d⟩
  · obtain ⟨k, hk, s⟩ := b j hj; exact ⟨k, hk, sub_on s d⟩
theorem fig_b {w : SV} {c m : Nat} {f : Nat → Sg} (F : Fig w c m f) : sB w = 0 ∨ sB w = 1 := by
  rcases F.2.2.2.2.2.2 with b | ⟨b, -⟩
  · exact Or.inl b
  · exact Or.inr b
theorem d_pos {s : Q4} {x y r : Int} : (0 < dQ s x y r) ↔ dQ s x y r = 1 := by
  rcases dcmp_val s.1 s.2.1 s.2.2.1 s.2.2.2 x y r with e | e | e
  · have e' : dQ s x y r = -1 := e
    rw [e']; decide
  · have e' : dQ s x y r = 0 := e
    rw [e']; decide
  · have e' : dQ s x y r = 1 := e
    rw [e']; decide
theorem rad_rch {r : Int64} (h : Rad r) : Rch r := ⟨h.1, by have := h.2; omega⟩
theorem dig_k (u : MV) (t : Nat → Int64) : Kep u (ms_digits u t) := ⟨rfl, rfl, fun _ => rfl⟩
theorem in_loop {u : MV} {i m : Nat} {f : Nat → Sg} {x y r : Int64} (h40 : i < 40) (hm : m ≤ 48) (hs : md_size u 0 = nI m) (hf : ∀ j, j < m → sg u (48 * 0 + j) = f j) (hpl : ∀ j, j < m → Plc (f j).1 (f j).2.1 ∧ Plc (f j).2.2.1 (f j).2.2.2) (hp : Plc x y) (hr : Rch r) (er : qR (mvS u i) = r) : ∀ n k t, k ≤ m → m < k + n → ∃ t', f_M_inside_l74 n (ms_digits u t) (nI i) x y (nI k) = some (bP (∃ j, k ≤ j ∧ j < m ∧ dQ (toQ (f j)) x.toInt y.toInt r.toInt ≠ 1), ms_digits u t') := by
  intro n
  induction n with
  | zero => intro k t h1 h2; omega
  | succ n ih =>
    intro k t h1 h2
    have sz : ld 2 (md_size (ms_digits u t)) 0 = some (nI m) := by
      show ld 2 (md_size u) (nI 0) = _
      rw [ld_nI (by decide) (by decide), hs]
    by_cases z : k = m
    · subst z
      refine ⟨t, ?_⟩
      simp only [f_M_inside_l74]
      rw [sz, Option.bind_some, if_pos (nI_hle (by omega) (by omega) |>.mpr (Nat.le_refl _)), rb_0, Option.bind_some, bP_f (fun ⟨j, a, b, _⟩ => by omega)]
    · have hk : k < m := by omega
      obtain ⟨p1, p2⟩ := hpl k hk
      have fk := hf k hk
      rw [show 48 * 0 + k = k by omega] at fk
      have ax : ld 96 (md_ax (ms_digits u t)) (nI k) = some (f k).1 := by rw [ld_nI (by omega) (by decide), ← fk]; rfl
      have ay : ld 96 (md_ay (ms_digits u t)) (nI k) = some (f k).2.1 := by rw [ld_nI (by omega) (by decide), ← fk]; rfl
      have bx : ld 96 (md_bx (ms_digits u t)) (nI k) = some (f k).2.2.1 := by rw [ld_nI (by omega) (by decide), ← fk]; rfl
      have by' : ld 96 (md_by (ms_digits u t)) (nI k) = some (f k).2.2.2 := by rw [ld_nI (by omega) (by decide), ← fk]; rfl
      have lr : ld 40 (md_radii (ms_digits u t)) (nI i) = some r := by rw [ld_nI h40 (by decide)]; exact congrArg some er
      obtain ⟨t1, fe⟩ := far_ev (mv := ms_digits u t) hp p1 p2 hr
      have fe' : f_M_farther (ms_digits u t) x y (f k).1 (f k).2.1 (f k).2.2.1 (f k).2.2.2 r = some (dQ (toQ (f k)) x.toInt y.toInt r.toInt, ms_digits u t1) := fe
      have hle : ¬ nI m ≤ nI k := fun q => by rw [nI_hle (by omega) (by omega)] at q; omega
      by_cases d : dQ (toQ (f k)) x.toInt y.toInt r.toInt = 1
      · obtain ⟨t', e⟩ := ih (k + 1) t1 (by omega) (by omega)
        refine ⟨t', ?_⟩
        have d0 : 0 < dQ (toQ (f k)) x.toInt y.toInt r.toInt := d_pos.mpr d
        simp only [f_M_inside_l74, sz, Option.bind_some, if_neg hle, ax, ay, bx, by', lr, fe', if_pos d0, nI_1]
        rw [e]
        refine congrArg (fun b => some (b, ms_digits u t')) (bP_c ⟨fun ⟨j, a, b, q⟩ => ⟨j, by omega, b, q⟩, fun ⟨j, a, b, q⟩ => ?_⟩)
        by_cases y : j = k
        · subst y; exact absurd d q
        · exact ⟨j, by omega, b, q⟩
      · refine ⟨t1, ?_⟩
        have d0 : ¬ 0 < dQ (toQ (f k)) x.toInt y.toInt r.toInt := fun z => d (d_pos.mp z)
        simp only [f_M_inside_l74, sz, Option.bind_some, if_neg hle, ax, ay, bx, by', lr, fe', if_neg d0, rb_1]
        rw [bP_t ⟨k, Nat.le_refl k, hk, d⟩]
theorem sim_inside : Sim_inside Rel := by
  intro v mv h x px py
  have j39b : ∀ (t : Int32), ¬ t = 0 → f_M_inside_j39 mv x px py t = some (0, ms_thrown mv t) := fun t ht => by simp only [f_M_inside_j39, Option.bind_some, if_neg (thr_ne ht), rb_0]
  rcases find_or h x with ⟨e1, e2, e3⟩ | ⟨i, hi, ex, e1, e2, e3⟩
  · refine ⟨(0, ms_thrown mv 1), by simp only [f_M_inside, e3, Option.bind_some, if_true, j39b 1 (by decide)], Or.inr (Or.inl ⟨?_, rfl, rel_thrown h⟩)⟩
    unfold g_F_inside; rw [e2]; rfl
  have h40 : i < 40 := by have := h.1; omega
  obtain ⟨c, o, hc, ho, en, eo, hp, sh, W⟩ := whole_or h hi
  rw [← ex] at W
  rcases W with ⟨W, w1, w2, w3⟩ | ⟨w1, w2, w3⟩
  · rcases need_place px py with ⟨pl, p1, p2, p3⟩ | ⟨pl, p1, p2, p3⟩
    · have R0 := rel_thrown (t := 0) h
      obtain ⟨m, f, u, pe, A, F⟩ := fig_ev (h := 0) R0 hi (by decide) hc en hp sh W
      have pe' : f_M_pieces (ms_thrown mv 0) 0 x = some u := by rw [ex]; exact pe
      have Ru : Rel v u := kep_rel R0 A.1
      obtain ⟨-, -, rad, -⟩ := kind_ld h hi
      have er : qR (mvS u i) = sR (v.2 i) := by obtain ⟨_, _, -, -, -, -, -, er, -⟩ := Ru.2.2 i hi; exact er
      have hf : ∀ j, j < m → sg u (48 * 0 + j) = f j := fun j hj => A.2.2.2.1 j (Nat.zero_le j) hj
      have ic := incore_ev (h := 0) (i := i) (x := px) (y := py) (by decide) F.2.2.1 A.2.1 hf F.2.2.2.1 pl (area_ev Ru hi)
      have ic' : f_M_isInCore u 0 x px py = some (bP ((∃ j, j < m ∧ onQ (toQ (f j)) px.toInt py.toInt) ∨ (sB (v.2 i) = 1 ∧ sm (fun j => nP (crf (toQ (f j)) px.toInt py.toInt)) m % 2 = 1))) := by rw [ex]; exact ic
      obtain ⟨t, lo⟩ := in_loop (x := px) (y := py) h40 F.2.2.1 A.2.1 hf F.2.2.2.1 pl (rad_rch rad) er 64 0 (md_digits u) (Nat.zero_le m) (by have := F.2.2.1; omega)
      have lo' : f_M_inside_l74 64 u x px py 0 = some (bP (∃ j, 0 ≤ j ∧ j < m ∧ dQ (toQ (f j)) px.toInt py.toInt (sR (v.2 i)).toInt ≠ 1), ms_digits u t) := by rw [ex]; exact lo
      have cl := ctos_ev (x := px) (y := py) F.1 pl (rad_rch rad)
      have ce := encl_ev (x := px) (y := py) F.1 pl (fig_b F)
      obtain ⟨d1, d2⟩ := fig_d (x := px.toInt) (y := py.toInt) (r := (sR (v.2 i)).toInt) F
      have ono := fig_on (x := px.toInt) (y := py.toInt) F
      have near : (∃ j, j < m ∧ onQ (toQ (f j)) px.toInt py.toInt) → ∃ j, j < m ∧ dQ (toQ (f j)) px.toInt py.toInt (sR (v.2 i)).toInt ≠ 1 := fun ⟨j, a, b⟩ => ⟨j, a, onp_near rad.1 b⟩
      -- the class's answer
      have eC : f_F_inside v x px py = some (bP ((∃ j, j < m ∧ dQ (toQ (f j)) px.toInt py.toInt (sR (v.2 i)).toInt ≠ 1) ∨ (sB (v.2 i) = 1 ∧ sm (fun k => nP (crf (cs (v.2 i) k) px.toInt py.toInt)) c % 2 = 1))) := by
        simp only [f_F_inside, e1, w1, p1, Option.bind_some, cl, ce]
        by_cases n : ∃ j, j < m ∧ dQ (toQ (f j)) px.toInt py.toInt (sR (v.2 i)).toInt ≠ 1
        · rw [if_pos (mnv_le.mpr (Or.inr (d2.mpr n))), bP_t (P := _ ∨ _) (Or.inl n)]; exact rb_1
        · have nn : ¬ mn (∃ j, j < c ∧ dQ (cs (v.2 i) j) px.toInt py.toInt (sR (v.2 i)).toInt = -1) (∃ j, j < c ∧ dQ (cs (v.2 i) j) px.toInt py.toInt (sR (v.2 i)).toInt ≠ 1) ≤ 0 := fun z => by
            rcases mnv_le.mp z with q | q
            · obtain ⟨j, a, b⟩ := d1.mp q
              exact n ⟨j, a, by rw [b]; decide⟩
            · exact n (d2.mp q)
          rw [if_neg nn]
          unfold f_F_inside_j45 f_F_inside_j50
          by_cases q : sB (v.2 i) = 1 ∧ sm (fun k => nP (crf (cs (v.2 i) k) px.toInt py.toInt)) c % 2 = 1
          · rw [if_neg (fun z => bP_z.mp z q), bP_t (P := _ ∨ _) (Or.inr q)]; exact rb_1
          · rw [if_pos (bP_f q), bP_f (P := _ ∨ _) (fun z => z.elim n q)]; exact rb_0
      have pq : ¬ (∃ j, j < m ∧ dQ (toQ (f j)) px.toInt py.toInt (sR (v.2 i)).toInt ≠ 1) → sB (v.2 i) = 1 → sm (fun k => nP (crf (cs (v.2 i) k) px.toInt py.toInt)) c % 2 = sm (fun j => nP (crf (toQ (f j)) px.toInt py.toInt)) m % 2 := fun n b => by
        rcases F.2.2.2.2.2.2 with z | ⟨-, -, z⟩
        · rw [z] at b; exact absurd b (by decide)
        · exact z _ _ (fun k hk q => n (near (ono.mp ⟨k, hk, q⟩)))
      have eM : ∃ t', f_M_inside mv x px py = some (bP ((∃ j, j < m ∧ dQ (toQ (f j)) px.toInt py.toInt (sR (v.2 i)).toInt ≠ 1) ∨ (sB (v.2 i) = 1 ∧ sm (fun k => nP (crf (cs (v.2 i) k) px.toInt py.toInt)) c % 2 = 1)), ms_digits u t') := by
        have st : f_M_inside mv x px py = (if bP ((∃ j, j < m ∧ onQ (toQ (f j)) px.toInt py.toInt) ∨ (sB (v.2 i) = 1 ∧ sm (fun j => nP (crf (toQ (f j)) px.toInt py.toInt)) m % 2 = 1)) = 0 then f_M_inside_l74 64 u x px py 0 else some (1, u)) := by
          simp only [f_M_inside, e3, w3, p3, Option.bind_some, if_neg one_n0, f_M_inside_j39, if_pos thr_0, pe', ic', rb_1]
        rw [st]
        by_cases n : ∃ j, j < m ∧ dQ (toQ (f j)) px.toInt py.toInt (sR (v.2 i)).toInt ≠ 1
        · rw [bP_t (P := (∃ j, j < m ∧ dQ (toQ (f j)) px.toInt py.toInt (sR (v.2 i)).toInt ≠ 1) ∨ _) (Or.inl n)]
          by_cases q : (∃ j, j < m ∧ onQ (toQ (f j)) px.toInt py.toInt) ∨ (sB (v.2 i) = 1 ∧ sm (fun j => nP (crf (toQ (f j)) px.toInt py.toInt)) m % 2 = 1)
          · rw [if_neg (fun z => bP_z.mp z q)]; exact ⟨md_digits u, rfl⟩
          · rw [if_pos (bP_f q), lo']
            obtain ⟨j, a, b⟩ := n
            exact ⟨t, by rw [bP_t ⟨j, Nat.zero_le j, a, b⟩]⟩
        · by_cases q : sB (v.2 i) = 1 ∧ sm (fun j => nP (crf (toQ (f j)) px.toInt py.toInt)) m % 2 = 1
          · rw [if_neg (fun z => bP_z.mp z (Or.inr q)), bP_t (P := (∃ j, j < m ∧ dQ (toQ (f j)) px.toInt py.toInt (sR (v.2 i)).toInt ≠ 1) ∨ _) (Or.inr ⟨q.1, (pq n q.1).trans q.2⟩)]; exact ⟨md_digits u, rfl⟩
          · rw [if_pos (bP_f (fun z => z.elim (fun y => n (near y)) q)), lo', bP_f (P := (∃ j, j < m ∧ dQ (toQ (f j)) px.toInt py.toInt (sR (v.2 i)).toInt ≠ 1) ∨ _) (fun z => z.elim n (fun y => q ⟨y.1, (pq n y.1).symm.trans y.2⟩)), bP_f (fun ⟨j, _, b, r⟩ => n ⟨j, b, r⟩)]
            exact ⟨t, rfl⟩
      obtain ⟨t', eM⟩ := eM
      exact ⟨_, eM, Or.inl ⟨_, eC, A.1.2.1, rfl, kep_rel Ru (dig_k u t')⟩⟩
    · refine ⟨(0, ms_thrown mv 3), by simp only [f_M_inside, e3, w3, p3, Option.bind_some, if_neg one_n0, if_true, j39b 3 (by decide)], Or.inr (Or.inr (Or.inr ⟨?_, rfl, rel_thrown h⟩))⟩
      simp only [g_F_inside, e1, e2, w1, w2, p2, xthen, Option.bind_some]
  · refine ⟨(0, ms_thrown mv 2), by simp only [f_M_inside, e3, w3, Option.bind_some, if_neg one_n0, if_true, j39b 2 (by decide)], Or.inr (Or.inr (Or.inl ⟨?_, rfl, rel_thrown h⟩))⟩
    simp only [g_F_inside, e1, e2, w2, xthen, Option.bind_some]
