/-! circle and corner -/
theorem rel_upd {v : CV} {mv mv' : MV} {w : SV} {i : Nat} (h : Rel v mv) (hi : i < v.1) (hs : md_shapes mv' = md_shapes mv) (ha : ∀ j, j ≠ i → Agr (mvS mv j) (mvS mv' j)) (hw : RelS w (mvS mv' i)) : Rel (v.1, va_up v.2 i w) mv' := by
  refine ⟨h.1, by rw [hs]; exact h.2.1, fun j hj => ?_⟩
  have hj : j < v.1 := hj
  show RelS (va_up v.2 i w j) (mvS mv' j)
  by_cases e : j = i
  · subst e; rw [show va_up v.2 j w j = w by simp [va_up]]; exact hw
  · rw [show va_up v.2 i w j = v.2 j by simp [va_up, e]]
    exact relS_congr (h.2.2 j hj) (ha j e)
theorem adC_E {w : SV} {c o : Nat} {x y : Int64} (k : Nat) : sE (adC w c o x y) k = if k = c then nI (if sB w = 0 then c else o) else if o < c ∧ k = c - 1 then nI c else sE w k := by
  unfold adC
  by_cases h : o < c
  · rw [if_pos h]
    show upd (upd (sE w) (c - 1) (nI c)) c (nI (if sB w = 0 then c else o)) k = _
    by_cases e : k = c
    · rw [if_pos e, e, pk_us]
    · rw [if_neg e, pk_un e]
      by_cases e2 : k = c - 1
      · rw [if_pos ⟨h, e2⟩, e2, pk_us]
      · rw [if_neg (fun z => e2 z.2), pk_un e2]
  · rw [if_neg h]
    show upd (sE w) c (nI (if sB w = 0 then c else o)) k = _
    by_cases e : k = c
    · rw [if_pos e, e, pk_us]
    · rw [if_neg e, pk_un e, if_neg (fun z => h z.1)]
theorem adC_X {w : SV} {c o : Nat} {x y : Int64} (k : Nat) : sX (adC w c o x y) k = (if k = c then x else sX w k) ∧ sY (adC w c o x y) k = (if k = c then y else sY w k) := by
  have e1 : sX (adC w c o x y) = vp_updL (sX w) c x := by unfold adC; by_cases h : o < c <;> simp only [h, if_true, if_false] <;> rfl
  have e2 : sY (adC w c o x y) = vp_updL (sY w) c y := by unfold adC; by_cases h : o < c <;> simp only [h, if_true, if_false] <;> rfl
  rw [e1, e2]
  by_cases h : k = c
  · rw [if_pos h, if_pos h, h, pk_uLs, pk_uLs]; exact ⟨rfl, rfl⟩
  · rw [if_neg h, if_neg h, pk_uLn h, pk_uLn h]; exact ⟨rfl, rfl⟩
theorem adC_rest {w : SV} {c o : Nat} {x y : Int64} : sF (adC w c o x y) = sF w ∧ sB (adC w c o x y) = sB w ∧ sR (adC w c o x y) = sR w ∧ sN (adC w c o x y) = nI (c + 1) ∧ sO (adC w c o x y) = sO w := by
  unfold adC
  by_cases h : o < c <;> simp only [h, if_true, if_false] <;> exact ⟨rfl, rfl, rfl, rfl, rfl⟩
theorem sameC_add {w : SV} {q q' : QV} {c o : Nat} {x y : Int64} (s : SameC w q c) (hx : ∀ k, qX q' k = if k = c then x else qX q k) (hy : ∀ k, qY q' k = if k = c then y else qY q k) : SameC (adC w c o x y) q' (c + 1) := by
  intro k hk
  rw [hx, hy, (adC_X k).1, (adC_X k).2]
  by_cases h : k = c
  · simp only [if_pos h]; exact ⟨trivial, trivial⟩
  · simp only [if_neg h]; exact s k (by omega)
theorem dif_add {w : SV} {c o : Nat} {x y : Int64} {k j : Nat} (hk : k ≠ c) (hj : j ≠ c) (h : Dif w k j) : Dif (adC w c o x y) k j := by
  unfold Dif
  rw [(adC_X k).1, (adC_X j).1, (adC_X k).2, (adC_X j).2, if_neg hk, if_neg hj, if_neg hk, if_neg hj]
  exact h
theorem dif_last {w : SV} {c o : Nat} {x y : Int64} (hc : 0 < c) (hd : ¬ (sX w (c - 1) = x ∧ sY w (c - 1) = y)) : Dif (adC w c o x y) (c - 1) c := by
  unfold Dif
  rw [(adC_X (c - 1)).1, (adC_X c).1, (adC_X (c - 1)).2, (adC_X c).2, if_neg (by omega), if_pos rfl, if_neg (by omega), if_pos rfl]
  by_cases e : sX w (c - 1) = x
  · exact Or.inr (fun z => hd ⟨e, z⟩)
  · exact Or.inl e
theorem plc_add {w : SV} {c o : Nat} {x y : Int64} (h : ∀ k, k < c → Plc (sX w k) (sY w k)) (hp : Plc x y) : ∀ k, k < c + 1 → Plc (sX (adC w c o x y) k) (sY (adC w c o x y) k) := by
  intro k hk
  rw [(adC_X k).1, (adC_X k).2]
  by_cases e : k = c
  · simp only [if_pos e]; exact hp
  · simp only [if_neg e]; exact h k (by omega)
/-- one corner more, of a trace or a circle that begins -/
theorem relL_add {w : SV} {q q' : QV} {c : Nat} {x y : Int64} (r : RelL w q c) (hd : 0 < c → ¬ (sX w (c - 1) = x ∧ sY w (c - 1) = y)) (hn : qN q' = nI (c + 1)) (hg : qG q' = qG q) (hx : ∀ k, qX q' k = if k = c then x else qX q k) (hy : ∀ k, qY q' k = if k = c then y else qY q k) : RelL (adC w c 0 x y) q' (c + 1) := by
  obtain ⟨b1, b2, b3, b4, b5, b6⟩ := r
  refine ⟨by rw [adC_rest.2.1]; exact b1, hn, by rw [hg]; exact b3, sameC_add b4 hx hy, fun k hk => ?_, fun k hk => ?_⟩
  · rw [adC_E]
    by_cases e : k = c
    · rw [if_pos e, if_pos b1, if_neg (by omega), e]
    · rw [if_neg e]
      by_cases e2 : 0 < c ∧ k = c - 1
      · rw [if_pos e2, if_pos (by omega), show k + 1 = c by omega]
      · rw [if_neg e2, b5 k (by omega), if_pos (by omega), if_pos (by omega)]
  · by_cases e : k + 1 = c
    · have e3 : k = c - 1 := by omega
      rw [e, e3]
      exact dif_last (by omega) (hd (by omega))
    · exact dif_add (by omega) (by omega) (b6 k (by omega))
theorem relP_add {w : SV} {q q' : QV} {c o : Nat} {x y : Int64} (hoc : o ≤ c) (r : RelP w q c o) (hd : o < c → ¬ (sX w (c - 1) = x ∧ sY w (c - 1) = y)) (hn : qN q' = nI (c + 1)) (hg : qG q' = qG q) (he : qE q' = qE q) (hx : ∀ k, qX q' k = if k = c then x else qX q k) (hy : ∀ k, qY q' k = if k = c then y else qY q k) : RelP (adC w c o x y) q' (c + 1) o := by
  obtain ⟨b1, b2, b3, g, B, g1, g2, g3, g4, g5, g6, g7⟩ := r
  have hB : ¬ sB w = 0 := by rw [b1]; decide
  have mono : ∀ d r, r + d ≤ g → B r ≤ B (r + d) := by
    intro d
    induction d with
    | zero => intro r _; exact Nat.le_refl _
    | succ d ih => intro r hr; have h1 := ih r (by omega); have h2 := (g4 (r + d) (by omega)).1; have : r + (d + 1) = r + d + 1 := by omega
                   rw [this]; omega
  have hBo : ∀ r, r < g → B (r + 1) ≤ o := fun r hr => by
    have := mono (g - (r + 1)) (r + 1) (by omega)
    rw [show r + 1 + (g - (r + 1)) = g by omega, g3] at this
    exact this
  refine ⟨by rw [adC_rest.2.1]; exact b1, hn, sameC_add b3 hx hy, g, B, by rw [hg]; exact g1, g2, g3, fun r hr => ⟨(g4 r hr).1, by rw [he]; exact (g4 r hr).2⟩, fun r k hr h1 h2 => ?_, fun k h1 h2 => ?_, fun k h1 h2 => ?_⟩
  · have := hBo r hr
    rw [adC_E, if_neg (by omega), if_neg (by omega)]
    exact g5 r k hr h1 h2
  · rw [adC_E]
    by_cases e : k = c
    · rw [if_pos e, if_neg hB, if_neg (by omega)]
    · rw [if_neg e]
      by_cases e2 : o < c ∧ k = c - 1
      · rw [if_pos e2, if_pos (by omega), show k + 1 = c by omega]
      · rw [if_neg e2, g6 k h1 (by omega), if_pos (by omega), if_pos (by omega)]
  · by_cases e : k + 1 = c
    · have e3 : k = c - 1 := by omega
      rw [e, e3]
      exact dif_last (by omega) (hd (by omega))
    · exact dif_add (by omega) (by omega) (g7 k h1 (by omega))
theorem sim_circle : Sim_circle Rel := by
  intro v mv h x y r
  have n1 : ¬ (1 : Int32) = 0 := by decide
  have bad : f_M_circle_j21 mv x y r = some (0, ms_thrown mv 1) := by simp only [f_M_circle_j21, f_M_circle_j22, Option.bind_some, if_neg (thr_ne n1)]
  rcases need_place x y with ⟨hp, p1, p2, p3⟩ | ⟨hp, p1, p2, p3⟩
  · rcases need_len r with ⟨hr, r1, r2, r3⟩ | ⟨hr, r1, r2, r3⟩
    · have ht := rel_thrown (t := 0) h
      have hA : f_S_addCorner (sv0 0 0 r) x y = some (1, adC (sv0 0 0 r) 0 0 x y) := addC_ev (c := 0) (o := 0) rfl rfl (Nat.le_refl 0) (by decide) (fun z => absurd z (by decide))
      have hF : f_F_circle v x y r = some (f_F_keep v (adC (sv0 0 0 r) 0 0 x y)) := by simp only [f_F_circle, p1, r1, bz_0, hA, Option.bind_some]
      by_cases hn : v.1 < 40
      · have hb : f_M_begin (ms_thrown mv 0) 0 r = some (nI v.1, mBeg (ms_thrown mv 0) v.1 0 r) := begin_ev ht.2.1 hn
        have hm : md_many (mBeg (ms_thrown mv 0) v.1 0 r) v.1 = nI 0 := pk_us
        have ha := add_ev (x := x) (y := y) hn hm (by decide)
        refine ⟨(nI v.1, mAdd (mBeg (ms_thrown mv 0) v.1 0 r) v.1 0 x y), ?_, Or.inl ⟨_, hF, rfl, ?_, ?_⟩⟩
        · simp only [f_M_circle, p3, r3, Option.bind_some, if_neg n1, f_M_circle_j22, if_pos thr_0, if_neg (fun z => absurd ((full_iff ht).mp z) (fun q => q hn)), hb, ha]
        · rw [show f_F_keep v (adC (sv0 0 0 r) 0 0 x y) = _ from if_pos hn]
        · rw [show f_F_keep v (adC (sv0 0 0 r) 0 0 x y) = _ from if_pos hn]
          obtain ⟨m1, m2, m3, m4, m5, m6, m7⟩ := mAdd_self (mv := mBeg (ms_thrown mv 0) v.1 0 r) (i := v.1) (c := 0) (x := x) (y := y)
          refine rel_push ht hn rfl (fun j hj => ?_) ?_
          · have a1 := mAdd_other (mv := mBeg (ms_thrown mv 0) v.1 0 r) (i := v.1) (c := 0) (x := x) (y := y) (j := j) (by decide) (by omega)
            rw [mBeg_other (by omega)] at a1
            exact a1
          · rw [mBeg_self] at m1 m2 m4 m5 m6
            refine ⟨1, 0, by decide, by decide, adC_rest.2.2.2.1, adC_rest.2.2.2.2, by rw [adC_rest.2.2.1]; exact hr, by rw [m2, adC_rest.2.2.1]; rfl, by rw [m1, adC_rest.1]; rfl, plc_add (c := 0) (fun k hk => absurd hk (Nat.not_lt_zero k)) hp, Or.inl ⟨adC_rest.1, rfl, rfl, ?_⟩⟩
            refine relL_add (c := 0) (q := (0, r, 0, 0, (fun z => md_cornerX (ms_thrown mv 0) (48 * v.1 + z)), (fun z => md_cornerY (ms_thrown mv 0) (48 * v.1 + z)), fun z => md_ends (ms_thrown mv 0) (16 * v.1 + z))) ⟨rfl, rfl, rfl, fun k hk => absurd hk (Nat.not_lt_zero k), fun k hk => absurd hk (Nat.not_lt_zero k), fun k hk => absurd hk (Nat.not_lt_zero _)⟩ (fun z => absurd z (by decide)) m3 m4 m5 m6
      · refine ⟨(-1, ms_thrown mv 0), ?_, Or.inl ⟨_, hF, rfl, ?_, ?_⟩⟩
        · simp only [f_M_circle, p3, r3, Option.bind_some, if_neg n1, f_M_circle_j22, if_pos thr_0, if_pos ((full_iff ht).mpr hn)]
        · rw [show f_F_keep v (adC (sv0 0 0 r) 0 0 x y) = _ from if_neg hn]
        · rw [show f_F_keep v (adC (sv0 0 0 r) 0 0 x y) = _ from if_neg hn]; exact ht
    · refine ⟨(0, ms_thrown mv 1), by simp only [f_M_circle, p3, r3, Option.bind_some, if_neg n1, if_true, bad], Or.inr ⟨?_, rfl, rel_thrown h⟩⟩
      unfold g_F_circle; rw [p1, p2, r2]; rfl
  · refine ⟨(0, ms_thrown mv 1), by simp only [f_M_circle, p3, Option.bind_some, if_true, bad], Or.inr ⟨?_, rfl, rel_thrown h⟩⟩
    unfold g_F_circle; rw [p2]; rfl
