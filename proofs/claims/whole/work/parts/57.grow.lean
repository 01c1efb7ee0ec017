/-! copies; grow -/
theorem relS_copy {w w' : SV} {q q' : QV} {r : Int64} (h : RelS w q) (hr : Rad r) (aw : sF w' = sF w ∧ sB w' = sB w ∧ sR w' = r ∧ sN w' = sN w ∧ sO w' = sO w) (ax : ∀ c, sN w = nI c → c ≤ 48 → ∀ k, k < c → sX w' k = sX w k ∧ sY w' k = sY w k ∧ sE w' k = sE w k) (aq : qK q' = qK q ∧ qR q' = r ∧ qN q' = qN q ∧ qG q' = qG q) (aqx : ∀ m, qN q = nI m → m ≤ 48 → ∀ k, k < m → qX q' k = qX q k ∧ qY q' k = qY q k) (aqe : ∀ g, qG q = nI g → g ≤ 16 → ∀ r, r < g → qE q' r = qE q r) : RelS w' q' := by
  obtain ⟨c, o, hc, ho, e1, e2, -, -, e4, hp, hk⟩ := h
  obtain ⟨w1, w2, w3, w4, w5⟩ := aw
  obtain ⟨q1, q2, q3, q4⟩ := aq
  have ax := ax c e1 hc
  have sc : qN q = nI c → SameC w q c → SameC w' q' c := fun hn s k hk => by
    rw [(aqx c hn hc k hk).1, (aqx c hn hc k hk).2, (ax k hk).1, (ax k hk).2.1]; exact s k hk
  have df : ∀ k j, k < c → j < c → Dif w k j → Dif w' k j := fun k j hk hj d => by
    unfold Dif
    rw [(ax k hk).1, (ax j hj).1, (ax k hk).2.1, (ax j hj).2.1]; exact d
  have rl : RelL w q c → RelL w' q' c := fun ⟨b1, b2, b3, b4, b5, b6⟩ => ⟨by rw [w2]; exact b1, by rw [q3]; exact b2, by rw [q4]; exact b3, sc b2 b4, fun k hk => by rw [(ax k hk).2.2]; exact b5 k hk, fun k hk => df _ _ (by omega) (by omega) (b6 k hk)⟩
  refine ⟨c, o, hc, ho, by rw [w4]; exact e1, by rw [w5]; exact e2, by rw [w3]; exact hr, by rw [w3]; exact q2, by rw [q1, w1]; exact e4, fun k hk => by rw [(ax k hk).1, (ax k hk).2.1]; exact hp k hk, ?_⟩
  rw [w1]
  rcases hk with ⟨f, f2, f3, r⟩ | ⟨f, f2, r⟩ | ⟨f, r⟩ | ⟨f, f2, r⟩
  · exact Or.inl ⟨f, f2, f3, rl r⟩
  · refine Or.inr (Or.inl ⟨f, f2, ?_⟩)
    have a0 := aqx 2 r.1 (by decide) 0 (by decide)
    have a1 := aqx 2 r.1 (by decide) 1 (by decide)
    unfold RelB at r ⊢
    rw [q3, q4, a0.1, a0.2, a1.1, a1.2, w2]
    obtain ⟨r1, r2, r3, r4, r5, r6, r7⟩ := r
    refine ⟨r1, r2, r3, r4, r5, r6, ?_⟩
    rcases r7 with ⟨z1, z2, z3, z4, z5, t, z6⟩ | ⟨z1, z2, z3, z4, z5, z6, z7⟩ | ⟨z1, z2, z3, z4, z5, z6, z7⟩
    · subst z4
      refine Or.inl ⟨z1, z2, z3, rfl, fun k hk => by rw [(ax k hk).2.2]; exact z5 k hk, t, ?_⟩
      rcases z6 with z6 | z6
      · exact Or.inl fun k hk => by rw [(ax k hk).1, (ax k hk).2.1]; exact z6 k hk
      · exact Or.inr fun k hk => by rw [(ax k hk).1, (ax k hk).2.1]; exact z6 k hk
    · subst z4
      have y0 := ax 0 (by decide)
      have y1 := ax 1 (by decide)
      refine Or.inr (Or.inl ⟨z1, z2, z3, rfl, by rw [y0.2.2]; exact z5, by rw [y1.2.2]; exact z6, ?_⟩)
      rw [y0.1, y0.2.1, y1.1, y1.2.1]; exact z7
    · subst z4
      have y0 := ax 0 (by decide)
      exact Or.inr (Or.inr ⟨z1, z2, z3, rfl, by rw [y0.2.2]; exact z5, by rw [y0.1]; exact z6, by rw [y0.2.1]; exact z7⟩)
  · refine Or.inr (Or.inr (Or.inl ⟨f, ?_⟩))
    obtain ⟨b1, b2, b3, g, B, g1, g2, g3, g4, g5, g6, g7⟩ := r
    have hg : 3 * g ≤ B g := ring_many g2 (fun r hr => (g4 r hr).1) g (Nat.le_refl g)
    have hBo : ∀ r, r < g → B (r + 1) ≤ o := fun r hr => by
      have := bounds_le (fun r hr => (g4 r hr).1) (g - (r + 1)) (r + 1) (by omega)
      rw [show r + 1 + (g - (r + 1)) = g by omega, g3] at this
      exact this
    exact ⟨by rw [w2]; exact b1, by rw [q3]; exact b2, sc b2 b3, g, B, by rw [q4]; exact g1, g2, g3, fun r hr => ⟨(g4 r hr).1, by rw [aqe g g1 (by omega) r hr]; exact (g4 r hr).2⟩, fun r k hr h1 h2 => by rw [(ax k (by have := hBo r hr; omega)).2.2]; exact g5 r k hr h1 h2, fun k h1 h2 => by rw [(ax k h2).2.2]; exact g6 k h1 h2, fun k h1 h2 => df _ _ (by omega) (by omega) (g7 k h1 h2)⟩
  · exact Or.inr (Or.inr (Or.inr ⟨f, f2, rl r⟩))
theorem copy_l {w : SV} {c : Nat} (hc : c ≤ 48) (e : sN w = nI c) : ∀ n k u, c < k + n → k ≤ c → (∀ j, j < k → sX u j = sX w j ∧ sY u j = sY w j ∧ sE u j = sE w j) → ∃ u', f_S_copyWithRadius_l20 w n u (nI k) = some u' ∧ sF u' = sF u ∧ sB u' = sB u ∧ sR u' = sR u ∧ sN u' = sN w ∧ sO u' = sO w ∧ ∀ j, j < c → sX u' j = sX w j ∧ sY u' j = sY w j ∧ sE u' j = sE w j := by
  intro n
  induction n with
  | zero => intro k u h1 h2; omega
  | succ n ih =>
    intro k u h1 h2 h3
    by_cases z : k = c
    · subst z
      have hle : nI k ≤ nI k := by rw [nI_leI (by omega) (by omega)]; omega
      refine ⟨ss_open (ss_count u (sN w)) (sO w), ?_, rfl, rfl, rfl, rfl, rfl, h3⟩
      simp only [f_S_copyWithRadius_l20, e, if_pos hle, Option.bind_some]
    · have hle : ¬ nI c ≤ nI k := by rw [nI_leI (by omega) (by omega)]; omega
      have l1 : ld 48 (sX w) (nI k) = some (sX w k) := ld_nI (by omega) (by decide)
      have l2 : ld 48 (sY w) (nI k) = some (sY w k) := ld_nI (by omega) (by decide)
      have l3 : ld 48 (sE w) (nI k) = some (sE w k) := ld_nI (by omega) (by decide)
      have k0 : ck 48 (nI k) = some () := ck_nI (by omega) (by decide)
      have k1 : (nI k).toNatClampNeg = k := nI_clamp (by omega)
      obtain ⟨u', g1, g2, g3, g4, g5, g6, g7⟩ := ih (k + 1) (ss_ends (ss_ys (ss_xs u (vp_updL (sX u) k (sX w k))) (vp_updL (sY u) k (sY w k))) (upd (sE u) k (sE w k))) (by omega) (by omega) (fun j hj => by
        show vp_updL (sX u) k (sX w k) j = _ ∧ vp_updL (sY u) k (sY w k) j = _ ∧ upd (sE u) k (sE w k) j = _
        by_cases q : j = k
        · rw [q, pk_uLs, pk_uLs, pk_us]; exact ⟨rfl, rfl, rfl⟩
        · rw [pk_uLn q, pk_uLn q, pk_un q]; exact h3 j (by omega))
      refine ⟨u', ?_, g2, g3, g4, g5, g6, g7⟩
      rw [← g1]
      simp only [f_S_copyWithRadius_l20, e, if_neg hle, l1, l2, l3, k0, k1, Option.bind_some, nI_1]
      rfl
theorem copy_S {w : SV} {c : Nat} {r : Int64} (hc : c ≤ 48) (e : sN w = nI c) (hb : sB w = 0 ∨ sB w = 1) : ∃ u, f_S_copyWithRadius w r = some u ∧ sF u = sF w ∧ sB u = sB w ∧ sR u = r ∧ sN u = sN w ∧ sO u = sO w ∧ ∀ j, j < c → sX u j = sX w j ∧ sY u j = sY w j ∧ sE u j = sE w j := by
  have b : bz (sB w) = some () := by rcases hb with z | z <;> rw [z] <;> decide
  obtain ⟨u, g1, g2⟩ := copy_l hc e 64 0 (sv0 (sF w) (sB w) r) (by omega) (by omega) (fun j hj => absurd hj (Nat.not_lt_zero j))
  refine ⟨u, ?_, g2⟩
  unfold f_S_copyWithRadius
  rw [b]
  exact g1
/-- what the reference's copy keeps while it writes shape n -/
def Wrt (mv mv' : MV) (n : Nat) : Prop := md_shapes mv' = nI (n + 1) ∧ md_thrown mv' = md_thrown mv ∧ ∀ j, j < n → Agr (mvS mv j) (mvS mv' j)
theorem Agr.tr {q q' q'' : QV} (h : Agr q q') (h' : Agr q' q'') : Agr q q'' := by
  obtain ⟨a1, a2, a3, a4, a5, a6⟩ := h
  obtain ⟨b1, b2, b3, b4, b5, b6⟩ := h'
  exact ⟨b1.trans a1, b2.trans a2, b3.trans a3, b4.trans a4, fun k hk => ⟨(b5 k hk).1.trans (a5 k hk).1, (b5 k hk).2.trans (a5 k hk).2⟩, fun r hr => (b6 r hr).trans (a6 r hr)⟩
theorem mcopy_l69 {mv : MV} {i n g : Nat} (hn : n < 40) (hi : i < n) (hg : g ≤ 16) (eg : qG (mvS mv i) = nI g) : ∀ f k vv, g < k + f → k ≤ g → Wrt mv vv n → (∀ j, j < k → qE (mvS vv n) j = qE (mvS mv i) j) → ∃ vv', f_M_copy_l69 f vv (nI i) (nI n) (nI k) = some (nI n, vv') ∧ Wrt mv vv' n ∧ qK (mvS vv' n) = qK (mvS vv n) ∧ qR (mvS vv' n) = qR (mvS vv n) ∧ qN (mvS vv' n) = qN (mvS vv n) ∧ qG (mvS vv' n) = qG (mvS vv n) ∧ qX (mvS vv' n) = qX (mvS vv n) ∧ qY (mvS vv' n) = qY (mvS vv n) ∧ (∀ j, j < g → qE (mvS vv' n) j = qE (mvS mv i) j) := by
  intro f
  induction f with
  | zero => intro k vv h1 h2; omega
  | succ f ih =>
    intro k vv h1 h2 h3 h4
    have ag := h3.2.2 i hi
    have lg : ld 40 (md_rings vv) (nI i) = some (nI g) := by rw [ld_nI (by omega) (by decide)]; exact congrArg some (ag.2.2.2.1.trans eg)
    by_cases z : k = g
    · subst z
      have hle : nI k ≤ nI k := by rw [nI_leI (by omega) (by omega)]; omega
      refine ⟨vv, ?_, h3, rfl, rfl, rfl, rfl, rfl, rfl, h4⟩
      simp only [f_M_copy_l69, lg, Option.bind_some, if_pos hle]
    · have hle : ¬ nI g ≤ nI k := by rw [nI_leI (by omega) (by omega)]; omega
      have e1 : (16 : Int32) * nI i + nI k = nI (16 * i + k) := by rw [show (16 : Int32) = nI 16 from rfl, pk_mul, nI_add]
      have e2 : (16 : Int32) * nI n + nI k = nI (16 * n + k) := by rw [show (16 : Int32) = nI 16 from rfl, pk_mul, nI_add]
      have l : ld 640 (md_ends vv) (nI (16 * i + k)) = some (qE (mvS vv i) k) := by rw [ld_nI (by omega) (by decide)]; rfl
      have k0 : ck 640 (nI (16 * n + k)) = some () := ck_nI (by omega) (by decide)
      have k1 : (nI (16 * n + k)).toNatClampNeg = 16 * n + k := nI_clamp (by omega)
      have w' : Wrt mv (ms_ends vv (upd (md_ends vv) (16 * n + k) (qE (mvS vv i) k))) n := by
        refine ⟨h3.1, h3.2.1, fun j hj => (h3.2.2 j hj).tr ⟨rfl, rfl, rfl, rfl, fun _ _ => ⟨rfl, rfl⟩, fun r hr => ?_⟩⟩
        show upd (md_ends vv) (16 * n + k) (qE (mvS vv i) k) (16 * j + r) = md_ends vv (16 * j + r)
        exact pk_un (by omega)
      obtain ⟨vv', g1, g2, g3, g4, g5, g6, g7, g8, g9⟩ := ih (k + 1) _ (by omega) (by omega) w' (fun j hj => by
        show upd (md_ends vv) (16 * n + k) (qE (mvS vv i) k) (16 * n + j) = _
        by_cases q : j = k
        · rw [q, pk_us]; exact ag.2.2.2.2.2 k (by omega)
        · rw [pk_un (by omega)]; exact h4 j (by omega))
      refine ⟨vv', ?_, g2, g3, g4, g5, g6, g7, g8, g9⟩
      rw [← g1]
      simp only [f_M_copy_l69, lg, Option.bind_some, if_neg hle, e1, e2, l, k0, k1, nI_1]
theorem mcopy_l16 {mv : MV} {i n g c : Nat} (hn : n < 40) (hi : i < n) (hg : g ≤ 16) (hc : c ≤ 48) (eg : qG (mvS mv i) = nI g) (ec : qN (mvS mv i) = nI c) : ∀ f k vv, c < k + f → k ≤ c → Wrt mv vv n → qN (mvS vv n) = nI k → (∀ j, j < k → qX (mvS vv n) j = qX (mvS mv i) j ∧ qY (mvS vv n) j = qY (mvS mv i) j) → ∃ vv', f_M_copy_l16 f vv (nI i) (nI n) (nI k) = some (nI n, vv') ∧ Wrt mv vv' n ∧ qK (mvS vv' n) = qK (mvS vv n) ∧ qR (mvS vv' n) = qR (mvS vv n) ∧ qN (mvS vv' n) = qN (mvS mv i) ∧ qG (mvS vv' n) = qG (mvS mv i) ∧ (∀ j, j < c → qX (mvS vv' n) j = qX (mvS mv i) j ∧ qY (mvS vv' n) j = qY (mvS mv i) j) ∧ (∀ j, j < g → qE (mvS vv' n) j = qE (mvS mv i) j) := by
  intro f
  induction f with
  | zero => intro k vv h1 h2; omega
  | succ f ih =>
    intro k vv h1 h2 h3 hk h4
    have ag := h3.2.2 i hi
    have lc : ld 40 (md_many vv) (nI i) = some (nI c) := by rw [ld_nI (by omega) (by decide)]; exact congrArg some (ag.2.2.1.trans ec)
    have lg : ld 40 (md_rings vv) (nI i) = some (nI g) := by rw [ld_nI (by omega) (by decide)]; exact congrArg some (ag.2.2.2.1.trans eg)
    by_cases z : k = c
    · subst z
      have hle : nI k ≤ nI k := by rw [nI_leI (by omega) (by omega)]; omega
      have k0 : ck 40 (nI n) = some () := ck_nI (by omega) (by decide)
      have k1 : (nI n).toNatClampNeg = n := nI_clamp (by omega)
      have w' : Wrt mv (ms_rings vv (upd (md_rings vv) n (nI g))) n := by
        refine ⟨h3.1, h3.2.1, fun j hj => (h3.2.2 j hj).tr ⟨rfl, rfl, rfl, ?_, fun _ _ => ⟨rfl, rfl⟩, fun _ _ => rfl⟩⟩
        show upd (md_rings vv) n (nI g) j = md_rings vv j
        exact pk_un (by omega)
      obtain ⟨vv', g1, g2, g3, g4, g5, g6, g7, g8, g9⟩ := mcopy_l69 hn hi hg eg 64 0 _ (by omega) (by omega) w' (fun j hj => absurd hj (Nat.not_lt_zero j))
      refine ⟨vv', ?_, g2, g3, g4, ?_, ?_, ?_, g9⟩
      · rw [← g1]
        simp only [f_M_copy_l16, lc, lg, Option.bind_some, if_pos hle, k0, k1]
        rfl
      · rw [g5, ec]; exact hk
      · rw [g6, eg]; exact pk_us
      · intro j hj; rw [g7, g8]; exact h4 j hj
    · have hle : ¬ nI c ≤ nI k := by rw [nI_leI (by omega) (by omega)]; omega
      have mx := mx_ev (mv := vv) (i := i) (k := k) (by omega) (by omega)
      have ha := add_ev (mv := vv) (i := n) (c := k) (x := qX (mvS vv i) k) (y := qY (mvS vv i) k) hn hk (by omega)
      obtain ⟨m1, m2, m3, m4, m5, m6, m7⟩ := mAdd_self (mv := vv) (i := n) (c := k) (x := qX (mvS vv i) k) (y := qY (mvS vv i) k)
      have w' : Wrt mv (mAdd vv n k (qX (mvS vv i) k) (qY (mvS vv i) k)) n := ⟨h3.1, h3.2.1, fun j hj => (h3.2.2 j hj).tr (mAdd_other (by omega) (by omega))⟩
      obtain ⟨vv', g1, g2, g3, g4, g5⟩ := ih (k + 1) _ (by omega) (by omega) w' m3 (fun j hj => by
        rw [m5, m6]
        by_cases q : j = k
        · rw [if_pos q, if_pos q, q]; exact ag.2.2.2.2.1 k (by omega)
        · rw [if_neg q, if_neg q]; exact h4 j (by omega))
      refine ⟨vv', ?_, g2, g3.trans m1, g4.trans m2, g5⟩
      rw [← g1]
      simp only [f_M_copy_l16, lc, Option.bind_some, if_neg hle, mx.1, mx.2, ha, nI_1]
theorem copy_M {mv : MV} {i n g c : Nat} {r : Int64} (hn : n < 40) (hi : i < n) (hs : md_shapes mv = nI n) (hg : g ≤ 16) (hc : c ≤ 48) (eg : qG (mvS mv i) = nI g) (ec : qN (mvS mv i) = nI c) : ∃ vv', f_M_copy mv (nI i) r = some (nI n, vv') ∧ Wrt mv vv' n ∧ qK (mvS vv' n) = qK (mvS mv i) ∧ qR (mvS vv' n) = r ∧ qN (mvS vv' n) = qN (mvS mv i) ∧ qG (mvS vv' n) = qG (mvS mv i) ∧ (∀ j, j < c → qX (mvS vv' n) j = qX (mvS mv i) j ∧ qY (mvS vv' n) j = qY (mvS mv i) j) ∧ (∀ j, j < g → qE (mvS vv' n) j = qE (mvS mv i) j) := by
  have lk : ld 40 (md_kinds mv) (nI i) = some (qK (mvS mv i)) := by rw [ld_nI (by omega) (by decide)]; rfl
  have hb := begin_ev (mv := mv) (k := qK (mvS mv i)) (r := r) hs hn
  have w0 : Wrt mv (mBeg mv n (qK (mvS mv i)) r) n := ⟨rfl, rfl, fun j hj => Agr.of (mBeg_other (by omega))⟩
  have ms := mBeg_self (mv := mv) (n := n) (k := qK (mvS mv i)) (r := r)
  obtain ⟨vv', g1, g2, g3, g4, g5⟩ := mcopy_l16 hn hi hg hc eg ec 64 0 _ (by omega) (by omega) w0 (by rw [ms]; rfl) (fun j hj => absurd hj (Nat.not_lt_zero j))
  refine ⟨vv', ?_, g2, ?_, ?_, g5⟩
  · rw [← g1]
    simp only [f_M_copy, lk, Option.bind_some, hb]
    rfl
  · rw [g3, ms]; rfl
  · rw [g4, ms]; rfl
/-- how many rings, how many corners the reference has; filled is a boolean -/
theorem relS_sizes {w : SV} {q : QV} (h : RelS w q) : ∃ c g m : Nat, c ≤ 48 ∧ g ≤ 16 ∧ m ≤ 48 ∧ sN w = nI c ∧ qG q = nI g ∧ qN q = nI m ∧ (sB w = 0 ∨ sB w = 1) ∧ (sF w ≠ 1 → m = c) ∧ (sF w = 1 → m = 2 ∧ g = 0) := by
  obtain ⟨c, o, hc, ho, e1, e2, -, -, e4, hp, hk⟩ := h
  rcases hk with ⟨f, f2, f3, r⟩ | ⟨f, f2, r⟩ | ⟨f, r⟩ | ⟨f, f2, r⟩
  · exact ⟨c, 0, c, hc, by decide, hc, e1, r.2.2.1, r.2.1, Or.inl r.1, fun _ => rfl, fun z => absurd z (by rw [f]; decide)⟩
  · refine ⟨c, 0, 2, hc, by decide, by decide, e1, r.2.1, r.1, ?_, fun z => absurd f z, fun _ => ⟨rfl, rfl⟩⟩
    rcases r.2.2.2.2.2.2 with ⟨-, -, z, -⟩ | ⟨-, -, z, -⟩ | ⟨-, -, z, -⟩
    · exact Or.inr z
    · exact Or.inl z
    · exact Or.inl z
  · obtain ⟨b1, b2, b3, g, B, g1, g2, g3, g4, g5, g6, g7⟩ := r
    have hg : 3 * g ≤ B g := ring_many g2 (fun r hr => (g4 r hr).1) g (Nat.le_refl g)
    exact ⟨c, g, c, hc, by omega, hc, e1, g1, b2, Or.inr b1, fun _ => rfl, fun z => absurd z (by rw [f]; decide)⟩
  · exact ⟨c, 0, c, hc, by decide, hc, e1, r.2.2.1, r.2.1, Or.inl r.1, fun _ => rfl, fun z => absurd z (by rw [f]; decide)⟩
theorem sim_grow : Sim_grow Rel := by
  intro v mv h x d
  have n1 : ¬ (1 : Int32) = 0 := by decide
  have bad : ∀ t : Int32, ¬ t = 0 → f_M_grow_j46 mv x d t = some (0, ms_thrown mv t) := fun t ht => by simp only [f_M_grow_j46, Option.bind_some, if_neg (thr_ne ht)]
  rcases find_or h x with ⟨e1, e2, e3⟩ | ⟨i, hi, ex, e1, e2, e3⟩
  · refine ⟨(0, ms_thrown mv 1), by simp only [f_M_grow, e3, Option.bind_some, if_true, bad 1 n1], Or.inr (Or.inl ⟨?_, rfl, rel_thrown h⟩)⟩
    unfold g_F_grow; rw [e2]; rfl
  have h40 : i < 40 := by have := h.1; omega
  obtain ⟨c, o, hc, ho, c1, c2, hp, hh, hw | hw⟩ := whole_or h hi
  · obtain ⟨hW, w1, w2, w3⟩ := hw
    rw [← ex] at w3
    have toobig : (lg_cmp d (-1000000000 : Int64) < 0 ∨ 0 < lg_cmp d (1000000000 : Int64)) → ∃ o : Int32 × MV, f_M_grow mv x d = some o ∧ ((∃ r : Int32 × CV, f_F_grow v x d = some r ∧ md_thrown o.2 = 0 ∧ r.1.toInt64 = o.1.toInt64 ∧ Rel r.2 o.2) ∨ (g_F_grow v x d = some "java/lang/IndexOutOfBoundsException" ∧ md_thrown o.2 = 1 ∧ Rel v o.2) ∨ (g_F_grow v x d = some "java/lang/IllegalStateException" ∧ md_thrown o.2 = 2 ∧ Rel v o.2) ∨ (g_F_grow v x d = some "java/lang/IllegalArgumentException" ∧ md_thrown o.2 = 3 ∧ Rel v o.2)) := by
      intro hz
      refine ⟨(0, ms_thrown mv 3), ?_, Or.inr (Or.inr (Or.inr ⟨?_, rfl, rel_thrown h⟩))⟩
      · by_cases z : lg_cmp d (-1000000000 : Int64) < 0
        · simp only [f_M_grow, e3, Option.bind_some, if_neg n1, w3, if_pos z, f_M_grow_j45, bad 3 (by decide)]
        · simp only [f_M_grow, e3, Option.bind_some, if_neg n1, w3, if_neg z, if_pos (hz.resolve_left z), f_M_grow_j45, bad 3 (by decide)]
      · by_cases z : lg_cmp d (-1000000000 : Int64) < 0
        · simp only [g_F_grow, e1, e2, w1, w2, xthen, Option.bind_some, if_pos z, g_F_grow_j28]
        · have z2 : ¬ lg_cmp d (1000000000 : Int64) ≤ 0 := fun u => by have := (lgc_le _ _).mp u; have := (lgc_gt _ _).mp (hz.resolve_left z); omega
          simp only [g_F_grow, e1, e2, w1, w2, xthen, Option.bind_some, if_neg z, if_neg z2, g_F_grow_j28]
    by_cases z1 : lg_cmp d (-1000000000 : Int64) < 0
    · exact toobig (Or.inl z1)
    by_cases z2 : 0 < lg_cmp d (1000000000 : Int64)
    · exact toobig (Or.inr z2)
    have z3 : lg_cmp d (1000000000 : Int64) ≤ 0 := (lgc_le _ _).mpr (Int.not_lt.mp (fun u => z2 ((lgc_gt _ _).mpr u)))
    have ht := rel_thrown (t := 0) h
    obtain ⟨-, lr, hr, -⟩ := kind_ld ht hi
    rw [← ex] at lr
    have hM0 : f_M_grow mv x d = f_M_grow_j46 mv x d 0 := by simp only [f_M_grow, e3, Option.bind_some, if_neg n1, w3, if_neg z1, if_neg z2]
    rw [hM0]
    rcases need_len (sR (v.2 i) + d) with ⟨r0, r1, r2, r3⟩ | ⟨r0, r1, r2, r3⟩
    · obtain ⟨c', g, m, hc', hg, hm, s1, s2, s3, s4, s5, s6⟩ := relS_sizes (h.2.2 i hi)
      obtain ⟨u, u1, u2, u3, u4, u5, u6, u7⟩ := copy_S (r := sR (v.2 i) + d) hc' s1 s4
      have hF : f_F_grow v x d = some (f_F_keep v u) := by simp only [f_F_grow, e1, w1, Option.bind_some, if_neg z1, if_pos z3, rad_F, r3, if_neg n1, u1]
      by_cases hn : v.1 < 40
      · obtain ⟨vv', k1, k2, k3, k4, k5, k6, k7, k8⟩ := copy_M (mv := ms_thrown mv 0) (r := sR (v.2 i) + d) hn hi ht.2.1 hg hm s2 s3
        rw [← ex] at k1
        refine ⟨(nI v.1, vv'), ?_, Or.inl ⟨_, hF, k2.2.1, ?_, ?_⟩⟩
        · simp only [f_M_grow_j46, Option.bind_some, if_pos thr_0, if_neg (fun z => absurd ((full_iff ht).mp z) (fun q => q hn)), lr, r3, if_neg n1, k1, f_M_grow_j98]
        · rw [show f_F_keep v u = _ from if_pos hn]
        · rw [show f_F_keep v u = _ from if_pos hn]
          refine rel_push ht hn k2.1 k2.2.2 ?_
          refine relS_copy (ht.2.2 i hi) r0 ⟨u2, u3, u4, u5, u6⟩ (fun c2 h1 h2 => ?_) ⟨k3, k4, k5, k6⟩ (fun m2 h1 h2 => ?_) (fun g2 h1 h2 => ?_)
          · have e : c2 = c' := by rw [s1, nI_eq (by omega) (by omega)] at h1; omega
            rw [e]; exact u7
          · have e : m2 = m := by rw [show qN (mvS (ms_thrown mv 0) i) = nI m from s3, nI_eq (by omega) (by omega)] at h1; omega
            rw [e]; exact k7
          · have e : g2 = g := by rw [show qG (mvS (ms_thrown mv 0) i) = nI g from s2, nI_eq (by omega) (by omega)] at h1; omega
            rw [e]; exact k8
      · refine ⟨(-1, ms_thrown mv 0), ?_, Or.inl ⟨_, hF, rfl, ?_, ?_⟩⟩
        · simp only [f_M_grow_j46, Option.bind_some, if_pos thr_0, if_pos ((full_iff ht).mpr hn), f_M_grow_j81, f_M_grow_j98]
        · rw [show f_F_keep v u = _ from if_neg hn]
        · rw [show f_F_keep v u = _ from if_neg hn]; exact ht
    · have hF : f_F_grow v x d = some (-1, v) := by simp only [f_F_grow, e1, w1, Option.bind_some, if_neg z1, if_pos z3, rad_F, r3, if_true]
      refine ⟨(-1, ms_thrown mv 0), ?_, Or.inl ⟨_, hF, rfl, rfl, ht⟩⟩
      by_cases hn : md_shapes (ms_thrown mv 0) = 40
      · simp only [f_M_grow_j46, Option.bind_some, if_pos thr_0, if_pos hn, f_M_grow_j81, f_M_grow_j98]
      · simp only [f_M_grow_j46, Option.bind_some, if_pos thr_0, if_neg hn, lr, r3, if_true, f_M_grow_j81, f_M_grow_j98]
  · obtain ⟨w1, w2, w3⟩ := hw
    rw [← ex] at w3
    refine ⟨(0, ms_thrown mv 2), ?_, Or.inr (Or.inr (Or.inl ⟨?_, rfl, rel_thrown h⟩))⟩
    · simp only [f_M_grow, e3, Option.bind_some, if_neg n1, w3, if_true, bad 2 (by decide)]
    · simp only [g_F_grow, e1, e2, xthen, Option.bind_some, w2]
