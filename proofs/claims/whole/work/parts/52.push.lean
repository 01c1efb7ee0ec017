/-! new shapes on both sides -/
def Agr (q q' : QV) : Prop := qK q' = qK q ∧ qR q' = qR q ∧ qN q' = qN q ∧ qG q' = qG q ∧ (∀ k, k < 48 → qX q' k = qX q k ∧ qY q' k = qY q k) ∧ ∀ r, r < 16 → qE q' r = qE q r
theorem ring_many {B : Nat → Nat} {g : Nat} (h0 : B 0 = 0) (h : ∀ r, r < g → B r + 3 ≤ B (r + 1)) : ∀ r, r ≤ g → 3 * r ≤ B r := by
  intro r
  induction r with
  | zero => intro _; omega
  | succ r ih => intro hr; have := ih (by omega); have := h r (by omega); omega
theorem relS_congr {w : SV} {q q' : QV} (h : RelS w q) (a : Agr q q') : RelS w q' := by
  obtain ⟨c, o, hc, ho, e1, e2, hr, e3, e4, hp, hk⟩ := h
  obtain ⟨a1, a2, a3, a4, a5, a6⟩ := a
  have sc : SameC w q c → SameC w q' c := fun s k hk => by
    have := a5 k (by omega)
    rw [this.1, this.2]; exact s k hk
  have rl : RelL w q c → RelL w q' c := fun ⟨b1, b2, b3, b4, b5⟩ => ⟨b1, by rw [a3]; exact b2, by rw [a4]; exact b3, sc b4, b5⟩
  refine ⟨c, o, hc, ho, e1, e2, hr, by rw [a2]; exact e3, by rw [a1]; exact e4, hp, ?_⟩
  rcases hk with ⟨f, f2, f3, r⟩ | ⟨f, f2, r⟩ | ⟨f, r⟩ | ⟨f, f2, r⟩
  · exact Or.inl ⟨f, f2, f3, rl r⟩
  · refine Or.inr (Or.inl ⟨f, f2, ?_⟩)
    unfold RelB
    rw [a3, a4, (a5 0 (by decide)).1, (a5 0 (by decide)).2, (a5 1 (by decide)).1, (a5 1 (by decide)).2]
    exact r
  · refine Or.inr (Or.inr (Or.inl ⟨f, ?_⟩))
    obtain ⟨b1, b2, b3, g, B, g1, g2, g3, g4, g5⟩ := r
    have hg : 3 * g ≤ B g := ring_many g2 (fun r hr => (g4 r hr).1) g (Nat.le_refl g)
    exact ⟨b1, by rw [a3]; exact b2, sc b3, g, B, by rw [a4]; exact g1, g2, g3, fun r hr => ⟨(g4 r hr).1, by rw [a6 r (by omega)]; exact (g4 r hr).2⟩, g5⟩
  · exact Or.inr (Or.inr (Or.inr ⟨f, f2, rl r⟩))
theorem rel_push {v : CV} {mv mv' : MV} {w : SV} (h : Rel v mv) (hn : v.1 < 40) (hs : md_shapes mv' = nI (v.1 + 1)) (ha : ∀ j, j < v.1 → Agr (mvS mv j) (mvS mv' j)) (hw : RelS w (mvS mv' v.1)) : Rel (v.1 + 1, va_up v.2 v.1 w) mv' := by
  refine ⟨hn, hs, fun i hi => ?_⟩
  have hi : i < v.1 + 1 := hi
  show RelS (va_up v.2 v.1 w i) (mvS mv' i)
  by_cases e : i = v.1
  · subst e; rw [show va_up v.2 v.1 w v.1 = w by simp [va_up]]; exact hw
  · rw [show va_up v.2 v.1 w i = v.2 i by simp [va_up, e]]
    exact relS_congr (h.2.2 i (by omega)) (ha i (by omega))
/-- the reference's begin -/
def mBeg (mv : MV) (n : Nat) (k : Int32) (r : Int64) : MV := ms_shapes (ms_rings (ms_many (ms_radii (ms_kinds mv (upd (md_kinds mv) n k)) (vp_updL (md_radii mv) n r)) (upd (md_many mv) n 0)) (upd (md_rings mv) n 0)) (nI (n + 1))
theorem begin_ev {mv : MV} {n : Nat} {k : Int32} {r : Int64} (h : md_shapes mv = nI n) (hn : n < 40) : f_M_begin mv k r = some (nI n, mBeg mv n k r) := by
  have c0 : ck 40 (nI n) = some () := ck_nI hn (by decide)
  have c1 : (nI n).toNatClampNeg = n := nI_clamp (by omega)
  have s1 : ∀ x, md_shapes (ms_kinds mv x) = nI n := fun _ => h
  have s2 : ∀ x y, md_shapes (ms_radii (ms_kinds mv x) y) = nI n := fun _ _ => h
  have s3 : ∀ x y z, md_shapes (ms_many (ms_radii (ms_kinds mv x) y) z) = nI n := fun _ _ _ => h
  have s4 : ∀ x y z u, md_shapes (ms_rings (ms_many (ms_radii (ms_kinds mv x) y) z) u) = nI n := fun _ _ _ _ => h
  have s5 : ∀ v x, md_shapes (ms_shapes v x) = x := fun _ _ => rfl
  simp only [f_M_begin, Option.bind_some, h, s1, s2, s3, s4, s5, c0, c1, nI_1, nI_pred]
  rfl
theorem mBeg_other {mv : MV} {n : Nat} {k : Int32} {r : Int64} {j : Nat} (hj : j ≠ n) : mvS (mBeg mv n k r) j = mvS mv j := by
  show (upd (md_kinds mv) n k j, vp_updL (md_radii mv) n r j, upd (md_many mv) n 0 j, upd (md_rings mv) n 0 j, _, _, _) = _
  rw [pk_un hj, pk_uLn hj, pk_un hj, pk_un hj]
  rfl
theorem mBeg_self {mv : MV} {n : Nat} {k : Int32} {r : Int64} : mvS (mBeg mv n k r) n = (k, r, 0, 0, (fun z => md_cornerX mv (48 * n + z)), (fun z => md_cornerY mv (48 * n + z)), fun z => md_ends mv (16 * n + z)) := by
  show (upd (md_kinds mv) n k n, vp_updL (md_radii mv) n r n, upd (md_many mv) n 0 n, upd (md_rings mv) n 0 n, _, _, _) = _
  rw [pk_us, pk_uLs, pk_us, pk_us]
  rfl
theorem Agr.rf {q : QV} : Agr q q := ⟨rfl, rfl, rfl, rfl, fun _ _ => ⟨rfl, rfl⟩, fun _ _ => rfl⟩
theorem Agr.of {q q' : QV} (h : q' = q) : Agr q q' := h ▸ Agr.rf
theorem relP_new {q : QV} {r : Int64} (hr : Rad r) (h : qK q = 2 ∧ qR q = r ∧ qN q = 0 ∧ qG q = 0) : RelS (sv0 2 1 r) q := by
  obtain ⟨h1, h2, h3, h4⟩ := h
  refine ⟨0, 0, by decide, by decide, rfl, rfl, hr, h2, h1, fun k hk => absurd hk (Nat.not_lt_zero k), Or.inr (Or.inr (Or.inl ⟨rfl, rfl, h3, fun k hk => absurd hk (Nat.not_lt_zero k), 0, fun _ => 0, h4, rfl, rfl, fun r hr => absurd hr (Nat.not_lt_zero r), fun r k hr => absurd hr (Nat.not_lt_zero r), fun k _ hk => absurd hk (Nat.not_lt_zero k), fun k _ hk => absurd hk (Nat.not_lt_zero _)⟩))⟩
theorem relT_new {q : QV} {r : Int64} (hr : Rad r) (h : qK q = 3 ∧ qR q = r ∧ qN q = 0 ∧ qG q = 0) : RelS (sv0 3 0 r) q := by
  obtain ⟨h1, h2, h3, h4⟩ := h
  refine ⟨0, 0, by decide, by decide, rfl, rfl, hr, h2, h1, fun k hk => absurd hk (Nat.not_lt_zero k), Or.inr (Or.inr (Or.inr ⟨rfl, rfl, rfl, h3, h4, fun k hk => absurd hk (Nat.not_lt_zero k), fun k hk => absurd hk (Nat.not_lt_zero k), fun k hk => absurd hk (Nat.not_lt_zero _)⟩))⟩
theorem full_iff {v : CV} {mv : MV} (h : Rel v mv) : md_shapes mv = 40 ↔ ¬ v.1 < 40 := by
  rw [h.2.1, show (40 : Int32) = nI 40 from rfl, nI_eq (by have := h.1; omega) (by decide)]
  have := h.1
  omega
theorem sim_polygon : Sim_polygon Rel := by
  intro v mv h
  have hF : f_F_polygon v = some (f_F_keep v (sv0 2 1 0)) := by simp only [f_F_polygon, bz_1, Option.bind_some]
  have ht := rel_thrown (t := 0) h
  by_cases hn : v.1 < 40
  · refine ⟨(nI v.1, mBeg (ms_thrown mv 0) v.1 2 0), _, ?_, hF, ?_, ?_⟩
    · simp only [f_M_polygon, Option.bind_some, if_neg (fun z => absurd ((full_iff ht).mp z) (fun q => q hn)), begin_ev (k := 2) (r := 0) ht.2.1 hn, f_M_polygon_j24]
    · rw [show f_F_keep v (sv0 2 1 0) = _ from if_pos hn]
    · rw [show f_F_keep v (sv0 2 1 0) = _ from if_pos hn]
      refine rel_push ht hn rfl (fun j hj => Agr.of (mBeg_other (by omega))) ?_
      refine relP_new ⟨by decide, by decide⟩ ?_
      rw [mBeg_self]; exact ⟨rfl, rfl, rfl, rfl⟩
  · refine ⟨(-1, ms_thrown mv 0), _, ?_, hF, ?_, ?_⟩
    · simp only [f_M_polygon, Option.bind_some, if_pos ((full_iff ht).mpr hn), f_M_polygon_j24]
    · rw [show f_F_keep v (sv0 2 1 0) = _ from if_neg hn]
    · rw [show f_F_keep v (sv0 2 1 0) = _ from if_neg hn]; exact ht
