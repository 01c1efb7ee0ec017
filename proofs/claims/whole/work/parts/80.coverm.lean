/-! covering: the reference -/
/-- a stretch of pieces -/
def Stch (u : MV) (b m : Nat) (f : Nat → Sg) : Prop := b + m ≤ 96 ∧ (∀ j, j < m → sg u (b + j) = f j) ∧ ∀ j, j < m → Plc (f j).1 (f j).2.1 ∧ Plc (f j).2.2.1 (f j).2.2.2
theorem ahead_ev {u : MV} {I : Nat} {σ : Sg} {px py qx qy : Int64} (hI : I < 96) (hs : sg u I = σ) (p1 : Plc σ.1 σ.2.1) (p2 : Plc σ.2.2.1 σ.2.2.2) (hp : Plc px py) (hq : Plc qx qy) : f_M_isAhead u (nI I) px py qx qy = some (bP (0 < dt (toQ σ) px.toInt py.toInt qx.toInt qy.toInt)) := by
  obtain ⟨r1, r2, r3, r4⟩ := sg_rd hI hs
  have t0 : (0 : Int64).toInt = 0 := by decide
  obtain ⟨a1, a2⟩ := plc_h p1
  obtain ⟨b1, b2⟩ := plc_h p2
  obtain ⟨c1, c2⟩ := plc_h hp
  obtain ⟨d1, d2⟩ := plc_h hq
  obtain ⟨e1, g1⟩ := d_sub b1 a1
  obtain ⟨e2, g2⟩ := d_sub c1 d1
  obtain ⟨e3, g3⟩ := d_sub b2 a2
  obtain ⟨e4, g4⟩ := d_sub c2 d2
  obtain ⟨e5, -⟩ := d_add2 g1 g2 g3 g4
  have ed : ((σ.2.2.1 - σ.1) * (px - qx) + (σ.2.2.2 - σ.2.1) * (py - qy)).toInt = dt (toQ σ) px.toInt py.toInt qx.toInt qy.toInt := by rw [e5, e1, e2, e3, e4]; rfl
  unfold f_M_isAhead f_M_isAhead_j48
  rw [r3, r1, r4, r2]
  simp only [Option.bind_some]
  by_cases h : lg_cmp ((σ.2.2.1 - σ.1) * (px - qx) + (σ.2.2.2 - σ.2.1) * (py - qy)) 0 ≤ 0
  · rw [if_pos h]
    rw [lgc_le, ed, t0] at h
    rw [bP_f (by omega)]; exact rb_0
  · rw [if_neg h]
    rw [lgc_le, ed, t0] at h
    rw [bP_t (by omega)]; exact rb_1
theorem isline_ev {u : MV} {I J : Nat} {σ τ : Sg} (hI : I < 96) (hJ : J < 96) (hs : sg u I = σ) (ht : sg u J = τ) (p1 : Plc σ.1 σ.2.1) (p2 : Plc σ.2.2.1 σ.2.2.2) (q1 : Plc τ.1 τ.2.1) (q2 : Plc τ.2.2.1 τ.2.2.2) : f_M_isLine (md_ax u) (md_ay u) (md_bx u) (md_by u) (nI I) (nI J) = some (bP (ln (toQ σ) (toQ τ))) := by
  obtain ⟨r1, r2, r3, r4⟩ := sg_rd hI hs
  obtain ⟨s1, s2, s3, s4⟩ := sg_rd hJ ht
  unfold f_M_isLine f_M_isLine_j58 f_M_isLine_j59
  rw [r1, r2, r3, r4, s1, s2, s3, s4]
  simp only [Option.bind_some]
  have e1 : f_M_turnOf σ.1 σ.2.1 σ.2.2.1 σ.2.2.2 τ.1 τ.2.1 = some (cmpZ (cr (toQ σ) τ.1.toInt τ.2.1.toInt) 0) := turn_ev p1 p2 q1
  have e2 : f_M_turnOf σ.1 σ.2.1 σ.2.2.1 σ.2.2.2 τ.2.2.1 τ.2.2.2 = some (cmpZ (cr (toQ σ) τ.2.2.1.toInt τ.2.2.2.toInt) 0) := turn_ev p1 p2 q2
  rw [e1, Option.bind_some, e2, Option.bind_some]
  by_cases h1 : cr (toQ σ) τ.1.toInt τ.2.1.toInt = 0
  · rw [if_pos (cmp_0.mpr h1)]
    by_cases h2 : cr (toQ σ) τ.2.2.1.toInt τ.2.2.2.toInt = 0
    · rw [if_pos (cmp_0.mpr h2), bP_t ⟨h1, h2⟩]; exact rb_1
    · rw [if_neg (fun z => h2 (cmp_0.mp z)), bP_f (fun z => h2 z.2)]; exact rb_0
  · rw [if_neg (fun z => h1 (cmp_0.mp z)), bP_f (fun z => h1 z.1)]; exact rb_0
def CovIn (u : MV) (K : Int32 → Int32 → Int32 → Int64 → Int64 → Int32 → Option Int32) (I b m : Nat) (σ : Sg) (f : Nat → Sg) (hx hy : Int64) (n k : Nat) : Prop :=
    (∃ j x y, k ≤ j ∧ j < m ∧ ln (toQ σ) (toQ (f j)) ∧ onQ (toQ (f j)) hx.toInt hy.toInt ∧ ((x = (f j).1 ∧ y = (f j).2.1) ∨ (x = (f j).2.2.1 ∧ y = (f j).2.2.2)) ∧ 0 < dt (toQ σ) x.toInt y.toInt hx.toInt hy.toInt ∧ f_M_isCovered_l181 u K n (nI I) (nI b) (nI (b + m)) hx hy 0 (nI (b + k)) = K (nI I) (nI b) (nI (b + m)) x y 1) ∨
    ((∀ j, k ≤ j → j < m → ln (toQ σ) (toQ (f j)) → onQ (toQ (f j)) hx.toInt hy.toInt → ¬ 0 < dt (toQ σ) (f j).1.toInt (f j).2.1.toInt hx.toInt hy.toInt ∧ ¬ 0 < dt (toQ σ) (f j).2.2.1.toInt (f j).2.2.2.toInt hx.toInt hy.toInt) ∧ f_M_isCovered_l181 u K n (nI I) (nI b) (nI (b + m)) hx hy 0 (nI (b + k)) = K (nI I) (nI b) (nI (b + m)) hx hy 0)
theorem cov_in {u : MV} {I b m : Nat} {σ : Sg} {f : Nat → Sg} {hx hy : Int64} (hI : I < 96) (hs : sg u I = σ) (p1 : Plc σ.1 σ.2.1) (p2 : Plc σ.2.2.1 σ.2.2.2) (T : Stch u b m f) (hp : Plc hx hy) (K : Int32 → Int32 → Int32 → Int64 → Int64 → Int32 → Option Int32) : ∀ n k, k ≤ m → m + 1 < k + n →
    CovIn u K I b m σ f hx hy n k := by
  obtain ⟨hbm, hf, pl⟩ := T
  intro n
  induction n with
  | zero => intro k h1 h2; omega
  | succ n ih =>
    intro k h1 h2
    by_cases z : k = m
    · subst z
      refine Or.inr ⟨fun j a b => by omega, ?_⟩
      have hle : nI (b + k) ≤ nI (b + k) := nI_hle (by omega) (by omega) |>.mpr (Nat.le_refl _)
      simp only [f_M_isCovered_l181, if_pos hle, f_M_isCovered_j415]
    · have hk : k < m := by omega
      have hle : ¬ nI (b + m) ≤ nI (b + k) := fun q => by rw [nI_hle (by omega) (by omega)] at q; omega
      obtain ⟨q1, q2⟩ := pl k hk
      obtain ⟨r1, r2, r3, r4⟩ := sg_rd (by omega) (hf k hk)
      have il := isline_ev hI (by omega) hs (hf k hk) p1 p2 q1 q2
      have io : f_M_isOn hx hy (f k).1 (f k).2.1 (f k).2.2.1 (f k).2.2.2 = some (bP (onQ (toQ (f k)) hx.toInt hy.toInt)) := ison_ev hp q1 q2
      have ia := ahead_ev hI hs p1 p2 q1 hp
      have ib := ahead_ev hI hs p1 p2 q2 hp
      -- once found, it stops
      have found : ∀ x y : Int64, f_M_isCovered_l181 u K n (nI I) (nI b) (nI (b + m)) x y 1 (nI (b + k + 1)) = K (nI I) (nI b) (nI (b + m)) x y 1 := fun x y => by
        obtain ⟨n', en⟩ : ∃ n', n = n' + 1 := ⟨n - 1, by omega⟩
        subst en
        simp only [f_M_isCovered_l181, f_M_isCovered_j415, if_neg one_n0]
        split <;> rfl
      have next : (ln (toQ σ) (toQ (f k)) → onQ (toQ (f k)) hx.toInt hy.toInt → ¬ 0 < dt (toQ σ) (f k).1.toInt (f k).2.1.toInt hx.toInt hy.toInt ∧ ¬ 0 < dt (toQ σ) (f k).2.2.1.toInt (f k).2.2.2.toInt hx.toInt hy.toInt) → f_M_isCovered_l181 u K (n + 1) (nI I) (nI b) (nI (b + m)) hx hy 0 (nI (b + k)) = f_M_isCovered_l181 u K n (nI I) (nI b) (nI (b + m)) hx hy 0 (nI (b + k + 1)) → CovIn u K I b m σ f hx hy (n + 1) k := fun no e => by
        rcases ih (k + 1) (by omega) (by omega) with ⟨j, x, y, a1, a2, a3⟩ | ⟨a1, a2⟩
        · exact Or.inl ⟨j, x, y, by omega, a2, a3.1, a3.2.1, a3.2.2.1, a3.2.2.2.1, e.trans a3.2.2.2.2⟩
        · refine Or.inr ⟨fun j j1 j2 => ?_, e.trans a2⟩
          by_cases y : j = k
          · subst y; exact no
          · exact a1 j (by omega) j2
      by_cases h3 : ln (toQ σ) (toQ (f k))
      · have l3 : ¬ bP (ln (toQ σ) (toQ (f k))) = 0 := fun z => bP_z.mp z h3
        by_cases h4 : onQ (toQ (f k)) hx.toInt hy.toInt
        · have l4 : ¬ bP (onQ (toQ (f k)) hx.toInt hy.toInt) = 0 := fun z => bP_z.mp z h4
          by_cases h5 : 0 < dt (toQ σ) (f k).1.toInt (f k).2.1.toInt hx.toInt hy.toInt
          · have l5 : ¬ bP (0 < dt (toQ σ) (f k).1.toInt (f k).2.1.toInt hx.toInt hy.toInt) = 0 := fun z => bP_z.mp z h5
            refine Or.inl ⟨k, (f k).1, (f k).2.1, Nat.le_refl k, hk, h3, h4, Or.inl ⟨rfl, rfl⟩, h5, ?_⟩
            by_cases h6 : 0 < dt (toQ σ) (f k).2.2.1.toInt (f k).2.2.2.toInt hx.toInt hy.toInt
            · have l6 : ¬ bP (0 < dt (toQ σ) (f k).2.2.1.toInt (f k).2.2.2.toInt hx.toInt hy.toInt) = 0 := fun z => bP_z.mp z h6
              simp only [f_M_isCovered_l181, if_neg hle, if_true, il, Option.bind_some, if_neg l3, r1, r2, r3, r4, io, if_neg l4, f_M_isCovered_j261, if_neg one_n0, ia, if_neg l5, f_M_isCovered_j299, ib, if_neg l6, f_M_isCovered_j337, f_M_isCovered_j349, f_M_isCovered_j354, f_M_isCovered_j383, f_M_isCovered_j407, f_M_isCovered_j409, nI_1]
              exact found _ _
            · have l6 : bP (0 < dt (toQ σ) (f k).2.2.1.toInt (f k).2.2.2.toInt hx.toInt hy.toInt) = 0 := bP_f h6
              simp only [f_M_isCovered_l181, if_neg hle, if_true, il, Option.bind_some, if_neg l3, r1, r2, r3, r4, io, if_neg l4, f_M_isCovered_j261, if_neg one_n0, ia, if_neg l5, f_M_isCovered_j299, ib, if_pos l6, f_M_isCovered_j336, f_M_isCovered_j337, f_M_isCovered_j349, f_M_isCovered_j354, f_M_isCovered_j383, f_M_isCovered_j407, f_M_isCovered_j409, nI_1]
              exact found _ _
          · have l5 : bP (0 < dt (toQ σ) (f k).1.toInt (f k).2.1.toInt hx.toInt hy.toInt) = 0 := bP_f h5
            by_cases h6 : 0 < dt (toQ σ) (f k).2.2.1.toInt (f k).2.2.2.toInt hx.toInt hy.toInt
            · have l6 : ¬ bP (0 < dt (toQ σ) (f k).2.2.1.toInt (f k).2.2.2.toInt hx.toInt hy.toInt) = 0 := fun z => bP_z.mp z h6
              refine Or.inl ⟨k, (f k).2.2.1, (f k).2.2.2, Nat.le_refl k, hk, h3, h4, Or.inr ⟨rfl, rfl⟩, h6, ?_⟩
              simp only [f_M_isCovered_l181, if_neg hle, if_true, il, Option.bind_some, if_neg l3, r1, r2, r3, r4, io, if_neg l4, f_M_isCovered_j261, if_neg one_n0, ia, if_pos l5, f_M_isCovered_j298, f_M_isCovered_j299, ib, if_neg l6, f_M_isCovered_j337, f_M_isCovered_j349, f_M_isCovered_j354, f_M_isCovered_j383, f_M_isCovered_j407, f_M_isCovered_j409, nI_1]
              exact found _ _
            · have l6 : bP (0 < dt (toQ σ) (f k).2.2.1.toInt (f k).2.2.2.toInt hx.toInt hy.toInt) = 0 := bP_f h6
              refine next (fun _ _ => ⟨h5, h6⟩) ?_
              simp only [f_M_isCovered_l181, if_neg hle, if_true, il, Option.bind_some, if_neg l3, r1, r2, r3, r4, io, if_neg l4, f_M_isCovered_j261, if_neg one_n0, ia, if_pos l5, f_M_isCovered_j298, f_M_isCovered_j299, ib, if_pos l6, f_M_isCovered_j336, f_M_isCovered_j337, f_M_isCovered_j354, f_M_isCovered_j409, nI_1]
        · have l4 : bP (onQ (toQ (f k)) hx.toInt hy.toInt) = 0 := bP_f h4
          refine next (fun _ y => absurd y h4) ?_
          simp only [f_M_isCovered_l181, if_neg hle, if_true, il, Option.bind_some, if_neg l3, r1, r2, r3, r4, io, if_pos l4, f_M_isCovered_j260, f_M_isCovered_j261, f_M_isCovered_j298, f_M_isCovered_j299, f_M_isCovered_j336, f_M_isCovered_j337, f_M_isCovered_j354, f_M_isCovered_j409, nI_1]
      · have l3 : bP (ln (toQ σ) (toQ (f k))) = 0 := bP_f h3
        refine next (fun y => absurd y h3) ?_
        simp only [f_M_isCovered_l181, if_neg hle, if_true, il, Option.bind_some, if_pos l3, f_M_isCovered_j260, f_M_isCovered_j261, f_M_isCovered_j298, f_M_isCovered_j299, f_M_isCovered_j336, f_M_isCovered_j337, f_M_isCovered_j354, f_M_isCovered_j409, nI_1]
theorem cov_out {u : MV} {I b m : Nat} {σ : Sg} {f : Nat → Sg} (hI : I < 96) (hm : m ≤ 48) (hs : sg u I = σ) (p1 : Plc σ.1 σ.2.1) (p2 : Plc σ.2.2.1 σ.2.2.2) (T : Stch u b m f) (nd : ¬ dg (toQ σ)) : f_M_isCovered_j127 u (nI I) (nI b) (nI (b + m)) = some (bP (UC (toQ σ) (fun j => toQ (f j)) m)) := by
  obtain ⟨e, e1, e2, e3, e4, e5⟩ := ev_props nd
  have uc := e4 (fun j => toQ (f j)) m
  obtain ⟨r1, r2, r3, r4⟩ := sg_rd hI hs
  have bd : ∀ {x y : Int64}, Plc x y → -500000000 ≤ e x.toInt y.toInt ∧ e x.toInt y.toInt ≤ 500000000 := fun h => e5 _ _ h.1 h.2.1 h.2.2.1 h.2.2.2
  have L : ∀ (n : Nat) (hx hy : Int64), Plc hx hy → cr (toQ σ) hx.toInt hy.toInt = 0 → e (toQ σ).1 (toQ σ).2.1 ≤ e hx.toInt hy.toInt →
      (∀ t, e (toQ σ).1 (toQ σ).2.1 ≤ t → t < e hx.toInt hy.toInt → ∃ k, k < m ∧ ln (toQ σ) (toQ (f k)) ∧ min (e (toQ (f k)).1 (toQ (f k)).2.1) (e (toQ (f k)).2.2.1 (toQ (f k)).2.2.2) ≤ t ∧ t + 1 ≤ max (e (toQ (f k)).1 (toQ (f k)).2.1) (e (toQ (f k)).2.2.1 (toQ (f k)).2.2.2)) →
      1 ≤ n → e (toQ σ).2.2.1 (toQ σ).2.2.2 - e hx.toInt hy.toInt + 2 ≤ (n : Int) → f_M_isCovered_l146 u n (nI I) (nI b) (nI (b + m)) hx hy 1 = some (bP (UC (toQ σ) (fun j => toQ (f j)) m)) := by
    intro n
    induction n with
    | zero => intro hx hy _ _ _ _ h; omega
    | succ n ih =>
      intro hx hy hp hl hge hcv _ hn
      have ia : f_M_isAhead u (nI I) σ.2.2.1 σ.2.2.2 hx hy = some (bP (0 < dt (toQ σ) (toQ σ).2.2.1 (toQ σ).2.2.2 hx.toInt hy.toInt)) := ahead_ev hI hs p1 p2 p2 hp
      have ah := e2 (toQ σ).2.2.1 (toQ σ).2.2.2 hx.toInt hy.toInt (cr_e _) hl
      by_cases h : 0 < dt (toQ σ) (toQ σ).2.2.1 (toQ σ).2.2.2 hx.toInt hy.toInt
      · have l1 : ¬ bP (0 < dt (toQ σ) (toQ σ).2.2.1 (toQ σ).2.2.2 hx.toInt hy.toInt) = 0 := fun z => bP_z.mp z h
        have hlt := ah.mp h
        simp only [f_M_isCovered_l146, if_neg one_n0, r3, r4, Option.bind_some, ia, if_neg l1]
        rcases cov_in hI hs p1 p2 T hp (f_M_isCovered_l146 u n) 64 0 (Nat.zero_le m) (by omega) with ⟨j, x, y, j1, j2, l, o, en, d, ee⟩ | ⟨no, ee⟩
        · refine Eq.trans ee ?_
          obtain ⟨q1, q2⟩ := T.2.2 j j2
          have px : Plc x y ∧ cr (toQ σ) x.toInt y.toInt = 0 := by
            rcases en with ⟨a, b⟩ | ⟨a, b⟩ <;> rw [a, b]
            · exact ⟨q1, l.1⟩
            · exact ⟨q2, l.2⟩
          have hl2 := (e2 x.toInt y.toInt hx.toInt hy.toInt px.2 hl).mp d
          have ob := (e3 _ _ _ l hl).mp o
          refine ih x y px.1 px.2 (by omega) (fun t t1 t2 => ?_) (by omega) (by omega)
          by_cases z : t < e hx.toInt hy.toInt
          · exact hcv t t1 z
          · refine ⟨j, j2, l, ?_⟩
            unfold btw at ob
            rcases en with ⟨a, b⟩ | ⟨a, b⟩
            · have ea : e (toQ (f j)).1 (toQ (f j)).2.1 = e x.toInt y.toInt := by rw [a, b]; rfl
              rw [ea] at ob ⊢
              clear hcv ih hn ah
              constructor <;> omega
            · have ea : e (toQ (f j)).2.2.1 (toQ (f j)).2.2.2 = e x.toInt y.toInt := by rw [a, b]; rfl
              rw [ea] at ob ⊢
              clear hcv ih hn ah
              constructor <;> omega
        · refine Eq.trans ee ?_
          have nu : ¬ UC (toQ σ) (fun j => toQ (f j)) m := fun u' => by
            obtain ⟨k, hk, l, a, b⟩ := uc.mp u' (e hx.toInt hy.toInt) hge hlt
            have l : ln (toQ σ) (toQ (f k)) := l
            have a : min (e (toQ (f k)).1 (toQ (f k)).2.1) (e (toQ (f k)).2.2.1 (toQ (f k)).2.2.2) ≤ e hx.toInt hy.toInt := a
            have b : e hx.toInt hy.toInt + 1 ≤ max (e (toQ (f k)).1 (toQ (f k)).2.1) (e (toQ (f k)).2.2.1 (toQ (f k)).2.2.2) := b
            have o := (e3 _ _ _ l hl).mpr (by unfold btw; clear hcv ih hn ah; omega)
            obtain ⟨n1, n2⟩ := no k (Nat.zero_le k) hk l o
            have m1 : ¬ e hx.toInt hy.toInt < e (toQ (f k)).1 (toQ (f k)).2.1 := fun z => n1 ((e2 _ _ _ _ l.1 hl).mpr z)
            have m2 : ¬ e hx.toInt hy.toInt < e (toQ (f k)).2.2.1 (toQ (f k)).2.2.2 := fun z => n2 ((e2 _ _ _ _ l.2 hl).mpr z)
            clear hcv ih hn ah
            omega
          rw [bP_f nu]
          obtain ⟨n', en⟩ : ∃ n', n = n' + 1 := ⟨n - 1, by omega⟩
          subst en
          simp only [f_M_isCovered_l146, if_true, f_M_isCovered_j418, rb_0]
      · have l1 : bP (0 < dt (toQ σ) (toQ σ).2.2.1 (toQ σ).2.2.2 hx.toInt hy.toInt) = 0 := bP_f h
        have hge2 : ¬ e hx.toInt hy.toInt < e (toQ σ).2.2.1 (toQ σ).2.2.2 := fun z => h (ah.mpr z)
        simp only [f_M_isCovered_l146, if_neg one_n0, r3, r4, Option.bind_some, ia, if_pos l1, f_M_isCovered_j418, rb_1]
        rw [bP_t (uc.mpr (fun t t1 t2 => hcv t t1 (by omega)))]
  unfold f_M_isCovered_j127
  rw [r1, r2, Option.bind_some, Option.bind_some]
  have b1 := bd p1
  have b2 := bd p2
  have b1 : -500000000 ≤ e (toQ σ).1 (toQ σ).2.1 ∧ e (toQ σ).1 (toQ σ).2.1 ≤ 500000000 := b1
  have b2 : -500000000 ≤ e (toQ σ).2.2.1 (toQ σ).2.2.2 ∧ e (toQ σ).2.2.1 (toQ σ).2.2.2 ≤ 500000000 := b2
  have st : e σ.1.toInt σ.2.1.toInt = e (toQ σ).1 (toQ σ).2.1 := rfl
  exact L 3000000000 σ.1 σ.2.1 p1 (cr_s (toQ σ)) (by rw [st]; exact Int.le_refl _) (fun t t1 t2 => by rw [st] at t2; omega) (by omega) (by rw [st]; omega)
