/-! covering: the class -/
def Fst (s : Q4) (A : Nat → Q4) (cov : Int) (k : Nat) (F : Int) : Prop := cov ≤ F ∧ (F = cov ∨ ∃ j, j < k ∧ ln s (A j) ∧ lo s (A j) ≤ cov ∧ hi s (A j) = F) ∧ ∀ j, j < k → ln s (A j) → lo s (A j) ≤ cov → hi s (A j) ≤ F
theorem cfr_l {v w : SV} {c c' q : Nat} {R : Nat → Int64} {cov : Int64} (S : Sds v c (eE v)) (S' : Sds w c' (eE w)) (hq : q < c') (hR : ∀ k, (R k).toInt = co (cs w q) (zx v k) (zy v k)) : ∀ n k F, k ≤ c → c < k + n → Fst (cs w q) (cs v) cov.toInt k F.toInt → ∃ G, f_S_coveredFrom_l23 v w n cov (nI q) R F (nI k) = some G ∧ Fst (cs w q) (cs v) cov.toInt c G.toInt := by
  have hc := S.1
  have t0 : (0 : Int64).toInt = 0 := by decide
  intro n
  induction n with
  | zero => intro k F h1 h2; omega
  | succ n ih =>
    intro k F h1 h2 I
    by_cases z : k = c
    · subst z
      refine ⟨F, ?_, I⟩
      have hle : nI k ≤ nI k := nI_hle (by omega) (by omega) |>.mpr (Nat.le_refl _)
      simp only [f_S_coveredFrom_l23, S.2.1, if_pos hle]
    · have hk : k < c := by omega
      obtain ⟨ee, he⟩ := S.2.2.2 k hk
      have hle : ¬ nI c ≤ nI k := fun q => by rw [nI_hle (by omega) (by omega)] at q; omega
      have l1 : ld 48 (sE v) (nI k) = some (nI (eE v k)) := by rw [ld_nI (by omega) (by decide), ee]
      have l2 : ld 48 R (nI k) = some (R k) := ld_nI (by omega) (by decide)
      have l3 : ld 48 R (nI (eE v k)) = some (R (eE v k)) := ld_nI (by omega) (by decide)
      have x1 : ld 48 (sX v) (nI k) = some (sX v k) := ld_nI (by omega) (by decide)
      have y1 : ld 48 (sY v) (nI k) = some (sY v k) := ld_nI (by omega) (by decide)
      have x2 : ld 48 (sX v) (nI (eE v k)) = some (sX v (eE v k)) := ld_nI (by omega) (by decide)
      have y2 : ld 48 (sY v) (nI (eE v k)) = some (sY v (eE v k)) := ld_nI (by omega) (by decide)
      obtain ⟨c1, f1, g1, -, -⟩ := cross_ev (x := sX v k) (y := sY v k) S' hq (S.2.2.1 k hk)
      obtain ⟨c2, f2, g2, -, -⟩ := cross_ev (x := sX v (eE v k)) (y := sY v (eE v k)) S' hq (S.2.2.1 _ he)
      obtain ⟨lw, elw⟩ : ∃ l, l = if R (eE v k) < R k then R (eE v k) else R k := ⟨_, rfl⟩
      obtain ⟨hw, ehw⟩ : ∃ l, l = if R (eE v k) < R k then R k else R (eE v k) := ⟨_, rfl⟩
      have tl : lw.toInt = lo (cs w q) (cs v k) := by rw [elw, j_min, hR, hR]; rfl
      have th : hw.toInt = hi (cs w q) (cs v k) := by rw [ehw, j_max, hR, hR]; rfl
      have keep : (ln (cs w q) (cs v k) → lo (cs w q) (cs v k) ≤ cov.toInt → hi (cs w q) (cs v k) ≤ F.toInt) → ∃ G, f_S_coveredFrom_l23 v w n cov (nI q) R F (nI (k + 1)) = some G ∧ Fst (cs w q) (cs v) cov.toInt c G.toInt := fun h => by
        refine ih (k + 1) F (by omega) (by omega) ⟨I.1, ?_, fun j hj a b => ?_⟩
        · rcases I.2.1 with e | ⟨j, hj, r⟩
          · exact Or.inl e
          · exact Or.inr ⟨j, by omega, r⟩
        · by_cases y : j = k
          · subst y; exact h a b
          · exact I.2.2 j (by omega) a b
      simp only [f_S_coveredFrom_l23, S.2.1, if_neg hle, l1, l2, l3, Option.bind_some, ← elw, ← ehw, x1, y1, x2, y2, f1, f2, f_S_coveredFrom_j142, nI_1]
      by_cases h3 : 0 < lg_cmp lw cov
      · rw [if_pos h3]
        rw [lgc_gt, tl] at h3
        exact keep (fun _ b => by omega)
      · rw [if_neg h3]
        rw [lgc_gt, tl] at h3
        by_cases h4 : lg_cmp hw F ≤ 0
        · rw [if_pos h4]
          rw [lgc_le, th] at h4
          exact keep (fun _ _ => h4)
        · rw [if_neg h4]
          rw [lgc_le, th] at h4
          by_cases h5 : lg_cmp c1 0 = 0
          · rw [if_pos h5]
            rw [lgc_eq, t0, g1] at h5
            by_cases h6 : lg_cmp c2 0 = 0
            · rw [if_pos h6]
              rw [lgc_eq, t0, g2] at h6
              have i1 := I.1
              refine ih (k + 1) hw (by omega) (by omega) ⟨by rw [th]; omega, Or.inr ⟨k, by omega, ⟨h5, h6⟩, by omega, th.symm⟩, fun j hj a b => ?_⟩
              by_cases y : j = k
              · subst y; rw [th]; exact Int.le_refl _
              · have := I.2.2 j (by omega) a b
                rw [th]; omega
            · rw [if_neg h6]
              rw [lgc_eq, t0, g2] at h6
              exact keep (fun a _ => absurd a.2 h6)
          · rw [if_neg h5]
            rw [lgc_eq, t0, g1] at h5
            exact keep (fun a _ => absurd a.1 h5)
theorem cfr_ev {v w : SV} {c c' q : Nat} {R : Nat → Int64} {cov : Int64} {b : Int32} (S : Sds v c (eE v)) (S' : Sds w c' (eE w)) (hq : q < c') (hR : ∀ k, (R k).toInt = co (cs w q) (zx v k) (zy v k)) (hb : (b = 0 ∧ R = sY v) ∨ (¬ b = 0 ∧ R = sX v)) : ∃ G, f_S_coveredFrom v w cov b (nI q) = some G ∧ Fst (cs w q) (cs v) cov.toInt c G.toInt := by
  have hc := S.1
  obtain ⟨G, e, I⟩ := cfr_l S S' hq hR 64 0 cov (Nat.zero_le c) (by omega) ⟨Int.le_refl _, Or.inl rfl, fun j hj => by omega⟩
  refine ⟨G, ?_, I⟩
  unfold f_S_coveredFrom f_S_coveredFrom_j15
  rcases hb with ⟨b0, r⟩ | ⟨b0, r⟩
  · rw [if_pos b0, ← r]; exact e
  · rw [if_neg b0, ← r]; exact e
theorem sm_le {f g : Nat → Nat} : ∀ n, (∀ k, k < n → f k ≤ g k) → sm f n ≤ sm g n
  | 0, _ => Nat.le_refl _
  | n + 1, h => by
    show sm f n + f n ≤ sm g n + g n
    have a := sm_le n (fun k hk => h k (by omega))
    have b := h n (by omega)
    omega
theorem sm_lt {f g : Nat → Nat} {i : Nat} : ∀ n, (∀ k, k < n → f k ≤ g k) → i < n → f i < g i → sm f n < sm g n
  | 0, _, hi, _ => by omega
  | n + 1, h, hi, hl => by
    show sm f n + f n < sm g n + g n
    by_cases z : i = n
    · subst z
      have a := sm_le i (fun k hk => h k (by omega))
      omega
    · have a := sm_lt n (fun k hk => h k (by omega)) (by omega) hl
      have b := h n (by omega)
      omega
theorem sm_one {f : Nat → Nat} : ∀ n, (∀ k, k < n → f k ≤ 1) → sm f n ≤ n
  | 0, _ => Nat.le_refl _
  | n + 1, h => by
    show sm f n + f n ≤ n + 1
    have a := sm_one n (fun k hk => h k (by omega))
    have b := h n (by omega)
    omega
theorem nP_01 (P : Prop) : nP P ≤ 1 := by
  by_cases h : P
  · rw [nP_t h]; exact Nat.le_refl _
  · rw [nP_f h]; exact Nat.zero_le _
theorem nP_im {P Q : Prop} (h : P → Q) : nP P ≤ nP Q := by
  by_cases p : P
  · rw [nP_t p, nP_t (h p)]; exact Nat.le_refl _
  · rw [nP_f p]; exact Nat.zero_le _
/-- how many reach beyond -/
noncomputable def Nb (s : Q4) (A : Nat → Q4) (c : Nat) (cov : Int) : Nat := sm (fun k => nP (cov < hi s (A k))) c
theorem nI_ltc {a b : Nat} (ha : a < 2 ^ 31) (hb : b < 2 ^ 31) : (nI a < nI b) ↔ a < b := by
  have h := nI_leI (a := b) (b := a) hb ha
  rw [Int32.le_iff_toInt_le] at h
  rw [Int32.lt_iff_toInt_lt]
  omega
theorem csd_l {v w : SV} {c c' q : Nat} {R : Nat → Int64} {b : Int32} {last : Int64} (S : Sds v c (eE v)) (S' : Sds w c' (eE w)) (hq : q < c') (hR : ∀ k, (R k).toInt = co (cs w q) (zx v k) (zy v k)) (hb : (b = 0 ∧ R = sY v) ∨ (¬ b = 0 ∧ R = sX v)) (hl : last.toInt = hi (cs w q) (cs w q)) : ∀ n k cov, k ≤ c + 1 → c + 1 < k + n → lo (cs w q) (cs w q) ≤ cov.toInt → (∀ t, lo (cs w q) (cs w q) ≤ t → t < cov.toInt → ∃ j, j < c ∧ ln (cs w q) (cs v j) ∧ lo (cs w q) (cs v j) ≤ t ∧ t + 1 ≤ hi (cs w q) (cs v j)) → (UC (cs w q) (cs v) c → cov.toInt < last.toInt → Nb (cs w q) (cs v) c cov.toInt + k ≤ c) → f_S_coversSide_l129 v w n (nI q) b last cov (nI k) = some (bP (UC (cs w q) (cs v) c)) := by
  have hc := S.1
  intro n
  induction n with
  | zero => intro k cov h1 h2; omega
  | succ n ih =>
    intro k cov h1 h2 I1 I2 I3
    have j164 : f_S_coversSide_j164 v w last cov = some (bP (last.toInt ≤ cov.toInt)) := by
      unfold f_S_coversSide_j164 f_S_coversSide_j177
      by_cases y : lg_cmp cov last < 0
      · rw [if_pos y]
        rw [lgc_lt] at y
        rw [bP_f (by omega)]; exact rb_0
      · rw [if_neg y]
        rw [lgc_lt] at y
        rw [bP_t (by omega)]; exact rb_1
    have full : last.toInt ≤ cov.toInt → UC (cs w q) (cs v) c := fun y t t1 t2 => I2 t t1 (by omega)
    by_cases z : nI c < nI k
    · simp only [f_S_coversSide_l129, S.2.1, if_pos z, j164]
      rw [nI_ltc (by omega) (by omega)] at z
      refine congrArg some (bP_c ⟨full, fun u => ?_⟩)
      by_cases y : last.toInt ≤ cov.toInt
      · exact y
      · have := I3 u (by omega)
        omega
    · by_cases y : 0 ≤ lg_cmp cov last
      · simp only [f_S_coversSide_l129, S.2.1, if_neg z, if_pos y, j164]
        rw [lgc_ge] at y
        exact congrArg some (bP_c ⟨full, fun _ => y⟩)
      · obtain ⟨G, e, J1, J2, J3⟩ := cfr_ev (cov := cov) S S' hq hR hb
        simp only [f_S_coversSide_l129, S.2.1, if_neg z, if_neg y, e, Option.bind_some, nI_1]
        rw [nI_ltc (by omega) (by omega)] at z
        rw [lgc_ge] at y
        refine ih (k + 1) G (by omega) (by omega) (by omega) (fun t t1 t2 => ?_) (fun u g => ?_)
        · by_cases x : t < cov.toInt
          · exact I2 t t1 x
          · rcases J2 with j | ⟨j, hj, l, a, b⟩
            · omega
            · exact ⟨j, hj, l, by omega, by omega⟩
        · have i3 := I3 u (by omega)
          -- one that reaches beyond cov
          obtain ⟨j, hj, l, a, b⟩ := u cov.toInt I1 (by omega)
          have b2 := J3 j hj l a
          rcases J2 with x | ⟨i, hi', l', a', b'⟩
          · omega
          · have lt : Nb (cs w q) (cs v) c G.toInt < Nb (cs w q) (cs v) c cov.toInt := by
              unfold Nb
              refine sm_lt c (fun k _ => nP_im (fun y => by omega)) hi' ?_
              show nP (G.toInt < hi (cs w q) (cs v i)) < nP (cov.toInt < hi (cs w q) (cs v i))
              rw [nP_f (by omega), nP_t (by omega)]
              decide
            omega
theorem rch_0 : Rch 0 := by
  have t0 : (0 : Int64).toInt = 0 := by decide
  unfold Rch; rw [t0]; omega
theorem csd_ev {v w : SV} {c c' q : Nat} (S : Sds v c (eE v)) (S' : Sds w c' (eE w)) (hq : q < c') : f_S_coversSide v w (nI q) = some (bP (Cov (cs w q) (cs v) c)) := by
  have hc := S.1
  have hc' := S'.1
  have t0 : (0 : Int64).toInt = 0 := by decide
  obtain ⟨ee, he⟩ := S'.2.2.2 q hq
  have l1 : ld 48 (sE w) (nI q) = some (nI (eE w q)) := by rw [ld_nI (by omega) (by decide), ee]
  have x1 : ld 48 (sX w) (nI q) = some (sX w q) := ld_nI (by omega) (by decide)
  have y1 : ld 48 (sY w) (nI q) = some (sY w q) := ld_nI (by omega) (by decide)
  have x2 : ld 48 (sX w) (nI (eE w q)) = some (sX w (eE w q)) := ld_nI (by omega) (by decide)
  have y2 : ld 48 (sY w) (nI (eE w q)) = some (sY w (eE w q)) := ld_nI (by omega) (by decide)
  -- the walk
  have walk : ∀ (b : Int32) (R : Nat → Int64) (fr to' : Int64), ¬ dg (cs w q) → (∀ k, (R k).toInt = co (cs w q) (zx v k) (zy v k)) → ((b = 0 ∧ R = sY v) ∨ (¬ b = 0 ∧ R = sX v)) → fr.toInt = co (cs w q) (zx w q) (zy w q) → to'.toInt = co (cs w q) (zx w (eE w q)) (zy w (eE w q)) → f_S_coversSide_j72 v w (nI q) b fr to' = some (bP (Cov (cs w q) (cs v) c)) := by
    intro b R fr to' nd hR hb e1 e2
    have ne : ¬ lg_cmp fr to' = 0 := fun z => by
      rw [lgc_eq, e1, e2] at z
      exact co_ne nd z
    have em : (if to' < fr then fr else to').toInt = hi (cs w q) (cs w q) := by rw [j_max, e1, e2]; rfl
    have el : (if to' < fr then to' else fr).toInt = lo (cs w q) (cs w q) := by rw [j_min, e1, e2]; rfl
    have M := csd_l S S' hq hR hb em 64 0 (if to' < fr then to' else fr) (by omega) (by omega) (by rw [el]; exact Int.le_refl _) (fun t t1 t2 => by omega) (fun _ _ => by unfold Nb; exact sm_one c (fun k _ => nP_01 _))
    unfold f_S_coversSide_j72
    rw [if_neg ne, Option.bind_some, Option.bind_some]
    refine M.trans (congrArg some (bP_c ⟨fun u => Or.inr ⟨nd, u⟩, fun z => z.elim (fun y => absurd y.1 nd) (fun y => y.2)⟩))
  unfold f_S_coversSide
  rw [l1, Option.bind_some, x1, Option.bind_some, x2, Option.bind_some]
  by_cases hx : lg_cmp (sX w q) (sX w (eE w q)) = 0
  · rw [if_pos hx]
    rw [lgc_eq] at hx
    have cx : (cs w q).1 = (cs w q).2.2.1 := hx
    unfold f_S_coversSide_j28 f_S_coversSide_j50
    rw [if_pos rfl, y1, Option.bind_some, if_pos rfl, y2, Option.bind_some]
    by_cases hy : lg_cmp (sY w q) (sY w (eE w q)) = 0
    · unfold f_S_coversSide_j72 f_S_coversSide_j107
      rw [if_pos hy, x1, y1, Option.bind_some, Option.bind_some, ctos_ev S (S'.2.2.1 q hq) rch_0, Option.bind_some, t0]
      rw [lgc_eq] at hy
      have nl : ¬ ∃ j, j < c ∧ dQ (cs v j) (sX w q).toInt (sY w q).toInt 0 = -1 := fun ⟨j, _, z⟩ => dcmp_0n z
      have iff : (∃ j, j < c ∧ dQ (cs v j) (sX w q).toInt (sY w q).toInt 0 ≠ 1) ↔ Cov (cs w q) (cs v) c := by
        constructor
        · rintro ⟨j, hj, z⟩
          exact Or.inl ⟨⟨hx, hy⟩, j, hj, dcmp_0.mp z⟩
        · rintro (⟨-, j, hj, z⟩ | ⟨z, -⟩)
          · exact ⟨j, hj, dcmp_0.mpr z⟩
          · exact absurd ⟨hx, hy⟩ z
      by_cases h : ∃ j, j < c ∧ dQ (cs v j) (sX w q).toInt (sY w q).toInt 0 ≠ 1
      · rw [mn_z nl h, if_pos rfl, bP_t (iff.mp h)]; exact rb_1
      · rw [mn_1 nl h, if_neg one_n0, bP_f (fun z => h (iff.mpr z))]; exact rb_0
    · refine walk 0 (sY v) (sY w q) (sY w (eE w q)) (fun z => hy ((lgc_eq _ _).mpr z.2)) (fun k => (co_t cx).symm) (Or.inl ⟨rfl, rfl⟩) (co_t cx).symm (co_t cx).symm
  · rw [if_neg hx]
    rw [lgc_eq] at hx
    have cx : ¬ (cs w q).1 = (cs w q).2.2.1 := hx
    unfold f_S_coversSide_j28 f_S_coversSide_j50
    rw [if_neg one_n0, x1, Option.bind_some, if_neg one_n0, x2, Option.bind_some]
    exact walk 1 (sX v) (sX w q) (sX w (eE w q)) (fun z => hx z.1) (fun k => (co_f cx).symm) (Or.inr ⟨one_n0, rfl⟩) (co_f cx).symm (co_f cx).symm
theorem call_ev {v w : SV} {c c' : Nat} (S : Sds v c (eE v)) (S' : Sds w c' (eE w)) : f_P_coversAll v w = some (bP (∀ q, q < c' → Cov (cs w q) (cs v) c)) := by
  have hc' := S'.1
  unfold f_P_coversAll
  rcases lp_ex (L := f_P_coversAll_l2 v w) (lo := 0) (c := c') (P := fun q => ¬ Cov (cs w q) (cs v) c) (yes := some 0) (no := some 1) (fun n => by
      have hle : nI c' ≤ nI c' := nI_hle (by omega) (by omega) |>.mpr (Nat.le_refl _)
      simp only [f_P_coversAll_l2, S'.2.1, if_pos hle, rb_1]) (fun n q _ hq => by
      have hle : ¬ nI c' ≤ nI q := fun z => by rw [nI_hle (by omega) (by omega)] at z; omega
      simp only [f_P_coversAll_l2, S'.2.1, if_neg hle, csd_ev S S' hq, Option.bind_some, nI_1, rb_0]
      by_cases h : Cov (cs w q) (cs v) c
      · rw [if_neg (fun z => bP_z.mp z h)]; exact Or.inr ⟨fun z => z h, rfl⟩
      · rw [if_pos (bP_f h)]; exact Or.inl ⟨h, rfl⟩) 64 0 (Nat.le_refl 0) (Nat.zero_le c') (by omega) with ⟨⟨q, -, hq, h⟩, e⟩ | ⟨h, e⟩
  · exact e.trans (by rw [bP_f (fun z => h (z q hq))])
  · exact e.trans (by rw [bP_t (fun q hq => Classical.byContradiction fun z => h ⟨q, Nat.zero_le q, hq, z⟩)])
