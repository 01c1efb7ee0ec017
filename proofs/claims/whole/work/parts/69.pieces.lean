/-! pieces of the reference -/
abbrev Q4 : Type := Int × Int × Int × Int
abbrev Sg : Type := Int64 × Int64 × Int64 × Int64
def sg (mv : MV) (k : Nat) : Sg := (md_ax mv k, md_ay mv k, md_bx mv k, md_by mv k)
def toQ (s : Sg) : Q4 := (s.1.toInt, s.2.1.toInt, s.2.2.1.toInt, s.2.2.2.toInt)
def Kep (mv mv' : MV) : Prop := md_shapes mv' = md_shapes mv ∧ md_thrown mv' = md_thrown mv ∧ ∀ j, mvS mv' j = mvS mv j
theorem Kep.tr {a b c : MV} (h : Kep a b) (h' : Kep b c) : Kep a c := ⟨h'.1.trans h.1, h'.2.1.trans h.2.1, fun j => (h'.2.2 j).trans (h.2.2 j)⟩
theorem kep_rel {v : CV} {a b : MV} (h : Rel v a) (k : Kep a b) : Rel v b := ⟨h.1, k.1.trans h.2.1, fun i hi => by rw [k.2.2 i]; exact h.2.2 i hi⟩
def mPc (mv : MV) (h m : Nat) (s : Sg) : MV := ms_size (ms_by (ms_bx (ms_ay (ms_ax mv (vp_updL (md_ax mv) (48 * h + m) s.1)) (vp_updL (md_ay mv) (48 * h + m) s.2.1)) (vp_updL (md_bx mv) (48 * h + m) s.2.2.1)) (vp_updL (md_by mv) (48 * h + m) s.2.2.2)) (upd (md_size mv) h (nI (m + 1)))
theorem piece_ev {mv : MV} {h m : Nat} {x1 y1 x2 y2 : Int64} (hh : h < 2) (hm : m < 48) (e : md_size mv h = nI m) : f_M_piece mv (nI h) x1 y1 x2 y2 = some (mPc mv h m (x1, y1, x2, y2)) := by
  have l1 : ld 2 (md_size mv) (nI h) = some (nI m) := by rw [ld_nI hh (by decide), e]
  have l2 : ∀ a b c d, ld 2 (md_size (ms_by (ms_bx (ms_ay (ms_ax mv a) b) c) d)) (nI h) = some (nI m) := fun _ _ _ _ => l1
  have e0 : (48 : Int32) * nI h + nI m = nI (48 * h + m) := by rw [show (48 : Int32) = nI 48 from rfl, pk_mul, nI_add]
  have k0 : ck 96 (nI (48 * h + m)) = some () := ck_nI (by omega) (by decide)
  have k1 : (nI (48 * h + m)).toNatClampNeg = 48 * h + m := nI_clamp (by omega)
  have k2 : ck 2 (nI h) = some () := ck_nI hh (by decide)
  have k3 : (nI h).toNatClampNeg = h := nI_clamp (by omega)
  simp only [f_M_piece, l1, l2, Option.bind_some, e0, k0, k1, k2, k3, nI_1]
  rfl
def Adv (mv mv' : MV) (h m m' : Nat) (f : Nat → Sg) : Prop := Kep mv mv' ∧ md_size mv' h = nI m' ∧ (∀ g, g ≠ h → md_size mv' g = md_size mv g) ∧ (∀ j, m ≤ j → j < m' → sg mv' (48 * h + j) = f j) ∧ ∀ k, ¬ (48 * h + m ≤ k ∧ k < 48 * h + m') → sg mv' k = sg mv k
theorem Adv.rf {mv : MV} {h m : Nat} {f : Nat → Sg} (e : md_size mv h = nI m) : Adv mv mv h m m f := ⟨⟨rfl, rfl, fun _ => rfl⟩, e, fun _ _ => rfl, fun j a b => by omega, fun _ _ => rfl⟩
theorem Adv.tr {a b c : MV} {h m m' m'' : Nat} {f : Nat → Sg} (h1 : m ≤ m') (h2 : m' ≤ m'') (A : Adv a b h m m' f) (A' : Adv b c h m' m'' f) : Adv a c h m m'' f := by
  obtain ⟨k1, s1, o1, p1, r1⟩ := A
  obtain ⟨k2, s2, o2, p2, r2⟩ := A'
  refine ⟨k1.tr k2, s2, fun g hg => (o2 g hg).trans (o1 g hg), fun j a b => ?_, fun k hk => ?_⟩
  · by_cases z : m' ≤ j
    · exact p2 j z b
    · rw [r2 _ (by omega)]; exact p1 j a (by omega)
  · rw [r2 k (by omega), r1 k (by omega)]
theorem Adv.piece {mv : MV} {h m : Nat} {f : Nat → Sg} {s : Sg} (e : f m = s) : Adv mv (mPc mv h m s) h m (m + 1) f := by
  refine ⟨⟨rfl, rfl, fun _ => rfl⟩, pk_us, fun g hg => pk_un hg, fun j a b => ?_, fun k hk => ?_⟩
  · have ej : j = m := by omega
    subst ej
    rw [e]
    show (vp_updL (md_ax mv) (48 * h + j) s.1 (48 * h + j), vp_updL (md_ay mv) (48 * h + j) s.2.1 (48 * h + j), vp_updL (md_bx mv) (48 * h + j) s.2.2.1 (48 * h + j), vp_updL (md_by mv) (48 * h + j) s.2.2.2 (48 * h + j)) = s
    rw [pk_uLs, pk_uLs, pk_uLs, pk_uLs]
  · have z : k ≠ 48 * h + m := by omega
    show (vp_updL (md_ax mv) (48 * h + m) s.1 k, vp_updL (md_ay mv) (48 * h + m) s.2.1 k, vp_updL (md_bx mv) (48 * h + m) s.2.2.1 k, vp_updL (md_by mv) (48 * h + m) s.2.2.2 k) = sg mv k
    rw [pk_uLn z, pk_uLn z, pk_uLn z, pk_uLn z]; rfl
/-- from no piece on -/
def mS0 (mv : MV) (h : Nat) : MV := ms_size mv (upd (md_size mv) h 0)
theorem adv_0 {mv mv' : MV} {h m : Nat} {f : Nat → Sg} (A : Adv (mS0 mv h) mv' h 0 m f) : Adv mv mv' h 0 m f := by
  obtain ⟨k1, s1, o1, p1, r1⟩ := A
  exact ⟨k1, s1, fun g hg => (o1 g hg).trans (pk_un hg), p1, r1⟩
theorem mx_k {mv mv' : MV} {i k : Nat} (K : Kep mv mv') (hi : i < 40) (hk : k < 48) : f_M_x mv' (nI i) (nI k) = some (qX (mvS mv i) k) ∧ f_M_y mv' (nI i) (nI k) = some (qY (mvS mv i) k) := by
  rw [← K.2.2 i]; exact mx_ev hi hk
theorem adv_sz {a b : MV} {h m m' : Nat} {f : Nat → Sg} (A : Adv a b h m m' f) : md_size b h = nI m' := A.2.1
/-- one place -/
theorem pieces_1 {mv : MV} {h i : Nat} (hh : h < 2) (hi : i < 40) (hk : qK (mvS mv i) = 0 ∨ (qK (mvS mv i) = 3 ∧ qN (mvS mv i) = 1)) : ∃ mv', f_M_pieces mv (nI h) (nI i) = some mv' ∧ Adv mv mv' h 0 1 (fun _ => (qX (mvS mv i) 0, qY (mvS mv i) 0, qX (mvS mv i) 0, qY (mvS mv i) 0)) := by
  refine ⟨_, ?_, adv_0 (Adv.piece (mv := mS0 mv h) (m := 0) rfl)⟩
  obtain ⟨x0, y0⟩ := mx_k (mv := mv) (mv' := mS0 mv h) (i := i) (k := 0) ⟨rfl, rfl, fun _ => rfl⟩ hi (by decide)
  have x0' : f_M_x (mS0 mv h) (nI i) 0 = some (qX (mvS mv i) 0) := x0
  have y0' : f_M_y (mS0 mv h) (nI i) 0 = some (qY (mvS mv i) 0) := y0
  have j36 : f_M_pieces_j36 (mS0 mv h) (nI h) (nI i) = some (mPc (mS0 mv h) h 0 (qX (mvS mv i) 0, qY (mvS mv i) 0, qX (mvS mv i) 0, qY (mvS mv i) 0)) := by
    unfold f_M_pieces_j36 f_M_pieces_j361
    rw [x0', y0', Option.bind_some, Option.bind_some, Option.bind_some, Option.bind_some, piece_ev hh (by decide) (show md_size (mS0 mv h) h = nI 0 from pk_us), Option.bind_some]
  have lk : ∀ z, qK (mvS mv i) = z → ld 40 (md_kinds (mS0 mv h)) (nI i) = some z := fun z e => by rw [ld_nI hi (by decide)]; exact congrArg some e
  have lm : ∀ z, qN (mvS mv i) = z → ld 40 (md_many (mS0 mv h)) (nI i) = some z := fun z e => by rw [ld_nI hi (by decide)]; exact congrArg some e
  have st : f_M_pieces mv (nI h) (nI i) = (ld 40 (md_kinds (mS0 mv h)) (nI i)).bind fun u3 => (if u3 = 0 then (f_M_pieces_j36 (mS0 mv h) (nI h) (nI i)) else (ld 40 (md_kinds (mS0 mv h)) (nI i)).bind fun u5 => (if u5 = (3 : Int32) then (ld 40 (md_many (mS0 mv h)) (nI i)).bind fun u7 => (if u7 = (1 : Int32) then (f_M_pieces_j36 (mS0 mv h) (nI h) (nI i)) else (f_M_pieces_j68 (mS0 mv h) (nI h) (nI i))) else (f_M_pieces_j68 (mS0 mv h) (nI h) (nI i)))) := by
    unfold f_M_pieces
    rw [ck_nI hh (by decide), Option.bind_some, Option.bind_some, nI_clamp (by omega)]
    rfl
  rw [st]
  rcases hk with e | ⟨e, e'⟩
  · rw [lk _ e, Option.bind_some, if_pos rfl, j36]
  · rw [lk _ e, Option.bind_some, if_neg (by decide), Option.bind_some, if_pos rfl, lm _ e', Option.bind_some, if_pos rfl, j36]
/-- what is none of these -/
theorem pieces_st {mv : MV} {h i : Nat} (hh : h < 2) (hi : i < 40) (hk : qK (mvS mv i) = 1 ∨ qK (mvS mv i) = 2 ∨ (qK (mvS mv i) = 3 ∧ ¬ qN (mvS mv i) = 1)) : f_M_pieces mv (nI h) (nI i) = f_M_pieces_j68 (mS0 mv h) (nI h) (nI i) := by
  have lk : ∀ z, qK (mvS mv i) = z → ld 40 (md_kinds (mS0 mv h)) (nI i) = some z := fun z e => by rw [ld_nI hi (by decide)]; exact congrArg some e
  have lm : ∀ z, qN (mvS mv i) = z → ld 40 (md_many (mS0 mv h)) (nI i) = some z := fun z e => by rw [ld_nI hi (by decide)]; exact congrArg some e
  have st : f_M_pieces mv (nI h) (nI i) = (ld 40 (md_kinds (mS0 mv h)) (nI i)).bind fun u3 => (if u3 = 0 then (f_M_pieces_j36 (mS0 mv h) (nI h) (nI i)) else (ld 40 (md_kinds (mS0 mv h)) (nI i)).bind fun u5 => (if u5 = (3 : Int32) then (ld 40 (md_many (mS0 mv h)) (nI i)).bind fun u7 => (if u7 = (1 : Int32) then (f_M_pieces_j36 (mS0 mv h) (nI h) (nI i)) else (f_M_pieces_j68 (mS0 mv h) (nI h) (nI i))) else (f_M_pieces_j68 (mS0 mv h) (nI h) (nI i)))) := by
    unfold f_M_pieces
    rw [ck_nI hh (by decide), Option.bind_some, Option.bind_some, nI_clamp (by omega)]
    rfl
  rw [st]
  rcases hk with e | e | ⟨e, e'⟩
  · rw [lk _ e, Option.bind_some, if_neg (by decide), Option.bind_some, if_neg (by decide)]
  · rw [lk _ e, Option.bind_some, if_neg (by decide), Option.bind_some, if_neg (by decide)]
  · rw [lk _ e, Option.bind_some, if_neg (by decide), Option.bind_some, if_pos rfl, lm _ rfl, Option.bind_some, if_neg e']
def bxP (q : QV) (j : Nat) : Sg := (rcX (qX q 0) (qX q 1) j, rcY (qY q 0) (qY q 1) j, rcX (qX q 0) (qX q 1) (j + 1), rcY (qY q 0) (qY q 1) (j + 1))
theorem pieces_box {mv : MV} {h i : Nat} (hh : h < 2) (hi : i < 40) (hk : qK (mvS mv i) = 1) : ∃ mv', f_M_pieces mv (nI h) (nI i) = some mv' ∧ Adv mv mv' h 0 4 (bxP (mvS mv i)) := by
  obtain ⟨v1, e1⟩ : ∃ v, v = mPc (mS0 mv h) h 0 (bxP (mvS mv i) 0) := ⟨_, rfl⟩
  obtain ⟨v2, e2⟩ : ∃ v, v = mPc v1 h 1 (bxP (mvS mv i) 1) := ⟨_, rfl⟩
  obtain ⟨v3, e3⟩ : ∃ v, v = mPc v2 h 2 (bxP (mvS mv i) 2) := ⟨_, rfl⟩
  obtain ⟨v4, e4⟩ : ∃ v, v = mPc v3 h 3 (bxP (mvS mv i) 3) := ⟨_, rfl⟩
  have A1 : Adv (mS0 mv h) v1 h 0 1 (bxP (mvS mv i)) := by rw [e1]; exact Adv.piece rfl
  have A2 : Adv v1 v2 h 1 2 (bxP (mvS mv i)) := by rw [e2]; exact Adv.piece rfl
  have A3 : Adv v2 v3 h 2 3 (bxP (mvS mv i)) := by rw [e3]; exact Adv.piece rfl
  have A4 : Adv v3 v4 h 3 4 (bxP (mvS mv i)) := by rw [e4]; exact Adv.piece rfl
  have B2 := A1.tr (by decide) (by decide) A2
  have B3 := B2.tr (by decide) (by decide) A3
  have B4 := B3.tr (by decide) (by decide) A4
  refine ⟨v4, ?_, adv_0 B4⟩
  rw [pieces_st hh hi (Or.inl hk)]
  have rd : ∀ u, Kep mv u → f_M_x u (nI i) 0 = some (qX (mvS mv i) 0) ∧ f_M_y u (nI i) 0 = some (qY (mvS mv i) 0) ∧ f_M_x u (nI i) 1 = some (qX (mvS mv i) 1) ∧ f_M_y u (nI i) 1 = some (qY (mvS mv i) 1) := fun u K => by
    obtain ⟨a, b⟩ := mx_k (i := i) (k := 0) K hi (by decide)
    obtain ⟨c, d⟩ := mx_k (i := i) (k := 1) K hi (by decide)
    exact ⟨a, b, c, d⟩
  have K0 : Kep mv (mS0 mv h) := ⟨rfl, rfl, fun _ => rfl⟩
  obtain ⟨a0, b0, c0, d0⟩ := rd _ K0
  obtain ⟨a1, b1, c1, d1⟩ := rd _ (K0.tr A1.1)
  obtain ⟨a2, b2, c2, d2⟩ := rd _ (K0.tr B2.1)
  obtain ⟨a3, b3, c3, d3⟩ := rd _ (K0.tr B3.1)
  have p1 : f_M_piece (mS0 mv h) (nI h) (qX (mvS mv i) 0) (qY (mvS mv i) 0) (qX (mvS mv i) 1) (qY (mvS mv i) 0) = some v1 := by rw [e1]; exact piece_ev hh (by decide) (show md_size (mS0 mv h) h = nI 0 from pk_us)
  have p2 : f_M_piece v1 (nI h) (qX (mvS mv i) 1) (qY (mvS mv i) 0) (qX (mvS mv i) 1) (qY (mvS mv i) 1) = some v2 := by rw [e2]; exact piece_ev hh (by decide) A1.2.1
  have p3 : f_M_piece v2 (nI h) (qX (mvS mv i) 1) (qY (mvS mv i) 1) (qX (mvS mv i) 0) (qY (mvS mv i) 1) = some v3 := by rw [e3]; exact piece_ev hh (by decide) A2.2.1
  have p4 : f_M_piece v3 (nI h) (qX (mvS mv i) 0) (qY (mvS mv i) 1) (qX (mvS mv i) 0) (qY (mvS mv i) 0) = some v4 := by rw [e4]; exact piece_ev hh (by decide) A3.2.1
  have lk : ld 40 (md_kinds (mS0 mv h)) (nI i) = some 1 := by rw [ld_nI hi (by decide)]; exact congrArg some hk
  unfold f_M_pieces_j68 f_M_pieces_j361
  rw [lk, Option.bind_some, if_pos rfl, a0, b0, c0]
  simp only [Option.bind_some]
  rw [p1, Option.bind_some, b1, c1, d1]
  simp only [Option.bind_some]
  rw [p2, Option.bind_some, a2, c2, d2]
  simp only [Option.bind_some]
  rw [p3, Option.bind_some, a3, b3, d3]
  simp only [Option.bind_some]
  rw [p4, Option.bind_some]
def trP (q : QV) (j : Nat) : Sg := (qX q j, qY q j, qX q (j + 1), qY q (j + 1))
theorem pieces_tr {mv : MV} {h i c : Nat} (hh : h < 2) (hi : i < 40) (hk : qK (mvS mv i) = 3) (hn : qN (mvS mv i) = nI c) (hc : c ≤ 48) (hc2 : 2 ≤ c) : ∃ mv', f_M_pieces mv (nI h) (nI i) = some mv' ∧ Adv mv mv' h 0 (c - 1) (trP (mvS mv i)) := by
  have L : ∀ n k u, 1 ≤ k → k ≤ c → c < k + n → Adv (mS0 mv h) u h 0 (k - 1) (trP (mvS mv i)) → ∃ mv', f_M_pieces_l209 n u (nI h) (nI i) (nI k) = some mv' ∧ Adv (mS0 mv h) mv' h 0 (c - 1) (trP (mvS mv i)) := by
    intro n
    induction n with
    | zero => intro k u h1 h2 h3; omega
    | succ n ih =>
      intro k u h1 h2 h3 A
      have lm : ld 40 (md_many u) (nI i) = some (nI c) := by rw [ld_nI hi (by decide)]; refine congrArg some ?_; show qN (mvS u i) = nI c; rw [A.1.2.2 i]; exact hn
      by_cases z : k = c
      · subst z
        refine ⟨u, ?_, A⟩
        simp only [f_M_pieces_l209]
        rw [lm, Option.bind_some, if_pos (nI_hle (by omega) (by omega) |>.mpr (Nat.le_refl _))]; rfl
      · have K : Kep mv u := Kep.tr (b := mS0 mv h) ⟨rfl, rfl, fun _ => rfl⟩ A.1
        obtain ⟨x1, y1⟩ := mx_k (i := i) (k := k - 1) K hi (by omega)
        obtain ⟨x2, y2⟩ := mx_k (i := i) (k := k) K hi (by omega)
        have A' : Adv (mS0 mv h) (mPc u h (k - 1) (trP (mvS mv i) (k - 1))) h 0 (k - 1 + 1) (trP (mvS mv i)) := A.tr (Nat.zero_le _) (Nat.le_succ _) (Adv.piece rfl)
        rw [show k - 1 + 1 = k + 1 - 1 by omega] at A'
        obtain ⟨mv', e, A''⟩ := ih (k + 1) _ (by omega) (by omega) (by omega) A'
        refine ⟨mv', ?_, A''⟩
        have ep : f_M_piece u (nI h) (qX (mvS mv i) (k - 1)) (qY (mvS mv i) (k - 1)) (qX (mvS mv i) k) (qY (mvS mv i) k) = some (mPc u h (k - 1) (trP (mvS mv i) (k - 1))) := by
          rw [piece_ev hh (by omega) A.2.1]
          unfold trP
          rw [show k - 1 + 1 = k by omega]
        simp only [f_M_pieces_l209]
        rw [lm, Option.bind_some, if_neg (fun q => by rw [nI_hle (by omega) (by omega)] at q; omega), pred_nI (by omega), x1, y1, x2, y2]
        simp only [Option.bind_some]
        rw [ep, Option.bind_some, nI_1]
        exact e
  have n1 : ¬ qN (mvS mv i) = 1 := by rw [hn, show (1 : Int32) = nI 1 from rfl, nI_eq (by omega) (by decide)]; omega
  obtain ⟨mv', e, A⟩ := L 64 1 (mS0 mv h) (Nat.le_refl 1) (by omega) (by omega) (Adv.rf (show md_size (mS0 mv h) h = nI 0 from pk_us))
  refine ⟨mv', ?_, adv_0 A⟩
  rw [pieces_st hh hi (Or.inr (Or.inr ⟨hk, n1⟩))]
  have lk : ld 40 (md_kinds (mS0 mv h)) (nI i) = some 3 := by rw [ld_nI hi (by decide)]; exact congrArg some hk
  unfold f_M_pieces_j68
  rw [lk, Option.bind_some, if_neg (by decide), Option.bind_some, if_pos rfl]
  exact e
def plP (q : QV) (e : Nat → Nat) (j : Nat) : Sg := (qX q j, qY q j, qX q (e j), qY q (e j))
theorem pieces_pl {mv : MV} {h i c g : Nat} {B e : Nat → Nat} (hh : h < 2) (hi : i < 40) (hk : qK (mvS mv i) = 2) (hg : qG (mvS mv i) = nI g) (hg2 : g ≤ 16) (hc : c ≤ 48) (hB0 : B 0 = 0) (hBg : B g = c) (hB : ∀ r, r < g → B r < B (r + 1) ∧ B (r + 1) ≤ c ∧ qE (mvS mv i) r = nI (B (r + 1))) (he : ∀ r k, r < g → B r ≤ k → k < B (r + 1) → e k = bh k (B r) (B (r + 1))) : ∃ mv', f_M_pieces mv (nI h) (nI i) = some mv' ∧ Adv mv mv' h 0 c (plP (mvS mv i) e) := by
  have I : ∀ (r : Nat), r < g → ∀ (K266 : MV → Int32 → Int32 → Int32 → Int32 → Option MV) n k u, B r ≤ k → k ≤ B (r + 1) → B (r + 1) < k + n → Adv (mS0 mv h) u h 0 k (plP (mvS mv i) e) → ∃ u', f_M_pieces_l294 K266 n u (nI h) (nI i) (nI (B r)) (nI r) (nI (B (r + 1))) (nI k) = K266 u' (nI h) (nI i) (nI (B (r + 1))) (nI (r + 1)) ∧ Adv (mS0 mv h) u' h 0 (B (r + 1)) (plP (mvS mv i) e) := by
    intro r hr K266 n
    obtain ⟨b1, b2, -⟩ := hB r hr
    induction n with
    | zero => intro k u h1 h2 h3; omega
    | succ n ih =>
      intro k u h1 h2 h3 A
      by_cases z : k = B (r + 1)
      · subst z
        refine ⟨u, ?_, A⟩
        simp only [f_M_pieces_l294]
        rw [if_pos (nI_hle (by omega) (by omega) |>.mpr (Nat.le_refl _)), nI_1]
      · have hk2 : k < B (r + 1) := by omega
        have ek := he r k hr h1 hk2
        have bl := bh_lt (o := B r) hk2 b2 (by omega)
        have K : Kep mv u := Kep.tr (b := mS0 mv h) ⟨rfl, rfl, fun _ => rfl⟩ A.1
        obtain ⟨x1, y1⟩ := mx_k (i := i) (k := k) K hi (by omega)
        obtain ⟨x2, y2⟩ := mx_k (i := i) (k := bh k (B r) (B (r + 1))) K hi (by omega)
        have A' : Adv (mS0 mv h) (mPc u h k (plP (mvS mv i) e k)) h 0 (k + 1) (plP (mvS mv i) e) := A.tr (Nat.zero_le _) (Nat.le_succ _) (Adv.piece rfl)
        obtain ⟨mv', e', A''⟩ := ih (k + 1) _ (by omega) (by omega) (by omega) A'
        refine ⟨mv', ?_, A''⟩
        have ep : f_M_piece u (nI h) (qX (mvS mv i) k) (qY (mvS mv i) k) (qX (mvS mv i) (bh k (B r) (B (r + 1)))) (qY (mvS mv i) (bh k (B r) (B (r + 1)))) = some (mPc u h k (plP (mvS mv i) e k)) := by
          rw [piece_ev hh (by omega) A.2.1]
          unfold plP
          rw [ek]
        simp only [f_M_pieces_l294]
        rw [if_neg (fun q => by rw [nI_hle (by omega) (by omega)] at q; omega), behind_ev hk2 (by omega), x1, y1]
        simp only [Option.bind_some]
        rw [x2, y2]
        simp only [Option.bind_some]
        rw [ep, Option.bind_some, nI_1]
        exact e'
  have O : ∀ n r u, r ≤ g → g < r + n → Adv (mS0 mv h) u h 0 (B r) (plP (mvS mv i) e) → ∃ u', f_M_pieces_l266 n u (nI h) (nI i) (nI (B r)) (nI r) = some u' ∧ Adv (mS0 mv h) u' h 0 c (plP (mvS mv i) e) := by
    intro n
    induction n with
    | zero => intro r u h1 h2; omega
    | succ n ih =>
      intro r u h1 h2 A
      have lg : ld 40 (md_rings u) (nI i) = some (nI g) := by rw [ld_nI hi (by decide)]; refine congrArg some ?_; show qG (mvS u i) = nI g; rw [A.1.2.2 i]; exact hg
      by_cases z : r = g
      · subst z
        refine ⟨u, ?_, by rw [← hBg]; exact A⟩
        simp only [f_M_pieces_l266]
        rw [lg, Option.bind_some, if_pos (nI_hle (by omega) (by omega) |>.mpr (Nat.le_refl _))]; rfl
      · obtain ⟨b1, b2, b3⟩ := hB r (by omega)
        obtain ⟨u1, e1, A1⟩ := I r (by omega) (f_M_pieces_l266 n) 64 (B r) u (Nat.le_refl _) (by omega) (by omega) A
        obtain ⟨u2, e2, A2⟩ := ih (r + 1) u1 (by omega) (by omega) A1
        refine ⟨u2, ?_, A2⟩
        have le : ld 640 (md_ends u) ((16 : Int32) * nI i + nI r) = some (nI (B (r + 1))) := by
          rw [show (16 : Int32) = nI 16 from rfl, pk_mul, nI_add, ld_nI (by omega) (by decide)]
          refine congrArg some ?_; show qE (mvS u i) r = _; rw [A.1.2.2 i]; exact b3
        simp only [f_M_pieces_l266]
        rw [lg, Option.bind_some, if_neg (fun q => by rw [nI_hle (by omega) (by omega)] at q; omega), le, Option.bind_some, e1]
        exact e2
  obtain ⟨mv', e', A⟩ := O 64 0 (mS0 mv h) (Nat.zero_le _) (by omega) (by rw [hB0]; exact Adv.rf (show md_size (mS0 mv h) h = nI 0 from pk_us))
  rw [hB0] at e'
  refine ⟨mv', ?_, adv_0 A⟩
  rw [pieces_st hh hi (Or.inr (Or.inl hk))]
  have lk : ld 40 (md_kinds (mS0 mv h)) (nI i) = some 2 := by rw [ld_nI hi (by decide)]; exact congrArg some hk
  unfold f_M_pieces_j68
  rw [lk, Option.bind_some, if_neg (by decide), Option.bind_some, if_neg (by decide)]
  exact e'
