/-! turn -/
theorem j_nn (a : Int64) : - -a = a := Int64.neg_neg
theorem neg_ne {a b : Int64} (h : a ≠ b) : -a ≠ -b := fun z => h (by rw [← j_nn a, ← j_nn b, z])
theorem z_sub (a : Int64) : (0 : Int64) - a = -a := Int64.zero_sub a
theorem plc_mir {x y : Int64} (h : Plc x y) : Plc (-x) y := by
  obtain ⟨h1, h2, h3, h4⟩ := h
  unfold Plc
  rw [j_neg (by omega)]
  omega
theorem plc_trn {x y : Int64} (h : Plc x y) : Plc (-y) x := by
  obtain ⟨h1, h2, h3, h4⟩ := h
  unfold Plc
  rw [j_neg (by omega)]
  omega
/-- a mirrored shape, a turned shape of the reference, a box's corners in order -/
def qmir (q : QV) : QV := (qK q, qR q, qN q, qG q, if qK q = 1 then (fun k => if k = 0 then -qX q 1 else -qX q 0) else (fun k => -qX q k), qY q, qE q)
def qtrn (q : QV) : QV := (qK q, qR q, qN q, qG q, if qK q = 1 then (fun k => if k = 0 then -qY q 1 else -qY q 0) else (fun k => -qY q k), qX q, qE q)
def Moved (w w' : SV) (c : Nat) (m : Int64 → Int64 → Int64 × Int64) : Prop := sF w' = sF w ∧ sB w' = sB w ∧ sR w' = sR w ∧ sN w' = sN w ∧ sO w' = sO w ∧ sE w' = sE w ∧ ∀ k, k < c → (sX w' k, sY w' k) = m (sX w k) (sY w k)
def mir (x y : Int64) : Int64 × Int64 := (-x, y)
def trn (x y : Int64) : Int64 × Int64 := (-y, x)
theorem rc_mir {a b : Int64} {n m : Nat} (h : m % 4 = (5 - n % 4) % 4) : -rcX a b n = rcX (-b) (-a) m := by
  unfold rcX
  by_cases z : n % 4 = 1 ∨ n % 4 = 2
  · rw [if_pos z, if_neg (by omega)]
  · rw [if_neg z, if_pos (by omega)]
theorem rc_mirY {a b : Int64} {n m : Nat} (h : m % 4 = (5 - n % 4) % 4) : rcY a b n = rcY a b m := by
  unfold rcY
  by_cases z : n % 4 = 2 ∨ n % 4 = 3
  · rw [if_pos z, if_pos (by omega)]
  · rw [if_neg z, if_neg (by omega)]
theorem rc_trn {a b : Int64} {n m : Nat} (h : m % 4 = (n + 1) % 4) : -rcY a b n = rcX (-b) (-a) m := by
  unfold rcX rcY
  by_cases z : n % 4 = 2 ∨ n % 4 = 3
  · rw [if_pos z, if_neg (by omega)]
  · rw [if_neg z, if_pos (by omega)]
theorem rc_trnY {a b : Int64} {n m : Nat} (h : m % 4 = (n + 1) % 4) : rcX a b n = rcY a b m := by
  unfold rcX rcY
  by_cases z : n % 4 = 1 ∨ n % 4 = 2
  · rw [if_pos z, if_pos (by omega)]
  · rw [if_neg z, if_neg (by omega)]
/-- all but boxes -/
theorem moved_rest {w w' : SV} {q q' : QV} {c o : Nat} {m : Int64 → Int64 → Int64 × Int64} (hm : ∀ a b a' b', (a ≠ a' ∨ b ≠ b') → ((m a b).1 ≠ (m a' b').1 ∨ (m a b).2 ≠ (m a' b').2)) (M : Moved w w' c m) (k3 : qN q' = qN q) (k4 : qG q' = qG q) (k5 : qE q' = qE q) (kx : ∀ k, (qX q' k, qY q' k) = m (qX q k) (qY q k)) : (RelL w q c → RelL w' q' c) ∧ (o ≤ c → RelP w q c o → RelP w' q' c o) := by
  obtain ⟨w1, w2, w3, w4, w5, w6, wx⟩ := M
  have sc : SameC w q c → SameC w' q' c := fun s k hk => by
    have a := kx k
    rw [(s k hk).1, (s k hk).2, ← wx k hk] at a
    exact ⟨congrArg Prod.fst a, congrArg Prod.snd a⟩
  have df : ∀ k j, k < c → j < c → Dif w k j → Dif w' k j := fun k j hk hj d => by
    have := hm _ _ _ _ d
    rw [← wx k hk, ← wx j hj] at this
    exact this
  refine ⟨fun ⟨b1, b2, b3, b4, b5, b6⟩ => ⟨by rw [w2]; exact b1, by rw [k3]; exact b2, by rw [k4]; exact b3, sc b4, by rw [w6]; exact b5, fun k hk => df _ _ (by omega) hk (b6 k hk)⟩, fun ho r => ?_⟩
  obtain ⟨b1, b2, b3, g, B, g1, g2, g3, g4, g5, g6, g7⟩ := r
  exact ⟨by rw [w2]; exact b1, by rw [k3]; exact b2, sc b3, g, B, by rw [k4]; exact g1, g2, g3, by rw [k5]; exact g4, by rw [w6]; exact g5, by rw [w6]; exact g6, fun k h1 h2 => df _ _ (by omega) h2 (g7 k h1 h2)⟩
theorem relS_mir {w w' : SV} {q : QV} (h : RelS w q) (M : ∀ c, sN w = nI c → c ≤ 48 → Moved w w' c mir) : RelS w' (qmir q) := by
  obtain ⟨c, o, hc, ho, e1, e2, e3, e4, e5, hp, hk⟩ := h
  have M := M c e1 hc
  obtain ⟨w1, w2, w3, w4, w5, w6, wx⟩ := M
  have wx1 : ∀ k, k < c → sX w' k = -sX w k := fun k hk => congrArg Prod.fst (wx k hk)
  have wx2 : ∀ k, k < c → sY w' k = sY w k := fun k hk => congrArg Prod.snd (wx k hk)
  refine ⟨c, o, hc, ho, by rw [w4]; exact e1, by rw [w5]; exact e2, by rw [w3]; exact e3, by rw [w3]; exact e4, by rw [w1]; exact e5, fun k hk => by rw [wx1 k hk, wx2 k hk]; exact plc_mir (hp k hk), ?_⟩
  have inj : ∀ a b a' b' : Int64, (a ≠ a' ∨ b ≠ b') → ((mir a b).1 ≠ (mir a' b').1 ∨ (mir a b).2 ≠ (mir a' b').2) := fun a b a' b' h => h.elim (fun z => Or.inl (neg_ne z)) Or.inr
  rw [w1]
  have rest : ¬ sF w = 1 → (RelL w q c → RelL w' (qmir q) c) ∧ (o ≤ c → RelP w q c o → RelP w' (qmir q) c o) := fun nf => moved_rest inj ⟨w1, w2, w3, w4, w5, w6, wx⟩ rfl rfl rfl (fun k => by
    show ((if qK q = 1 then (fun k => if k = 0 then -qX q 1 else -qX q 0) else (fun k => -qX q k)) k, qY q k) = _
    rw [if_neg (by rw [e5]; exact nf)]; rfl)
  rcases hk with ⟨f, f2, f3, r⟩ | ⟨f, f2, r⟩ | ⟨f, r⟩ | ⟨f, f2, r⟩
  · exact Or.inl ⟨f, f2, f3, (rest (by rw [f]; decide)).1 r⟩
  · refine Or.inr (Or.inl ⟨f, f2, ?_⟩)
    have x0 : qX (qmir q) 0 = -qX q 1 := by show (if qK q = 1 then (fun k => if k = 0 then -qX q 1 else -qX q 0) else (fun k => -qX q k)) 0 = _; rw [if_pos (by rw [e5]; exact f)]; rfl
    have x1 : qX (qmir q) 1 = -qX q 0 := by show (if qK q = 1 then (fun k => if k = 0 then -qX q 1 else -qX q 0) else (fun k => -qX q k)) 1 = _; rw [if_pos (by rw [e5]; exact f)]; rfl
    have y0 : qY (qmir q) 0 = qY q 0 := rfl
    have y1 : qY (qmir q) 1 = qY q 1 := rfl
    unfold RelB at r ⊢
    rw [x0, x1, y0, y1, w2, w6]
    obtain ⟨r1, r2, r3, r4, r5, r6, r7⟩ := r
    have s3 := plc_mir r3
    have s4 := plc_mir r4
    have n0 : (-qX q 0).toInt = -(qX q 0).toInt := j_neg (by have := r3.1; omega)
    have n1 : (-qX q 1).toInt = -(qX q 1).toInt := j_neg (by have := r4.1; omega)
    refine ⟨r1, r2, ⟨s4.1, s4.2.1, r3.2.2.1, r3.2.2.2⟩, ⟨s3.1, s3.2.1, r4.2.2.1, r4.2.2.2⟩, by omega, r6, ?_⟩
    rcases r7 with ⟨z1, z2, z3, z4, z5, t, z6⟩ | ⟨z1, z2, z3, z4, z5, z6, z7⟩ | ⟨z1, z2, z3, z4, z5, z6, z7⟩
    · subst z4
      refine Or.inl ⟨neg_ne (fun z => z1 z.symm), z2, z3, rfl, z5, 5 - t % 4, ?_⟩
      rcases z6 with z6 | z6
      · refine Or.inr fun k hk => ?_
        rw [wx1 k hk, wx2 k hk, (z6 k hk).1, (z6 k hk).2]
        exact ⟨rc_mir (by omega), rc_mirY (by omega)⟩
      · refine Or.inl fun k hk => ?_
        rw [wx1 k hk, wx2 k hk, (z6 k hk).1, (z6 k hk).2]
        exact ⟨rc_mir (by omega), rc_mirY (by omega)⟩
    · subst z4
      refine Or.inr (Or.inl ⟨?_, fun z => z2 ⟨by rw [← j_nn (qX q 0), ← z.1, j_nn], z.2⟩, z3, rfl, z5, z6, ?_⟩)
      · rcases z1 with z | z
        · exact Or.inl (by rw [z])
        · exact Or.inr z
      · rw [wx1 0 (by decide), wx1 1 (by decide), wx2 0 (by decide), wx2 1 (by decide)]
        rcases z1 with z | z <;> rcases z7 with ⟨a, b, d, e⟩ | ⟨a, b, d, e⟩ <;> rw [a, b, d, e]
        · exact Or.inl ⟨by rw [z], rfl, by rw [z], rfl⟩
        · exact Or.inr ⟨by rw [z], rfl, by rw [z], rfl⟩
        · exact Or.inr ⟨rfl, z, rfl, z.symm⟩
        · exact Or.inl ⟨rfl, z.symm, rfl, z⟩
    · subst z4
      refine Or.inr (Or.inr ⟨by rw [z1], z2, z3, rfl, z5, ?_, ?_⟩)
      · rw [wx1 0 (by decide), z6, z1]
      · rw [wx2 0 (by decide), z7]
  · exact Or.inr (Or.inr (Or.inl ⟨f, (rest (by rw [f]; decide)).2 ho r⟩))
  · exact Or.inr (Or.inr (Or.inr ⟨f, f2, (rest (by rw [f]; decide)).1 r⟩))
theorem relS_trn {w w' : SV} {q : QV} (h : RelS w q) (M : ∀ c, sN w = nI c → c ≤ 48 → Moved w w' c trn) : RelS w' (qtrn q) := by
  obtain ⟨c, o, hc, ho, e1, e2, e3, e4, e5, hp, hk⟩ := h
  have M := M c e1 hc
  obtain ⟨w1, w2, w3, w4, w5, w6, wx⟩ := M
  have wx1 : ∀ k, k < c → sX w' k = -sY w k := fun k hk => congrArg Prod.fst (wx k hk)
  have wx2 : ∀ k, k < c → sY w' k = sX w k := fun k hk => congrArg Prod.snd (wx k hk)
  refine ⟨c, o, hc, ho, by rw [w4]; exact e1, by rw [w5]; exact e2, by rw [w3]; exact e3, by rw [w3]; exact e4, by rw [w1]; exact e5, fun k hk => by rw [wx1 k hk, wx2 k hk]; exact plc_trn (hp k hk), ?_⟩
  have inj : ∀ a b a' b' : Int64, (a ≠ a' ∨ b ≠ b') → ((trn a b).1 ≠ (trn a' b').1 ∨ (trn a b).2 ≠ (trn a' b').2) := fun a b a' b' h => h.elim Or.inr (fun z => Or.inl (neg_ne z))
  rw [w1]
  have rest : ¬ sF w = 1 → (RelL w q c → RelL w' (qtrn q) c) ∧ (o ≤ c → RelP w q c o → RelP w' (qtrn q) c o) := fun nf => moved_rest inj ⟨w1, w2, w3, w4, w5, w6, wx⟩ rfl rfl rfl (fun k => by
    show ((if qK q = 1 then (fun k => if k = 0 then -qY q 1 else -qY q 0) else (fun k => -qY q k)) k, qX q k) = _
    rw [if_neg (by rw [e5]; exact nf)]; rfl)
  rcases hk with ⟨f, f2, f3, r⟩ | ⟨f, f2, r⟩ | ⟨f, r⟩ | ⟨f, f2, r⟩
  · exact Or.inl ⟨f, f2, f3, (rest (by rw [f]; decide)).1 r⟩
  · refine Or.inr (Or.inl ⟨f, f2, ?_⟩)
    have x0 : qX (qtrn q) 0 = -qY q 1 := by show (if qK q = 1 then (fun k => if k = 0 then -qY q 1 else -qY q 0) else (fun k => -qY q k)) 0 = _; rw [if_pos (by rw [e5]; exact f)]; rfl
    have x1 : qX (qtrn q) 1 = -qY q 0 := by show (if qK q = 1 then (fun k => if k = 0 then -qY q 1 else -qY q 0) else (fun k => -qY q k)) 1 = _; rw [if_pos (by rw [e5]; exact f)]; rfl
    have y0 : qY (qtrn q) 0 = qX q 0 := rfl
    have y1 : qY (qtrn q) 1 = qX q 1 := rfl
    unfold RelB at r ⊢
    rw [x0, x1, y0, y1, w2, w6]
    obtain ⟨r1, r2, r3, r4, r5, r6, r7⟩ := r
    have s3 := plc_trn r3
    have s4 := plc_trn r4
    have n0 : (-qY q 0).toInt = -(qY q 0).toInt := j_neg (by have := r3.2.2.1; omega)
    have n1 : (-qY q 1).toInt = -(qY q 1).toInt := j_neg (by have := r4.2.2.1; omega)
    refine ⟨r1, r2, ⟨s4.1, s4.2.1, r3.1, r3.2.1⟩, ⟨s3.1, s3.2.1, r4.1, r4.2.1⟩, by omega, r5, ?_⟩
    rcases r7 with ⟨z1, z2, z3, z4, z5, t, z6⟩ | ⟨z1, z2, z3, z4, z5, z6, z7⟩ | ⟨z1, z2, z3, z4, z5, z6, z7⟩
    · subst z4
      refine Or.inl ⟨neg_ne (fun z => z2 z.symm), z1, z3, rfl, z5, t + 1, ?_⟩
      rcases z6 with z6 | z6
      · refine Or.inl fun k hk => ?_
        rw [wx1 k hk, wx2 k hk, (z6 k hk).1, (z6 k hk).2]
        exact ⟨rc_trn (by omega), rc_trnY (by omega)⟩
      · refine Or.inr fun k hk => ?_
        rw [wx1 k hk, wx2 k hk, (z6 k hk).1, (z6 k hk).2]
        exact ⟨rc_trn (by omega), rc_trnY (by omega)⟩
    · subst z4
      refine Or.inr (Or.inl ⟨?_, fun z => z2 ⟨z.2, by rw [← j_nn (qY q 0), ← z.1, j_nn]⟩, z3, rfl, z5, z6, ?_⟩)
      · rcases z1 with z | z
        · exact Or.inr z
        · exact Or.inl (by rw [z])
      · rw [wx1 0 (by decide), wx1 1 (by decide), wx2 0 (by decide), wx2 1 (by decide)]
        rcases z1 with z | z <;> rcases z7 with ⟨a, b, d, e⟩ | ⟨a, b, d, e⟩ <;> rw [a, b, d, e]
        · exact Or.inr ⟨rfl, z, rfl, z.symm⟩
        · exact Or.inl ⟨rfl, z.symm, rfl, z⟩
        · exact Or.inl ⟨by rw [z], rfl, by rw [z], rfl⟩
        · exact Or.inr ⟨by rw [z], rfl, by rw [z], rfl⟩
    · subst z4
      refine Or.inr (Or.inr ⟨by rw [z2], z1, z3, rfl, z5, ?_, ?_⟩)
      · rw [wx1 0 (by decide), z7, z2]
      · rw [wx2 0 (by decide), z6]
  · exact Or.inr (Or.inr (Or.inl ⟨f, (rest (by rw [f]; decide)).2 ho r⟩))
  · exact Or.inr (Or.inr (Or.inr ⟨f, f2, (rest (by rw [f]; decide)).1 r⟩))
/-- the class's loops -/
theorem mir_l {w : SV} {c : Nat} (hc : c ≤ 48) (e : sN w = nI c) : ∀ n k u, c < k + n → k ≤ c → sF u = sF w ∧ sB u = sB w ∧ sR u = sR w ∧ sN u = sN w ∧ sO u = sO w ∧ sE u = sE w ∧ sY u = sY w → (∀ j, sX u j = if j < k then -sX w j else sX w j) → ∃ u', f_S_mirrorCorners_l2 n u (nI k) = some u' ∧ Moved w u' c mir := by
  intro n
  induction n with
  | zero => intro k u h1 h2; omega
  | succ n ih =>
    intro k u h1 h2 h3 h4
    obtain ⟨w1, w2, w3, w4, w5, w6, w7⟩ := h3
    by_cases z : k = c
    · subst z
      have hle : nI k ≤ nI k := by rw [nI_leI (by omega) (by omega)]; omega
      refine ⟨u, ?_, w1, w2, w3, w4, w5, w6, fun j hj => ?_⟩
      · simp only [f_S_mirrorCorners_l2, w4, e, if_pos hle]
      · rw [h4, if_pos hj, w7]; rfl
    · have hle : ¬ nI c ≤ nI k := by rw [nI_leI (by omega) (by omega)]; omega
      have l1 : ld 48 (sX u) (nI k) = some (sX w k) := by rw [ld_nI (by omega) (by decide), h4, if_neg (by omega)]
      have k0 : ck 48 (nI k) = some () := ck_nI (by omega) (by decide)
      have k1 : (nI k).toNatClampNeg = k := nI_clamp (by omega)
      obtain ⟨u', g1, g2⟩ := ih (k + 1) (ss_xs u (vp_updL (sX u) k (-sX w k))) (by omega) (by omega) ⟨w1, w2, w3, w4, w5, w6, w7⟩ (fun j => by
        show vp_updL (sX u) k (-sX w k) j = _
        by_cases q : j = k
        · rw [q, pk_uLs, if_pos (by omega)]
        · rw [pk_uLn q, h4]
          by_cases q2 : j < k
          · rw [if_pos q2, if_pos (by omega)]
          · rw [if_neg q2, if_neg (by omega)])
      refine ⟨u', ?_, g2⟩
      rw [← g1]
      simp only [f_S_mirrorCorners_l2, w4, e, if_neg hle, l1, k0, k1, Option.bind_some, nI_1]
theorem trn_l {w : SV} {c : Nat} (hc : c ≤ 48) (e : sN w = nI c) : ∀ n k u, c < k + n → k ≤ c → sF u = sF w ∧ sB u = sB w ∧ sR u = sR w ∧ sN u = sN w ∧ sO u = sO w ∧ sE u = sE w → (∀ j, sX u j = (if j < k then -sY w j else sX w j) ∧ sY u j = (if j < k then sX w j else sY w j)) → ∃ u', f_S_turnCornersOnce_l2 n u (nI k) = some u' ∧ Moved w u' c trn := by
  intro n
  induction n with
  | zero => intro k u h1 h2; omega
  | succ n ih =>
    intro k u h1 h2 h3 h4
    obtain ⟨w1, w2, w3, w4, w5, w6⟩ := h3
    by_cases z : k = c
    · subst z
      have hle : nI k ≤ nI k := by rw [nI_leI (by omega) (by omega)]; omega
      refine ⟨u, ?_, w1, w2, w3, w4, w5, w6, fun j hj => ?_⟩
      · simp only [f_S_turnCornersOnce_l2, w4, e, if_pos hle]
      · rw [(h4 j).1, (h4 j).2, if_pos hj, if_pos hj]; rfl
    · have hle : ¬ nI c ≤ nI k := by rw [nI_leI (by omega) (by omega)]; omega
      have l1 : ld 48 (sX u) (nI k) = some (sX w k) := by rw [ld_nI (by omega) (by decide), (h4 k).1, if_neg (by omega)]
      have l2 : ld 48 (sY u) (nI k) = some (sY w k) := by rw [ld_nI (by omega) (by decide), (h4 k).2, if_neg (by omega)]
      have k0 : ck 48 (nI k) = some () := ck_nI (by omega) (by decide)
      have k1 : (nI k).toNatClampNeg = k := nI_clamp (by omega)
      obtain ⟨u', g1, g2⟩ := ih (k + 1) (ss_ys (ss_xs u (vp_updL (sX u) k (-sY w k))) (vp_updL (sY u) k (sX w k))) (by omega) (by omega) ⟨w1, w2, w3, w4, w5, w6⟩ (fun j => by
        show vp_updL (sX u) k (-sY w k) j = _ ∧ vp_updL (sY u) k (sX w k) j = _
        by_cases q : j = k
        · rw [q, pk_uLs, pk_uLs, if_pos (by omega), if_pos (by omega)]; exact ⟨rfl, rfl⟩
        · rw [pk_uLn q, pk_uLn q, (h4 j).1, (h4 j).2]
          by_cases q2 : j < k
          · rw [if_pos q2, if_pos q2, if_pos (by omega), if_pos (by omega)]; exact ⟨rfl, rfl⟩
          · rw [if_neg q2, if_neg q2, if_neg (by omega), if_neg (by omega)]; exact ⟨rfl, rfl⟩)
      refine ⟨u', ?_, g2⟩
      rw [← g1]
      simp only [f_S_turnCornersOnce_l2, w4, e, if_neg hle, l1, l2, k0, k1, Option.bind_some, nI_1]
      rfl
theorem mir_ev {w : SV} {c : Nat} (hc : c ≤ 48) (e : sN w = nI c) : ∃ u, f_S_mirrorCorners w = some u ∧ Moved w u c mir := mir_l hc e 64 0 w (by omega) (by omega) ⟨rfl, rfl, rfl, rfl, rfl, rfl, rfl⟩ (fun j => by rw [if_neg (by omega)])
theorem trn_ev {w : SV} {c : Nat} (hc : c ≤ 48) (e : sN w = nI c) : ∃ u, f_S_turnCornersOnce w = some u ∧ Moved w u c trn := trn_l hc e 64 0 w (by omega) (by omega) ⟨rfl, rfl, rfl, rfl, rfl, rfl⟩ (fun j => by rw [if_neg (by omega), if_neg (by omega)]; exact ⟨rfl, rfl⟩)
/-- t quarter turns -/
def qtn : Nat → QV → QV
  | 0, q => q
  | t + 1, q => qtrn (qtn t q)
theorem trn_many {v : CV} {q : QV} {T : Nat} (hT : T < 60) : ∀ n t u, T < t + n → t ≤ T → RelS u (qtn t q) → ∃ u', f_F_turn_l43 v n u (nI T) (nI t) = some (f_F_keep v u') ∧ RelS u' (qtn T q) := by
  intro n
  induction n with
  | zero => intro t u h1 h2; omega
  | succ n ih =>
    intro t u h1 h2 h3
    by_cases z : t = T
    · subst z
      have hle : nI t ≤ nI t := by rw [nI_leI (by omega) (by omega)]; omega
      exact ⟨u, by simp only [f_F_turn_l43, if_pos hle], h3⟩
    · have hle : ¬ nI T ≤ nI t := by rw [nI_leI (by omega) (by omega)]; omega
      obtain ⟨c, g, m, hc, hg, hm, s1, -⟩ := relS_sizes h3
      obtain ⟨u1, a1, a2⟩ := trn_ev hc s1
      obtain ⟨u', g1, g2⟩ := ih (t + 1) u1 (by omega) (by omega) (relS_trn h3 (fun c' h1 h2 => by
        have e : c' = c := by rw [s1, nI_eq (by omega) (by omega)] at h1; omega
        rw [e]; exact a2))
      refine ⟨u', ?_, g2⟩
      rw [← g1]
      simp only [f_F_turn_l43, if_neg hle, a1, Option.bind_some, nI_1]
