/-! every whole shape: its sides and its pieces -/
theorem sub_rf (a : Q4) : sub4 a a := Or.inl rfl
theorem sub_sw {a b : Q4} (h : sub4 a b) : sub4 a (swQ b) := by
  rcases h with e | e | e | e
  · exact Or.inr (Or.inl e)
  · exact Or.inl e
  · exact Or.inr (Or.inr (Or.inr e))
  · exact Or.inr (Or.inr (Or.inl e))
theorem rc_m {a b : Int64} {j k : Nat} (h : j % 4 = k % 4) : rcX a b j = rcX a b k ∧ rcY a b j = rcY a b k := by unfold rcX rcY; rw [h]; exact ⟨rfl, rfl⟩
theorem bx_m {q : QV} {j k : Nat} (h : j % 4 = k % 4) : bxP q j = bxP q k := by
  unfold bxP
  rw [(rc_m (a := qX q 0) (b := qX q 1) h).1, (rc_m (a := qY q 0) (b := qY q 1) h).2, (rc_m (a := qX q 0) (b := qX q 1) (show (j + 1) % 4 = (k + 1) % 4 by omega)).1, (rc_m (a := qY q 0) (b := qY q 1) (show (j + 1) % 4 = (k + 1) % 4 by omega)).2]
theorem sm4f (F : Nat → Nat) (t : Nat) : sm (fun k => F ((t + k) % 4)) 4 = sm F 4 := by
  show 0 + F ((t + 0) % 4) + F ((t + 1) % 4) + F ((t + 2) % 4) + F ((t + 3) % 4) = 0 + F 0 + F 1 + F 2 + F 3
  have c : t % 4 = 0 ∨ t % 4 = 1 ∨ t % 4 = 2 ∨ t % 4 = 3 := by omega
  rcases c with c | c | c | c
  · rw [show (t + 0) % 4 = 0 by omega, show (t + 1) % 4 = 1 by omega, show (t + 2) % 4 = 2 by omega, show (t + 3) % 4 = 3 by omega]
  · rw [show (t + 0) % 4 = 1 by omega, show (t + 1) % 4 = 2 by omega, show (t + 2) % 4 = 3 by omega, show (t + 3) % 4 = 0 by omega]; omega
  · rw [show (t + 0) % 4 = 2 by omega, show (t + 1) % 4 = 3 by omega, show (t + 2) % 4 = 0 by omega, show (t + 3) % 4 = 1 by omega]; omega
  · rw [show (t + 0) % 4 = 3 by omega, show (t + 1) % 4 = 0 by omega, show (t + 2) % 4 = 1 by omega, show (t + 3) % 4 = 2 by omega]; omega
theorem sm4b (F : Nat → Nat) (t : Nat) : sm (fun k => F ((t + 3 - k) % 4)) 4 = sm F 4 := by
  show 0 + F ((t + 3 - 0) % 4) + F ((t + 3 - 1) % 4) + F ((t + 3 - 2) % 4) + F ((t + 3 - 3) % 4) = 0 + F 0 + F 1 + F 2 + F 3
  have c : t % 4 = 0 ∨ t % 4 = 1 ∨ t % 4 = 2 ∨ t % 4 = 3 := by omega
  rcases c with c | c | c | c
  · rw [show (t + 3 - 0) % 4 = 3 by omega, show (t + 3 - 1) % 4 = 2 by omega, show (t + 3 - 2) % 4 = 1 by omega, show (t + 3 - 3) % 4 = 0 by omega]; omega
  · rw [show (t + 3 - 0) % 4 = 0 by omega, show (t + 3 - 1) % 4 = 3 by omega, show (t + 3 - 2) % 4 = 2 by omega, show (t + 3 - 3) % 4 = 1 by omega]; omega
  · rw [show (t + 3 - 0) % 4 = 1 by omega, show (t + 3 - 1) % 4 = 0 by omega, show (t + 3 - 2) % 4 = 3 by omega, show (t + 3 - 3) % 4 = 2 by omega]; omega
  · rw [show (t + 3 - 0) % 4 = 2 by omega, show (t + 3 - 1) % 4 = 1 by omega, show (t + 3 - 2) % 4 = 0 by omega, show (t + 3 - 3) % 4 = 3 by omega]; omega
/-- one place -/
theorem fig_1 {w : SV} {q : QV} (en : sN w = nI 1) (hp : ∀ k, k < 1 → Plc (sX w k) (sY w k)) (r : RelL w q 1) : Fig w 1 1 (fun _ => (qX q 0, qY q 0, qX q 0, qY q 0)) := by
  obtain ⟨b, -, -, s, e, -⟩ := r
  have e0 : sE w 0 = nI 0 := e 0 (by decide)
  have ee : eE w 0 = 0 := eE_of e0 (by decide)
  obtain ⟨s1, s2⟩ := s 0 (by decide)
  have S : Sds w 1 (eE w) := sds_of (by decide) en hp (fun k hk => ⟨0, by decide, by rw [show k = 0 by omega]; exact e0⟩)
  have ec : cs w 0 = toQ (qX q 0, qY q 0, qX q 0, qY q 0) := by unfold cs toQ; rw [ee, s1, s2]
  refine ⟨S, by decide, by decide, fun j hj => ?_, fun k hk => ⟨0, by decide, ?_⟩, fun j hj => ⟨0, by decide, ?_⟩, Or.inl b⟩
  · rw [s1, s2]; exact ⟨hp 0 (by decide), hp 0 (by decide)⟩
  · rw [show k = 0 by omega, ec]; exact sub_rf _
  · rw [ec]; exact sub_rf _
theorem fig_tr {w : SV} {q : QV} {c : Nat} (hc : c ≤ 48) (h2 : 2 ≤ c) (en : sN w = nI c) (hp : ∀ k, k < c → Plc (sX w k) (sY w k)) (r : RelL w q c) : Fig w c (c - 1) (trP q) := by
  obtain ⟨b, -, -, s, e, -⟩ := r
  have E1 : ∀ k, k + 1 < c → eE w k = k + 1 := fun k hk => eE_of (by rw [e k (by omega), if_pos hk]) (by omega)
  have E2 : eE w (c - 1) = c - 1 := eE_of (by rw [e (c - 1) (by omega), if_neg (by omega)]) (by omega)
  have S : Sds w c (eE w) := sds_of hc en hp (fun k hk => by
    by_cases z : k + 1 < c
    · exact ⟨k + 1, z, by rw [e k hk, if_pos z]⟩
    · exact ⟨k, hk, by rw [e k hk, if_neg z]⟩)
  have ec : ∀ k, k + 1 < c → cs w k = toQ (trP q k) := fun k hk => by
    unfold cs toQ trP
    rw [E1 k hk, (s k (by omega)).1, (s k (by omega)).2, (s (k + 1) hk).1, (s (k + 1) hk).2]
  refine ⟨S, by omega, by omega, fun j hj => ?_, fun k hk => ?_, fun j hj => ⟨j, by omega, ?_⟩, Or.inl b⟩
  · unfold trP
    rw [(s j (by omega)).1, (s j (by omega)).2, (s (j + 1) (by omega)).1, (s (j + 1) (by omega)).2]
    exact ⟨hp j (by omega), hp (j + 1) (by omega)⟩
  · by_cases z : k + 1 < c
    · exact ⟨k, by omega, by rw [ec k z]; exact sub_rf _⟩
    · refine ⟨c - 2, by omega, Or.inr (Or.inr (Or.inr ?_))⟩
      have ek : k = c - 1 := by omega
      subst ek
      unfold cs enQ toQ trP
      rw [E2, (s (c - 2 + 1) (by omega)).1, (s (c - 2 + 1) (by omega)).2, show c - 2 + 1 = c - 1 by omega]
  · rw [ec j (by omega)]; exact sub_rf _
theorem fig_pl {w : SV} {q : QV} {c : Nat} (hc : c ≤ 48) (h0 : 0 < c) (en : sN w = nI c) (hp : ∀ k, k < c → Plc (sX w k) (sY w k)) (r : RelP w q c c) : Fig w c c (plP q (eE w)) := by
  obtain ⟨b, -, s, g, B, g1, g2, g3, g4, g5, -, -⟩ := r
  have mono : ∀ r, r < g → B (r + 1) ≤ c := fun r hr => by
    have := bounds_le (fun r hr => (g4 r hr).1) (g - (r + 1)) (r + 1) (by omega)
    rw [show r + 1 + (g - (r + 1)) = g by omega, g3] at this
    exact this
  have E : ∀ r k, r < g → B r ≤ k → k < B (r + 1) → eE w k = bh k (B r) (B (r + 1)) := fun r k r1 k1 k2 => eE_of (m := bh k (B r) (B (r + 1))) (g5 r k r1 k1 k2) (by have := mono r r1; have := bh_or (o := B r) k2; omega)
  have S : Sds w c (eE w) := sds_of hc en hp (fun k hk => by
    obtain ⟨r, r1, r2, r3⟩ := ring_of g2 g k (by omega)
    have := mono r r1
    exact ⟨_, bh_lt (o := B r) r3 (show B (r + 1) ≤ c by omega) (by omega), g5 r k r1 r2 r3⟩)
  have ec : ∀ k, k < c → cs w k = toQ (plP q (eE w) k) := fun k hk => by
    have he := (S.2.2.2 k hk).2
    unfold cs toQ plP
    rw [(s k hk).1, (s k hk).2, (s _ he).1, (s _ he).2]
  refine ⟨S, h0, hc, fun j hj => ?_, fun k hk => ⟨k, hk, by rw [ec k hk]; exact sub_rf _⟩, fun j hj => ⟨j, hj, by rw [ec j hj]; exact sub_rf _⟩, Or.inr ⟨b, ⟨g, B, g2, g3, fun r hr => by have := (g4 r hr).1; omega, E⟩, fun x y _ => ?_⟩⟩
  · have he := (S.2.2.2 j hj).2
    unfold plP
    rw [(s j hj).1, (s j hj).2, (s _ he).1, (s _ he).2]
    exact ⟨hp j hj, hp _ he⟩
  · rw [sm_c c (fun k hk => by rw [ec k hk])]
theorem rc_pl {q : QV} (p0 : Plc (qX q 0) (qY q 0)) (p1 : Plc (qX q 1) (qY q 1)) (j : Nat) : Plc (rcX (qX q 0) (qX q 1) j) (rcY (qY q 0) (qY q 1) j) := by
  unfold Plc at *
  unfold rcX rcY
  split <;> split <;> omega
theorem fig_bx {w : SV} {q : QV} {c : Nat} (en : sN w = nI c) (hc : c ≤ 48) (hp : ∀ k, k < c → Plc (sX w k) (sY w k)) (r : RelB w q c) : Fig w c 4 (bxP q) := by
  obtain ⟨-, -, p0, p1, -, -, c3⟩ := r
  have pl : ∀ j, j < 4 → Plc (bxP q j).1 (bxP q j).2.1 ∧ Plc (bxP q j).2.2.1 (bxP q j).2.2.2 := fun j _ => ⟨rc_pl p0 p1 j, rc_pl p0 p1 (j + 1)⟩
  have b0 : toQ (bxP q 0) = ((qX q 0).toInt, (qY q 0).toInt, (qX q 1).toInt, (qY q 0).toInt) := rfl
  have b1 : toQ (bxP q 1) = ((qX q 1).toInt, (qY q 0).toInt, (qX q 1).toInt, (qY q 1).toInt) := rfl
  have b2 : toQ (bxP q 2) = ((qX q 1).toInt, (qY q 1).toInt, (qX q 0).toInt, (qY q 1).toInt) := rfl
  have b3 : toQ (bxP q 3) = ((qX q 0).toInt, (qY q 1).toInt, (qX q 0).toInt, (qY q 0).toInt) := rfl
  rcases c3 with ⟨-, -, b, c4, e, t, ht⟩ | ⟨q1, q2, b, c2, e0, e1, ht⟩ | ⟨q1, q2, b, c1, e0, x0, y0⟩
  · subst c4
    have E : ∀ k, k < 4 → eE w k = bh k 0 4 := fun k hk => eE_of (m := bh k 0 4) (e k hk) (by have := bh_lt (o := 0) hk (Nat.le_refl 4) (by decide); omega)
    have S : Sds w 4 (eE w) := sds_of hc en hp (fun k hk => ⟨_, bh_lt (o := 0) hk (Nat.le_refl 4) (by decide), e k hk⟩)
    have G : Rgs w 4 := ⟨1, fun r => 4 * r, rfl, rfl, fun r hr => by show 4 * r < 4 * (r + 1); omega, fun r k hr k1 k2 => by
      have er : r = 0 := by omega
      subst er
      exact E k k2⟩
    rcases ht with ht | ht
    · have ec : ∀ k, k < 4 → cs w k = toQ (bxP q ((t + k) % 4)) := fun k hk => by
        have eb := E k hk
        have bo := bh_or (o := 0) hk
        have el : eE w k < 4 := by omega
        rw [bx_m (q := q) (show (t + k) % 4 % 4 = (t + k) % 4 by omega)]
        unfold cs toQ bxP zx zy
        rw [(ht k hk).1, (ht k hk).2, (ht _ el).1, (ht _ el).2]
        have em : (t + eE w k) % 4 = (t + k + 1) % 4 := by omega
        rw [(rc_m (a := qX q 0) (b := qX q 1) em).1, (rc_m (a := qY q 0) (b := qY q 1) em).2]
      refine ⟨S, by decide, by decide, pl, fun k hk => ⟨(t + k) % 4, by omega, by rw [ec k hk]; exact sub_rf _⟩, fun j hj => ⟨(j + 4 - t % 4) % 4, by omega, ?_⟩, Or.inr ⟨b, G, fun x y _ => ?_⟩⟩
      · rw [ec _ (by omega), show (t + (j + 4 - t % 4) % 4) % 4 = j by omega]; exact sub_rf _
      · rw [sm_c 4 (fun k hk => by rw [ec k hk]), sm4f (fun j => nP (crf (toQ (bxP q j)) x y)) t]
    · have ec : ∀ k, k < 4 → cs w k = swQ (toQ (bxP q ((t + 3 - k) % 4))) := fun k hk => by
        have eb := E k hk
        have bo := bh_or (o := 0) hk
        have el : eE w k < 4 := by omega
        rw [bx_m (q := q) (show (t + 3 - k) % 4 % 4 = (t + 3 - k) % 4 by omega)]
        unfold cs swQ toQ bxP zx zy
        rw [(ht k hk).1, (ht k hk).2, (ht _ el).1, (ht _ el).2]
        have em : (t + 4 - eE w k) % 4 = (t + 3 - k) % 4 := by omega
        have en : (t + 4 - k) % 4 = (t + 3 - k + 1) % 4 := by omega
        rw [(rc_m (a := qX q 0) (b := qX q 1) em).1, (rc_m (a := qY q 0) (b := qY q 1) em).2, (rc_m (a := qX q 0) (b := qX q 1) en).1, (rc_m (a := qY q 0) (b := qY q 1) en).2]
      refine ⟨S, by decide, by decide, pl, fun k hk => ⟨(t + 3 - k) % 4, by omega, by rw [ec k hk]; exact Or.inr (Or.inl rfl)⟩, fun j hj => ⟨(t + 3 - j) % 4, by omega, ?_⟩, Or.inr ⟨b, G, fun x y hn => ?_⟩⟩
      · rw [ec _ (by omega), show (t + 3 - (t + 3 - j) % 4) % 4 = j by omega]; exact sub_sw (sub_rf _)
      · rw [sm_c 4 (g := fun k => nP (crf (toQ (bxP q ((t + 3 - k) % 4))) x y)) (fun k hk => by
          have := hn k hk
          rw [ec k hk] at this ⊢
          exact nP_c (crf_sw (fun z => this (onp_sw.mpr z)))), sm4b (fun j => nP (crf (toQ (bxP q j)) x y)) t]
  · subst c2
    have E0 : eE w 0 = 1 := eE_of (m := 1) e0 (by decide)
    have E1 : eE w 1 = 1 := eE_of (m := 1) e1 (by decide)
    have S : Sds w 2 (eE w) := sds_of hc en hp (fun k hk => ⟨1, by decide, by
      have z : k = 0 ∨ k = 1 := by omega
      rcases z with z | z <;> rw [z]
      · exact e0
      · exact e1⟩)
    obtain ⟨s, es⟩ : ∃ s : Q4, s = ((qX q 0).toInt, (qY q 0).toInt, (qX q 1).toInt, (qY q 1).toInt) := ⟨_, rfl⟩
    have c0 : cs w 0 = s ∨ cs w 0 = swQ s := by
      rcases ht with ⟨a1, a2, a3, a4⟩ | ⟨a1, a2, a3, a4⟩
      · left; unfold cs zx zy; rw [E0, a1, a2, a3, a4, es]
      · right; unfold cs zx zy; rw [E0, a1, a2, a3, a4, es]; rfl
    have c1 : cs w 1 = enQ (cs w 0) := by unfold cs enQ; rw [E0, E1]
    have pj : (∀ j, j < 4 → sub4 (toQ (bxP q j)) s) ∧ ∃ j, j < 4 ∧ toQ (bxP q j) = s := by
      rcases q1 with z | z
      · refine ⟨fun j hj => ?_, 1, by decide, by rw [b1, es, z]⟩
        have cj : j = 0 ∨ j = 1 ∨ j = 2 ∨ j = 3 := by omega
        rcases cj with y | y | y | y <;> rw [y]
        · rw [b0, es, z]; exact Or.inr (Or.inr (Or.inl rfl))
        · rw [b1, es, z]; exact sub_rf _
        · rw [b2, es, z]; exact Or.inr (Or.inr (Or.inr rfl))
        · rw [b3, es, z]; exact Or.inr (Or.inl rfl)
      · refine ⟨fun j hj => ?_, 0, by decide, by rw [b0, es, z]⟩
        have cj : j = 0 ∨ j = 1 ∨ j = 2 ∨ j = 3 := by omega
        rcases cj with y | y | y | y <;> rw [y]
        · rw [b0, es, z]; exact sub_rf _
        · rw [b1, es, z]; exact Or.inr (Or.inr (Or.inr rfl))
        · rw [b2, es, z]; exact Or.inr (Or.inl rfl)
        · rw [b3, es, z]; exact Or.inr (Or.inr (Or.inl rfl))
    obtain ⟨pj, j0, hj0, ej0⟩ := pj
    refine ⟨S, by decide, by decide, pl, fun k hk => ⟨j0, hj0, ?_⟩, fun j hj => ⟨0, by decide, ?_⟩, Or.inl b⟩
    · rw [ej0]
      have ck : k = 0 ∨ k = 1 := by omega
      rcases ck with z | z <;> rw [z]
      · rcases c0 with y | y <;> rw [y]
        · exact sub_rf _
        · exact Or.inr (Or.inl rfl)
      · rw [c1]
        rcases c0 with y | y <;> rw [y]
        · exact Or.inr (Or.inr (Or.inr rfl))
        · exact Or.inr (Or.inr (Or.inl rfl))
    · rcases c0 with y | y <;> rw [y]
      · exact pj j hj
      · exact sub_sw (pj j hj)
  · subst c1
    have E0 : eE w 0 = 0 := eE_of (m := 0) e0 (by decide)
    have S : Sds w 1 (eE w) := sds_of hc en hp (fun k hk => ⟨0, by decide, by rw [show k = 0 by omega]; exact e0⟩)
    have ej : ∀ j, j < 4 → toQ (bxP q j) = cs w 0 := fun j hj => by
      have cj : j = 0 ∨ j = 1 ∨ j = 2 ∨ j = 3 := by omega
      unfold cs zx zy
      rw [E0, x0, y0]
      rcases cj with y | y | y | y <;> rw [y]
      · rw [b0, q1]
      · rw [b1, q1, q2]
      · rw [b2, q1, q2]
      · rw [b3, q2]
    refine ⟨S, by decide, by decide, pl, fun k hk => ⟨0, by decide, ?_⟩, fun j hj => ⟨0, by decide, ?_⟩, Or.inl b⟩
    · rw [ej 0 (by decide), show k = 0 by omega]; exact sub_rf _
    · rw [ej j hj]; exact sub_rf _
theorem fig_ev {v : CV} {mv : MV} {i h c o : Nat} (R : Rel v mv) (hi : i < v.1) (hh : h < 2) (hc : c ≤ 48) (en : sN (v.2 i) = nI c) (hp : ∀ k, k < c → Plc (sX (v.2 i) k) (sY (v.2 i) k))
    (sh : (sF (v.2 i) = 0 ∧ o = 0 ∧ c = 1 ∧ RelL (v.2 i) (mvS mv i) c) ∨ (sF (v.2 i) = 1 ∧ o = 0 ∧ RelB (v.2 i) (mvS mv i) c) ∨ (sF (v.2 i) = 2 ∧ RelP (v.2 i) (mvS mv i) c o) ∨ (sF (v.2 i) = 3 ∧ o = 0 ∧ RelL (v.2 i) (mvS mv i) c)) (W : Whl (v.2 i) c o) :
    ∃ m f mv', f_M_pieces mv (nI h) (nI i) = some mv' ∧ Adv mv mv' h 0 m f ∧ Fig (v.2 i) c m f := by
  have h40 : i < 40 := by have := R.1; omega
  have ek : qK (mvS mv i) = sF (v.2 i) := by obtain ⟨_, _, -, -, -, -, -, -, ek, -, -⟩ := R.2.2 i hi; exact ek
  rcases sh with ⟨f, -, c1, r⟩ | ⟨f, -, r⟩ | ⟨f, r⟩ | ⟨f, -, r⟩
  · subst c1
    obtain ⟨mv', e, A⟩ := pieces_1 (mv := mv) hh h40 (Or.inl (ek.trans f))
    exact ⟨_, _, mv', e, A, fig_1 en hp r⟩
  · obtain ⟨mv', e, A⟩ := pieces_box (mv := mv) hh h40 (ek.trans f)
    exact ⟨_, _, mv', e, A, fig_bx en hc hp r⟩
  · have oc := W.2 f
    subst oc
    have F := fig_pl hc W.1 en hp r
    obtain ⟨b, -, s, g, B, g1, g2, g3, g4, g5, -, -⟩ := r
    have mono : ∀ r, r < g → B (r + 1) ≤ o := fun r hr => by
      have := bounds_le (fun r hr => (g4 r hr).1) (g - (r + 1)) (r + 1) (by omega)
      rw [show r + 1 + (g - (r + 1)) = g by omega, g3] at this
      exact this
    have hg : 3 * g ≤ B g := ring_many g2 (fun r hr => (g4 r hr).1) g (Nat.le_refl g)
    have E : ∀ r k, r < g → B r ≤ k → k < B (r + 1) → eE (v.2 i) k = bh k (B r) (B (r + 1)) := fun r k r1 k1 k2 => eE_of (m := bh k (B r) (B (r + 1))) (g5 r k r1 k1 k2) (by have := mono r r1; have := bh_or (o := B r) k2; omega)
    obtain ⟨mv', e, A⟩ := pieces_pl (mv := mv) (e := eE (v.2 i)) hh h40 (ek.trans f) g1 (by omega) hc g2 g3 (fun r hr => ⟨by have := (g4 r hr).1; omega, mono r hr, (g4 r hr).2⟩) E
    exact ⟨_, _, mv', e, A, F⟩
  · by_cases z : c = 1
    · subst z
      obtain ⟨mv', e, A⟩ := pieces_1 (mv := mv) hh h40 (Or.inr ⟨ek.trans f, r.2.1⟩)
      exact ⟨_, _, mv', e, A, fig_1 en hp r⟩
    · have h0 := W.1
      obtain ⟨mv', e, A⟩ := pieces_tr (mv := mv) hh h40 (ek.trans f) r.2.1 hc (by omega)
      exact ⟨_, _, mv', e, A, fig_tr hc (by omega) en hp r⟩
