/-! nearer -/
theorem le_lt (x y : Int32) : (if x ≤ y then x else y) = if x < y then x else y := by
  by_cases h : x < y
  · rw [if_pos h, if_pos (by rw [Int32.le_iff_toInt_le]; rw [Int32.lt_iff_toInt_lt] at h; omega)]
  · by_cases g : x ≤ y
    · rw [if_pos g, if_neg h]
      apply Int32.toInt_inj.mp
      rw [Int32.le_iff_toInt_le] at g
      rw [Int32.lt_iff_toInt_lt] at h
      omega
    · rw [if_neg g, if_neg h]
theorem mn_min2 (a b c d : Prop) : (if mn a b ≤ mn c d then mn a b else mn c d) = mn (a ∨ c) (b ∨ d) := by
  rw [le_lt, mn_min]; exact mn_c or_comm or_comm
def D1 (T : Int32 → Prop) (s t : Q4) (r : Int) : Prop := (T (dQ t s.1 s.2.1 r) ∨ T (dQ t s.2.2.1 s.2.2.2 r)) ∨ (T (dQ s t.1 t.2.1 r) ∨ T (dQ s t.2.2.1 t.2.2.2 r))
theorem dQ_mn {s : Q4} {x y r : Int} : dQ s x y r = mn (dQ s x y r = -1) (dQ s x y r ≠ 1) := (mn_of (dcmp_val _ _ _ _ _ _ _)).symm
theorem if_app {α β : Type} {c : Prop} [Decidable c] (F : α → β) (x y : α) : (if c then F x else F y) = F (if c then x else y) := by split <;> rfl
theorem apart_ev {u : MV} {m m' i j : Nat} {f f' : Nat → Sg} {r : Int64} (T : Two u m f m' f') (hi : i < m) (hj : j < m') (hr : Rch r) (t : Nat → Int64) : ∃ t', f_M_apart (ms_digits u t) (nI i) (nI (48 + j)) r = some (mn (D1 (fun z => z = -1) (toQ (f i)) (toQ (f' j)) r.toInt) (D1 (fun z => z ≠ 1) (toQ (f i)) (toQ (f' j)) r.toInt), ms_digits u t') := by
  obtain ⟨hm, hm', z0, z1, hf, hf', pl, pl'⟩ := T
  have rd : ∀ t, _ := fun t : Nat → Int64 => sg_rd (u := ms_digits u t) (by omega) (show sg (ms_digits u t) i = f i from hf i hi)
  have rd' : ∀ t, _ := fun t : Nat → Int64 => sg_rd (u := ms_digits u t) (by omega) (show sg (ms_digits u t) (48 + j) = f' j from hf' j hj)
  obtain ⟨p1, p2⟩ := pl i hi
  obtain ⟨q1, q2⟩ := pl' j hj
  obtain ⟨t1, e1⟩ := far_ev (mv := ms_digits u t) p1 q1 q2 hr
  obtain ⟨t2, e2⟩ := far_ev (mv := ms_digits u t1) p2 q1 q2 hr
  obtain ⟨t3, e3⟩ := far_ev (mv := ms_digits u t2) q1 p1 p2 hr
  obtain ⟨t4, e4⟩ := far_ev (mv := ms_digits u t3) q2 p1 p2 hr
  have e1 : f_M_farther (ms_digits u t) (f i).1 (f i).2.1 (f' j).1 (f' j).2.1 (f' j).2.2.1 (f' j).2.2.2 r = some (dQ (toQ (f' j)) (f i).1.toInt (f i).2.1.toInt r.toInt, ms_digits u t1) := e1
  have e2 : f_M_farther (ms_digits u t1) (f i).2.2.1 (f i).2.2.2 (f' j).1 (f' j).2.1 (f' j).2.2.1 (f' j).2.2.2 r = some (dQ (toQ (f' j)) (f i).2.2.1.toInt (f i).2.2.2.toInt r.toInt, ms_digits u t2) := e2
  have e3 : f_M_farther (ms_digits u t2) (f' j).1 (f' j).2.1 (f i).1 (f i).2.1 (f i).2.2.1 (f i).2.2.2 r = some (dQ (toQ (f i)) (f' j).1.toInt (f' j).2.1.toInt r.toInt, ms_digits u t3) := e3
  have e4 : f_M_farther (ms_digits u t3) (f' j).2.2.1 (f' j).2.2.2 (f i).1 (f i).2.1 (f i).2.2.1 (f i).2.2.2 r = some (dQ (toQ (f i)) (f' j).2.2.1.toInt (f' j).2.2.2.toInt r.toInt, ms_digits u t4) := e4
  refine ⟨t4, ?_⟩
  simp only [f_M_apart, (rd t).1, (rd t).2.1, (rd' t).1, (rd' t).2.1, (rd' t).2.2.1, (rd' t).2.2.2, Option.bind_some, e1, (rd t1).2.2.1, (rd t1).2.2.2, (rd' t1).1, (rd' t1).2.1, (rd' t1).2.2.1, (rd' t1).2.2.2, e2, (rd' t2).1, (rd' t2).2.1, (rd t2).1, (rd t2).2.1, (rd t2).2.2.1, (rd t2).2.2.2, e3, (rd' t3).2.2.1, (rd' t3).2.2.2, (rd t3).1, (rd t3).2.1, (rd t3).2.2.1, (rd t3).2.2.2, e4]
  have j202 : ∀ a b c d : Prop, f_M_apart_j202 (ms_digits u t4) (mn a b) (mn c d) = some (mn (c ∨ a) (d ∨ b), ms_digits u t4) := by
    intro a b c d
    unfold f_M_apart_j202 f_M_apart_j218
    rw [if_app (fun z => some (z, ms_digits u t4)), mn_min2]
  have j186 : ∀ a b c d e g : Prop, f_M_apart_j186 (ms_digits u t4) (mn a b) (mn c d) (mn e g) = some (mn ((c ∨ a) ∨ e) ((d ∨ b) ∨ g), ms_digits u t4) := by
    intro a b c d e g
    unfold f_M_apart_j186
    rw [if_app (fun z => f_M_apart_j202 (ms_digits u t4) (mn e g) z), mn_min2, j202]
  rw [if_app (fun z => f_M_apart_j186 (ms_digits u t4) (dQ (toQ (f i)) (f' j).1.toInt (f' j).2.1.toInt r.toInt) (dQ (toQ (f i)) (f' j).2.2.1.toInt (f' j).2.2.2.toInt r.toInt) z)]
  rw [dQ_mn (s := toQ (f' j)) (x := (f i).1.toInt), dQ_mn (s := toQ (f' j)) (x := (f i).2.2.1.toInt), dQ_mn (s := toQ (f i)) (x := (f' j).1.toInt), dQ_mn (s := toQ (f i)) (x := (f' j).2.2.1.toInt), mn_min2, j186]
  refine congrArg (fun z => some (z, ms_digits u t4)) (mn_c ?_ ?_)
  · unfold D1
    constructor
    · rintro ((h | h) | (h | h))
      · exact Or.inr (Or.inr h)
      · exact Or.inr (Or.inl h)
      · exact Or.inl (Or.inr h)
      · exact Or.inl (Or.inl h)
    · rintro ((h | h) | (h | h))
      · exact Or.inr (Or.inr h)
      · exact Or.inr (Or.inl h)
      · exact Or.inl (Or.inr h)
      · exact Or.inl (Or.inl h)
  · unfold D1
    constructor
    · rintro ((h | h) | (h | h))
      · exact Or.inr (Or.inr h)
      · exact Or.inr (Or.inl h)
      · exact Or.inl (Or.inr h)
      · exact Or.inl (Or.inl h)
    · rintro ((h | h) | (h | h))
      · exact Or.inr (Or.inr h)
      · exact Or.inr (Or.inl h)
      · exact Or.inl (Or.inr h)
      · exact Or.inl (Or.inl h)
theorem ex_nx {c k : Nat} {F : Nat → Prop} {G : Prop} (hk : k < c) : ((G ∨ F k) ∨ ∃ j, k + 1 ≤ j ∧ j < c ∧ F j) ↔ (G ∨ ∃ j, k ≤ j ∧ j < c ∧ F j) := by
  constructor
  · rintro ((h | h) | ⟨j, a, b, h⟩)
    · exact Or.inl h
    · exact Or.inr ⟨k, Nat.le_refl k, hk, h⟩
    · exact Or.inr ⟨j, by omega, b, h⟩
  · rintro (h | ⟨j, a, b, h⟩)
    · exact Or.inl (Or.inl h)
    · by_cases y : j = k
      · subst y; exact Or.inl (Or.inr h)
      · exact Or.inr ⟨j, by omega, b, h⟩
theorem ex_en {c : Nat} {F : Nat → Prop} {G : Prop} : G ↔ (G ∨ ∃ j, c ≤ j ∧ j < c ∧ F j) := ⟨Or.inl, fun h => h.elim id (fun ⟨j, a, b, _⟩ => by omega)⟩
theorem ap_in {u : MV} {m m' i : Nat} {f f' : Nat → Sg} {r : Int64} (T : Two u m f m' f') (hi : i < m) (hr : Rch r) (K39 : MV → Int64 → Int32 → Int32 → Option (Int32 × MV)) : ∀ n k t A B, k ≤ m' → m' < k + n → ∃ t', f_M_coresApart_l54 K39 n (ms_digits u t) r (mn A B) (nI i) (nI (48 + k)) = K39 (ms_digits u t') r (mn (A ∨ ∃ j, k ≤ j ∧ j < m' ∧ D1 (fun z => z = -1) (toQ (f i)) (toQ (f' j)) r.toInt) (B ∨ ∃ j, k ≤ j ∧ j < m' ∧ D1 (fun z => z ≠ 1) (toQ (f i)) (toQ (f' j)) r.toInt)) (nI (i + 1)) := by
  have hm' := T.2.1
  intro n
  induction n with
  | zero => intro k t A B h1 h2; omega
  | succ n ih =>
    intro k t A B h1 h2
    have s1 : ld 2 (md_size (ms_digits u t)) 1 = some (nI m') := (two_sz T).2
    have e48 : ∀ j, (48 : Int32) + nI j = nI (48 + j) := fun j => by rw [show (48 : Int32) = nI 48 from rfl, nI_add]
    by_cases z : k = m'
    · subst z
      refine ⟨t, ?_⟩
      have hle : nI (48 + k) ≤ nI (48 + k) := nI_hle (by omega) (by omega) |>.mpr (Nat.le_refl _)
      simp only [f_M_coresApart_l54, s1, Option.bind_some, e48, if_pos hle, nI_1]
      rw [mn_c (ex_en (G := A) (c := k)) (ex_en (G := B) (c := k))]
    · have hk : k < m' := by omega
      have hle : ¬ nI (48 + m') ≤ nI (48 + k) := fun q => by rw [nI_hle (by omega) (by omega)] at q; omega
      obtain ⟨t1, e⟩ := apart_ev T hi hk hr t
      obtain ⟨t', e'⟩ := ih (k + 1) t1 (A ∨ D1 (fun z => z = -1) (toQ (f i)) (toQ (f' k)) r.toInt) (B ∨ D1 (fun z => z ≠ 1) (toQ (f i)) (toQ (f' k)) r.toInt) (by omega) (by omega)
      refine ⟨t', ?_⟩
      simp only [f_M_coresApart_l54, s1, Option.bind_some, e48, if_neg hle, e, f_M_coresApart_j93, nI_1]
      rw [if_app (fun z => f_M_coresApart_l54 K39 n (ms_digits u t1) r z (nI i) (nI (48 + k + 1))), mn_min2, Nat.add_assoc, e']
      rw [mn_c (ex_nx (F := fun j => D1 (fun z => z = -1) (toQ (f i)) (toQ (f' j)) r.toInt) hk) (ex_nx (F := fun j => D1 (fun z => z ≠ 1) (toQ (f i)) (toQ (f' j)) r.toInt) hk)]
theorem ap_out {u : MV} {m m' : Nat} {f f' : Nat → Sg} {r : Int64} (T : Two u m f m' f') (hr : Rch r) : ∀ n k t A B, k ≤ m → m < k + n → ∃ t', f_M_coresApart_l39 n (ms_digits u t) r (mn A B) (nI k) = some (mn (A ∨ ∃ i, k ≤ i ∧ i < m ∧ ∃ j, 0 ≤ j ∧ j < m' ∧ D1 (fun z => z = -1) (toQ (f i)) (toQ (f' j)) r.toInt) (B ∨ ∃ i, k ≤ i ∧ i < m ∧ ∃ j, 0 ≤ j ∧ j < m' ∧ D1 (fun z => z ≠ 1) (toQ (f i)) (toQ (f' j)) r.toInt), ms_digits u t') := by
  have hm := T.1
  have hm' := T.2.1
  intro n
  induction n with
  | zero => intro k t A B h1 h2; omega
  | succ n ih =>
    intro k t A B h1 h2
    have s0 : ld 2 (md_size (ms_digits u t)) 0 = some (nI m) := (two_sz T).1
    by_cases z : k = m
    · subst z
      refine ⟨t, ?_⟩
      have hle : nI k ≤ nI k := nI_hle (by omega) (by omega) |>.mpr (Nat.le_refl _)
      simp only [f_M_coresApart_l39, s0, Option.bind_some, if_pos hle]
      rw [mn_c (ex_en (G := A) (c := k)) (ex_en (G := B) (c := k))]
    · have hk : k < m := by omega
      have hle : ¬ nI m ≤ nI k := fun q => by rw [nI_hle (by omega) (by omega)] at q; omega
      obtain ⟨t1, e⟩ := ap_in T hk hr (f_M_coresApart_l39 n) 64 0 t A B (Nat.zero_le m') (by omega)
      obtain ⟨t', e'⟩ := ih (k + 1) t1 (A ∨ ∃ j, 0 ≤ j ∧ j < m' ∧ D1 (fun z => z = -1) (toQ (f k)) (toQ (f' j)) r.toInt) (B ∨ ∃ j, 0 ≤ j ∧ j < m' ∧ D1 (fun z => z ≠ 1) (toQ (f k)) (toQ (f' j)) r.toInt) (by omega) (by omega)
      refine ⟨t', ?_⟩
      simp only [f_M_coresApart_l39, s0, Option.bind_some, if_neg hle]
      refine Eq.trans e (e'.trans ?_)
      rw [mn_c (ex_nx (F := fun i => ∃ j, 0 ≤ j ∧ j < m' ∧ D1 (fun z => z = -1) (toQ (f i)) (toQ (f' j)) r.toInt) hk) (ex_nx (F := fun i => ∃ j, 0 ≤ j ∧ j < m' ∧ D1 (fun z => z ≠ 1) (toQ (f i)) (toQ (f' j)) r.toInt) hk)]
/-! the same on both sides -/
theorem sub_se {a b : Q4} (h : sub4 a b) : ((a.1 = b.1 ∧ a.2.1 = b.2.1) ∨ (a.1 = b.2.2.1 ∧ a.2.1 = b.2.2.2)) ∧ ((a.2.2.1 = b.1 ∧ a.2.2.2 = b.2.1) ∨ (a.2.2.1 = b.2.2.1 ∧ a.2.2.2 = b.2.2.2)) := by
  rcases h with e | e | e | e <;> rw [e]
  · exact ⟨Or.inl ⟨rfl, rfl⟩, Or.inr ⟨rfl, rfl⟩⟩
  · exact ⟨Or.inr ⟨rfl, rfl⟩, Or.inl ⟨rfl, rfl⟩⟩
  · exact ⟨Or.inl ⟨rfl, rfl⟩, Or.inl ⟨rfl, rfl⟩⟩
  · exact ⟨Or.inr ⟨rfl, rfl⟩, Or.inr ⟨rfl, rfl⟩⟩
theorem fig_c1 {w : SV} {c m : Nat} {f : Nat → Sg} (F : Fig w c m f) : ∀ k, k < c → ∃ j, j < m ∧ ((zx w k = (toQ (f j)).1 ∧ zy w k = (toQ (f j)).2.1) ∨ (zx w k = (toQ (f j)).2.2.1 ∧ zy w k = (toQ (f j)).2.2.2)) := by
  intro k hk
  obtain ⟨j, hj, s⟩ := F.2.2.2.2.1 k hk
  exact ⟨j, hj, (sub_se s).1⟩
theorem fig_c2 {w : SV} {c m : Nat} {f : Nat → Sg} (F : Fig w c m f) : ∀ j, j < m → (∃ k, k < c ∧ (toQ (f j)).1 = zx w k ∧ (toQ (f j)).2.1 = zy w k) ∧ ∃ k, k < c ∧ (toQ (f j)).2.2.1 = zx w k ∧ (toQ (f j)).2.2.2 = zy w k := by
  intro j hj
  obtain ⟨k, hk, s⟩ := F.2.2.2.2.2.1 j hj
  have he := (F.1.2.2.2 k hk).2
  obtain ⟨a, b⟩ := sub_se s
  refine ⟨?_, ?_⟩
  · rcases a with a | a
    · exact ⟨k, hk, a⟩
    · exact ⟨eE w k, he, a⟩
  · rcases b with b | b
    · exact ⟨k, hk, b⟩
    · exact ⟨eE w k, he, b⟩
theorem fig_T {v w : SV} {c c' m m' : Nat} {f f' : Nat → Sg} {r : Int} (F : Fig v c m f) (F' : Fig w c' m' f') (T : Int32 → Prop) (hT : ∀ {a b : Q4} {x y : Int}, sub4 a b → T (dQ a x y r) → T (dQ b x y r)) : ((∃ i, i < c ∧ ∃ j, j < c' ∧ T (dQ (cs w j) (zx v i) (zy v i) r)) ∨ ∃ i, i < c' ∧ ∃ j, j < c ∧ T (dQ (cs v j) (zx w i) (zy w i) r)) ↔ ∃ i, 0 ≤ i ∧ i < m ∧ ∃ j, 0 ≤ j ∧ j < m' ∧ D1 T (toQ (f i)) (toQ (f' j)) r := by
  constructor
  · rintro (⟨i, hi, j, hj, h⟩ | ⟨i, hi, j, hj, h⟩)
    · obtain ⟨j', hj', s⟩ := F'.2.2.2.2.1 j hj
      obtain ⟨i', hi', e⟩ := fig_c1 F i hi
      have h := hT s h
      rcases e with ⟨e1, e2⟩ | ⟨e1, e2⟩ <;> rw [e1, e2] at h
      · exact ⟨i', Nat.zero_le _, hi', j', Nat.zero_le _, hj', Or.inl (Or.inl h)⟩
      · exact ⟨i', Nat.zero_le _, hi', j', Nat.zero_le _, hj', Or.inl (Or.inr h)⟩
    · obtain ⟨j', hj', s⟩ := F.2.2.2.2.1 j hj
      obtain ⟨i', hi', e⟩ := fig_c1 F' i hi
      have h := hT s h
      rcases e with ⟨e1, e2⟩ | ⟨e1, e2⟩ <;> rw [e1, e2] at h
      · exact ⟨j', Nat.zero_le _, hj', i', Nat.zero_le _, hi', Or.inr (Or.inl h)⟩
      · exact ⟨j', Nat.zero_le _, hj', i', Nat.zero_le _, hi', Or.inr (Or.inr h)⟩
  · rintro ⟨i, -, hi, j, -, hj, ((h | h) | (h | h))⟩
    · obtain ⟨k, hk, s⟩ := F'.2.2.2.2.2.1 j hj
      obtain ⟨⟨p, hp, e1, e2⟩, -⟩ := fig_c2 F i hi
      have h := hT s h
      rw [e1, e2] at h
      exact Or.inl ⟨p, hp, k, hk, h⟩
    · obtain ⟨k, hk, s⟩ := F'.2.2.2.2.2.1 j hj
      obtain ⟨-, ⟨p, hp, e1, e2⟩⟩ := fig_c2 F i hi
      have h := hT s h
      rw [e1, e2] at h
      exact Or.inl ⟨p, hp, k, hk, h⟩
    · obtain ⟨k, hk, s⟩ := F.2.2.2.2.2.1 i hi
      obtain ⟨⟨p, hp, e1, e2⟩, -⟩ := fig_c2 F' j hj
      have h := hT s h
      rw [e1, e2] at h
      exact Or.inr ⟨p, hp, k, hk, h⟩
    · obtain ⟨k, hk, s⟩ := F.2.2.2.2.2.1 i hi
      obtain ⟨-, ⟨p, hp, e1, e2⟩⟩ := fig_c2 F' j hj
      have h := hT s h
      rw [e1, e2] at h
      exact Or.inr ⟨p, hp, k, hk, h⟩
/-- where no sides meet: a corner in the other core, or a start in it -/
theorem fig_E {v w : SV} {c c' m m' : Nat} {f f' : Nat → Sg} (F : Fig v c m f) (F' : Fig w c' m' f') (nm : ∀ i j, i < m → j < m' → ¬ mtQ (toQ (f i)) (toQ (f' j))) : (∃ k, 0 ≤ k ∧ k < c ∧ Enc w c' (zx v k) (zy v k)) ↔ ∃ i, 0 ≤ i ∧ i < m ∧ InC m' f' (sB w = 1) (f i).1.toInt (f i).2.1.toInt := by
  -- at an end of a piece
  have eq : ∀ x y, (∃ i, i < m ∧ (((toQ (f i)).1 = x ∧ (toQ (f i)).2.1 = y) ∨ ((toQ (f i)).2.2.1 = x ∧ (toQ (f i)).2.2.2 = y))) → (Enc w c' x y ↔ InC m' f' (sB w = 1) x y) := by
    rintro x y ⟨i, hi, hx⟩
    have no : ¬ ∃ j, j < m' ∧ onQ (toQ (f' j)) x y := by
      rintro ⟨j, hj, o⟩
      rcases hx with ⟨e1, e2⟩ | ⟨e1, e2⟩
      · rw [← e1, ← e2] at o; exact nm i j hi hj (Or.inl o)
      · rw [← e1, ← e2] at o; exact nm i j hi hj (Or.inr (Or.inl o))
    have nc : ∀ k, k < c' → ¬ onQ (cs w k) x y := fun k hk o => no ((fig_on F').mp ⟨k, hk, o⟩)
    unfold Enc InC
    constructor
    · rintro ⟨b, p⟩
      rcases F'.2.2.2.2.2.2 with z | ⟨-, -, z⟩
      · rw [z] at b; exact absurd b (by decide)
      · exact Or.inr ⟨b, (z x y nc).symm.trans p⟩
    · rintro (h | ⟨b, p⟩)
      · exact absurd h no
      · rcases F'.2.2.2.2.2.2 with z | ⟨-, -, z⟩
        · rw [z] at b; exact absurd b (by decide)
        · exact ⟨b, (z x y nc).trans p⟩
  constructor
  · rintro ⟨k, -, hk, h⟩
    obtain ⟨i, hi, e⟩ := fig_c1 F k hk
    refine ⟨i, Nat.zero_le _, hi, ?_⟩
    refine (eq _ _ ⟨i, hi, Or.inl ⟨rfl, rfl⟩⟩).mp ?_
    rcases e with ⟨e1, e2⟩ | ⟨e1, e2⟩
    · rw [e1, e2] at h; exact h
    · rw [e1, e2] at h
      obtain ⟨b, p⟩ := h
      rcases F'.2.2.2.2.2.2 with z | ⟨-, G, -⟩
      · rw [z] at b; exact absurd b (by decide)
      · refine ⟨b, (par_seg G (p1 := (toQ (f i)).1) (p2 := (toQ (f i)).2.1) (q1 := (toQ (f i)).2.2.1) (q2 := (toQ (f i)).2.2.2) (fun k' hk' y => ?_)).trans p⟩
        obtain ⟨j, hj, s⟩ := F'.2.2.2.2.1 k' hk'
        exact nm i j hi hj (sub_mt2 (sub_rf _) s y)
  · rintro ⟨i, -, hi, h⟩
    obtain ⟨⟨k, hk, e1, e2⟩, -⟩ := fig_c2 F i hi
    have h' := (eq _ _ ⟨i, hi, Or.inl ⟨rfl, rfl⟩⟩).mpr h
    rw [e1, e2] at h'
    exact ⟨k, Nat.zero_le _, hk, h'⟩
theorem fig_M {v w : SV} {c c' m m' : Nat} {f f' : Nat → Sg} (F : Fig v c m f) (F' : Fig w c' m' f') : (Mts v c w c' ∨ (∃ k, 0 ≤ k ∧ k < c' ∧ Enc v c (zx w k) (zy w k)) ∨ ∃ k, 0 ≤ k ∧ k < c ∧ Enc w c' (zx v k) (zy v k)) ↔ HvC m f (sB v = 1) m' f' (sB w = 1) := by
  have a : Mts v c w c' ↔ ∃ i, 0 ≤ i ∧ i < m ∧ ∃ j, 0 ≤ j ∧ j < m' ∧ mtQ (toQ (f i)) (toQ (f' j)) := by
    constructor
    · rintro ⟨i, -, hi, j, -, hj, h⟩
      obtain ⟨i', hi', s⟩ := F.2.2.2.2.1 i hi
      obtain ⟨j', hj', s'⟩ := F'.2.2.2.2.1 j hj
      exact ⟨i', Nat.zero_le _, hi', j', Nat.zero_le _, hj', sub_mt2 s s' h⟩
    · rintro ⟨i, -, hi, j, -, hj, h⟩
      obtain ⟨i', hi', s⟩ := F.2.2.2.2.2.1 i hi
      obtain ⟨j', hj', s'⟩ := F'.2.2.2.2.2.1 j hj
      exact ⟨i', Nat.zero_le _, hi', j', Nat.zero_le _, hj', sub_mt2 s s' h⟩
  by_cases h : Mts v c w c'
  · refine ⟨fun _ => ?_, fun _ => Or.inl h⟩
    obtain ⟨i, i0, hi, j, j0, hj, q⟩ := a.mp h
    exact Or.inl ⟨i, i0, hi, Or.inr ⟨j, j0, hj, q⟩⟩
  · have nm : ∀ i j, i < m → j < m' → ¬ mtQ (toQ (f i)) (toQ (f' j)) := fun i j hi hj q => h (a.mpr ⟨i, Nat.zero_le _, hi, j, Nat.zero_le _, hj, q⟩)
    have x1 := fig_E F F' nm
    have x2 := fig_E F' F (fun i j hi hj q => nm j i hj hi (mtQ_cm.mp q))
    rw [x1, x2]
    constructor
    · rintro (z | z | ⟨i, i0, hi, z⟩)
      · exact absurd z h
      · exact Or.inr z
      · exact Or.inl ⟨i, i0, hi, Or.inl z⟩
    · rintro (⟨i, i0, hi, z | ⟨j, j0, hj, z⟩⟩ | z)
      · exact Or.inr (Or.inr ⟨i, i0, hi, z⟩)
      · exact absurd z (nm i j hi hj)
      · exact Or.inr (Or.inl z)
