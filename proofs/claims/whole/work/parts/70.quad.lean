/-! pieces and sides as quadruples -/
def dQ (s : Q4) (x y r : Int) : Int32 := dcmp s.1 s.2.1 s.2.2.1 s.2.2.2 x y r
def onQ (s : Q4) (x y : Int) : Prop := onp s.1 s.2.1 s.2.2.1 s.2.2.2 x y
def mtQ (s t : Q4) : Prop := rmt s.1 s.2.1 s.2.2.1 s.2.2.2 t.1 t.2.1 t.2.2.1 t.2.2.2
def swQ (s : Q4) : Q4 := (s.2.2.1, s.2.2.2, s.1, s.2.1)
def stQ (s : Q4) : Q4 := (s.1, s.2.1, s.1, s.2.1)
def enQ (s : Q4) : Q4 := (s.2.2.1, s.2.2.2, s.2.2.1, s.2.2.2)
def sub4 (a b : Q4) : Prop := a = b ∨ a = swQ b ∨ a = stQ b ∨ a = enQ b
theorem sub_d {a b : Q4} {x y r : Int} (h : sub4 a b) : (dQ a x y r = -1 → dQ b x y r = -1) ∧ (dQ a x y r ≠ 1 → dQ b x y r ≠ 1) := by
  rcases h with e | e | e | e
  · rw [e]; exact ⟨id, id⟩
  · have z : dQ (swQ b) x y r = dQ b x y r := dcmp_sw _ _ _ _ _ _ _
    rw [e, z]; exact ⟨id, id⟩
  · rw [e]; exact dcmp_end
  · rw [e]; exact dcmp_end2
theorem on_pt {a b x y : Int} (h : onp a b a b x y) : x = a ∧ y = b := by
  obtain ⟨h1, h2, -⟩ := h
  unfold btw at h1 h2
  omega
theorem sub_on {a b : Q4} {x y : Int} (h : sub4 a b) (g : onQ a x y) : onQ b x y := by
  rcases h with e | e | e | e
  · rw [← e]; exact g
  · rw [e] at g; exact onp_sw.mp g
  · rw [e] at g; obtain ⟨p, q⟩ := on_pt g; rw [p, q]; exact onp_start _ _ _ _
  · rw [e] at g; obtain ⟨p, q⟩ := on_pt g; rw [p, q]; exact onp_end _ _ _ _
theorem rmt_sw {p1 p2 q1 q2 r1 r2 s1 s2 : Int} : rmt q1 q2 p1 p2 r1 r2 s1 s2 ↔ rmt p1 p2 q1 q2 r1 r2 s1 s2 := meet_iff.symm.trans (smt_sw.trans meet_iff)
theorem rmt_pt {p1 p2 r1 r2 s1 s2 : Int} (h : rmt p1 p2 p1 p2 r1 r2 s1 s2) : onp r1 r2 s1 s2 p1 p2 := by
  rcases h with h | h | h | h | h
  · exact h
  · exact h
  · obtain ⟨a, b⟩ := on_pt h; rw [a, b]; exact onp_start _ _ _ _
  · obtain ⟨a, b⟩ := on_pt h; rw [a, b]; exact onp_end _ _ _ _
  · have z : crs p1 p2 p1 p2 r1 r2 = 0 := by unfold crs; simp
    have := h.1
    rw [z] at this
    unfold opp at this
    omega
theorem sub_mt {a b s : Q4} (h : sub4 a b) (g : mtQ a s) : mtQ b s := by
  rcases h with e | e | e | e
  · rw [← e]; exact g
  · rw [e] at g; exact rmt_sw.mp g
  · rw [e] at g; exact Or.inl (rmt_pt g)
  · rw [e] at g; exact Or.inr (Or.inl (rmt_pt g))
theorem mtQ_cm {a b : Q4} : mtQ a b ↔ mtQ b a := rmt_cm.symm
theorem sub_mt2 {a b s t : Q4} (h : sub4 a b) (h' : sub4 s t) (g : mtQ a s) : mtQ b t := mtQ_cm.mp (sub_mt h' (mtQ_cm.mp (sub_mt h g)))
/-- side k of a shape of the class -/
def cs (w : SV) (k : Nat) : Q4 := (zx w k, zy w k, zx w (eE w k), zy w (eE w k))
/-! least answers -/
noncomputable def mn (a b : Prop) : Int32 := @ite _ a (Classical.propDecidable a) (-1) (@ite _ b (Classical.propDecidable b) 0 1)
theorem mn_l {a b : Prop} (h : a) : mn a b = -1 := by unfold mn; exact if_pos h
theorem mn_z {a b : Prop} (h : ¬ a) (g : b) : mn a b = 0 := by unfold mn; rw [if_neg h, if_pos g]
theorem mn_1 {a b : Prop} (h : ¬ a) (g : ¬ b) : mn a b = 1 := by unfold mn; rw [if_neg h, if_neg g]
theorem mn_c {a b a' b' : Prop} (h : a ↔ a') (g : b ↔ b') : mn a b = mn a' b' := by rw [propext h, propext g]
theorem mn_of {d : Int32} (h : d = -1 ∨ d = 0 ∨ d = 1) : mn (d = -1) (d ≠ 1) = d := by
  rcases h with e | e | e <;> subst e
  · exact mn_l rfl
  · exact mn_z (by decide) (by decide)
  · exact mn_1 (by decide) (fun z => z rfl)
theorem mn_lt {a b : Prop} : (mn a b < 0) ↔ a := by
  by_cases h : a
  · rw [mn_l h]; exact ⟨fun _ => h, fun _ => by decide⟩
  · by_cases g : b
    · rw [mn_z h g]; exact ⟨fun z => absurd z (by decide), fun z => absurd z h⟩
    · rw [mn_1 h g]; exact ⟨fun z => absurd z (by decide), fun z => absurd z h⟩
theorem mnv_le {a b : Prop} : (mn a b ≤ 0) ↔ a ∨ b := by
  by_cases h : a
  · rw [mn_l h]; exact ⟨fun _ => Or.inl h, fun _ => by decide⟩
  · by_cases g : b
    · rw [mn_z h g]; exact ⟨fun _ => Or.inr g, fun _ => by decide⟩
    · rw [mn_1 h g]; exact ⟨fun z => absurd z (by decide), fun z => (z.elim h g).elim⟩
theorem mn_min (a b c d : Prop) : (if mn c d < mn a b then mn c d else mn a b) = mn (a ∨ c) (b ∨ d) := by
  by_cases h1 : a
  · rw [mn_l h1, mn_l (Or.inl h1)]
    by_cases h2 : c
    · rw [mn_l h2]; rfl
    · by_cases h3 : d
      · rw [mn_z h2 h3]; rfl
      · rw [mn_1 h2 h3]; rfl
  · by_cases h2 : c
    · rw [mn_l h2, mn_l (Or.inr h2)]
      by_cases h3 : b
      · rw [mn_z h1 h3]; rfl
      · rw [mn_1 h1 h3]; rfl
    · have n : ¬ (a ∨ c) := fun z => z.elim h1 h2
      by_cases h3 : b
      · rw [mn_z h1 h3, mn_z n (Or.inl h3)]
        by_cases h4 : d
        · rw [mn_z h2 h4]; rfl
        · rw [mn_1 h2 h4]; rfl
      · rw [mn_1 h1 h3]
        by_cases h4 : d
        · rw [mn_z h2 h4, mn_z n (Or.inr h4)]; rfl
        · rw [mn_1 h2 h4, mn_1 n (fun z => z.elim h3 h4)]; rfl
theorem lp_mn {α : Type} {L : Nat → Int32 → Int32 → Option α} {lo c : Nat} {P R : Nat → Prop} {K : Int32 → Option α} (hend : ∀ n A B, L (n + 1) (mn A B) (nI c) = K (mn A B))
    (hst : ∀ n A B k, lo ≤ k → k < c → (A ∧ L (n + 1) (mn A B) (nI k) = K (mn A B)) ∨ L (n + 1) (mn A B) (nI k) = L n (mn (A ∨ P k) (B ∨ R k)) (nI (k + 1))) :
    ∀ n k A B, lo ≤ k → k ≤ c → c < k + n → L n (mn A B) (nI k) = K (mn (A ∨ ∃ j, k ≤ j ∧ j < c ∧ P j) (B ∨ ∃ j, k ≤ j ∧ j < c ∧ R j)) := by
  have ex : ∀ (F : Nat → Prop) (G : Prop) (k : Nat), k < c → (((G ∨ F k) ∨ ∃ j, k + 1 ≤ j ∧ j < c ∧ F j) ↔ (G ∨ ∃ j, k ≤ j ∧ j < c ∧ F j)) := by
    intro F G k hk
    constructor
    · rintro ((h | h) | ⟨j, a, b, h⟩)
      · exact Or.inl h
      · exact Or.inr ⟨k, Nat.le_refl k, hk, h⟩
      · exact Or.inr ⟨j, by omega, b, h⟩
    · rintro (h | ⟨j, a, b, h⟩)
      · exact Or.inl (Or.inl h)
      · by_cases y : j = k
        · subst y; exact Or.inl (Or.inr h)
        · exact Or.inr ⟨j, by omega, b, h⟩
  intro n
  induction n with
  | zero => intro k A B h0 h1 h2; omega
  | succ n ih =>
    intro k A B h0 h1 h2
    by_cases z : k = c
    · subst z; rw [hend]
      exact congrArg K (mn_c ⟨fun h => Or.inl h, fun h => h.elim id (fun ⟨j, a, b, _⟩ => by omega)⟩ ⟨fun h => Or.inl h, fun h => h.elim id (fun ⟨j, a, b, _⟩ => by omega)⟩)
    · rcases hst n A B k h0 (by omega) with ⟨h, e⟩ | e
      · rw [e, mn_l h, mn_l (Or.inl h)]
      · rw [e, ih (k + 1) _ _ (by omega) (by omega) (by omega)]
        exact congrArg K (mn_c (ex P A k (by omega)) (ex R B k (by omega)))
theorem or_ff {c : Nat} {F : Nat → Prop} : (False ∨ ∃ j, 0 ≤ j ∧ j < c ∧ F j) ↔ ∃ j, j < c ∧ F j := ⟨fun h => h.elim False.elim (fun ⟨j, _, b, h⟩ => ⟨j, b, h⟩), fun ⟨j, b, h⟩ => Or.inr ⟨j, Nat.zero_le j, b, h⟩⟩
theorem mn_ff : mn False False = 1 := mn_1 id id
theorem ctos_ev {w : SV} {c : Nat} {x y r : Int64} (S : Sds w c (eE w)) (hp : Plc x y) (hr : Rch r) : f_S_compareToSides w x y r = some (mn (∃ j, j < c ∧ dQ (cs w j) x.toInt y.toInt r.toInt = -1) (∃ j, j < c ∧ dQ (cs w j) x.toInt y.toInt r.toInt ≠ 1)) := by
  have hc := S.1
  unfold f_S_compareToSides
  have M := lp_mn (L := fun n a p => f_S_compareToSides_l6 w n x y r a p) (lo := 0) (c := c) (P := fun j => dQ (cs w j) x.toInt y.toInt r.toInt = -1) (R := fun j => dQ (cs w j) x.toInt y.toInt r.toInt ≠ 1) (K := some) (fun n A B => ?_) (fun n A B k h1 h2 => ?_) 64 0 False False (Nat.le_refl 0) (Nat.zero_le c) (by omega)
  · rw [mn_ff] at M
    exact M.trans (congrArg some (mn_c or_ff or_ff))
  · simp only [f_S_compareToSides_l6]
    rw [S.2.1, if_pos (nI_hle (by omega) (by omega) |>.mpr (Nat.le_refl c))]; rfl
  · simp only [f_S_compareToSides_l6]
    rw [S.2.1, if_neg (fun q => by rw [nI_hle (by omega) (by omega)] at q; omega)]
    by_cases h : A
    · rw [if_pos (mn_lt.mpr h)]; exact Or.inl ⟨h, rfl⟩
    · rw [if_neg (fun z => h (mn_lt.mp z)), cts_ev S h2 hp hr, Option.bind_some, Option.bind_some, nI_1]
      refine Or.inr ?_
      have dv := dcmp_val (sX w k).toInt (sY w k).toInt (sX w (eE w k)).toInt (sY w (eE w k)).toInt x.toInt y.toInt r.toInt
      rw [← mn_of dv, mn_min]
      rfl
/-! how often a ray crosses -/
noncomputable def nP (P : Prop) : Nat := @ite _ P (Classical.propDecidable P) 1 0
theorem nP_t {P : Prop} (h : P) : nP P = 1 := by unfold nP; exact if_pos h
theorem nP_f {P : Prop} (h : ¬ P) : nP P = 0 := by unfold nP; exact if_neg h
theorem nP_c {P Q : Prop} (h : P ↔ Q) : nP P = nP Q := by rw [propext h]
def sm (f : Nat → Nat) : Nat → Nat
  | 0 => 0
  | n + 1 => sm f n + f n
theorem sm_c {f g : Nat → Nat} : ∀ n, (∀ k, k < n → f k = g k) → sm f n = sm g n
  | 0, _ => rfl
  | n + 1, h => by unfold sm; rw [sm_c n (fun k hk => h k (by omega)), h n (by omega)]
def crf (s : Q4) (x y : Int) : Prop := (y < s.2.1 ∧ ¬ y < s.2.2.2 ∧ ¬ 0 < crs s.1 s.2.1 s.2.2.1 s.2.2.2 x y) ∨ (¬ y < s.2.1 ∧ y < s.2.2.2 ∧ 0 < crs s.1 s.2.1 s.2.2.1 s.2.2.2 x y)
theorem on_y {a b c d x y : Int} (h : crs a b c d x y = 0) (n : b ≠ d) (g : btw y b d) : onp a b c d x y := by
  have z : d - b ≠ 0 := by omega
  exact ⟨line_btw z (on_line h (crs_s a b c d)).symm (on_line (crs_e a b c d) h).symm g, g, h⟩
theorem crf_sw {s : Q4} {x y : Int} (h : ¬ onQ s x y) : crf (swQ s) x y ↔ crf s x y := by
  have e : crs s.2.2.1 s.2.2.2 s.1 s.2.1 x y = -crs s.1 s.2.1 s.2.2.1 s.2.2.2 x y := crs_sw _ _ _ _ _ _
  have n : (y < s.2.1 ∧ ¬ y < s.2.2.2) ∨ (¬ y < s.2.1 ∧ y < s.2.2.2) → crs s.1 s.2.1 s.2.2.1 s.2.2.2 x y ≠ 0 := fun q z => h (on_y z (by omega) (by unfold btw; omega))
  show ((y < s.2.2.2 ∧ ¬ y < s.2.1 ∧ ¬ 0 < crs s.2.2.1 s.2.2.2 s.1 s.2.1 x y) ∨ (¬ y < s.2.2.2 ∧ y < s.2.1 ∧ 0 < crs s.2.2.1 s.2.2.2 s.1 s.2.1 x y)) ↔ ((y < s.2.1 ∧ ¬ y < s.2.2.2 ∧ ¬ 0 < crs s.1 s.2.1 s.2.2.1 s.2.2.2 x y) ∨ (¬ y < s.2.1 ∧ y < s.2.2.2 ∧ 0 < crs s.1 s.2.1 s.2.2.1 s.2.2.2 x y))
  rw [e]
  generalize crs s.1 s.2.1 s.2.2.1 s.2.2.2 x y = o at *
  generalize s.2.1 = b at *
  generalize s.2.2.2 = d at *
  omega
theorem lp_par {α : Type} {L : Nat → Int32 → Int32 → Option α} {c : Nat} {f : Nat → Nat} {fin : Option α} (hend : ∀ n, L (n + 1) (bP (sm f c % 2 = 1)) (nI c) = fin)
    (hst : ∀ n k, k < c → L (n + 1) (bP (sm f k % 2 = 1)) (nI k) = L n (bP ((sm f k + f k) % 2 = 1)) (nI (k + 1))) : ∀ n k, k ≤ c → c < k + n → L n (bP (sm f k % 2 = 1)) (nI k) = fin := by
  intro n
  induction n with
  | zero => intro k h1 h2; omega
  | succ n ih =>
    intro k h1 h2
    by_cases z : k = c
    · subst z; exact hend n
    · rw [hst n k (by omega)]; exact ih (k + 1) (by omega) (by omega)
theorem par_keep {α : Type} (G : Int32 → α) {s : Nat} {P : Prop} (q : ¬ P) : G (bP (s % 2 = 1)) = G (bP ((s + nP P) % 2 = 1)) := by
  have e : s + nP P = s := by rw [nP_f q]; rfl
  rw [e]
theorem par_togg {α : Type} (G : Int32 → α) {s : Nat} {P : Prop} (q : P) : (if bP (s % 2 = 1) = 0 then G 1 else G 0) = G (bP ((s + nP P) % 2 = 1)) := by
  have e : s + nP P = s + 1 := by rw [nP_t q]
  rw [e]
  by_cases h : s % 2 = 1
  · rw [if_neg (fun z => bP_z.mp z h), bP_f (P := (s + 1) % 2 = 1) (by omega)]
  · rw [if_pos (bP_f h), bP_t (P := (s + 1) % 2 = 1) (by omega)]
theorem encl_ev {w : SV} {c : Nat} {x y : Int64} (S : Sds w c (eE w)) (hp : Plc x y) (hb : sB w = 0 ∨ sB w = 1) : f_S_encloses w x y = some (bP (sB w = 1 ∧ sm (fun k => nP (crf (cs w k) x.toInt y.toInt)) c % 2 = 1)) := by
  have hc := S.1
  unfold f_S_encloses
  rcases hb with b | b
  · rw [bP_f (fun z => absurd (b.symm.trans z.1) (by decide))]
    have st : ∀ n, f_S_encloses_l6 w (n + 1) x y 0 0 = some 0 := fun n => by
      simp only [f_S_encloses_l6]
      rw [if_pos b]; exact rb_0
    exact st 63
  · have z0 : bP (sm (fun k => nP (crf (cs w k) x.toInt y.toInt)) 0 % 2 = 1) = 0 := bP_f (by show ¬ 0 % 2 = 1; decide)
    have M := lp_par (fin := some (bP (sB w = 1 ∧ sm (fun k => nP (crf (cs w k) x.toInt y.toInt)) c % 2 = 1))) (f := fun k => nP (crf (cs w k) x.toInt y.toInt)) (c := c) (L := fun n a p => f_S_encloses_l6 w n x y a p) (fun n => ?_) (fun n k hk => ?_) 64 0 (Nat.zero_le c) (by omega)
    · rw [z0] at M; exact M
    · simp only [f_S_encloses_l6]
      rw [if_neg (by rw [b]; decide), S.2.1, if_pos (nI_hle (by omega) (by omega) |>.mpr (Nat.le_refl c))]
      refine (bP_rb _).trans (congrArg some (bP_c ⟨fun h => ⟨b, h⟩, fun h => h.2⟩))
    · obtain ⟨ee, he⟩ := S.2.2.2 k hk
      obtain ⟨z, f1, g1, -, -⟩ := cross_ev (x := x) (y := y) S hk hp
      have l1 : ld 48 (sE w) (nI k) = some (nI (eE w k)) := by rw [ld_nI (by omega) (by decide), ee]
      have l2 : ld 48 (sY w) (nI k) = some (sY w k) := ld_nI (by omega) (by decide)
      have l3 : ld 48 (sY w) (nI (eE w k)) = some (sY w (eE w k)) := ld_nI (by omega) (by decide)
      have t0 : (0 : Int64).toInt = 0 := by decide
      have hB : ¬ sB w = 0 := by rw [b]; decide
      have hle : ¬ nI c ≤ nI k := fun q => by rw [nI_hle (by omega) (by omega)] at q; omega
      have n10 : ¬ (1 : Int32) = 0 := by decide
      have n01 : ¬ (0 : Int32) = 1 := by decide
      have cf : crf (cs w k) x.toInt y.toInt ↔ ((y.toInt < (sY w k).toInt ∧ ¬ y.toInt < (sY w (eE w k)).toInt ∧ ¬ 0 < crs (sX w k).toInt (sY w k).toInt (sX w (eE w k)).toInt (sY w (eE w k)).toInt x.toInt y.toInt) ∨ (¬ y.toInt < (sY w k).toInt ∧ y.toInt < (sY w (eE w k)).toInt ∧ 0 < crs (sX w k).toInt (sY w k).toInt (sX w (eE w k)).toInt (sY w (eE w k)).toInt x.toInt y.toInt)) := Iff.rfl
      have keep := par_keep (fun a => f_S_encloses_l6 w n x y a (nI (k + 1))) (s := sm (fun k => nP (crf (cs w k) x.toInt y.toInt)) k) (P := crf (cs w k) x.toInt y.toInt)
      have togg := par_togg (fun a => f_S_encloses_l6 w n x y a (nI (k + 1))) (s := sm (fun k => nP (crf (cs w k) x.toInt y.toInt)) k) (P := crf (cs w k) x.toInt y.toInt)
      rw [cf] at keep togg
      by_cases h1 : (sY w k).toInt ≤ y.toInt
      · by_cases h2 : (sY w (eE w k)).toInt ≤ y.toInt
        · simp only [f_S_encloses_l6, f_S_encloses_j39, f_S_encloses_j63, f_S_encloses_j107, S.2.1, if_neg hB, if_neg hle, l1, l2, l3, Option.bind_some, lgc_le, nI_1, if_pos h1, if_pos h2, if_true]
          exact keep (by omega)
        · by_cases h3 : crs (sX w k).toInt (sY w k).toInt (sX w (eE w k)).toInt (sY w (eE w k)).toInt x.toInt y.toInt ≤ 0
          · simp only [f_S_encloses_l6, f_S_encloses_j39, f_S_encloses_j63, f_S_encloses_j90, f_S_encloses_j105, f_S_encloses_j107, S.2.1, if_neg hB, if_neg hle, l1, l2, l3, f1, Option.bind_some, lgc_le, t0, g1, nI_1, if_pos h1, if_neg h2, if_pos h3, if_true, if_neg n01, if_neg n10]
            exact keep (by omega)
          · simp only [f_S_encloses_l6, f_S_encloses_j39, f_S_encloses_j63, f_S_encloses_j90, f_S_encloses_j105, f_S_encloses_j107, S.2.1, if_neg hB, if_neg hle, l1, l2, l3, f1, Option.bind_some, lgc_le, t0, g1, nI_1, if_pos h1, if_neg h2, if_neg h3, if_true, if_neg n01, if_neg n10]
            exact togg (by omega)
      · by_cases h2 : (sY w (eE w k)).toInt ≤ y.toInt
        · by_cases h3 : crs (sX w k).toInt (sY w k).toInt (sX w (eE w k)).toInt (sY w (eE w k)).toInt x.toInt y.toInt ≤ 0
          · simp only [f_S_encloses_l6, f_S_encloses_j39, f_S_encloses_j63, f_S_encloses_j90, f_S_encloses_j105, f_S_encloses_j107, S.2.1, if_neg hB, if_neg hle, l1, l2, l3, f1, Option.bind_some, lgc_le, t0, g1, nI_1, if_neg h1, if_pos h2, if_pos h3, if_true, if_neg n01, if_neg n10]
            exact togg (by omega)
          · simp only [f_S_encloses_l6, f_S_encloses_j39, f_S_encloses_j63, f_S_encloses_j90, f_S_encloses_j105, f_S_encloses_j107, S.2.1, if_neg hB, if_neg hle, l1, l2, l3, f1, Option.bind_some, lgc_le, t0, g1, nI_1, if_neg h1, if_pos h2, if_neg h3, if_true, if_neg n01, if_neg n10]
            exact keep (by omega)
        · simp only [f_S_encloses_l6, f_S_encloses_j39, f_S_encloses_j63, f_S_encloses_j107, S.2.1, if_neg hB, if_neg hle, l1, l2, l3, Option.bind_some, lgc_le, nI_1, if_neg h1, if_neg h2, if_true]
          exact keep (by omega)
