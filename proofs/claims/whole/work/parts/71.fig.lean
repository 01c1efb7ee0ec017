/-! the reference's pieces against the class's sides -/
theorem incore_ev {mv : MV} {h i m : Nat} {f : Nat → Sg} {x y : Int64} {A : Prop} (hh : h < 2) (hm : m ≤ 48) (hs : md_size mv h = nI m) (hf : ∀ j, j < m → sg mv (48 * h + j) = f j) (hpl : ∀ j, j < m → Plc (f j).1 (f j).2.1 ∧ Plc (f j).2.2.1 (f j).2.2.2) (hp : Plc x y) (ha : f_M_hasArea mv (nI i) = some (bP A)) : f_M_isInCore mv (nI h) (nI i) x y = some (bP ((∃ j, j < m ∧ onQ (toQ (f j)) x.toInt y.toInt) ∨ (A ∧ sm (fun j => nP (crf (toQ (f j)) x.toInt y.toInt)) m % 2 = 1))) := by
  have sz : ld 2 (md_size mv) (nI h) = some (nI m) := by rw [ld_nI hh (by decide), hs]
  have e0 : ∀ j, (48 : Int32) * nI h + nI j = nI (48 * h + j) := fun j => by rw [show (48 : Int32) = nI 48 from rfl, pk_mul, nI_add]
  have L : ∀ n k, k ≤ m → m < k + n → ((∃ j, k ≤ j ∧ j < m ∧ onQ (toQ (f j)) x.toInt y.toInt) ∧ f_M_isInCore_l9 mv n (nI h) (nI i) x y (bP (sm (fun j => nP (crf (toQ (f j)) x.toInt y.toInt)) k % 2 = 1)) (nI (48 * h + k)) = some 1) ∨ ((¬ ∃ j, k ≤ j ∧ j < m ∧ onQ (toQ (f j)) x.toInt y.toInt) ∧ f_M_isInCore_l9 mv n (nI h) (nI i) x y (bP (sm (fun j => nP (crf (toQ (f j)) x.toInt y.toInt)) k % 2 = 1)) (nI (48 * h + k)) = some (bP (A ∧ sm (fun j => nP (crf (toQ (f j)) x.toInt y.toInt)) m % 2 = 1))) := by
    intro n
    induction n with
    | zero => intro k h1 h2; omega
    | succ n ih =>
      intro k h1 h2
      by_cases z : k = m
      · subst z
        refine Or.inr ⟨fun ⟨j, a, b, _⟩ => by omega, ?_⟩
        simp only [f_M_isInCore_l9]
        rw [sz, Option.bind_some, e0, if_pos (nI_hle (by omega) (by omega) |>.mpr (Nat.le_refl _)), ha, Option.bind_some]
        unfold f_M_isInCore_j210 f_M_isInCore_j211
        by_cases q : sm (fun j => nP (crf (toQ (f j)) x.toInt y.toInt)) k % 2 = 1
        · rw [if_neg (fun z => bP_z.mp z q)]
          by_cases a : A
          · rw [if_neg (fun z => bP_z.mp z a), bP_t ⟨a, q⟩]; exact rb_1
          · rw [if_pos (bP_f a), bP_f (fun z => a z.1)]; exact rb_0
        · rw [if_pos (bP_f q), bP_f (fun z => q z.2)]; exact rb_0
      · have hk : k < m := by omega
        obtain ⟨p1, p2⟩ := hpl k hk
        have fk := hf k hk
        have ax : ld 96 (md_ax mv) (nI (48 * h + k)) = some (f k).1 := by rw [ld_nI (by omega) (by decide), ← fk]; rfl
        have ay : ld 96 (md_ay mv) (nI (48 * h + k)) = some (f k).2.1 := by rw [ld_nI (by omega) (by decide), ← fk]; rfl
        have bx : ld 96 (md_bx mv) (nI (48 * h + k)) = some (f k).2.2.1 := by rw [ld_nI (by omega) (by decide), ← fk]; rfl
        have by' : ld 96 (md_by mv) (nI (48 * h + k)) = some (f k).2.2.2 := by rw [ld_nI (by omega) (by decide), ← fk]; rfl
        have nx : f_M_isInCore_l9 mv (n + 1) (nI h) (nI i) x y (bP (sm (fun j => nP (crf (toQ (f j)) x.toInt y.toInt)) k % 2 = 1)) (nI (48 * h + k)) = if bP (onQ (toQ (f k)) x.toInt y.toInt) = 0 then f_M_isInCore_l9 mv n (nI h) (nI i) x y (bP (sm (fun j => nP (crf (toQ (f j)) x.toInt y.toInt)) (k + 1) % 2 = 1)) (nI (48 * h + (k + 1))) else some 1 := by
          have hle : ¬ nI (48 * h + m) ≤ nI (48 * h + k) := fun q => by rw [nI_hle (by omega) (by omega)] at q; omega
          have on := ison_ev hp p1 p2
          have tu := turn_ev p1 p2 hp
          by_cases o : onQ (toQ (f k)) x.toInt y.toInt
          · have o' : ¬ bP (onp (f k).1.toInt (f k).2.1.toInt (f k).2.2.1.toInt (f k).2.2.2.toInt x.toInt y.toInt) = 0 := fun z => bP_z.mp z o
            rw [if_neg (fun z => bP_z.mp z o)]
            simp only [f_M_isInCore_l9, sz, e0, if_neg hle, ax, ay, bx, by', Option.bind_some, on, if_neg o', rb_1]
          · have o' : bP (onp (f k).1.toInt (f k).2.1.toInt (f k).2.2.1.toInt (f k).2.2.2.toInt x.toInt y.toInt) = 0 := bP_f o
            rw [if_pos (bP_f o)]
            have n10 : ¬ (1 : Int32) = 0 := by decide
            have n01 : ¬ (0 : Int32) = 1 := by decide
            have e1 : nI (48 * h + k) + 1 = nI (48 * h + (k + 1)) := by rw [nI_1, Nat.add_assoc]
            have sg0 : (cmpZ (crs (f k).1.toInt (f k).2.1.toInt (f k).2.2.1.toInt (f k).2.2.2.toInt x.toInt y.toInt) 0 ≤ 0) ↔ crs (f k).1.toInt (f k).2.1.toInt (f k).2.2.1.toInt (f k).2.2.2.toInt x.toInt y.toInt ≤ 0 := by
              rw [← cmp_le]
              rcases cmp_val (crs (f k).1.toInt (f k).2.1.toInt (f k).2.2.1.toInt (f k).2.2.2.toInt x.toInt y.toInt) 0 with e | e | e <;> rw [e] <;> decide
            have cf : crf (toQ (f k)) x.toInt y.toInt ↔ ((y.toInt < (f k).2.1.toInt ∧ ¬ y.toInt < (f k).2.2.2.toInt ∧ ¬ 0 < crs (f k).1.toInt (f k).2.1.toInt (f k).2.2.1.toInt (f k).2.2.2.toInt x.toInt y.toInt) ∨ (¬ y.toInt < (f k).2.1.toInt ∧ y.toInt < (f k).2.2.2.toInt ∧ 0 < crs (f k).1.toInt (f k).2.1.toInt (f k).2.2.1.toInt (f k).2.2.2.toInt x.toInt y.toInt)) := Iff.rfl
            have keep := par_keep (fun a => f_M_isInCore_l9 mv n (nI h) (nI i) x y a (nI (48 * h + (k + 1)))) (s := sm (fun j => nP (crf (toQ (f j)) x.toInt y.toInt)) k) (P := crf (toQ (f k)) x.toInt y.toInt)
            have togg := par_togg (fun a => f_M_isInCore_l9 mv n (nI h) (nI i) x y a (nI (48 * h + (k + 1)))) (s := sm (fun j => nP (crf (toQ (f j)) x.toInt y.toInt)) k) (P := crf (toQ (f k)) x.toInt y.toInt)
            rw [cf] at keep togg
            show _ = f_M_isInCore_l9 mv n (nI h) (nI i) x y (bP ((sm (fun j => nP (crf (toQ (f j)) x.toInt y.toInt)) k + nP (crf (toQ (f k)) x.toInt y.toInt)) % 2 = 1)) (nI (48 * h + (k + 1)))
            by_cases h1 : (f k).2.1.toInt ≤ y.toInt
            · by_cases h2 : (f k).2.2.2.toInt ≤ y.toInt
              · simp only [f_M_isInCore_l9, f_M_isInCore_j82, f_M_isInCore_j100, f_M_isInCore_j187, sz, e0, if_neg hle, ax, ay, bx, by', Option.bind_some, on, if_pos o', lgc_le, if_pos h1, if_pos h2, if_true, e1]
                exact keep (by omega)
              · have h4 : ¬ (f k).2.2.2.toInt ≤ (f k).2.1.toInt := by omega
                by_cases h3 : crs (f k).1.toInt (f k).2.1.toInt (f k).2.2.1.toInt (f k).2.2.2.toInt x.toInt y.toInt ≤ 0
                · simp only [f_M_isInCore_l9, f_M_isInCore_j82, f_M_isInCore_j100, f_M_isInCore_j145, f_M_isInCore_j172, f_M_isInCore_j185, f_M_isInCore_j187, sz, e0, if_neg hle, ax, ay, bx, by', Option.bind_some, on, if_pos o', lgc_le, if_pos h1, if_neg h2, if_neg n01, tu, sg0, if_pos h3, if_neg h4, if_true, e1]
                  exact keep (by omega)
                · simp only [f_M_isInCore_l9, f_M_isInCore_j82, f_M_isInCore_j100, f_M_isInCore_j145, f_M_isInCore_j172, f_M_isInCore_j185, f_M_isInCore_j187, sz, e0, if_neg hle, ax, ay, bx, by', Option.bind_some, on, if_pos o', lgc_le, if_pos h1, if_neg h2, if_neg n01, tu, sg0, if_neg h3, if_neg h4, if_true, e1]
                  exact togg (by omega)
            · by_cases h2 : (f k).2.2.2.toInt ≤ y.toInt
              · have h4 : (f k).2.2.2.toInt ≤ (f k).2.1.toInt := by omega
                by_cases h3 : crs (f k).1.toInt (f k).2.1.toInt (f k).2.2.1.toInt (f k).2.2.2.toInt x.toInt y.toInt ≤ 0
                · simp only [f_M_isInCore_l9, f_M_isInCore_j82, f_M_isInCore_j100, f_M_isInCore_j145, f_M_isInCore_j172, f_M_isInCore_j185, f_M_isInCore_j187, sz, e0, if_neg hle, ax, ay, bx, by', Option.bind_some, on, if_pos o', lgc_le, if_neg h1, if_pos h2, if_neg n10, tu, sg0, if_pos h3, if_pos h4, if_true, e1]
                  exact togg (by omega)
                · simp only [f_M_isInCore_l9, f_M_isInCore_j82, f_M_isInCore_j100, f_M_isInCore_j145, f_M_isInCore_j172, f_M_isInCore_j185, f_M_isInCore_j187, sz, e0, if_neg hle, ax, ay, bx, by', Option.bind_some, on, if_pos o', lgc_le, if_neg h1, if_pos h2, if_neg n10, tu, sg0, if_neg h3, if_pos h4, if_true, e1]
                  exact keep (by omega)
              · simp only [f_M_isInCore_l9, f_M_isInCore_j82, f_M_isInCore_j100, f_M_isInCore_j187, sz, e0, if_neg hle, ax, ay, bx, by', Option.bind_some, on, if_pos o', lgc_le, if_neg h1, if_neg h2, if_true, e1]
                exact keep (by omega)
        rw [nx]
        by_cases o : onQ (toQ (f k)) x.toInt y.toInt
        · rw [if_neg (fun z => bP_z.mp z o)]; exact Or.inl ⟨⟨k, Nat.le_refl k, hk, o⟩, rfl⟩
        · rw [if_pos (bP_f o)]
          rcases ih (k + 1) (by omega) (by omega) with ⟨⟨j, a, b, q⟩, e⟩ | ⟨q, e⟩
          · exact Or.inl ⟨⟨j, by omega, b, q⟩, e⟩
          · refine Or.inr ⟨fun ⟨j, a, b, r⟩ => ?_, e⟩
            by_cases y : j = k
            · subst y; exact o r
            · exact q ⟨j, by omega, b, r⟩
  unfold f_M_isInCore
  have M := L 64 0 (Nat.zero_le m) (by omega)
  rw [show bP (sm (fun j => nP (crf (toQ (f j)) x.toInt y.toInt)) 0 % 2 = 1) = 0 from bP_f (by show ¬ 0 % 2 = 1; decide), Nat.add_zero, ← pk_mul, show nI 48 = (48 : Int32) from rfl] at M
  rcases M with ⟨⟨j, -, b, q⟩, e⟩ | ⟨q, e⟩
  · rw [e, bP_t (Or.inl ⟨j, b, q⟩)]
  · rw [e]; exact congrArg some (bP_c ⟨fun z => Or.inr z, fun z => z.elim (fun ⟨j, b, r⟩ => absurd ⟨j, Nat.zero_le j, b, r⟩ q) id⟩)
/-- closed rings -/
def Rgs (w : SV) (c : Nat) : Prop := ∃ (g : Nat) (B : Nat → Nat), B 0 = 0 ∧ B g = c ∧ (∀ r, r < g → B r < B (r + 1)) ∧ ∀ r k, r < g → B r ≤ k → k < B (r + 1) → eE w k = bh k (B r) (B (r + 1))
def Fig (w : SV) (c m : Nat) (f : Nat → Sg) : Prop := Sds w c (eE w) ∧ 0 < c ∧ m ≤ 48 ∧ (∀ j, j < m → Plc (f j).1 (f j).2.1 ∧ Plc (f j).2.2.1 (f j).2.2.2) ∧ (∀ k, k < c → ∃ j, j < m ∧ sub4 (cs w k) (toQ (f j))) ∧ (∀ j, j < m → ∃ k, k < c ∧ sub4 (toQ (f j)) (cs w k)) ∧
  (sB w = 0 ∨ (sB w = 1 ∧ Rgs w c ∧ ∀ x y, (∀ k, k < c → ¬ onQ (cs w k) x y) → sm (fun k => nP (crf (cs w k) x y)) c % 2 = sm (fun j => nP (crf (toQ (f j)) x y)) m % 2))
theorem area_ev {v : CV} {mv : MV} {i : Nat} (h : Rel v mv) (hi : i < v.1) : f_M_hasArea mv (nI i) = some (bP (sB (v.2 i) = 1)) := by
  have h40 : i < 40 := by have := h.1; omega
  obtain ⟨lk, -, -, -⟩ := kind_ld h hi
  obtain ⟨c, o, -, -, -, -, -, -, -, -, hh⟩ := h.2.2 i hi
  obtain ⟨x0, y0⟩ := mx_ev (mv := mv) (i := i) (k := 0) h40 (by decide)
  obtain ⟨x1, y1⟩ := mx_ev (mv := mv) (i := i) (k := 1) h40 (by decide)
  have x0 : f_M_x mv (nI i) 0 = some (qX (mvS mv i) 0) := x0
  have y0 : f_M_y mv (nI i) 0 = some (qY (mvS mv i) 0) := y0
  have x1 : f_M_x mv (nI i) 1 = some (qX (mvS mv i) 1) := x1
  have y1 : f_M_y mv (nI i) 1 = some (qY (mvS mv i) 1) := y1
  unfold f_M_hasArea f_M_hasArea_j52 f_M_hasArea_j56 f_M_hasArea_j57
  rw [lk, Option.bind_some, rb_1, rb_0]
  rcases hh with ⟨f, -, -, r⟩ | ⟨f, -, r⟩ | ⟨f, r⟩ | ⟨f, -, r⟩
  · rw [f, if_neg (by decide), Option.bind_some, if_neg (by decide), bP_f (by rw [r.1]; decide)]
  · rw [f, if_neg (by decide), Option.bind_some, if_pos rfl, x0, x1, y0, y1]
    simp only [Option.bind_some, lgc_ge]
    obtain ⟨-, -, -, -, lx, ly, c3⟩ := r
    rcases c3 with ⟨n1, n2, b, -⟩ | ⟨q, -, b, -⟩ | ⟨q1, q2, b, -⟩
    · have m1 : (qX (mvS mv i) 0).toInt ≠ (qX (mvS mv i) 1).toInt := fun z => n1 (Int64.toInt_inj.mp z)
      have m2 : (qY (mvS mv i) 0).toInt ≠ (qY (mvS mv i) 1).toInt := fun z => n2 (Int64.toInt_inj.mp z)
      rw [if_neg (by omega), if_neg (by omega), bP_t b]
    · rw [bP_f (by rw [b]; decide)]
      rcases q with q | q
      · rw [if_pos (by rw [q]; exact Int.le_refl _)]
      · rw [if_pos (show (qY (mvS mv i) 1).toInt ≤ (qY (mvS mv i) 0).toInt by rw [q]; exact Int.le_refl _)]
        split <;> rfl
    · rw [bP_f (by rw [b]; decide), if_pos (by rw [q1]; exact Int.le_refl _)]
  · rw [f, if_pos rfl, bP_t r.1]
  · rw [f, if_neg (by decide), Option.bind_some, if_neg (by decide), bP_f (by rw [r.1]; decide)]
