/-! the class's whole state in the heap; keep -/
def inC (N0 : Nat) : Nat → Prop := fun x => x = N0 ∨ x = N0 + 1 ∨ N0 + 17 ≤ x
abbrev adB (bs : Nat → Nat) : Nat → Nat → Nat := fun i k => bs i + k
def SFS (D : va_G) (cL cI cO : ClassId) (N0 : Nat) (bs : Nat → Nat) (v : CV) (H : Heap) : Prop := SFH D cL cI cO N0 (N0 + 1) (adB bs) v H ∧ (∀ i, i < v.1 → N0 + 17 ≤ bs i) ∧ (∀ i j, i < j → j < v.1 → bs i + 4 ≤ bs j) ∧ N0 + 17 ≤ H.size
theorem va_D_of {A : Nat → Prop} {ws : va_W} (h1 : (ws.map Prod.fst).Pairwise (· < ·)) (h2 : ∀ a ∈ ws.map Prod.fst, A a) : va_D A ws := by
  have key : ∀ (i j : Nat) (p q : Nat × va_E), ws[i]? = some p → ws[j]? = some q → i < j → p.1 < q.1 := by
    intro i j p q hi hj hij
    obtain ⟨li, ei⟩ := List.getElem?_eq_some_iff.mp hi
    obtain ⟨lj, ej⟩ := List.getElem?_eq_some_iff.mp hj
    have := List.pairwise_iff_getElem.mp h1 i j (by simpa using li) (by simpa using lj) hij
    simpa [ei, ej] using this
  refine ⟨fun i j p q hi hj e => ?_, fun k q hk => h2 _ (List.mem_map_of_mem (List.mem_of_getElem? hk))⟩
  rcases Nat.lt_trichotomy i j with h | h | h
  · have := key i j p q hi hj h; omega
  · exact h
  · have := key j i q p hj hi h; omega
theorem va_F.mono {A B : Nat → Prop} {st t : State} (h : va_F A st t) (hAB : ∀ q, A q → B q) : va_F B st t := ⟨h.1, fun q h1 h2 => h.2 q h1 (fun z => h2 (hAB q z))⟩
def f_F_keep (v : CV) (w : SV) : Int32 × CV := if v.1 < 40 then (nI v.1, (v.1 + 1, va_up v.2 v.1 w)) else (-1, v)
def b_keep (bs : Nat → Nat) (v : CV) (b : Nat) : Nat → Nat := if v.1 < 40 then va_up bs v.1 b else bs
theorem keep_fun (bs : Nat → Nat) (n b : Nat) : va_up (fun i => if i < n then some (adB bs i 0) else none) n (some b) = (fun i => if i < n + 1 then some (adB (va_up bs n b) i 0) else none) := by
  funext i
  by_cases h : i = n
  · subst h; simp [va_up]
  · by_cases h2 : i < n
    · have h3 : i < n + 1 := by omega
      simp [va_up, h, h2, h3]
    · have h3 : ¬ i < n + 1 := by omega
      simp [va_up, h, h2, h3]
theorem dF_keep_0 : decode cF_keep 0 = .ok (.aload_n 0, 1) := by decide +kernel
theorem dF_keep_1 : decode cF_keep 1 = .ok (.getfield 15, 3) := by decide +kernel
theorem dF_keep_4 : decode cF_keep 4 = .ok (.bipush 40, 2) := by decide +kernel
theorem dF_keep_6 : decode cF_keep 6 = .ok (.if_icmp .lt 5, 3) := by decide +kernel
theorem dF_keep_9 : decode cF_keep 9 = .ok (.iconst (-1), 1) := by decide +kernel
theorem dF_keep_10 : decode cF_keep 10 = .ok (.ireturn, 1) := by decide +kernel
theorem dF_keep_11 : decode cF_keep 11 = .ok (.aload_n 0, 1) := by decide +kernel
theorem dF_keep_12 : decode cF_keep 12 = .ok (.getfield 11, 3) := by decide +kernel
theorem dF_keep_15 : decode cF_keep 15 = .ok (.aload_n 0, 1) := by decide +kernel
theorem dF_keep_16 : decode cF_keep 16 = .ok (.getfield 15, 3) := by decide +kernel
theorem dF_keep_19 : decode cF_keep 19 = .ok (.aload_n 1, 1) := by decide +kernel
theorem dF_keep_20 : decode cF_keep 20 = .ok (.aastore, 1) := by decide +kernel
theorem dF_keep_21 : decode cF_keep 21 = .ok (.aload_n 0, 1) := by decide +kernel
theorem dF_keep_22 : decode cF_keep 22 = .ok (.dup, 1) := by decide +kernel
theorem dF_keep_23 : decode cF_keep 23 = .ok (.getfield 15, 3) := by decide +kernel
theorem dF_keep_26 : decode cF_keep 26 = .ok (.iconst 1, 1) := by decide +kernel
theorem dF_keep_27 : decode cF_keep 27 = .ok (.iadd, 1) := by decide +kernel
theorem dF_keep_28 : decode cF_keep 28 = .ok (.putfield 15, 3) := by decide +kernel
theorem dF_keep_31 : decode cF_keep 31 = .ok (.aload_n 0, 1) := by decide +kernel
theorem dF_keep_32 : decode cF_keep 32 = .ok (.getfield 15, 3) := by decide +kernel
theorem dF_keep_35 : decode cF_keep 35 = .ok (.iconst 1, 1) := by decide +kernel
theorem dF_keep_36 : decode cF_keep 36 = .ok (.isub, 1) := by decide +kernel
theorem dF_keep_37 : decode cF_keep 37 = .ok (.ireturn, 1) := by decide +kernel
set_option maxHeartbeats 1000000 in
set_option maxRecDepth 100000 in
theorem k_F_keep (l : Launch) (dC : Nat → ClassId) (dI : Nat → Nat → Nat) (cL cI cO : ClassId) (N0 : Nat) (bs : Nat → Nat) (v : CV) (b : Nat) (w : SV) : Met l yF_keep wsF_keep ({ frames := 0, cells := 0, slots := 0, locals := 0 }) (rd_Pc [.ref N0, .ref b] (fun H => SFS (dC, dI) cL cI cO N0 bs v H ∧ va_P (dC, dI) cls3 (shW cL cI b (b + 1) (b + 2) (b + 3) w) H ∧ (∀ i, i < v.1 → bs i + 4 ≤ b) ∧ N0 + 17 ≤ b) (dC, dI) cls3 (ty3 cL cI cO)) (al_Q (some (.int (f_F_keep v w).1)) (fun H => SFS (dC, dI) cL cI cO N0 (b_keep bs v b) (f_F_keep v w).2 H) (inC N0)) 0 0 (inC N0) := by
  refine Met.ofW (cc := cF_keep) (maxL := 2) (ret := (some .int)) (by decide) rfl ?_
  intro p e s m args below meth c s₁ B hml hv
  obtain ⟨rfl, ⟨⟨⟨hsf, hsh, hn⟩, hb1, hb2, hsz⟩, hPw, hbb, hNb⟩, hK⟩ := hv
  have hx := B.exec
  have hb := B.bytes
  have hr := B.returns
  have hw : ∀ w ∈ wG, w.before ([.ref N0, .ref b] : List Value).toArray s = true := fun w hq => atoms_spec (ws := wsF_keep) B.pre w (List.mem_cons_of_mem _ hq)
  have hown : s.vm.findClass R_F = some m.cls := findClass_of_methodNamed B.named
  have hlocks := B.notSynchronized
  have hP : va_P (dC, dI) cls3 (sfW cO N0 (N0 + 1) (adB bs) v ++ shW cL cI b (b + 1) (b + 2) (b + 3) w) s.heap := hsf.app hPw
  have hD : va_D (fun x => x = N0 ∨ x = N0 + 1 ∨ b ≤ x) (sfW cO N0 (N0 + 1) (adB bs) v ++ shW cL cI b (b + 1) (b + 2) (b + 3) w) := va_D_of (by show ([N0, N0 + 1, b, b + 1, b + 2, b + 3] : List Nat).Pairwise (· < ·); simp; omega) (by intro a ha; have ha : a ∈ ([N0, N0 + 1, b, b + 1, b + 2, b + 3] : List Nat) := ha; simp at ha; show a = N0 ∨ a = N0 + 1 ∨ b ≤ a; omega)
  have hS : va_S (fun x => x = N0 ∨ x = N0 + 1 ∨ b ≤ x) s.heap s.heap [] := va_S.rf
  have hAC : ∀ q, (fun x => x = N0 ∨ x = N0 + 1 ∨ b ≤ x) q → inC N0 q := fun q h => by rcases h with h | h | h; exact Or.inl h; exact Or.inr (Or.inl h); exact Or.inr (Or.inr (by omega))
  have hl := lv_entry ([.ref N0, .ref b] : List Value) (n := 2) (Nat.le_of_ble_eq_true rfl)
  rw [lg_entry_eq]
  generalize (lg_sl ([.ref N0, .ref b] : List Value) ++ List.replicate (2 - (lg_sl ([.ref N0, .ref b] : List Value)).length) Slot.unset).toArray = ls at hl ⊢
  have hl : lv_has ls 2 [(0, .ref N0), (1, .ref b)] := hl
  refine lv_aload_n hx hb dF_keep_0 rfl (lv_at hl 0 rfl) ?_
  refine va_get (D := (dC, dI)) (ci := 1) (v := .int (nI v.1)) (C := R_F) (T := T_F) (N := 2) hx hb hw in_F hown hK hP 0 rfl rfl 1 (by decide) (hw _ w_25) (fun _ h9 => h9) rfl dF_keep_1 ?_
  refine lv_bipush (v := 40) hx hb dF_keep_4 (by decide) ?_
  have h40 : nI v.1 < 40 ↔ v.1 < 40 := nI_ltI (a := v.1) (b := 40) (by omega) (by decide)
  refine lv_icmp_lt (tgt := 11) hx hb dF_keep_6 (by decide) (fun c1 => ?_) (fun c1 => ?_)
  · have c2 : v.1 < 40 := h40.mp c1
    have ek : f_F_keep v w = (nI v.1, (v.1 + 1, va_up v.2 v.1 w)) := if_pos c2
    have eb : b_keep bs v b = va_up bs v.1 b := if_pos c2
    rw [ek, eb]
    have hcl : (nI v.1).toNatClampNeg = v.1 := nI_clamp (by omega)
    refine lv_aload_n hx hb dF_keep_11 rfl (lv_at hl 0 rfl) ?_
    refine va_get (D := (dC, dI)) (ci := 1) (v := .ref (N0 + 1)) (C := R_F) (T := T_F) (N := 2) hx hb hw in_F hown hK hP 0 rfl rfl 0 (by decide) (hw _ w_24) (fun _ h9 => h9) rfl dF_keep_12 ?_
    refine lv_aload_n hx hb dF_keep_15 rfl (lv_at hl 0 rfl) ?_
    refine va_get (D := (dC, dI)) (ci := 1) (v := .int (nI v.1)) (C := R_F) (T := T_F) (N := 2) hx hb hw in_F hown hK hP 0 rfl rfl 1 (by decide) (hw _ w_25) (fun _ h9 => h9) rfl dF_keep_16 ?_
    refine lv_aload_n hx hb dF_keep_19 rfl (lv_at hl 1 rfl) ?_
    refine va_astq hx hb hK hP hD hS 1 2 2 0 rfl rfl rfl rfl (vp_in_nI c2 (by decide)) dF_keep_20 (fun H locs hP hD hS => ?_)
    rw [hcl] at hP hD
    have hP : va_P (dC, dI) cls3 [(N0, .inr (1, [.ref (N0 + 1), .int (nI v.1)])), (N0 + 1, .inl (cO, 40, .inr (.inr (.inr (.inr (va_up (fun i => if i < v.1 then some (adB bs i 0) else none) v.1 (some b))))))), (b, .inr (0, [.int (sF w), .int (sB w), .long (sR w), .ref (b + 1), .ref (b + 2), .ref (b + 3), .int (sN w), .int (sO w)])), (b + 1, .inl (cL, 48, .inr (.inl (sX w)))), (b + 2, .inl (cL, 48, .inr (.inl (sY w)))), (b + 3, .inl (cI, 48, .inl (sE w)))] H := hP
    have hD : va_D (fun x => x = N0 ∨ x = N0 + 1 ∨ b ≤ x) [(N0, .inr (1, [.ref (N0 + 1), .int (nI v.1)])), (N0 + 1, .inl (cO, 40, .inr (.inr (.inr (.inr (va_up (fun i => if i < v.1 then some (adB bs i 0) else none) v.1 (some b))))))), (b, .inr (0, [.int (sF w), .int (sB w), .long (sR w), .ref (b + 1), .ref (b + 2), .ref (b + 3), .int (sN w), .int (sO w)])), (b + 1, .inl (cL, 48, .inr (.inl (sX w)))), (b + 2, .inl (cL, 48, .inr (.inl (sY w)))), (b + 3, .inl (cI, 48, .inl (sE w)))] := hD
    refine lv_aload_n hx hb dF_keep_21 rfl (lv_at hl 0 rfl) ?_
    refine lv_dup hx hb dF_keep_22 rfl ?_
    refine va_get (D := (dC, dI)) (ci := 1) (v := .int (nI v.1)) (C := R_F) (T := T_F) (N := 2) hx hb hw in_F hown hK hP 0 rfl rfl 1 (by decide) (hw _ w_25) (fun _ h9 => h9) rfl dF_keep_23 ?_
    refine lv_iconst (v := 1) hx hb dF_keep_26 (by decide) ?_
    refine lv_iadd hx hb dF_keep_27 ?_
    refine va_put (D := (dC, dI)) (ci := 1) (v := .int (nI v.1 + 1)) (ty := .int) (C := R_F) (T := T_F) (N := 2) hx hb hw in_F t_F t_F_ok nm_F hown hK hP hD hS 0 rfl rfl 1 (by decide) (hw _ w_25) (fun _ h9 => h9) rfl (by decide +kernel) rfl rfl (Nat.le_of_ble_eq_true rfl) dF_keep_28 (fun H locs hP hD hS => ?_)
    have hP : va_P (dC, dI) cls3 [(N0, .inr (1, [.ref (N0 + 1), .int (nI v.1 + 1)])), (N0 + 1, .inl (cO, 40, .inr (.inr (.inr (.inr (va_up (fun i => if i < v.1 then some (adB bs i 0) else none) v.1 (some b))))))), (b, .inr (0, [.int (sF w), .int (sB w), .long (sR w), .ref (b + 1), .ref (b + 2), .ref (b + 3), .int (sN w), .int (sO w)])), (b + 1, .inl (cL, 48, .inr (.inl (sX w)))), (b + 2, .inl (cL, 48, .inr (.inl (sY w)))), (b + 3, .inl (cI, 48, .inl (sE w)))] H := hP
    refine lv_aload_n hx hb dF_keep_31 rfl (lv_at hl 0 rfl) ?_
    refine va_get (D := (dC, dI)) (ci := 1) (v := .int (nI v.1 + 1)) (C := R_F) (T := T_F) (N := 2) hx hb hw in_F hown hK hP 0 rfl rfl 1 (by decide) (hw _ w_25) (fun _ h9 => h9) rfl dF_keep_32 ?_
    refine lv_iconst (v := 1) hx hb dF_keep_35 (by decide) ?_
    refine lv_isub hx hb dF_keep_36 ?_
    have er : nI v.1 + 1 - 1 = nI v.1 := by rw [nI_1]; exact nI_pred v.1
    rw [er]
    rw [nI_1, keep_fun] at hP
    have hG : SFS (dC, dI) cL cI cO N0 (va_up bs v.1 b) (v.1 + 1, va_up v.2 v.1 w) H := by
      refine ⟨⟨hP.sub [0, 1] rfl, fun i hi => ?_, c2⟩, fun i hi => ?_, fun i j hij hj => ?_, Nat.le_trans hsz hS.1⟩
      · by_cases e : i = v.1
        · subst e
          show va_P (dC, dI) cls3 (shW cL cI (va_up bs v.1 b v.1 + 0) (va_up bs v.1 b v.1 + 1) (va_up bs v.1 b v.1 + 2) (va_up bs v.1 b v.1 + 3) (va_up v.2 v.1 w v.1)) H
          rw [show va_up bs v.1 b v.1 = b by simp [va_up], show va_up v.2 v.1 w v.1 = w by simp [va_up]]
          exact hP.sub [2, 3, 4, 5] rfl
        · have hi2 : i < v.1 := by have : i < v.1 + 1 := hi; omega
          show va_P (dC, dI) cls3 (shW cL cI (va_up bs v.1 b i + 0) (va_up bs v.1 b i + 1) (va_up bs v.1 b i + 2) (va_up bs v.1 b i + 3) (va_up v.2 v.1 w i)) H
          rw [show va_up bs v.1 b i = bs i by simp [va_up, e], show va_up v.2 v.1 w i = v.2 i by simp [va_up, e]]
          refine keepP (hsh i hi2) hS (fun k q hk hq => ?_)
          have h1 := hbb i hi2
          have h2 := hb1 i hi2
          have h3 : q.1 ∈ ([bs i + 0, bs i + 1, bs i + 2, bs i + 3] : List Nat) := List.mem_map_of_mem (f := Prod.fst) (List.mem_of_getElem? hk)
          simp at h3
          have hq : q.1 = N0 ∨ q.1 = N0 + 1 ∨ b ≤ q.1 := hq
          omega
      · by_cases e : i = v.1
        · subst e; show N0 + 17 ≤ va_up bs v.1 b v.1; simp [va_up]; exact hNb
        · have hi2 : i < v.1 := by have : i < v.1 + 1 := hi; omega
          show N0 + 17 ≤ va_up bs v.1 b i; simp [va_up, e]; exact hb1 i hi2
      · have hj : j < v.1 + 1 := hj
        have hi2 : i < v.1 := by omega
        show va_up bs v.1 b i + 4 ≤ va_up bs v.1 b j
        rw [show va_up bs v.1 b i = bs i by simp [va_up, show i ≠ v.1 by omega]]
        by_cases e : j = v.1
        · subst e; rw [show va_up bs v.1 b v.1 = b by simp [va_up]]; exact hbb i hi2
        · rw [show va_up bs v.1 b j = bs j by simp [va_up, e]]; exact hb2 i j hij (by omega)
    exact W.iret hx hb hr (fun t ht hW => ⟨rfl, by rw [ht]; exact hG, (hS.F ht).mono hAC⟩) (fun q hq => hAC _ (hS.2.2 q hq)) dF_keep_37
  · have c2 : ¬ v.1 < 40 := fun z => c1 (h40.mpr z)
    have ek : f_F_keep v w = (-1, v) := if_neg c2
    have eb : b_keep bs v b = bs := if_neg c2
    rw [ek, eb]
    refine lv_iconst (v := -1) hx hb dF_keep_9 (by decide) ?_
    exact W.iret hx hb hr (fun t ht hW => ⟨rfl, by rw [ht]; exact ⟨⟨hsf, hsh, hn⟩, hb1, hb2, hsz⟩, (hS.F ht).mono hAC⟩) (fun q hq => hAC _ (hS.2.2 q hq)) dF_keep_10

