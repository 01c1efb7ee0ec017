/-! ShapeForms: what is needed, both ways, laid by program -/
theorem dF_needPlace_0 : decode cF_needPlace 0 = .ok (.lload_n 0, 1) := by decide +kernel
theorem dF_needPlace_1 : decode cF_needPlace 1 = .ok (.lload_n 2, 1) := by decide +kernel
theorem dF_needPlace_2 : decode cF_needPlace 2 = .ok (.invokestatic 143, 3) := by decide +kernel
theorem dF_needPlace_5 : decode cF_needPlace 5 = .ok (.ifCond .ne 13, 3) := by decide +kernel
theorem dF_needPlace_8 : decode cF_needPlace 8 = .ok (.new 40, 3) := by decide +kernel
theorem dF_needPlace_11 : decode cF_needPlace 11 = .ok (.dup, 1) := by decide +kernel
theorem dF_needPlace_12 : decode cF_needPlace 12 = .ok (.ldc 146, 2) := by decide +kernel
theorem dF_needPlace_14 : decode cF_needPlace 14 = .ok (.invokespecial 44, 3) := by decide +kernel
theorem dF_needPlace_17 : decode cF_needPlace 17 = .ok (.athrow, 1) := by decide +kernel
theorem dF_needPlace_18 : decode cF_needPlace 18 = .ok (.return_, 1) := by decide +kernel
def f_F_needPlace (x0 : Int64) (x2 : Int64) : Option Unit := (f_F_isPlace x0 x2).bind fun u1 => (if u1 = 0 then none else some ())
set_option maxHeartbeats 4000000 in
set_option maxRecDepth 100000 in
theorem k_F_needPlace (l : Launch) (dC : Nat → ClassId) (dI : Nat → Nat → Nat) (cL cI : ClassId) (x0 : Int64) (x2 : Int64) (r : Unit) (h : f_F_needPlace x0 x2 = some r) : Met l yF_needPlace wsF_needPlace ({ frames := 1, cells := 0, slots := 0, locals := 23 }) (rd_Pc [.long x0, .long x2] (fun _ => True) (dC, dI) cls3 [(cL, .long), (cI, .int)]) (va_Sv (fun _ => True)) 0 0 (fun _ => False) := by
  refine Met.ofW (cc := cF_needPlace) (maxL := 4) (ret := none) (by decide) rfl ?_
  intro p e s m args below meth c s₁ B hml hv
  obtain ⟨rfl, hF, hK⟩ := hv
  have hx := B.exec
  have hb := B.bytes
  have hr := B.returns
  have hw : ∀ w ∈ wG, w.before ([.long x0, .long x2] : List Value).toArray s = true := fun w hq => atoms_spec (ws := wsF_needPlace) B.pre w (List.mem_cons_of_mem _ hq)
  have hown : s.vm.findClass R_F = some m.cls := findClass_of_methodNamed B.named
  have hlocks := B.notSynchronized
  have hK2 := hK.sub (tys' := [(cL, .long), (cI, .int)]) [0, 1] rfl
  have hl := lv_entry ([.long x0, .long x2] : List Value) (n := 4) (Nat.le_of_ble_eq_true rfl)
  rw [lg_entry_eq]
  generalize (lg_sl ([.long x0, .long x2] : List Value) ++ List.replicate (4 - (lg_sl ([.long x0, .long x2] : List Value)).length) Slot.unset).toArray = ls at hl ⊢
  have hl : lv_has ls 4 [(0, .long x0), (2, .long x2)] := hl
  unfold f_F_needPlace at h
  refine lv_lload_n hx hb dF_needPlace_0 rfl (lv_at hl 0 rfl) ?_
  refine lv_lload_n hx hb dF_needPlace_1 rfl (lv_at hl 1 rfl) ?_
  obtain ⟨u1, hu1, h⟩ := ob_some h
  refine vp_callSi (va_Run.run (va_runS (As := [.long x0, .long x2]) (rest := []) ⟨hx, hb, hml, hown, hw⟩ (k_F_isPlace l dC dI cL cI x0 x2 u1 hu1) (va_cwS 2 hw (gS w_89 w_90 w_1 w_91) rfl rfl rfl (by decide +kernel) ⟨Nat.le_of_ble_eq_true rfl, Nat.le_of_ble_eq_true rfl⟩) ⟨rd_blind, rd_pre trivial hK2⟩ rfl rfl hl.1 rfl (lv_room (Nat.le_of_ble_eq_true rfl)) dF_needPlace_2 ⟨Nat.le_of_ble_eq_true rfl, Nat.le_of_ble_eq_true rfl⟩)) (fun z hz => ?_)
  rw [hz]; clear hz
  refine lv_if_ne (tgt := 18) hx hb dF_needPlace_5 (by decide) (fun c2 => ?_) (fun c2 => ?_)
  · have h := it_f c2 h
    exact W.vret hx hb hr (fun t ht hW => ⟨rfl, trivial, ht⟩) nil_locs dF_needPlace_18
  · have h := it_t c2 h
    cases h
def g_F_needPlace (x0 : Int64) (x2 : Int64) : Option String := (f_F_isPlace x0 x2).bind fun u1 => (if u1 = 0 then some "java/lang/IllegalArgumentException" else none)
set_option maxHeartbeats 4000000 in
set_option maxRecDepth 100000 in
theorem kt_F_needPlace (l : Launch) (hl0 : l.stackTraces = false) (N0 : Nat) (dC : Nat → ClassId) (dI : Nat → Nat → Nat) (cL cI : ClassId) (x0 : Int64) (x2 : Int64) (E : String) (h : g_F_needPlace x0 x2 = some E) : vx_Met l yF_needPlace wsF_needPlace ({ frames := 6, cells := 1, slots := 6, locals := 90 }) (ev_Pc N0 [.long x0, .long x2] (fun _ => True) (dC, dI) cls3 [(cL, .long), (cI, .int)]) NoQ (XE E) 1 6 (fun _ => False) := by
  refine vx_ofW (cc := cF_needPlace) (maxL := 4) (ret := none) (by decide) rfl ?_
  intro p e s m args below meth c s₁ B hml htab hv
  obtain ⟨rfl, hF, hK, hev⟩ := hv
  have hx := B.exec
  have hb := B.bytes
  have hr := B.returns
  have hw : ∀ w ∈ wG, w.before ([.long x0, .long x2] : List Value).toArray s = true := fun w hq => atoms_spec (ws := wsF_needPlace) B.pre w (List.mem_cons_of_mem _ hq)
  have hown : s.vm.findClass R_F = some m.cls := findClass_of_methodNamed B.named
  have hlocks := B.notSynchronized
  have hK2 := hK.sub (tys' := [(cL, .long), (cI, .int)]) [0, 1] rfl
  have hl := lv_entry ([.long x0, .long x2] : List Value) (n := 4) (Nat.le_of_ble_eq_true rfl)
  rw [lg_entry_eq]
  generalize (lg_sl ([.long x0, .long x2] : List Value) ++ List.replicate (4 - (lg_sl ([.long x0, .long x2] : List Value)).length) Slot.unset).toArray = ls at hl ⊢
  have hl : lv_has ls 4 [(0, .long x0), (2, .long x2)] := hl
  unfold g_F_needPlace at h
  refine lv_lload_n hx hb dF_needPlace_0 rfl (lv_at hl 0 rfl) ?_
  refine lv_lload_n hx hb dF_needPlace_1 rfl (lv_at hl 1 rfl) ?_
  obtain ⟨u1, hu1, h⟩ := ob_some h
  refine vp_callSi (va_Run.run (va_runS (As := [.long x0, .long x2]) (rest := []) ⟨hx, hb, hml, hown, hw⟩ (k_F_isPlace l dC dI cL cI x0 x2 u1 hu1) (va_cwS 2 hw (gS w_89 w_90 w_1 w_91) rfl rfl rfl (by decide +kernel) ⟨Nat.le_of_ble_eq_true rfl, Nat.le_of_ble_eq_true rfl⟩) ⟨rd_blind, rd_pre trivial hK2⟩ rfl rfl hl.1 rfl (lv_room (Nat.le_of_ble_eq_true rfl)) dF_needPlace_2 ⟨Nat.le_of_ble_eq_true rfl, Nat.le_of_ble_eq_true rfl⟩)) (fun z hz => ?_)
  rw [hz]; clear hz
  refine lv_if_ne (tgt := 18) hx hb dF_needPlace_5 (by decide) (fun c2 => ?_) (fun c2 => ?_)
  · have h := it_f c2 h
    cases h
  · have h := it_t c2 h
    have h := Option.some.inj h
    subst h
    exact thr_F (text := "no place") hx hb hl0 hown hev hw tIAE_fit w_94 w_6 (by decide +kernel) tIAE_good tIAE_bad tIAE_ot (hl.1.trans hml.symm) htab hlocks dF_needPlace_8 dF_needPlace_11 dF_needPlace_12 dF_needPlace_14 dF_needPlace_17 (Nat.le_of_ble_eq_true rfl) (Nat.le_of_ble_eq_true rfl) (Nat.le_of_ble_eq_true rfl) (Nat.le_of_ble_eq_true rfl)
theorem dF_needLength_0 : decode cF_needLength 0 = .ok (.lload_n 0, 1) := by decide +kernel
theorem dF_needLength_1 : decode cF_needLength 1 = .ok (.invokestatic 90, 3) := by decide +kernel
theorem dF_needLength_4 : decode cF_needLength 4 = .ok (.ifCond .ne 13, 3) := by decide +kernel
theorem dF_needLength_7 : decode cF_needLength 7 = .ok (.new 40, 3) := by decide +kernel
theorem dF_needLength_10 : decode cF_needLength 10 = .ok (.dup, 1) := by decide +kernel
theorem dF_needLength_11 : decode cF_needLength 11 = .ok (.ldc 148, 2) := by decide +kernel
theorem dF_needLength_13 : decode cF_needLength 13 = .ok (.invokespecial 44, 3) := by decide +kernel
theorem dF_needLength_16 : decode cF_needLength 16 = .ok (.athrow, 1) := by decide +kernel
theorem dF_needLength_17 : decode cF_needLength 17 = .ok (.return_, 1) := by decide +kernel
def f_F_needLength (x0 : Int64) : Option Unit := (f_F_isLength x0).bind fun u1 => (if u1 = 0 then none else some ())
set_option maxHeartbeats 4000000 in
set_option maxRecDepth 100000 in
theorem k_F_needLength (l : Launch) (dC : Nat → ClassId) (dI : Nat → Nat → Nat) (cL cI : ClassId) (x0 : Int64) (r : Unit) (h : f_F_needLength x0 = some r) : Met l yF_needLength wsF_needLength ({ frames := 1, cells := 0, slots := 0, locals := 21 }) (rd_Pc [.long x0] (fun _ => True) (dC, dI) cls3 [(cL, .long), (cI, .int)]) (va_Sv (fun _ => True)) 0 0 (fun _ => False) := by
  refine Met.ofW (cc := cF_needLength) (maxL := 2) (ret := none) (by decide) rfl ?_
  intro p e s m args below meth c s₁ B hml hv
  obtain ⟨rfl, hF, hK⟩ := hv
  have hx := B.exec
  have hb := B.bytes
  have hr := B.returns
  have hw : ∀ w ∈ wG, w.before ([.long x0] : List Value).toArray s = true := fun w hq => atoms_spec (ws := wsF_needLength) B.pre w (List.mem_cons_of_mem _ hq)
  have hown : s.vm.findClass R_F = some m.cls := findClass_of_methodNamed B.named
  have hlocks := B.notSynchronized
  have hK2 := hK.sub (tys' := [(cL, .long), (cI, .int)]) [0, 1] rfl
  have hl := lv_entry ([.long x0] : List Value) (n := 2) (Nat.le_of_ble_eq_true rfl)
  rw [lg_entry_eq]
  generalize (lg_sl ([.long x0] : List Value) ++ List.replicate (2 - (lg_sl ([.long x0] : List Value)).length) Slot.unset).toArray = ls at hl ⊢
  have hl : lv_has ls 2 [(0, .long x0)] := hl
  unfold f_F_needLength at h
  refine lv_lload_n hx hb dF_needLength_0 rfl (lv_at hl 0 rfl) ?_
  obtain ⟨u1, hu1, h⟩ := ob_some h
  refine vp_callSi (va_Run.run (va_runS (As := [.long x0]) (rest := []) ⟨hx, hb, hml, hown, hw⟩ (k_F_isLength l dC dI cL cI x0 u1 hu1) (va_cwS 1 hw (gS w_165 w_166 w_1 w_167) rfl rfl rfl (by decide +kernel) ⟨Nat.le_of_ble_eq_true rfl, Nat.le_of_ble_eq_true rfl⟩) ⟨rd_blind, rd_pre trivial hK2⟩ rfl rfl hl.1 rfl (lv_room (Nat.le_of_ble_eq_true rfl)) dF_needLength_1 ⟨Nat.le_of_ble_eq_true rfl, Nat.le_of_ble_eq_true rfl⟩)) (fun z hz => ?_)
  rw [hz]; clear hz
  refine lv_if_ne (tgt := 17) hx hb dF_needLength_4 (by decide) (fun c2 => ?_) (fun c2 => ?_)
  · have h := it_f c2 h
    exact W.vret hx hb hr (fun t ht hW => ⟨rfl, trivial, ht⟩) nil_locs dF_needLength_17
  · have h := it_t c2 h
    cases h
def g_F_needLength (x0 : Int64) : Option String := (f_F_isLength x0).bind fun u1 => (if u1 = 0 then some "java/lang/IllegalArgumentException" else none)
set_option maxHeartbeats 4000000 in
set_option maxRecDepth 100000 in
theorem kt_F_needLength (l : Launch) (hl0 : l.stackTraces = false) (N0 : Nat) (dC : Nat → ClassId) (dI : Nat → Nat → Nat) (cL cI : ClassId) (x0 : Int64) (E : String) (h : g_F_needLength x0 = some E) : vx_Met l yF_needLength wsF_needLength ({ frames := 6, cells := 1, slots := 6, locals := 90 }) (ev_Pc N0 [.long x0] (fun _ => True) (dC, dI) cls3 [(cL, .long), (cI, .int)]) NoQ (XE E) 1 6 (fun _ => False) := by
  refine vx_ofW (cc := cF_needLength) (maxL := 2) (ret := none) (by decide) rfl ?_
  intro p e s m args below meth c s₁ B hml htab hv
  obtain ⟨rfl, hF, hK, hev⟩ := hv
  have hx := B.exec
  have hb := B.bytes
  have hr := B.returns
  have hw : ∀ w ∈ wG, w.before ([.long x0] : List Value).toArray s = true := fun w hq => atoms_spec (ws := wsF_needLength) B.pre w (List.mem_cons_of_mem _ hq)
  have hown : s.vm.findClass R_F = some m.cls := findClass_of_methodNamed B.named
  have hlocks := B.notSynchronized
  have hK2 := hK.sub (tys' := [(cL, .long), (cI, .int)]) [0, 1] rfl
  have hl := lv_entry ([.long x0] : List Value) (n := 2) (Nat.le_of_ble_eq_true rfl)
  rw [lg_entry_eq]
  generalize (lg_sl ([.long x0] : List Value) ++ List.replicate (2 - (lg_sl ([.long x0] : List Value)).length) Slot.unset).toArray = ls at hl ⊢
  have hl : lv_has ls 2 [(0, .long x0)] := hl
  unfold g_F_needLength at h
  refine lv_lload_n hx hb dF_needLength_0 rfl (lv_at hl 0 rfl) ?_
  obtain ⟨u1, hu1, h⟩ := ob_some h
  refine vp_callSi (va_Run.run (va_runS (As := [.long x0]) (rest := []) ⟨hx, hb, hml, hown, hw⟩ (k_F_isLength l dC dI cL cI x0 u1 hu1) (va_cwS 1 hw (gS w_165 w_166 w_1 w_167) rfl rfl rfl (by decide +kernel) ⟨Nat.le_of_ble_eq_true rfl, Nat.le_of_ble_eq_true rfl⟩) ⟨rd_blind, rd_pre trivial hK2⟩ rfl rfl hl.1 rfl (lv_room (Nat.le_of_ble_eq_true rfl)) dF_needLength_1 ⟨Nat.le_of_ble_eq_true rfl, Nat.le_of_ble_eq_true rfl⟩)) (fun z hz => ?_)
  rw [hz]; clear hz
  refine lv_if_ne (tgt := 17) hx hb dF_needLength_4 (by decide) (fun c2 => ?_) (fun c2 => ?_)
  · have h := it_f c2 h
    cases h
  · have h := it_t c2 h
    have h := Option.some.inj h
    subst h
    exact thr_F (text := "not 0 to 1,000,000,000") hx hb hl0 hown hev hw tIAE_fit w_94 w_6 (by decide +kernel) tIAE_good tIAE_bad tIAE_ot (hl.1.trans hml.symm) htab hlocks dF_needLength_7 dF_needLength_10 dF_needLength_11 dF_needLength_13 dF_needLength_16 (Nat.le_of_ble_eq_true rfl) (Nat.le_of_ble_eq_true rfl) (Nat.le_of_ble_eq_true rfl) (Nat.le_of_ble_eq_true rfl)
theorem dF_needWhole_0 : decode cF_needWhole 0 = .ok (.aload_n 0, 1) := by decide +kernel
theorem dF_needWhole_1 : decode cF_needWhole 1 = .ok (.invokevirtual 150, 3) := by decide +kernel
theorem dF_needWhole_4 : decode cF_needWhole 4 = .ok (.ifCond .ne 13, 3) := by decide +kernel
theorem dF_needWhole_7 : decode cF_needWhole 7 = .ok (.new 63, 3) := by decide +kernel
theorem dF_needWhole_10 : decode cF_needWhole 10 = .ok (.dup, 1) := by decide +kernel
theorem dF_needWhole_11 : decode cF_needWhole 11 = .ok (.ldc 153, 2) := by decide +kernel
theorem dF_needWhole_13 : decode cF_needWhole 13 = .ok (.invokespecial 67, 3) := by decide +kernel
theorem dF_needWhole_16 : decode cF_needWhole 16 = .ok (.athrow, 1) := by decide +kernel
theorem dF_needWhole_17 : decode cF_needWhole 17 = .ok (.return_, 1) := by decide +kernel
def f_F_needWhole (v : SV) : Option Unit := (f_S_isWhole v).bind fun u1 => (if u1 = 0 then none else some ())
set_option maxHeartbeats 4000000 in
set_option maxRecDepth 100000 in
theorem k_F_needWhole (l : Launch) (dC : Nat → ClassId) (dI : Nat → Nat → Nat) (cL cI : ClassId) (a ax ay ae : Nat) (v : SV) (r : Unit) (h : f_F_needWhole v = some r) : Met l yF_needWhole wsF_needWhole ({ frames := 2, cells := 0, slots := 0, locals := 40 }) (rd_Pc [.ref a] (fun H => va_P (dC, dI) cls3 (shW cL cI a ax ay ae v) H) (dC, dI) cls3 [(cL, .long), (cI, .int)]) (va_Sv (fun _ => True)) 0 0 (fun _ => False) := by
  refine Met.ofW (cc := cF_needWhole) (maxL := 1) (ret := none) (by decide) rfl ?_
  intro p e s m args below meth c s₁ B hml hv
  obtain ⟨rfl, hPa, hK⟩ := hv
  have hx := B.exec
  have hb := B.bytes
  have hr := B.returns
  have hw : ∀ w ∈ wG, w.before ([.ref a] : List Value).toArray s = true := fun w hq => atoms_spec (ws := wsF_needWhole) B.pre w (List.mem_cons_of_mem _ hq)
  have hown : s.vm.findClass R_F = some m.cls := findClass_of_methodNamed B.named
  have hlocks := B.notSynchronized
  have hK2 := hK.sub (tys' := [(cL, .long), (cI, .int)]) [0, 1] rfl
  have hl := lv_entry ([.ref a] : List Value) (n := 1) (Nat.le_of_ble_eq_true rfl)
  rw [lg_entry_eq]
  generalize (lg_sl ([.ref a] : List Value) ++ List.replicate (1 - (lg_sl ([.ref a] : List Value)).length) Slot.unset).toArray = ls at hl ⊢
  have hl : lv_has ls 1 [(0, .ref a)] := hl
  unfold f_F_needWhole at h
  refine lv_aload_n hx hb dF_needWhole_0 rfl (lv_at hl 0 rfl) ?_
  obtain ⟨u1, hu1, h⟩ := ob_some h
  refine vp_callSi (va_Run.run (va_runV (As := []) (rest := []) ⟨hx, hb, hml, hown, hw⟩ (k_S_isWhole l dC dI cL cI a ax ay ae v u1 hu1) (cwV 0 hw (gV w_298 w_299 w_300 w_7 w_301) rfl rfl rfl (by decide +kernel) ⟨Nat.le_of_ble_eq_true rfl, Nat.le_of_ble_eq_true rfl⟩) ⟨rd_blind, va_recv hK hPa (ci := 0) (q0 := 0) rfl rfl, rd_pre hPa hK2⟩ rfl rfl hl.1 rfl (lv_room (Nat.le_of_ble_eq_true rfl)) dF_needWhole_1 ⟨Nat.le_of_ble_eq_true rfl, Nat.le_of_ble_eq_true rfl⟩)) (fun z hz => ?_)
  rw [hz]; clear hz
  refine lv_if_ne (tgt := 17) hx hb dF_needWhole_4 (by decide) (fun c2 => ?_) (fun c2 => ?_)
  · have h := it_f c2 h
    exact W.vret hx hb hr (fun t ht hW => ⟨rfl, trivial, ht⟩) nil_locs dF_needWhole_17
  · have h := it_t c2 h
    cases h
def g_F_needWhole (v : SV) : Option String := (f_S_isWhole v).bind fun u1 => (if u1 = 0 then some "java/lang/IllegalStateException" else none)
set_option maxHeartbeats 4000000 in
set_option maxRecDepth 100000 in
theorem kt_F_needWhole (l : Launch) (hl0 : l.stackTraces = false) (N0 : Nat) (dC : Nat → ClassId) (dI : Nat → Nat → Nat) (cL cI : ClassId) (a ax ay ae : Nat) (v : SV) (E : String) (h : g_F_needWhole v = some E) : vx_Met l yF_needWhole wsF_needWhole ({ frames := 6, cells := 1, slots := 6, locals := 90 }) (ev_Pc N0 [.ref a] (fun H => va_P (dC, dI) cls3 (shW cL cI a ax ay ae v) H) (dC, dI) cls3 [(cL, .long), (cI, .int)]) NoQ (XE E) 1 6 (fun _ => False) := by
  refine vx_ofW (cc := cF_needWhole) (maxL := 1) (ret := none) (by decide) rfl ?_
  intro p e s m args below meth c s₁ B hml htab hv
  obtain ⟨rfl, hPa, hK, hev⟩ := hv
  have hx := B.exec
  have hb := B.bytes
  have hr := B.returns
  have hw : ∀ w ∈ wG, w.before ([.ref a] : List Value).toArray s = true := fun w hq => atoms_spec (ws := wsF_needWhole) B.pre w (List.mem_cons_of_mem _ hq)
  have hown : s.vm.findClass R_F = some m.cls := findClass_of_methodNamed B.named
  have hlocks := B.notSynchronized
  have hK2 := hK.sub (tys' := [(cL, .long), (cI, .int)]) [0, 1] rfl
  have hl := lv_entry ([.ref a] : List Value) (n := 1) (Nat.le_of_ble_eq_true rfl)
  rw [lg_entry_eq]
  generalize (lg_sl ([.ref a] : List Value) ++ List.replicate (1 - (lg_sl ([.ref a] : List Value)).length) Slot.unset).toArray = ls at hl ⊢
  have hl : lv_has ls 1 [(0, .ref a)] := hl
  unfold g_F_needWhole at h
  refine lv_aload_n hx hb dF_needWhole_0 rfl (lv_at hl 0 rfl) ?_
  obtain ⟨u1, hu1, h⟩ := ob_some h
  refine vp_callSi (va_Run.run (va_runV (As := []) (rest := []) ⟨hx, hb, hml, hown, hw⟩ (k_S_isWhole l dC dI cL cI a ax ay ae v u1 hu1) (cwV 0 hw (gV w_298 w_299 w_300 w_7 w_301) rfl rfl rfl (by decide +kernel) ⟨Nat.le_of_ble_eq_true rfl, Nat.le_of_ble_eq_true rfl⟩) ⟨rd_blind, va_recv hK hPa (ci := 0) (q0 := 0) rfl rfl, rd_pre hPa hK2⟩ rfl rfl hl.1 rfl (lv_room (Nat.le_of_ble_eq_true rfl)) dF_needWhole_1 ⟨Nat.le_of_ble_eq_true rfl, Nat.le_of_ble_eq_true rfl⟩)) (fun z hz => ?_)
  rw [hz]; clear hz
  refine lv_if_ne (tgt := 17) hx hb dF_needWhole_4 (by decide) (fun c2 => ?_) (fun c2 => ?_)
  · have h := it_f c2 h
    cases h
  · have h := it_t c2 h
    have h := Option.some.inj h
    subst h
    exact thr_F (text := "the shape is not whole") hx hb hl0 hown hev hw tISE_fit w_228 w_9 (by decide +kernel) tISE_good tISE_bad tISE_ot (hl.1.trans hml.symm) htab hlocks dF_needWhole_7 dF_needWhole_10 dF_needWhole_11 dF_needWhole_13 dF_needWhole_16 (Nat.le_of_ble_eq_true rfl) (Nat.le_of_ble_eq_true rfl) (Nat.le_of_ble_eq_true rfl) (Nat.le_of_ble_eq_true rfl)
