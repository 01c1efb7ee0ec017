/-! ShapeForms: methods that make a shape and keep it, laid by program -/
theorem dF_polygon_0 : decode cF_polygon 0 = .ok (.aload_n 0, 1) := by decide +kernel
theorem dF_polygon_1 : decode cF_polygon 1 = .ok (.new 9, 3) := by decide +kernel
theorem dF_polygon_4 : decode cF_polygon 4 = .ok (.dup, 1) := by decide +kernel
theorem dF_polygon_5 : decode cF_polygon 5 = .ok (.iconst 2, 1) := by decide +kernel
theorem dF_polygon_6 : decode cF_polygon 6 = .ok (.iconst 1, 1) := by decide +kernel
theorem dF_polygon_7 : decode cF_polygon 7 = .ok (.lconst 0, 1) := by decide +kernel
theorem dF_polygon_8 : decode cF_polygon 8 = .ok (.invokespecial 27, 3) := by decide +kernel
theorem dF_polygon_11 : decode cF_polygon 11 = .ok (.invokevirtual 34, 3) := by decide +kernel
theorem dF_polygon_14 : decode cF_polygon 14 = .ok (.ireturn, 1) := by decide +kernel
def f_F_polygon (v : CV) : Option (Int32 × CV) := (bz (1 : Int32)).bind fun u1 => some (f_F_keep v (sv0 (2 : Int32) (1 : Int32) (0 : Int64)))
set_option maxHeartbeats 1000000 in
set_option maxRecDepth 100000 in
theorem k_F_polygon (l : Launch) (dC : Nat → ClassId) (dI : Nat → Nat → Nat) (cL cI cO : ClassId) (N0 sz : Nat) (bs : Nat → Nat) (v : CV) (r : (Int32 × CV)) (h : f_F_polygon v = some r) : Met l yF_polygon wsF_polygon ({ frames := 2, cells := 4, slots := 152, locals := 44 }) (rd_Pc [.ref N0] (fun H => SFS (dC, dI) cL cI cO N0 bs v H ∧ H.size = sz) (dC, dI) cls3 (ty3 cL cI cO)) (al_Q (some (.int r.1)) (fun H => ∃ bs', SFS (dC, dI) cL cI cO N0 bs' r.2 H) (inC N0)) 4 152 (inC N0) := by
  refine Met.ofW (cc := cF_polygon) (maxL := 1) (ret := (some .int)) (by decide) rfl ?_
  intro p e s m args below meth c s₁ B hml hv
  obtain ⟨rfl, ⟨hPx, hz0⟩, hK⟩ := hv
  have hx := B.exec
  have hb := B.bytes
  have hr := B.returns
  have hw : ∀ w ∈ wG, w.before ([.ref N0] : List Value).toArray s = true := fun w hq => atoms_spec (ws := wsF_polygon) B.pre w (List.mem_cons_of_mem _ hq)
  have hown : s.vm.findClass R_F = some m.cls := findClass_of_methodNamed B.named
  have hlocks := B.notSynchronized
  have hK2 := hK.sub (tys' := [(cL, .long), (cI, .int)]) [0, 1] rfl
  have hN0 : N0 + 17 ≤ sz := by rw [← hz0]; exact hPx.2.2.2
  have hfar : ∀ i, i < v.1 → bs i + 4 ≤ sz := by rw [← hz0]; exact sfs_far hPx
  have hl := lv_entry ([.ref N0] : List Value) (n := 1) (Nat.le_of_ble_eq_true rfl)
  rw [lg_entry_eq]
  generalize (lg_sl ([.ref N0] : List Value) ++ List.replicate (1 - (lg_sl ([.ref N0] : List Value)).length) Slot.unset).toArray = ls at hl ⊢
  have hl : lv_has ls 1 [(0, .ref N0)] := hl
  obtain ⟨H, hH⟩ : ∃ H : Heap, H = s.heap := ⟨_, rfl⟩
  obtain ⟨locs, hlocs⟩ : ∃ L : List Loc, L = [] := ⟨_, rfl⟩
  suffices hgo : W p l e (headSpec wsF_polygon ({ frames := 2, cells := 4, slots := 152, locals := 44 })).room s m ([.ref N0] : List Value).toArray below meth c H locs 0 0 (MQ below (al_Q (some (.int r.1)) (fun H => ∃ bs', SFS (dC, dI) cL cI cO N0 bs' r.2 H) (inC N0)) ([.ref N0] : List Value).toArray s 4 152 (inC N0)) (F0 m 0 ls []) by rw [hH, hlocs] at hgo; exact hgo
  have hS : va_S (fun x => sz ≤ x) s.heap H locs := by rw [hH, hlocs]; exact va_S.rf
  have hz : H.size = sz := by rw [hH]; exact hz0
  clear hH hlocs
  unfold f_F_polygon at h
  refine lv_aload_n hx hb dF_polygon_0 rfl (lv_at hl 0 rfl) ?_
  refine al_new (D := (dC, dI)) (cl := cls3) (ws := []) (A := (fun x => sz ≤ x)) (ci := 0) (fs := [.int 0, .int 0, .long 0, .null, .null, .null, .int 0, .int 0]) (C := R_S) (T := T_S) (N := 8) (sz := sz) hx hb hw in_S t_S t_S_ok hown (hw _ w_22) (hw _ w_35) (hw _ w_7) hK P_nil D_nil hS hz (Nat.le_refl _) rfl (fun j hj => by rcases (show j = 0 ∨ j = 1 ∨ j = 2 ∨ j = 3 ∨ j = 4 ∨ j = 5 ∨ j = 6 ∨ j = 7 by omega) with rfl | rfl | rfl | rfl | rfl | rfl | rfl | rfl <;> rfl) (Nat.le_of_ble_eq_true rfl) (Nat.le_of_ble_eq_true rfl) dF_polygon_1 (fun H hPb hD hS hz _ => ?_)
  have hPb : va_P (dC, dI) cls3 [(sz, .inr (0, [.int 0, .int 0, .long 0, .null, .null, .null, .int 0, .int 0]))] H := hPb
  refine lv_dup hx hb dF_polygon_4 rfl ?_
  refine lv_iconst (v := 2) hx hb dF_polygon_5 (by decide) ?_
  refine lv_iconst (v := 1) hx hb dF_polygon_6 (by decide) ?_
  refine lv_lconst (v := 0) hx hb dF_polygon_7 (by decide) ?_
  obtain ⟨u1, hu1, h⟩ := ob_some h
  refine al_call (va_runI (As := [.int (2 : Int32), .int (1 : Int32), .long (0 : Int64)]) (rest := [.ref sz, .ref N0]) ⟨hx, hb, hml, hown, hw⟩ (k_S_init l dC dI cL cI sz (sz + 1) (2 : Int32) (1 : Int32) (0 : Int64) (bz_of hu1)) (cwI 3 hw (gC w_38) rfl rfl rfl (hw _ w_7) (hw _ w_36) (hw _ w_37) rfl (by decide +kernel) ⟨Nat.le_of_ble_eq_true rfl, Nat.le_of_ble_eq_true rfl⟩) ⟨rd_blind (F := (fun H => va_P (dC, dI) cls3 [(sz, .inr (0, [.int 0, .int 0, .long 0, .null, .null, .null, .int 0, .int 0]))] H ∧ H.size = sz + 1 ∧ sz < sz + 1)), rd_pre (F := (fun H => va_P (dC, dI) cls3 [(sz, .inr (0, [.int 0, .int 0, .long 0, .null, .null, .null, .int 0, .int 0]))] H ∧ H.size = sz + 1 ∧ sz < sz + 1)) ⟨hPb, hz, Nat.lt_succ_self _⟩ hK2⟩ rfl rfl hl.1 rfl (lv_room (Nat.le_of_ble_eq_true rfl)) dF_polygon_8 ⟨Nat.le_of_ble_eq_true rfl, Nat.le_of_ble_eq_true rfl⟩) hS (fun q z => by rcases z with z | z; exact Nat.le_of_eq z.symm; exact Nat.le_of_succ_le z) (fun H locs hG hS _ _ => ?_)
  have hPb : va_P (dC, dI) cls3 (shW cL cI sz (sz + 1) (sz + 2) (sz + 3) (sv0 (2 : Int32) (1 : Int32) (0 : Int64))) H := hG.1
  have hD : va_D (fun x => sz ≤ x) (shW cL cI sz (sz + 1) (sz + 2) (sz + 3) (sv0 (2 : Int32) (1 : Int32) (0 : Int64))) := sh_Dof
  refine W.widen (k := 4) (n := 152) (Nat.le_of_ble_eq_true rfl) (Nat.le_of_ble_eq_true rfl) ?_
  have hSF := sfs_keep hPx hz0 hS
  refine al_call (va_runV (As := [.ref sz]) (rest := []) ⟨hx, hb, hml, hown, hw⟩ (k_F_keep l dC dI cL cI cO N0 bs v sz (sv0 (2 : Int32) (1 : Int32) (0 : Int64))) (cwV 1 hw (gV w_74 w_76 wp_0 w_1 w_77) rfl rfl rfl (by decide +kernel) ⟨Nat.le_of_ble_eq_true rfl, Nat.le_of_ble_eq_true rfl⟩) ⟨rd_blind, va_recv hK hSF.1.1 (ci := 1) (q0 := 0) rfl rfl, rd_pre ⟨hSF, hPb, hfar, hN0⟩ hK⟩ rfl rfl hl.1 rfl (lv_room (Nat.le_of_ble_eq_true rfl)) dF_polygon_11 ⟨Nat.le_of_ble_eq_true rfl, Nat.le_of_ble_eq_true rfl⟩) (hS.mono (sfs_in hN0)) (fun _ z => z) (fun H locs hG hS _ _ => ?_)
  have h := Option.some.inj h
  subst h
  exact W.iret hx hb hr (fun t ht hW => ⟨rfl, ⟨_, by rw [ht]; exact hG⟩, hS.F ht⟩) hS.2.2 dF_polygon_14
def f_F_trace_j24 (v : CV) : Option (Int32 × CV) := none
def f_F_trace (v : CV) (x1 : Int64) : Option (Int32 × CV) := (if (lg_cmp x1 (0 : Int64)) < 0 then (f_F_trace_j24 v) else (if 0 < (lg_cmp x1 (2000000000 : Int64)) then (f_F_trace_j24 v) else (if (lg_cmp (x1 - x1 / (2 : Int64) * (2 : Int64)) (0 : Int64)) = 0 then (bz (0 : Int32)).bind fun u4 => some (f_F_keep v (sv0 (3 : Int32) (0 : Int32) (x1 / (2 : Int64)))) else (f_F_trace_j24 v))))
set_option maxHeartbeats 1000000 in
set_option maxRecDepth 100000 in
theorem k_F_trace (l : Launch) (dC : Nat → ClassId) (dI : Nat → Nat → Nat) (cL cI cO : ClassId) (N0 sz : Nat) (bs : Nat → Nat) (v : CV) (x1 : Int64) (r : (Int32 × CV)) (h : f_F_trace v x1 = some r) : Met l yF_trace wsF_trace ({ frames := 2, cells := 4, slots := 152, locals := 44 }) (rd_Pc [.ref N0, .long x1] (fun H => SFS (dC, dI) cL cI cO N0 bs v H ∧ H.size = sz) (dC, dI) cls3 (ty3 cL cI cO)) (al_Q (some (.int r.1)) (fun H => ∃ bs', SFS (dC, dI) cL cI cO N0 bs' r.2 H) (inC N0)) 4 152 (inC N0) := by
  refine Met.ofW (cc := cF_trace) (maxL := 3) (ret := (some .int)) (by decide) rfl ?_
  intro p e s m args below meth c s₁ B hml hv
  obtain ⟨rfl, ⟨hPx, hz0⟩, hK⟩ := hv
  have hx := B.exec
  have hb := B.bytes
  have hr := B.returns
  have hw : ∀ w ∈ wG, w.before ([.ref N0, .long x1] : List Value).toArray s = true := fun w hq => atoms_spec (ws := wsF_trace) B.pre w (List.mem_cons_of_mem _ hq)
  have hown : s.vm.findClass R_F = some m.cls := findClass_of_methodNamed B.named
  have hlocks := B.notSynchronized
  have hK2 := hK.sub (tys' := [(cL, .long), (cI, .int)]) [0, 1] rfl
  have hN0 : N0 + 17 ≤ sz := by rw [← hz0]; exact hPx.2.2.2
  have hfar : ∀ i, i < v.1 → bs i + 4 ≤ sz := by rw [← hz0]; exact sfs_far hPx
  have hl := lv_entry ([.ref N0, .long x1] : List Value) (n := 3) (Nat.le_of_ble_eq_true rfl)
  rw [lg_entry_eq]
  generalize (lg_sl ([.ref N0, .long x1] : List Value) ++ List.replicate (3 - (lg_sl ([.ref N0, .long x1] : List Value)).length) Slot.unset).toArray = ls at hl ⊢
  have hl : lv_has ls 3 [(0, .ref N0), (1, .long x1)] := hl
  have k24 : f_F_trace_j24 v = some r → ∀ (H : Heap) (locs : List Loc), H.size = sz → va_S (fun x => sz ≤ x) s.heap H locs → ∀ (ls : Array Slot), lv_has ls 3 [] → W p l e (headSpec wsF_trace ({ frames := 2, cells := 4, slots := 152, locals := 44 })).room s m ([.ref N0, .long x1] : List Value).toArray below meth c H locs 0 0 (MQ below (al_Q (some (.int r.1)) (fun H => ∃ bs', SFS (dC, dI) cL cI cO N0 bs' r.2 H) (inC N0)) ([.ref N0, .long x1] : List Value).toArray s 4 152 (inC N0)) (F0 m 24 ls []) := by
    intro  h H locs hz hS ls hl
    unfold f_F_trace_j24 at h
    cases h
  obtain ⟨H, hH⟩ : ∃ H : Heap, H = s.heap := ⟨_, rfl⟩
  obtain ⟨locs, hlocs⟩ : ∃ L : List Loc, L = [] := ⟨_, rfl⟩
  suffices hgo : W p l e (headSpec wsF_trace ({ frames := 2, cells := 4, slots := 152, locals := 44 })).room s m ([.ref N0, .long x1] : List Value).toArray below meth c H locs 0 0 (MQ below (al_Q (some (.int r.1)) (fun H => ∃ bs', SFS (dC, dI) cL cI cO N0 bs' r.2 H) (inC N0)) ([.ref N0, .long x1] : List Value).toArray s 4 152 (inC N0)) (F0 m 0 ls []) by rw [hH, hlocs] at hgo; exact hgo
  have hS : va_S (fun x => sz ≤ x) s.heap H locs := by rw [hH, hlocs]; exact va_S.rf
  have hz : H.size = sz := by rw [hH]; exact hz0
  clear hH hlocs
  unfold f_F_trace at h
  refine lv_lload_n hx hb dF_trace_0 rfl (lv_at hl 1 rfl) ?_
  refine lv_lconst (v := 0) hx hb dF_trace_1 (by decide) ?_
  refine W.lcmp hx hb dF_trace_2 ?_
  refine lv_if_lt (tgt := 24) hx hb dF_trace_3 (by decide) (fun c1 => ?_) (fun c1 => ?_)
  · have h := it_t c1 h
    exact k24 h H locs hz hS ls (lv_sub hl [] rfl)
  · have h := it_f c1 h
    refine lv_lload_n hx hb dF_trace_6 rfl (lv_at hl 1 rfl) ?_
    refine lv_ldc2 (v := 2000000000) hx hb hown (hw _ w_193) dF_trace_7 ?_
    refine W.lcmp hx hb dF_trace_10 ?_
    refine lv_if_gt (tgt := 24) hx hb dF_trace_11 (by decide) (fun c2 => ?_) (fun c2 => ?_)
    · have h := it_t c2 h
      exact k24 h H locs hz hS ls (lv_sub hl [] rfl)
    · have h := it_f c2 h
      refine lv_lload_n hx hb dF_trace_14 rfl (lv_at hl 1 rfl) ?_
      refine lv_ldc2 (v := 2) hx hb hown (hw _ w_181) dF_trace_15 ?_
      refine lv_lrem hx hb dF_trace_18 (by decide) ?_
      refine lv_lconst (v := 0) hx hb dF_trace_19 (by decide) ?_
      refine W.lcmp hx hb dF_trace_20 ?_
      refine lv_if_eq (tgt := 34) hx hb dF_trace_21 (by decide) (fun c3 => ?_) (fun c3 => ?_)
      · have h := it_t c3 h
        refine lv_aload_n hx hb dF_trace_34 rfl (lv_at hl 0 rfl) ?_
        refine al_new (D := (dC, dI)) (cl := cls3) (ws := []) (A := (fun x => sz ≤ x)) (ci := 0) (fs := [.int 0, .int 0, .long 0, .null, .null, .null, .int 0, .int 0]) (C := R_S) (T := T_S) (N := 8) (sz := sz) hx hb hw in_S t_S t_S_ok hown (hw _ w_22) (hw _ w_35) (hw _ w_7) hK P_nil D_nil hS hz (Nat.le_refl _) rfl (fun j hj => by rcases (show j = 0 ∨ j = 1 ∨ j = 2 ∨ j = 3 ∨ j = 4 ∨ j = 5 ∨ j = 6 ∨ j = 7 by omega) with rfl | rfl | rfl | rfl | rfl | rfl | rfl | rfl <;> rfl) (Nat.le_of_ble_eq_true rfl) (Nat.le_of_ble_eq_true rfl) dF_trace_35 (fun H hPb hD hS hz _ => ?_)
        have hPb : va_P (dC, dI) cls3 [(sz, .inr (0, [.int 0, .int 0, .long 0, .null, .null, .null, .int 0, .int 0]))] H := hPb
        refine lv_dup hx hb dF_trace_38 rfl ?_
        refine lv_iconst (v := 3) hx hb dF_trace_39 (by decide) ?_
        refine lv_iconst (v := 0) hx hb dF_trace_40 (by decide) ?_
        refine lv_lload_n hx hb dF_trace_41 rfl (lv_at hl 1 rfl) ?_
        refine lv_ldc2 (v := 2) hx hb hown (hw _ w_181) dF_trace_42 ?_
        refine lv_ldiv hx hb dF_trace_45 (by decide) ?_
        obtain ⟨u4, hu4, h⟩ := ob_some h
        refine al_call (va_runI (As := [.int (3 : Int32), .int (0 : Int32), .long (x1 / (2 : Int64))]) (rest := [.ref sz, .ref N0]) ⟨hx, hb, hml, hown, hw⟩ (k_S_init l dC dI cL cI sz (sz + 1) (3 : Int32) (0 : Int32) (x1 / (2 : Int64)) (bz_of hu4)) (cwI 3 hw (gC w_38) rfl rfl rfl (hw _ w_7) (hw _ w_36) (hw _ w_37) rfl (by decide +kernel) ⟨Nat.le_of_ble_eq_true rfl, Nat.le_of_ble_eq_true rfl⟩) ⟨rd_blind (F := (fun H => va_P (dC, dI) cls3 [(sz, .inr (0, [.int 0, .int 0, .long 0, .null, .null, .null, .int 0, .int 0]))] H ∧ H.size = sz + 1 ∧ sz < sz + 1)), rd_pre (F := (fun H => va_P (dC, dI) cls3 [(sz, .inr (0, [.int 0, .int 0, .long 0, .null, .null, .null, .int 0, .int 0]))] H ∧ H.size = sz + 1 ∧ sz < sz + 1)) ⟨hPb, hz, Nat.lt_succ_self _⟩ hK2⟩ rfl rfl hl.1 rfl (lv_room (Nat.le_of_ble_eq_true rfl)) dF_trace_46 ⟨Nat.le_of_ble_eq_true rfl, Nat.le_of_ble_eq_true rfl⟩) hS (fun q z => by rcases z with z | z; exact Nat.le_of_eq z.symm; exact Nat.le_of_succ_le z) (fun H locs hG hS _ _ => ?_)
        have hPb : va_P (dC, dI) cls3 (shW cL cI sz (sz + 1) (sz + 2) (sz + 3) (sv0 (3 : Int32) (0 : Int32) (x1 / (2 : Int64)))) H := hG.1
        have hD : va_D (fun x => sz ≤ x) (shW cL cI sz (sz + 1) (sz + 2) (sz + 3) (sv0 (3 : Int32) (0 : Int32) (x1 / (2 : Int64)))) := sh_Dof
        refine W.widen (k := 4) (n := 152) (Nat.le_of_ble_eq_true rfl) (Nat.le_of_ble_eq_true rfl) ?_
        have hSF := sfs_keep hPx hz0 hS
        refine al_call (va_runV (As := [.ref sz]) (rest := []) ⟨hx, hb, hml, hown, hw⟩ (k_F_keep l dC dI cL cI cO N0 bs v sz (sv0 (3 : Int32) (0 : Int32) (x1 / (2 : Int64)))) (cwV 1 hw (gV w_74 w_76 wp_0 w_1 w_77) rfl rfl rfl (by decide +kernel) ⟨Nat.le_of_ble_eq_true rfl, Nat.le_of_ble_eq_true rfl⟩) ⟨rd_blind, va_recv hK hSF.1.1 (ci := 1) (q0 := 0) rfl rfl, rd_pre ⟨hSF, hPb, hfar, hN0⟩ hK⟩ rfl rfl hl.1 rfl (lv_room (Nat.le_of_ble_eq_true rfl)) dF_trace_49 ⟨Nat.le_of_ble_eq_true rfl, Nat.le_of_ble_eq_true rfl⟩) (hS.mono (sfs_in hN0)) (fun _ z => z) (fun H locs hG hS _ _ => ?_)
        have h := Option.some.inj h
        subst h
        exact W.iret hx hb hr (fun t ht hW => ⟨rfl, ⟨_, by rw [ht]; exact hG⟩, hS.F ht⟩) hS.2.2 dF_trace_52
      · have h := it_f c3 h
        exact k24 h H locs hz hS ls (lv_sub hl [] rfl)
def f_F_circle (v : CV) (x1 : Int64) (x3 : Int64) (x5 : Int64) : Option (Int32 × CV) := (f_F_needPlace x1 x3).bind fun u1 => (f_F_needLength x5).bind fun u2 => (bz (0 : Int32)).bind fun u3 => (f_S_addCorner (sv0 (0 : Int32) (0 : Int32) x5) x1 x3).bind fun u4 => some (f_F_keep v u4.2)
set_option maxHeartbeats 1000000 in
set_option maxRecDepth 100000 in
theorem k_F_circle (l : Launch) (dC : Nat → ClassId) (dI : Nat → Nat → Nat) (cL cI cO : ClassId) (N0 sz : Nat) (bs : Nat → Nat) (v : CV) (x1 : Int64) (x3 : Int64) (x5 : Int64) (r : (Int32 × CV)) (h : f_F_circle v x1 x3 x5 = some r) : Met l yF_circle wsF_circle ({ frames := 2, cells := 4, slots := 152, locals := 46 }) (rd_Pc [.ref N0, .long x1, .long x3, .long x5] (fun H => SFS (dC, dI) cL cI cO N0 bs v H ∧ H.size = sz) (dC, dI) cls3 (ty3 cL cI cO)) (al_Q (some (.int r.1)) (fun H => ∃ bs', SFS (dC, dI) cL cI cO N0 bs' r.2 H) (inC N0)) 4 152 (inC N0) := by
  refine Met.ofW (cc := cF_circle) (maxL := 8) (ret := (some .int)) (by decide) rfl ?_
  intro p e s m args below meth c s₁ B hml hv
  obtain ⟨rfl, ⟨hPx, hz0⟩, hK⟩ := hv
  have hx := B.exec
  have hb := B.bytes
  have hr := B.returns
  have hw : ∀ w ∈ wG, w.before ([.ref N0, .long x1, .long x3, .long x5] : List Value).toArray s = true := fun w hq => atoms_spec (ws := wsF_circle) B.pre w (List.mem_cons_of_mem _ hq)
  have hown : s.vm.findClass R_F = some m.cls := findClass_of_methodNamed B.named
  have hlocks := B.notSynchronized
  have hK2 := hK.sub (tys' := [(cL, .long), (cI, .int)]) [0, 1] rfl
  have hN0 : N0 + 17 ≤ sz := by rw [← hz0]; exact hPx.2.2.2
  have hfar : ∀ i, i < v.1 → bs i + 4 ≤ sz := by rw [← hz0]; exact sfs_far hPx
  have hl := lv_entry ([.ref N0, .long x1, .long x3, .long x5] : List Value) (n := 8) (Nat.le_of_ble_eq_true rfl)
  rw [lg_entry_eq]
  generalize (lg_sl ([.ref N0, .long x1, .long x3, .long x5] : List Value) ++ List.replicate (8 - (lg_sl ([.ref N0, .long x1, .long x3, .long x5] : List Value)).length) Slot.unset).toArray = ls at hl ⊢
  have hl : lv_has ls 8 [(0, .ref N0), (1, .long x1), (3, .long x3), (5, .long x5)] := hl
  obtain ⟨H, hH⟩ : ∃ H : Heap, H = s.heap := ⟨_, rfl⟩
  obtain ⟨locs, hlocs⟩ : ∃ L : List Loc, L = [] := ⟨_, rfl⟩
  suffices hgo : W p l e (headSpec wsF_circle ({ frames := 2, cells := 4, slots := 152, locals := 46 })).room s m ([.ref N0, .long x1, .long x3, .long x5] : List Value).toArray below meth c H locs 0 0 (MQ below (al_Q (some (.int r.1)) (fun H => ∃ bs', SFS (dC, dI) cL cI cO N0 bs' r.2 H) (inC N0)) ([.ref N0, .long x1, .long x3, .long x5] : List Value).toArray s 4 152 (inC N0)) (F0 m 0 ls []) by rw [hH, hlocs] at hgo; exact hgo
  have hS : va_S (fun x => sz ≤ x) s.heap H locs := by rw [hH, hlocs]; exact va_S.rf
  have hz : H.size = sz := by rw [hH]; exact hz0
  clear hH hlocs
  unfold f_F_circle at h
  refine lv_lload_n hx hb dF_circle_0 rfl (lv_at hl 1 rfl) ?_
  refine lv_lload_n hx hb dF_circle_1 rfl (lv_at hl 2 rfl) ?_
  obtain ⟨u1, hu1, h⟩ := ob_some h
  refine va_csv (va_Run.run (va_runS (As := [.long x1, .long x3]) (rest := []) ⟨hx, hb, hml, hown, hw⟩ (k_F_needPlace l dC dI cL cI x1 x3 u1 hu1) (va_cwS 2 hw (gS w_86 w_87 w_1 w_88) rfl rfl rfl (by decide +kernel) ⟨Nat.le_of_ble_eq_true rfl, Nat.le_of_ble_eq_true rfl⟩) ⟨rd_blind, rd_pre trivial hK2⟩ rfl rfl hl.1 rfl (lv_room (Nat.le_of_ble_eq_true rfl)) dF_circle_2 ⟨Nat.le_of_ble_eq_true rfl, Nat.le_of_ble_eq_true rfl⟩)) (fun _ => ?_)
  refine lv_lload hx hb dF_circle_5 (lv_at hl 3 rfl) ?_
  obtain ⟨u2, hu2, h⟩ := ob_some h
  refine va_csv (va_Run.run (va_runS (As := [.long x5]) (rest := []) ⟨hx, hb, hml, hown, hw⟩ (k_F_needLength l dC dI cL cI x5 u2 hu2) (va_cwS 1 hw (gS w_162 w_163 w_1 w_164) rfl rfl rfl (by decide +kernel) ⟨Nat.le_of_ble_eq_true rfl, Nat.le_of_ble_eq_true rfl⟩) ⟨rd_blind, rd_pre trivial hK2⟩ rfl rfl hl.1 rfl (lv_room (Nat.le_of_ble_eq_true rfl)) dF_circle_7 ⟨Nat.le_of_ble_eq_true rfl, Nat.le_of_ble_eq_true rfl⟩)) (fun _ => ?_)
  refine al_new (D := (dC, dI)) (cl := cls3) (ws := []) (A := (fun x => sz ≤ x)) (ci := 0) (fs := [.int 0, .int 0, .long 0, .null, .null, .null, .int 0, .int 0]) (C := R_S) (T := T_S) (N := 8) (sz := sz) hx hb hw in_S t_S t_S_ok hown (hw _ w_22) (hw _ w_35) (hw _ w_7) hK P_nil D_nil hS hz (Nat.le_refl _) rfl (fun j hj => by rcases (show j = 0 ∨ j = 1 ∨ j = 2 ∨ j = 3 ∨ j = 4 ∨ j = 5 ∨ j = 6 ∨ j = 7 by omega) with rfl | rfl | rfl | rfl | rfl | rfl | rfl | rfl <;> rfl) (Nat.le_of_ble_eq_true rfl) (Nat.le_of_ble_eq_true rfl) dF_circle_10 (fun H hPb hD hS hz _ => ?_)
  have hPb : va_P (dC, dI) cls3 [(sz, .inr (0, [.int 0, .int 0, .long 0, .null, .null, .null, .int 0, .int 0]))] H := hPb
  refine lv_dup hx hb dF_circle_13 rfl ?_
  refine lv_iconst (v := 0) hx hb dF_circle_14 (by decide) ?_
  refine lv_iconst (v := 0) hx hb dF_circle_15 (by decide) ?_
  refine lv_lload hx hb dF_circle_16 (lv_at hl 3 rfl) ?_
  obtain ⟨u3, hu3, h⟩ := ob_some h
  refine al_call (va_runI (As := [.int (0 : Int32), .int (0 : Int32), .long x5]) (rest := [.ref sz]) ⟨hx, hb, hml, hown, hw⟩ (k_S_init l dC dI cL cI sz (sz + 1) (0 : Int32) (0 : Int32) x5 (bz_of hu3)) (cwI 3 hw (gC w_38) rfl rfl rfl (hw _ w_7) (hw _ w_36) (hw _ w_37) rfl (by decide +kernel) ⟨Nat.le_of_ble_eq_true rfl, Nat.le_of_ble_eq_true rfl⟩) ⟨rd_blind (F := (fun H => va_P (dC, dI) cls3 [(sz, .inr (0, [.int 0, .int 0, .long 0, .null, .null, .null, .int 0, .int 0]))] H ∧ H.size = sz + 1 ∧ sz < sz + 1)), rd_pre (F := (fun H => va_P (dC, dI) cls3 [(sz, .inr (0, [.int 0, .int 0, .long 0, .null, .null, .null, .int 0, .int 0]))] H ∧ H.size = sz + 1 ∧ sz < sz + 1)) ⟨hPb, hz, Nat.lt_succ_self _⟩ hK2⟩ rfl rfl hl.1 rfl (lv_room (Nat.le_of_ble_eq_true rfl)) dF_circle_18 ⟨Nat.le_of_ble_eq_true rfl, Nat.le_of_ble_eq_true rfl⟩) hS (fun q z => by rcases z with z | z; exact Nat.le_of_eq z.symm; exact Nat.le_of_succ_le z) (fun H locs hG hS _ _ => ?_)
  have hPb : va_P (dC, dI) cls3 (shW cL cI sz (sz + 1) (sz + 2) (sz + 3) (sv0 (0 : Int32) (0 : Int32) x5)) H := hG.1
  have hD : va_D (fun x => sz ≤ x) (shW cL cI sz (sz + 1) (sz + 2) (sz + 3) (sv0 (0 : Int32) (0 : Int32) x5)) := sh_Dof
  refine W.widen (k := 4) (n := 152) (Nat.le_of_ble_eq_true rfl) (Nat.le_of_ble_eq_true rfl) ?_
  refine lv_astore (lv' := [(7, .ref sz), (0, .ref N0), (1, .long x1), (3, .long x3), (5, .long x5)]) hx hb dF_circle_21 hl (by decide) rfl (fun ls hl => ?_)
  refine lv_aload hx hb dF_circle_23 (lv_at hl 0 rfl) ?_
  refine lv_lload_n hx hb dF_circle_25 rfl (lv_at hl 2 rfl) ?_
  refine lv_lload_n hx hb dF_circle_26 rfl (lv_at hl 3 rfl) ?_
  obtain ⟨u4, hu4, h⟩ := ob_some h
  refine mu_call (va_runV (As := [.long x1, .long x3]) (rest := []) ⟨hx, hb, hml, hown, hw⟩ (k_S_addCorner l dC dI cL cI sz (sz + 1) (sz + 2) (sz + 3) (sv0 (0 : Int32) (0 : Int32) x5) x1 x3 u4 hu4) (cwV 2 hw (gV w_170 w_171 w_172 w_7 w_173) rfl rfl rfl (by decide +kernel) ⟨Nat.le_of_ble_eq_true rfl, Nat.le_of_ble_eq_true rfl⟩) ⟨rd_blind, va_recv hK hPb (ci := 0) (q0 := 0) rfl rfl, rd_pre ⟨hPb, sh_D4⟩ hK2⟩ rfl rfl hl.1 rfl (lv_room (Nat.le_of_ble_eq_true rfl)) dF_circle_27 ⟨Nat.le_of_ble_eq_true rfl, Nat.le_of_ble_eq_true rfl⟩) hS (fun q z => by have z : q = sz ∨ q = sz + 1 ∨ q = sz + 2 ∨ q = sz + 3 := z; show sz ≤ q; omega) (fun H locs hPb hS _ _ => ?_)
  have hD := sh_D (u4.2) hD
  refine lv_pop hx hb dF_circle_30 rfl ?_
  refine lv_aload_n hx hb dF_circle_31 rfl (lv_at hl 1 rfl) ?_
  refine lv_aload hx hb dF_circle_32 (lv_at hl 0 rfl) ?_
  have hSF := sfs_keep hPx hz0 hS
  refine al_call (va_runV (As := [.ref sz]) (rest := []) ⟨hx, hb, hml, hown, hw⟩ (k_F_keep l dC dI cL cI cO N0 bs v sz u4.2) (cwV 1 hw (gV w_74 w_76 wp_0 w_1 w_77) rfl rfl rfl (by decide +kernel) ⟨Nat.le_of_ble_eq_true rfl, Nat.le_of_ble_eq_true rfl⟩) ⟨rd_blind, va_recv hK hSF.1.1 (ci := 1) (q0 := 0) rfl rfl, rd_pre ⟨hSF, hPb, hfar, hN0⟩ hK⟩ rfl rfl hl.1 rfl (lv_room (Nat.le_of_ble_eq_true rfl)) dF_circle_34 ⟨Nat.le_of_ble_eq_true rfl, Nat.le_of_ble_eq_true rfl⟩) (hS.mono (sfs_in hN0)) (fun _ z => z) (fun H locs hG hS _ _ => ?_)
  have h := Option.some.inj h
  subst h
  exact W.iret hx hb hr (fun t ht hW => ⟨rfl, ⟨_, by rw [ht]; exact hG⟩, hS.F ht⟩) hS.2.2 dF_circle_37
def f_F_box_j57 (v : CV) : Option (Int32 × CV) := none
def f_F_box (v : CV) (x1 : Int64) (x3 : Int64) (x5 : Int64) (x7 : Int64) (x9 : Int64) : Option (Int32 × CV) := (f_F_needPlace x1 x3).bind fun u1 => (f_F_needLength x5).bind fun u2 => (f_F_needLength x7).bind fun u3 => (f_F_needPlace (x1 + x5) (x3 + x7)).bind fun u4 => (if (lg_cmp x9 (0 : Int64)) < 0 then (f_F_box_j57 v) else (if 0 < (lg_cmp x9 (x5 / (2 : Int64))) then (f_F_box_j57 v) else (if (lg_cmp x9 (x7 / (2 : Int64))) ≤ 0 then (f_F_roundedBox (x1 + x9) (x3 + x9) ((x1 + x5) - x9) ((x3 + x7) - x9) x9).bind fun v8 => some (f_F_keep v v8) else (f_F_box_j57 v))))
set_option maxHeartbeats 1000000 in
set_option maxRecDepth 100000 in
theorem k_F_box (l : Launch) (dC : Nat → ClassId) (dI : Nat → Nat → Nat) (cL cI cO : ClassId) (N0 sz : Nat) (bs : Nat → Nat) (v : CV) (x1 : Int64) (x3 : Int64) (x5 : Int64) (x7 : Int64) (x9 : Int64) (r : (Int32 × CV)) (h : f_F_box v x1 x3 x5 x7 x9 = some r) : Met l yF_box wsF_box ({ frames := 3, cells := 4, slots := 152, locals := 75 }) (rd_Pc [.ref N0, .long x1, .long x3, .long x5, .long x7, .long x9] (fun H => SFS (dC, dI) cL cI cO N0 bs v H ∧ H.size = sz) (dC, dI) cls3 (ty3 cL cI cO)) (al_Q (some (.int r.1)) (fun H => ∃ bs', SFS (dC, dI) cL cI cO N0 bs' r.2 H) (inC N0)) 4 152 (inC N0) := by
  refine Met.ofW (cc := cF_box) (maxL := 11) (ret := (some .int)) (by decide) rfl ?_
  intro p e s m args below meth c s₁ B hml hv
  obtain ⟨rfl, ⟨hPx, hz0⟩, hK⟩ := hv
  have hx := B.exec
  have hb := B.bytes
  have hr := B.returns
  have hw : ∀ w ∈ wG, w.before ([.ref N0, .long x1, .long x3, .long x5, .long x7, .long x9] : List Value).toArray s = true := fun w hq => atoms_spec (ws := wsF_box) B.pre w (List.mem_cons_of_mem _ hq)
  have hown : s.vm.findClass R_F = some m.cls := findClass_of_methodNamed B.named
  have hlocks := B.notSynchronized
  have hK2 := hK.sub (tys' := [(cL, .long), (cI, .int)]) [0, 1] rfl
  have hN0 : N0 + 17 ≤ sz := by rw [← hz0]; exact hPx.2.2.2
  have hfar : ∀ i, i < v.1 → bs i + 4 ≤ sz := by rw [← hz0]; exact sfs_far hPx
  have hl := lv_entry ([.ref N0, .long x1, .long x3, .long x5, .long x7, .long x9] : List Value) (n := 11) (Nat.le_of_ble_eq_true rfl)
  rw [lg_entry_eq]
  generalize (lg_sl ([.ref N0, .long x1, .long x3, .long x5, .long x7, .long x9] : List Value) ++ List.replicate (11 - (lg_sl ([.ref N0, .long x1, .long x3, .long x5, .long x7, .long x9] : List Value)).length) Slot.unset).toArray = ls at hl ⊢
  have hl : lv_has ls 11 [(0, .ref N0), (1, .long x1), (3, .long x3), (5, .long x5), (7, .long x7), (9, .long x9)] := hl
  have k57 : f_F_box_j57 v = some r → ∀ (H : Heap) (locs : List Loc), H.size = sz → va_S (fun x => sz ≤ x) s.heap H locs → ∀ (ls : Array Slot), lv_has ls 11 [] → W p l e (headSpec wsF_box ({ frames := 3, cells := 4, slots := 152, locals := 75 })).room s m ([.ref N0, .long x1, .long x3, .long x5, .long x7, .long x9] : List Value).toArray below meth c H locs 0 0 (MQ below (al_Q (some (.int r.1)) (fun H => ∃ bs', SFS (dC, dI) cL cI cO N0 bs' r.2 H) (inC N0)) ([.ref N0, .long x1, .long x3, .long x5, .long x7, .long x9] : List Value).toArray s 4 152 (inC N0)) (F0 m 57 ls []) := by
    intro  h H locs hz hS ls hl
    unfold f_F_box_j57 at h
    cases h
  obtain ⟨H, hH⟩ : ∃ H : Heap, H = s.heap := ⟨_, rfl⟩
  obtain ⟨locs, hlocs⟩ : ∃ L : List Loc, L = [] := ⟨_, rfl⟩
  suffices hgo : W p l e (headSpec wsF_box ({ frames := 3, cells := 4, slots := 152, locals := 75 })).room s m ([.ref N0, .long x1, .long x3, .long x5, .long x7, .long x9] : List Value).toArray below meth c H locs 0 0 (MQ below (al_Q (some (.int r.1)) (fun H => ∃ bs', SFS (dC, dI) cL cI cO N0 bs' r.2 H) (inC N0)) ([.ref N0, .long x1, .long x3, .long x5, .long x7, .long x9] : List Value).toArray s 4 152 (inC N0)) (F0 m 0 ls []) by rw [hH, hlocs] at hgo; exact hgo
  have hS : va_S (fun x => sz ≤ x) s.heap H locs := by rw [hH, hlocs]; exact va_S.rf
  have hz : H.size = sz := by rw [hH]; exact hz0
  clear hH hlocs
  unfold f_F_box at h
  refine lv_lload_n hx hb dF_box_0 rfl (lv_at hl 1 rfl) ?_
  refine lv_lload_n hx hb dF_box_1 rfl (lv_at hl 2 rfl) ?_
  obtain ⟨u1, hu1, h⟩ := ob_some h
  refine va_csv (va_Run.run (va_runS (As := [.long x1, .long x3]) (rest := []) ⟨hx, hb, hml, hown, hw⟩ (k_F_needPlace l dC dI cL cI x1 x3 u1 hu1) (va_cwS 2 hw (gS w_86 w_87 w_1 w_88) rfl rfl rfl (by decide +kernel) ⟨Nat.le_of_ble_eq_true rfl, Nat.le_of_ble_eq_true rfl⟩) ⟨rd_blind, rd_pre trivial hK2⟩ rfl rfl hl.1 rfl (lv_room (Nat.le_of_ble_eq_true rfl)) dF_box_2 ⟨Nat.le_of_ble_eq_true rfl, Nat.le_of_ble_eq_true rfl⟩)) (fun _ => ?_)
  refine lv_lload hx hb dF_box_5 (lv_at hl 3 rfl) ?_
  obtain ⟨u2, hu2, h⟩ := ob_some h
  refine va_csv (va_Run.run (va_runS (As := [.long x5]) (rest := []) ⟨hx, hb, hml, hown, hw⟩ (k_F_needLength l dC dI cL cI x5 u2 hu2) (va_cwS 1 hw (gS w_162 w_163 w_1 w_164) rfl rfl rfl (by decide +kernel) ⟨Nat.le_of_ble_eq_true rfl, Nat.le_of_ble_eq_true rfl⟩) ⟨rd_blind, rd_pre trivial hK2⟩ rfl rfl hl.1 rfl (lv_room (Nat.le_of_ble_eq_true rfl)) dF_box_7 ⟨Nat.le_of_ble_eq_true rfl, Nat.le_of_ble_eq_true rfl⟩)) (fun _ => ?_)
  refine lv_lload hx hb dF_box_10 (lv_at hl 4 rfl) ?_
  obtain ⟨u3, hu3, h⟩ := ob_some h
  refine va_csv (va_Run.run (va_runS (As := [.long x7]) (rest := []) ⟨hx, hb, hml, hown, hw⟩ (k_F_needLength l dC dI cL cI x7 u3 hu3) (va_cwS 1 hw (gS w_162 w_163 w_1 w_164) rfl rfl rfl (by decide +kernel) ⟨Nat.le_of_ble_eq_true rfl, Nat.le_of_ble_eq_true rfl⟩) ⟨rd_blind, rd_pre trivial hK2⟩ rfl rfl hl.1 rfl (lv_room (Nat.le_of_ble_eq_true rfl)) dF_box_12 ⟨Nat.le_of_ble_eq_true rfl, Nat.le_of_ble_eq_true rfl⟩)) (fun _ => ?_)
  refine lv_lload_n hx hb dF_box_15 rfl (lv_at hl 1 rfl) ?_
  refine lv_lload hx hb dF_box_16 (lv_at hl 3 rfl) ?_
  refine lv_ladd hx hb dF_box_18 ?_
  refine lv_lload_n hx hb dF_box_19 rfl (lv_at hl 2 rfl) ?_
  refine lv_lload hx hb dF_box_20 (lv_at hl 4 rfl) ?_
  refine lv_ladd hx hb dF_box_22 ?_
  obtain ⟨u4, hu4, h⟩ := ob_some h
  refine va_csv (va_Run.run (va_runS (As := [.long (x1 + x5), .long (x3 + x7)]) (rest := []) ⟨hx, hb, hml, hown, hw⟩ (k_F_needPlace l dC dI cL cI (x1 + x5) (x3 + x7) u4 hu4) (va_cwS 2 hw (gS w_86 w_87 w_1 w_88) rfl rfl rfl (by decide +kernel) ⟨Nat.le_of_ble_eq_true rfl, Nat.le_of_ble_eq_true rfl⟩) ⟨rd_blind, rd_pre trivial hK2⟩ rfl rfl hl.1 rfl (lv_room (Nat.le_of_ble_eq_true rfl)) dF_box_23 ⟨Nat.le_of_ble_eq_true rfl, Nat.le_of_ble_eq_true rfl⟩)) (fun _ => ?_)
  refine lv_lload hx hb dF_box_26 (lv_at hl 5 rfl) ?_
  refine lv_lconst (v := 0) hx hb dF_box_28 (by decide) ?_
  refine W.lcmp hx hb dF_box_29 ?_
  refine lv_if_lt (tgt := 57) hx hb dF_box_30 (by decide) (fun c5 => ?_) (fun c5 => ?_)
  · have h := it_t c5 h
    exact k57 h H locs hz hS ls (lv_sub hl [] rfl)
  · have h := it_f c5 h
    refine lv_lload hx hb dF_box_33 (lv_at hl 5 rfl) ?_
    refine lv_lload hx hb dF_box_35 (lv_at hl 3 rfl) ?_
    refine lv_ldc2 (v := 2) hx hb hown (hw _ w_181) dF_box_37 ?_
    refine lv_ldiv hx hb dF_box_40 (by decide) ?_
    refine W.lcmp hx hb dF_box_41 ?_
    refine lv_if_gt (tgt := 57) hx hb dF_box_42 (by decide) (fun c6 => ?_) (fun c6 => ?_)
    · have h := it_t c6 h
      exact k57 h H locs hz hS ls (lv_sub hl [] rfl)
    · have h := it_f c6 h
      refine lv_lload hx hb dF_box_45 (lv_at hl 5 rfl) ?_
      refine lv_lload hx hb dF_box_47 (lv_at hl 4 rfl) ?_
      refine lv_ldc2 (v := 2) hx hb hown (hw _ w_181) dF_box_49 ?_
      refine lv_ldiv hx hb dF_box_52 (by decide) ?_
      refine W.lcmp hx hb dF_box_53 ?_
      refine lv_if_le (tgt := 67) hx hb dF_box_54 (by decide) (fun c7 => ?_) (fun c7 => ?_)
      · have h := it_t c7 h
        refine lv_aload_n hx hb dF_box_67 rfl (lv_at hl 0 rfl) ?_
        refine lv_lload_n hx hb dF_box_68 rfl (lv_at hl 1 rfl) ?_
        refine lv_lload hx hb dF_box_69 (lv_at hl 5 rfl) ?_
        refine lv_ladd hx hb dF_box_71 ?_
        refine lv_lload_n hx hb dF_box_72 rfl (lv_at hl 2 rfl) ?_
        refine lv_lload hx hb dF_box_73 (lv_at hl 5 rfl) ?_
        refine lv_ladd hx hb dF_box_75 ?_
        refine lv_lload_n hx hb dF_box_76 rfl (lv_at hl 1 rfl) ?_
        refine lv_lload hx hb dF_box_77 (lv_at hl 3 rfl) ?_
        refine lv_ladd hx hb dF_box_79 ?_
        refine lv_lload hx hb dF_box_80 (lv_at hl 5 rfl) ?_
        refine lv_lsub hx hb dF_box_82 ?_
        refine lv_lload_n hx hb dF_box_83 rfl (lv_at hl 2 rfl) ?_
        refine lv_lload hx hb dF_box_84 (lv_at hl 4 rfl) ?_
        refine lv_ladd hx hb dF_box_86 ?_
        refine lv_lload hx hb dF_box_87 (lv_at hl 5 rfl) ?_
        refine lv_lsub hx hb dF_box_89 ?_
        refine lv_lload hx hb dF_box_90 (lv_at hl 5 rfl) ?_
        obtain ⟨v8, hv8, h⟩ := ob_some h
        refine al_call (va_runS (As := [.long (x1 + x9), .long (x3 + x9), .long ((x1 + x5) - x9), .long ((x3 + x7) - x9), .long x9]) (rest := [.ref N0]) ⟨hx, hb, hml, hown, hw⟩ (k_F_roundedBox l dC dI cL cI sz (x1 + x9) (x3 + x9) ((x1 + x5) - x9) ((x3 + x7) - x9) x9 v8 hv8) (va_cwS 5 hw (gS w_183 w_184 w_1 w_185) rfl rfl rfl (by decide +kernel) ⟨Nat.le_of_ble_eq_true rfl, Nat.le_of_ble_eq_true rfl⟩) ⟨rd_blind, rd_pre hz hK2⟩ rfl rfl hl.1 rfl (lv_room (Nat.le_of_ble_eq_true rfl)) dF_box_92 ⟨Nat.le_of_ble_eq_true rfl, Nat.le_of_ble_eq_true rfl⟩) hS (fun _ z => z) (fun H locs hPb hS _ _ => ?_)
        have hD : va_D (fun x => sz ≤ x) (shW cL cI sz (sz + 1) (sz + 2) (sz + 3) v8) := sh_Dof
        refine W.widen (k := 4) (n := 152) (Nat.le_of_ble_eq_true rfl) (Nat.le_of_ble_eq_true rfl) ?_
        have hSF := sfs_keep hPx hz0 hS
        refine al_call (va_runV (As := [.ref sz]) (rest := []) ⟨hx, hb, hml, hown, hw⟩ (k_F_keep l dC dI cL cI cO N0 bs v sz v8) (cwV 1 hw (gV w_74 w_76 wp_0 w_1 w_77) rfl rfl rfl (by decide +kernel) ⟨Nat.le_of_ble_eq_true rfl, Nat.le_of_ble_eq_true rfl⟩) ⟨rd_blind, va_recv hK hSF.1.1 (ci := 1) (q0 := 0) rfl rfl, rd_pre ⟨hSF, hPb, hfar, hN0⟩ hK⟩ rfl rfl hl.1 rfl (lv_room (Nat.le_of_ble_eq_true rfl)) dF_box_95 ⟨Nat.le_of_ble_eq_true rfl, Nat.le_of_ble_eq_true rfl⟩) (hS.mono (sfs_in hN0)) (fun _ z => z) (fun H locs hG hS _ _ => ?_)
        have h := Option.some.inj h
        subst h
        exact W.iret hx hb hr (fun t ht hW => ⟨rfl, ⟨_, by rw [ht]; exact hG⟩, hS.F ht⟩) hS.2.2 dF_box_98
      · have h := it_f c7 h
        exact k57 h H locs hz hS ls (lv_sub hl [] rfl)
def f_F_grow_j28 (v : CV) : Option (Int32 × CV) := none
def f_F_grow (v : CV) (x1 : Int32) (x2 : Int64) : Option (Int32 × CV) := (f_F_find v x1).bind fun u1 => (f_F_needWhole (v.2 u1)).bind fun u2 => (if (lg_cmp x2 (-1000000000 : Int64)) < 0 then (f_F_grow_j28 v) else (if (lg_cmp x2 (1000000000 : Int64)) ≤ 0 then (f_F_isLength ((sR (v.2 u1)) + x2)).bind fun u5 => (if u5 = 0 then some ((-1 : Int32), v) else (f_S_copyWithRadius (v.2 u1) ((sR (v.2 u1)) + x2)).bind fun v7 => some (f_F_keep v v7)) else (f_F_grow_j28 v)))
set_option maxHeartbeats 1000000 in
set_option maxRecDepth 100000 in
theorem k_F_grow (l : Launch) (dC : Nat → ClassId) (dI : Nat → Nat → Nat) (cL cI cO : ClassId) (N0 sz : Nat) (bs : Nat → Nat) (v : CV) (x1 : Int32) (x2 : Int64) (r : (Int32 × CV)) (h : f_F_grow v x1 x2 = some r) : Met l yF_grow wsF_grow ({ frames := 3, cells := 4, slots := 152, locals := 68 }) (rd_Pc [.ref N0, .int x1, .long x2] (fun H => SFS (dC, dI) cL cI cO N0 bs v H ∧ H.size = sz) (dC, dI) cls3 (ty3 cL cI cO)) (al_Q (some (.int r.1)) (fun H => ∃ bs', SFS (dC, dI) cL cI cO N0 bs' r.2 H) (inC N0)) 4 152 (inC N0) := by
  refine Met.ofW (cc := cF_grow) (maxL := 7) (ret := (some .int)) (by decide) rfl ?_
  intro p e s m args below meth c s₁ B hml hv
  obtain ⟨rfl, ⟨hPx, hz0⟩, hK⟩ := hv
  have hx := B.exec
  have hb := B.bytes
  have hr := B.returns
  have hw : ∀ w ∈ wG, w.before ([.ref N0, .int x1, .long x2] : List Value).toArray s = true := fun w hq => atoms_spec (ws := wsF_grow) B.pre w (List.mem_cons_of_mem _ hq)
  have hown : s.vm.findClass R_F = some m.cls := findClass_of_methodNamed B.named
  have hlocks := B.notSynchronized
  have hK2 := hK.sub (tys' := [(cL, .long), (cI, .int)]) [0, 1] rfl
  have hN0 : N0 + 17 ≤ sz := by rw [← hz0]; exact hPx.2.2.2
  have hfar : ∀ i, i < v.1 → bs i + 4 ≤ sz := by rw [← hz0]; exact sfs_far hPx
  have hl := lv_entry ([.ref N0, .int x1, .long x2] : List Value) (n := 7) (Nat.le_of_ble_eq_true rfl)
  rw [lg_entry_eq]
  generalize (lg_sl ([.ref N0, .int x1, .long x2] : List Value) ++ List.replicate (7 - (lg_sl ([.ref N0, .int x1, .long x2] : List Value)).length) Slot.unset).toArray = ls at hl ⊢
  have hl : lv_has ls 7 [(0, .ref N0), (1, .int x1), (2, .long x2)] := hl
  have k28 : f_F_grow_j28 v = some r → ∀ (H : Heap) (locs : List Loc), H.size = sz → va_S (fun x => sz ≤ x) s.heap H locs → ∀ (ls : Array Slot), lv_has ls 7 [] → W p l e (headSpec wsF_grow ({ frames := 3, cells := 4, slots := 152, locals := 68 })).room s m ([.ref N0, .int x1, .long x2] : List Value).toArray below meth c H locs 0 0 (MQ below (al_Q (some (.int r.1)) (fun H => ∃ bs', SFS (dC, dI) cL cI cO N0 bs' r.2 H) (inC N0)) ([.ref N0, .int x1, .long x2] : List Value).toArray s 4 152 (inC N0)) (F0 m 28 ls []) := by
    intro  h H locs hz hS ls hl
    unfold f_F_grow_j28 at h
    cases h
  obtain ⟨H, hH⟩ : ∃ H : Heap, H = s.heap := ⟨_, rfl⟩
  obtain ⟨locs, hlocs⟩ : ∃ L : List Loc, L = [] := ⟨_, rfl⟩
  suffices hgo : W p l e (headSpec wsF_grow ({ frames := 3, cells := 4, slots := 152, locals := 68 })).room s m ([.ref N0, .int x1, .long x2] : List Value).toArray below meth c H locs 0 0 (MQ below (al_Q (some (.int r.1)) (fun H => ∃ bs', SFS (dC, dI) cL cI cO N0 bs' r.2 H) (inC N0)) ([.ref N0, .int x1, .long x2] : List Value).toArray s 4 152 (inC N0)) (F0 m 0 ls []) by rw [hH, hlocs] at hgo; exact hgo
  have hS : va_S (fun x => sz ≤ x) s.heap H locs := by rw [hH, hlocs]; exact va_S.rf
  have hz : H.size = sz := by rw [hH]; exact hz0
  clear hH hlocs
  unfold f_F_grow at h
  refine lv_aload_n hx hb dF_grow_0 rfl (lv_at hl 0 rfl) ?_
  refine lv_iload_n hx hb dF_grow_1 rfl (lv_at hl 1 rfl) ?_
  obtain ⟨u1, hu1, h⟩ := ob_some h
  refine va_csr (va_Run.run (va_runV (As := [.int x1]) (rest := []) ⟨hx, hb, hml, hown, hw⟩ (k_F_find l dC dI cL cI cO N0 (N0 + 1) (adB bs) v x1 u1 hu1) (cwV 1 hw (gV w_204 w_206 wp_2 w_1 w_207) rfl rfl rfl (by decide +kernel) ⟨Nat.le_of_ble_eq_true rfl, Nat.le_of_ble_eq_true rfl⟩) ⟨rd_blind, va_recv hK (sfs_keep hPx hz0 hS).1.1 (ci := 1) (q0 := 0) rfl rfl, rd_pre (sfs_keep hPx hz0 hS).1 hK⟩ rfl rfl hl.1 rfl (lv_room (Nat.le_of_ble_eq_true rfl)) dF_grow_2 ⟨Nat.le_of_ble_eq_true rfl, Nat.le_of_ble_eq_true rfl⟩)) (fun z hz9 => ?_)
  rw [hz9]; clear hz9
  have hltu1 := (find_lt hPx.1.2.2 hu1).1
  refine lv_astore (lv' := [(4, .ref (bs u1 + 0)), (0, .ref N0), (1, .int x1), (2, .long x2)]) hx hb dF_grow_5 hl (by decide) rfl (fun ls hl => ?_)
  refine lv_aload hx hb dF_grow_7 (lv_at hl 0 rfl) ?_
  obtain ⟨u2, hu2, h⟩ := ob_some h
  refine va_csv (va_Run.run (va_runS (As := [.ref (bs u1 + 0)]) (rest := []) ⟨hx, hb, hml, hown, hw⟩ (k_F_needWhole l dC dI cL cI (bs u1 + 0) (bs u1 + 1) (bs u1 + 2) (bs u1 + 3) (v.2 u1) u2 hu2) (va_cwS 1 hw (gS w_295 w_296 w_1 w_297) rfl rfl rfl (by decide +kernel) ⟨Nat.le_of_ble_eq_true rfl, Nat.le_of_ble_eq_true rfl⟩) ⟨rd_blind, rd_pre (keepN (hPx.1.2.1 u1 hltu1) hz0 hS) hK2⟩ rfl rfl hl.1 rfl (lv_room (Nat.le_of_ble_eq_true rfl)) dF_grow_9 ⟨Nat.le_of_ble_eq_true rfl, Nat.le_of_ble_eq_true rfl⟩)) (fun _ => ?_)
  refine lv_lload_n hx hb dF_grow_12 rfl (lv_at hl 3 rfl) ?_
  refine lv_ldc2 (v := (-1000000000)) hx hb hown (hw _ w_304) dF_grow_13 ?_
  refine W.lcmp hx hb dF_grow_16 ?_
  refine lv_if_lt (tgt := 28) hx hb dF_grow_17 (by decide) (fun c3 => ?_) (fun c3 => ?_)
  · have h := it_t c3 h
    exact k28 h H locs hz hS ls (lv_sub hl [] rfl)
  · have h := it_f c3 h
    refine lv_lload_n hx hb dF_grow_20 rfl (lv_at hl 3 rfl) ?_
    refine lv_ldc2 (v := 1000000000) hx hb hown (hw _ w_168) dF_grow_21 ?_
    refine W.lcmp hx hb dF_grow_24 ?_
    refine lv_if_le (tgt := 38) hx hb dF_grow_25 (by decide) (fun c4 => ?_) (fun c4 => ?_)
    · have h := it_t c4 h
      refine lv_aload hx hb dF_grow_38 (lv_at hl 0 rfl) ?_
      refine va_get (D := (dC, dI)) (ci := 0) (v := .long (sR (v.2 u1))) (C := R_S) (T := T_S) (N := 8) hx hb hw in_S hown hK (keepN (hPx.1.2.1 u1 hltu1) hz0 hS) 0 rfl rfl 2 (by decide) (hw _ w_45) (fun _ h9 => h9) rfl dF_grow_40 ?_
      refine lv_lload_n hx hb dF_grow_43 rfl (lv_at hl 3 rfl) ?_
      refine lv_ladd hx hb dF_grow_44 ?_
      refine lv_lstore (lv' := [(5, .long ((sR (v.2 u1)) + x2)), (4, .ref (bs u1 + 0)), (0, .ref N0), (1, .int x1), (2, .long x2)]) hx hb dF_grow_45 hl (by decide) rfl (fun ls hl => ?_)
      refine lv_lload hx hb dF_grow_47 (lv_at hl 0 rfl) ?_
      obtain ⟨u5, hu5, h⟩ := ob_some h
      refine vp_callSi (va_Run.run (va_runS (As := [.long ((sR (v.2 u1)) + x2)]) (rest := []) ⟨hx, hb, hml, hown, hw⟩ (k_F_isLength l dC dI cL cI ((sR (v.2 u1)) + x2) u5 hu5) (va_cwS 1 hw (gS w_165 w_166 w_1 w_167) rfl rfl rfl (by decide +kernel) ⟨Nat.le_of_ble_eq_true rfl, Nat.le_of_ble_eq_true rfl⟩) ⟨rd_blind, rd_pre trivial hK2⟩ rfl rfl hl.1 rfl (lv_room (Nat.le_of_ble_eq_true rfl)) dF_grow_49 ⟨Nat.le_of_ble_eq_true rfl, Nat.le_of_ble_eq_true rfl⟩)) (fun z hz9 => ?_)
      rw [hz9]; clear hz9
      refine lv_if_ne (tgt := 57) hx hb dF_grow_52 (by decide) (fun c6 => ?_) (fun c6 => ?_)
      · have h := it_f c6 h
        refine lv_aload_n hx hb dF_grow_57 rfl (lv_at hl 2 rfl) ?_
        refine lv_aload hx hb dF_grow_58 (lv_at hl 1 rfl) ?_
        refine lv_lload hx hb dF_grow_60 (lv_at hl 0 rfl) ?_
        obtain ⟨v7, hv7, h⟩ := ob_some h
        refine al_call (va_runV (As := [.long ((sR (v.2 u1)) + x2)]) (rest := [.ref N0]) ⟨hx, hb, hml, hown, hw⟩ (k_S_copyWithRadius l dC dI cL cI sz (bs u1 + 0) (bs u1 + 1) (bs u1 + 2) (bs u1 + 3) (v.2 u1) ((sR (v.2 u1)) + x2) v7 hv7) (cwV 1 hw (gV w_306 w_307 w_308 w_7 w_309) rfl rfl rfl (by decide +kernel) ⟨Nat.le_of_ble_eq_true rfl, Nat.le_of_ble_eq_true rfl⟩) ⟨rd_blind, va_recv hK (keepN (hPx.1.2.1 u1 hltu1) hz0 hS) (ci := 0) (q0 := 0) rfl rfl, rd_pre ⟨(keepN (hPx.1.2.1 u1 hltu1) hz0 hS), hz⟩ hK2⟩ rfl rfl hl.1 rfl (lv_room (Nat.le_of_ble_eq_true rfl)) dF_grow_62 ⟨Nat.le_of_ble_eq_true rfl, Nat.le_of_ble_eq_true rfl⟩) hS (fun _ z => z) (fun H locs hPb hS _ _ => ?_)
        have hD : va_D (fun x => sz ≤ x) (shW cL cI sz (sz + 1) (sz + 2) (sz + 3) v7) := sh_Dof
        refine W.widen (k := 4) (n := 152) (Nat.le_of_ble_eq_true rfl) (Nat.le_of_ble_eq_true rfl) ?_
        have hSF := sfs_keep hPx hz0 hS
        refine al_call (va_runV (As := [.ref sz]) (rest := []) ⟨hx, hb, hml, hown, hw⟩ (k_F_keep l dC dI cL cI cO N0 bs v sz v7) (cwV 1 hw (gV w_74 w_76 wp_0 w_1 w_77) rfl rfl rfl (by decide +kernel) ⟨Nat.le_of_ble_eq_true rfl, Nat.le_of_ble_eq_true rfl⟩) ⟨rd_blind, va_recv hK hSF.1.1 (ci := 1) (q0 := 0) rfl rfl, rd_pre ⟨hSF, hPb, hfar, hN0⟩ hK⟩ rfl rfl hl.1 rfl (lv_room (Nat.le_of_ble_eq_true rfl)) dF_grow_65 ⟨Nat.le_of_ble_eq_true rfl, Nat.le_of_ble_eq_true rfl⟩) (hS.mono (sfs_in hN0)) (fun _ z => z) (fun H locs hG hS _ _ => ?_)
        have h := Option.some.inj h
        subst h
        exact W.iret hx hb hr (fun t ht hW => ⟨rfl, ⟨_, by rw [ht]; exact hG⟩, hS.F ht⟩) hS.2.2 dF_grow_68
      · have h := it_t c6 h
        refine lv_iconst (v := -1) hx hb dF_grow_55 (by decide) ?_
        have h := Option.some.inj h
        subst h
        refine W.widen (k := 4) (n := 152) (Nat.le_of_ble_eq_true rfl) (Nat.le_of_ble_eq_true rfl) ?_
        exact W.iret hx hb hr (fun t ht hW => ⟨rfl, ⟨bs, by rw [ht]; exact sfs_keep hPx hz0 hS⟩, (hS.F ht).mono (sfs_in hN0)⟩) (fun q hq => sfs_in hN0 _ (hS.2.2 q hq)) dF_grow_56
    · have h := it_f c4 h
      exact k28 h H locs hz hS ls (lv_sub hl [] rfl)
def f_F_turn_l43 (v : CV) : Nat → SV → Int32 → Int32 → Option (Int32 × CV)
 | 0, _, _, _ => none
 | n + 1, vv, p6, p7 => (if p6 ≤ p7 then some (f_F_keep v vv) else (f_S_turnCornersOnce vv).bind fun u8 => ((f_F_turn_l43 v n) u8 p6 (p7 + 1)))
def f_F_turn_j33 (v : CV) (vv : SV) (p2 : Int32) : Option (Int32 × CV) := (f_JM_floorMod_II p2 (4 : Int32)).bind fun u6 => (f_F_turn_l43 v 64 vv u6 (0 : Int32))
def f_F_turn (v : CV) (x1 : Int32) (x2 : Int32) (x3 : Int32) : Option (Int32 × CV) := (f_F_find v x1).bind fun u1 => (f_F_needWhole (v.2 u1)).bind fun u2 => (f_S_copyWithRadius (v.2 u1) (sR (v.2 u1))).bind fun v3 => (if x3 = 0 then (f_F_turn_j33 v v3 x2) else (f_S_mirrorCorners v3).bind fun u5 => (f_F_turn_j33 v u5 x2))
set_option maxHeartbeats 1000000 in
set_option maxRecDepth 100000 in
theorem k_F_turn (l : Launch) (dC : Nat → ClassId) (dI : Nat → Nat → Nat) (cL cI cO : ClassId) (N0 sz : Nat) (bs : Nat → Nat) (v : CV) (x1 : Int32) (x2 : Int32) (x3 : Int32) (r : (Int32 × CV)) (h : f_F_turn v x1 x2 x3 = some r) : Met l yF_turn wsF_turn ({ frames := 3, cells := 4, slots := 152, locals := 68 }) (rd_Pc [.ref N0, .int x1, .int x2, .int x3] (fun H => SFS (dC, dI) cL cI cO N0 bs v H ∧ H.size = sz) (dC, dI) cls3 (ty3 cL cI cO)) (al_Q (some (.int r.1)) (fun H => ∃ bs', SFS (dC, dI) cL cI cO N0 bs' r.2 H) (inC N0)) 4 152 (inC N0) := by
  refine Met.ofW (cc := cF_turn) (maxL := 8) (ret := (some .int)) (by decide) rfl ?_
  intro p e s m args below meth c s₁ B hml hv
  obtain ⟨rfl, ⟨hPx, hz0⟩, hK⟩ := hv
  have hx := B.exec
  have hb := B.bytes
  have hr := B.returns
  have hw : ∀ w ∈ wG, w.before ([.ref N0, .int x1, .int x2, .int x3] : List Value).toArray s = true := fun w hq => atoms_spec (ws := wsF_turn) B.pre w (List.mem_cons_of_mem _ hq)
  have hown : s.vm.findClass R_F = some m.cls := findClass_of_methodNamed B.named
  have hlocks := B.notSynchronized
  have hK2 := hK.sub (tys' := [(cL, .long), (cI, .int)]) [0, 1] rfl
  have hN0 : N0 + 17 ≤ sz := by rw [← hz0]; exact hPx.2.2.2
  have hfar : ∀ i, i < v.1 → bs i + 4 ≤ sz := by rw [← hz0]; exact sfs_far hPx
  have hl := lv_entry ([.ref N0, .int x1, .int x2, .int x3] : List Value) (n := 8) (Nat.le_of_ble_eq_true rfl)
  rw [lg_entry_eq]
  generalize (lg_sl ([.ref N0, .int x1, .int x2, .int x3] : List Value) ++ List.replicate (8 - (lg_sl ([.ref N0, .int x1, .int x2, .int x3] : List Value)).length) Slot.unset).toArray = ls at hl ⊢
  have hl : lv_has ls 8 [(0, .ref N0), (1, .int x1), (2, .int x2), (3, .int x3)] := hl
  have k43 : ∀ (n43 : Nat), ∀ (vv : SV) (p6 : Int32) (p7 : Int32), f_F_turn_l43 v n43 vv p6 p7 = some r → ∀ (H : Heap) (locs : List Loc), va_P (dC, dI) cls3 (shW cL cI sz (sz + 1) (sz + 2) (sz + 3) vv) H → va_D (fun x => sz ≤ x) (shW cL cI sz (sz + 1) (sz + 2) (sz + 3) vv) → va_S (fun x => sz ≤ x) s.heap H locs → ∀ (ls : Array Slot), lv_has ls 8 [(0, .ref N0), (5, .ref sz), (6, .int p6), (7, .int p7)] → W p l e (headSpec wsF_turn ({ frames := 3, cells := 4, slots := 152, locals := 68 })).room s m ([.ref N0, .int x1, .int x2, .int x3] : List Value).toArray below meth c H locs 4 152 (MQ below (al_Q (some (.int r.1)) (fun H => ∃ bs', SFS (dC, dI) cL cI cO N0 bs' r.2 H) (inC N0)) ([.ref N0, .int x1, .int x2, .int x3] : List Value).toArray s 4 152 (inC N0)) (F0 m 43 ls []) := by
    intro n43
    induction n43 with
    | zero => intro vv p6 p7 h; exact absurd h (by simp [f_F_turn_l43])
    | succ n43 ih43 =>
      intro vv p6 p7 h H locs hPb hD hS ls hl
      rw [f_F_turn_l43] at h
      refine lv_iload hx hb dF_turn_43 (lv_at hl 3 rfl) ?_
      refine lv_iload hx hb dF_turn_45 (lv_at hl 2 rfl) ?_
      refine lv_icmp_ge (tgt := 61) hx hb dF_turn_47 (by decide) (fun c7 => ?_) (fun c7 => ?_)
      · have h := it_t c7 h
        refine lv_aload_n hx hb dF_turn_61 rfl (lv_at hl 0 rfl) ?_
        refine lv_aload hx hb dF_turn_62 (lv_at hl 1 rfl) ?_
        have hSF := sfs_keep hPx hz0 hS
        refine al_call (va_runV (As := [.ref sz]) (rest := []) ⟨hx, hb, hml, hown, hw⟩ (k_F_keep l dC dI cL cI cO N0 bs v sz vv) (cwV 1 hw (gV w_74 w_76 wp_0 w_1 w_77) rfl rfl rfl (by decide +kernel) ⟨Nat.le_of_ble_eq_true rfl, Nat.le_of_ble_eq_true rfl⟩) ⟨rd_blind, va_recv hK hSF.1.1 (ci := 1) (q0 := 0) rfl rfl, rd_pre ⟨hSF, hPb, hfar, hN0⟩ hK⟩ rfl rfl hl.1 rfl (lv_room (Nat.le_of_ble_eq_true rfl)) dF_turn_64 ⟨Nat.le_of_ble_eq_true rfl, Nat.le_of_ble_eq_true rfl⟩) (hS.mono (sfs_in hN0)) (fun _ z => z) (fun H locs hG hS _ _ => ?_)
        have h := Option.some.inj h
        subst h
        exact W.iret hx hb hr (fun t ht hW => ⟨rfl, ⟨_, by rw [ht]; exact hG⟩, hS.F ht⟩) hS.2.2 dF_turn_67
      · have h := it_f c7 h
        refine lv_aload hx hb dF_turn_50 (lv_at hl 1 rfl) ?_
        obtain ⟨u8, hu8, h⟩ := ob_some h
        refine mu_call (va_runV (As := []) (rest := []) ⟨hx, hb, hml, hown, hw⟩ (k_S_turnCornersOnce l dC dI cL cI sz (sz + 1) (sz + 2) (sz + 3) vv u8 hu8) (cwV 0 hw (gV w_406 w_407 w_408 w_7 w_409) rfl rfl rfl (by decide +kernel) ⟨Nat.le_of_ble_eq_true rfl, Nat.le_of_ble_eq_true rfl⟩) ⟨rd_blind, va_recv hK hPb (ci := 0) (q0 := 0) rfl rfl, rd_pre ⟨hPb, sh_D4⟩ hK2⟩ rfl rfl hl.1 rfl (lv_room (Nat.le_of_ble_eq_true rfl)) dF_turn_52 ⟨Nat.le_of_ble_eq_true rfl, Nat.le_of_ble_eq_true rfl⟩) hS (fun q z => by have z : q = sz ∨ q = sz + 1 ∨ q = sz + 2 ∨ q = sz + 3 := z; show sz ≤ q; omega) (fun H locs hPb hS _ _ => ?_)
        have hD := sh_D (u8) hD
        refine lv_iinc (v := p7 + 1) (lv' := [(7, .int (p7 + 1)), (0, .ref N0), (5, .ref sz), (6, .int p6)]) hx hb dF_turn_55 hl (k := 3) rfl rfl (by decide) rfl (fun ls hl => ?_)
        refine lv_goto (tgt := 43) hx hb dF_turn_58 (by decide) ?_
        exact ih43 u8 p6 (p7 + 1) h H locs hPb hD hS ls (lv_sub hl [1, 2, 3, 0] rfl)
  have k33 : ∀ (vv : SV) (p2 : Int32), f_F_turn_j33 v vv p2 = some r → ∀ (H : Heap) (locs : List Loc), va_P (dC, dI) cls3 (shW cL cI sz (sz + 1) (sz + 2) (sz + 3) vv) H → va_D (fun x => sz ≤ x) (shW cL cI sz (sz + 1) (sz + 2) (sz + 3) vv) → va_S (fun x => sz ≤ x) s.heap H locs → ∀ (ls : Array Slot), lv_has ls 8 [(0, .ref N0), (2, .int p2), (5, .ref sz)] → W p l e (headSpec wsF_turn ({ frames := 3, cells := 4, slots := 152, locals := 68 })).room s m ([.ref N0, .int x1, .int x2, .int x3] : List Value).toArray below meth c H locs 4 152 (MQ below (al_Q (some (.int r.1)) (fun H => ∃ bs', SFS (dC, dI) cL cI cO N0 bs' r.2 H) (inC N0)) ([.ref N0, .int x1, .int x2, .int x3] : List Value).toArray s 4 152 (inC N0)) (F0 m 33 ls []) := by
    intro vv p2 h H locs hPb hD hS ls hl
    unfold f_F_turn_j33 at h
    refine lv_iload_n hx hb dF_turn_33 rfl (lv_at hl 1 rfl) ?_
    refine lv_iconst (v := 4) hx hb dF_turn_34 (by decide) ?_
    obtain ⟨u6, hu6, h⟩ := ob_some h
    refine vp_callSi (va_Run.run (va_runS (As := [.int p2, .int (4 : Int32)]) (rest := []) ⟨hx, hb, hml, hown, hw⟩ (k_JM_floorMod_II l dC dI cL cI p2 (4 : Int32) u6 hu6) (va_cwS 2 hw (gS w_403 w_404 w_11 w_405) rfl rfl rfl (by decide +kernel) ⟨Nat.le_of_ble_eq_true rfl, Nat.le_of_ble_eq_true rfl⟩) ⟨rd_blind, rd_pre trivial hK2⟩ rfl rfl hl.1 rfl (lv_room (Nat.le_of_ble_eq_true rfl)) dF_turn_35 ⟨Nat.le_of_ble_eq_true rfl, Nat.le_of_ble_eq_true rfl⟩)) (fun z hz9 => ?_)
    rw [hz9]; clear hz9
    refine lv_istore (lv' := [(6, .int u6), (0, .ref N0), (2, .int p2), (5, .ref sz)]) hx hb dF_turn_38 hl (by decide) rfl (fun ls hl => ?_)
    refine lv_iconst (v := 0) hx hb dF_turn_40 (by decide) ?_
    refine lv_istore (lv' := [(7, .int (0 : Int32)), (6, .int u6), (0, .ref N0), (2, .int p2), (5, .ref sz)]) hx hb dF_turn_41 hl (by decide) rfl (fun ls hl => ?_)
    exact k43 64 vv u6 (0 : Int32) h H locs hPb hD hS ls (lv_sub hl [2, 4, 1, 0] rfl)
  obtain ⟨H, hH⟩ : ∃ H : Heap, H = s.heap := ⟨_, rfl⟩
  obtain ⟨locs, hlocs⟩ : ∃ L : List Loc, L = [] := ⟨_, rfl⟩
  suffices hgo : W p l e (headSpec wsF_turn ({ frames := 3, cells := 4, slots := 152, locals := 68 })).room s m ([.ref N0, .int x1, .int x2, .int x3] : List Value).toArray below meth c H locs 0 0 (MQ below (al_Q (some (.int r.1)) (fun H => ∃ bs', SFS (dC, dI) cL cI cO N0 bs' r.2 H) (inC N0)) ([.ref N0, .int x1, .int x2, .int x3] : List Value).toArray s 4 152 (inC N0)) (F0 m 0 ls []) by rw [hH, hlocs] at hgo; exact hgo
  have hS : va_S (fun x => sz ≤ x) s.heap H locs := by rw [hH, hlocs]; exact va_S.rf
  have hz : H.size = sz := by rw [hH]; exact hz0
  clear hH hlocs
  unfold f_F_turn at h
  refine lv_aload_n hx hb dF_turn_0 rfl (lv_at hl 0 rfl) ?_
  refine lv_iload_n hx hb dF_turn_1 rfl (lv_at hl 1 rfl) ?_
  obtain ⟨u1, hu1, h⟩ := ob_some h
  refine va_csr (va_Run.run (va_runV (As := [.int x1]) (rest := []) ⟨hx, hb, hml, hown, hw⟩ (k_F_find l dC dI cL cI cO N0 (N0 + 1) (adB bs) v x1 u1 hu1) (cwV 1 hw (gV w_204 w_206 wp_2 w_1 w_207) rfl rfl rfl (by decide +kernel) ⟨Nat.le_of_ble_eq_true rfl, Nat.le_of_ble_eq_true rfl⟩) ⟨rd_blind, va_recv hK (sfs_keep hPx hz0 hS).1.1 (ci := 1) (q0 := 0) rfl rfl, rd_pre (sfs_keep hPx hz0 hS).1 hK⟩ rfl rfl hl.1 rfl (lv_room (Nat.le_of_ble_eq_true rfl)) dF_turn_2 ⟨Nat.le_of_ble_eq_true rfl, Nat.le_of_ble_eq_true rfl⟩)) (fun z hz9 => ?_)
  rw [hz9]; clear hz9
  have hltu1 := (find_lt hPx.1.2.2 hu1).1
  refine lv_astore (lv' := [(4, .ref (bs u1 + 0)), (0, .ref N0), (1, .int x1), (2, .int x2), (3, .int x3)]) hx hb dF_turn_5 hl (by decide) rfl (fun ls hl => ?_)
  refine lv_aload hx hb dF_turn_7 (lv_at hl 0 rfl) ?_
  obtain ⟨u2, hu2, h⟩ := ob_some h
  refine va_csv (va_Run.run (va_runS (As := [.ref (bs u1 + 0)]) (rest := []) ⟨hx, hb, hml, hown, hw⟩ (k_F_needWhole l dC dI cL cI (bs u1 + 0) (bs u1 + 1) (bs u1 + 2) (bs u1 + 3) (v.2 u1) u2 hu2) (va_cwS 1 hw (gS w_295 w_296 w_1 w_297) rfl rfl rfl (by decide +kernel) ⟨Nat.le_of_ble_eq_true rfl, Nat.le_of_ble_eq_true rfl⟩) ⟨rd_blind, rd_pre (keepN (hPx.1.2.1 u1 hltu1) hz0 hS) hK2⟩ rfl rfl hl.1 rfl (lv_room (Nat.le_of_ble_eq_true rfl)) dF_turn_9 ⟨Nat.le_of_ble_eq_true rfl, Nat.le_of_ble_eq_true rfl⟩)) (fun _ => ?_)
  refine lv_aload hx hb dF_turn_12 (lv_at hl 0 rfl) ?_
  refine lv_aload hx hb dF_turn_14 (lv_at hl 0 rfl) ?_
  refine va_get (D := (dC, dI)) (ci := 0) (v := .long (sR (v.2 u1))) (C := R_S) (T := T_S) (N := 8) hx hb hw in_S hown hK (keepN (hPx.1.2.1 u1 hltu1) hz0 hS) 0 rfl rfl 2 (by decide) (hw _ w_45) (fun _ h9 => h9) rfl dF_turn_16 ?_
  obtain ⟨v3, hv3, h⟩ := ob_some h
  refine al_call (va_runV (As := [.long (sR (v.2 u1))]) (rest := []) ⟨hx, hb, hml, hown, hw⟩ (k_S_copyWithRadius l dC dI cL cI sz (bs u1 + 0) (bs u1 + 1) (bs u1 + 2) (bs u1 + 3) (v.2 u1) (sR (v.2 u1)) v3 hv3) (cwV 1 hw (gV w_306 w_307 w_308 w_7 w_309) rfl rfl rfl (by decide +kernel) ⟨Nat.le_of_ble_eq_true rfl, Nat.le_of_ble_eq_true rfl⟩) ⟨rd_blind, va_recv hK (keepN (hPx.1.2.1 u1 hltu1) hz0 hS) (ci := 0) (q0 := 0) rfl rfl, rd_pre ⟨(keepN (hPx.1.2.1 u1 hltu1) hz0 hS), hz⟩ hK2⟩ rfl rfl hl.1 rfl (lv_room (Nat.le_of_ble_eq_true rfl)) dF_turn_19 ⟨Nat.le_of_ble_eq_true rfl, Nat.le_of_ble_eq_true rfl⟩) hS (fun _ z => z) (fun H locs hPb hS _ _ => ?_)
  have hD : va_D (fun x => sz ≤ x) (shW cL cI sz (sz + 1) (sz + 2) (sz + 3) v3) := sh_Dof
  refine W.widen (k := 4) (n := 152) (Nat.le_of_ble_eq_true rfl) (Nat.le_of_ble_eq_true rfl) ?_
  refine lv_astore (lv' := [(5, .ref sz), (4, .ref (bs u1 + 0)), (0, .ref N0), (1, .int x1), (2, .int x2), (3, .int x3)]) hx hb dF_turn_22 hl (by decide) rfl (fun ls hl => ?_)
  refine lv_iload_n hx hb dF_turn_24 rfl (lv_at hl 5 rfl) ?_
  refine lv_if_eq (tgt := 33) hx hb dF_turn_25 (by decide) (fun c4 => ?_) (fun c4 => ?_)
  · have h := it_t c4 h
    exact k33 v3 x2 h H locs hPb hD hS ls (lv_sub hl [2, 4, 0] rfl)
  · have h := it_f c4 h
    refine lv_aload hx hb dF_turn_28 (lv_at hl 0 rfl) ?_
    obtain ⟨u5, hu5, h⟩ := ob_some h
    refine mu_call (va_runV (As := []) (rest := []) ⟨hx, hb, hml, hown, hw⟩ (k_S_mirrorCorners l dC dI cL cI sz (sz + 1) (sz + 2) (sz + 3) v3 u5 hu5) (cwV 0 hw (gV w_399 w_400 w_401 w_7 w_402) rfl rfl rfl (by decide +kernel) ⟨Nat.le_of_ble_eq_true rfl, Nat.le_of_ble_eq_true rfl⟩) ⟨rd_blind, va_recv hK hPb (ci := 0) (q0 := 0) rfl rfl, rd_pre ⟨hPb, sh_D4⟩ hK2⟩ rfl rfl hl.1 rfl (lv_room (Nat.le_of_ble_eq_true rfl)) dF_turn_30 ⟨Nat.le_of_ble_eq_true rfl, Nat.le_of_ble_eq_true rfl⟩) hS (fun q z => by have z : q = sz ∨ q = sz + 1 ∨ q = sz + 2 ∨ q = sz + 3 := z; show sz ≤ q; omega) (fun H locs hPb hS _ _ => ?_)
    have hD := sh_D (u5) hD
    exact k33 u5 x2 h H locs hPb hD hS ls (lv_sub hl [2, 4, 0] rfl)
