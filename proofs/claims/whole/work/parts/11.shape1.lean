/-! Shape: reading methods, laid by program -/
theorem dS_cross_0 : decode cS_cross 0 = .ok (.aload_n 0, 1) := by decide +kernel
theorem dS_cross_1 : decode cS_cross 1 = .ok (.getfield 30, 3) := by decide +kernel
theorem dS_cross_4 : decode cS_cross 4 = .ok (.iload_n 1, 1) := by decide +kernel
theorem dS_cross_5 : decode cS_cross 5 = .ok (.iaload, 1) := by decide +kernel
theorem dS_cross_6 : decode cS_cross 6 = .ok (.istore 6, 2) := by decide +kernel
theorem dS_cross_8 : decode cS_cross 8 = .ok (.aload_n 0, 1) := by decide +kernel
theorem dS_cross_9 : decode cS_cross 9 = .ok (.getfield 23, 3) := by decide +kernel
theorem dS_cross_12 : decode cS_cross 12 = .ok (.iload 6, 2) := by decide +kernel
theorem dS_cross_14 : decode cS_cross 14 = .ok (.laload, 1) := by decide +kernel
theorem dS_cross_15 : decode cS_cross 15 = .ok (.aload_n 0, 1) := by decide +kernel
theorem dS_cross_16 : decode cS_cross 16 = .ok (.getfield 23, 3) := by decide +kernel
theorem dS_cross_19 : decode cS_cross 19 = .ok (.iload_n 1, 1) := by decide +kernel
theorem dS_cross_20 : decode cS_cross 20 = .ok (.laload, 1) := by decide +kernel
theorem dS_cross_21 : decode cS_cross 21 = .ok (.lsub, 1) := by decide +kernel
theorem dS_cross_22 : decode cS_cross 22 = .ok (.lload 4, 2) := by decide +kernel
theorem dS_cross_24 : decode cS_cross 24 = .ok (.aload_n 0, 1) := by decide +kernel
theorem dS_cross_25 : decode cS_cross 25 = .ok (.getfield 27, 3) := by decide +kernel
theorem dS_cross_28 : decode cS_cross 28 = .ok (.iload_n 1, 1) := by decide +kernel
theorem dS_cross_29 : decode cS_cross 29 = .ok (.laload, 1) := by decide +kernel
theorem dS_cross_30 : decode cS_cross 30 = .ok (.lsub, 1) := by decide +kernel
theorem dS_cross_31 : decode cS_cross 31 = .ok (.lmul, 1) := by decide +kernel
theorem dS_cross_32 : decode cS_cross 32 = .ok (.aload_n 0, 1) := by decide +kernel
theorem dS_cross_33 : decode cS_cross 33 = .ok (.getfield 27, 3) := by decide +kernel
theorem dS_cross_36 : decode cS_cross 36 = .ok (.iload 6, 2) := by decide +kernel
theorem dS_cross_38 : decode cS_cross 38 = .ok (.laload, 1) := by decide +kernel
theorem dS_cross_39 : decode cS_cross 39 = .ok (.aload_n 0, 1) := by decide +kernel
theorem dS_cross_40 : decode cS_cross 40 = .ok (.getfield 27, 3) := by decide +kernel
theorem dS_cross_43 : decode cS_cross 43 = .ok (.iload_n 1, 1) := by decide +kernel
theorem dS_cross_44 : decode cS_cross 44 = .ok (.laload, 1) := by decide +kernel
theorem dS_cross_45 : decode cS_cross 45 = .ok (.lsub, 1) := by decide +kernel
theorem dS_cross_46 : decode cS_cross 46 = .ok (.lload_n 2, 1) := by decide +kernel
theorem dS_cross_47 : decode cS_cross 47 = .ok (.aload_n 0, 1) := by decide +kernel
theorem dS_cross_48 : decode cS_cross 48 = .ok (.getfield 23, 3) := by decide +kernel
theorem dS_cross_51 : decode cS_cross 51 = .ok (.iload_n 1, 1) := by decide +kernel
theorem dS_cross_52 : decode cS_cross 52 = .ok (.laload, 1) := by decide +kernel
theorem dS_cross_53 : decode cS_cross 53 = .ok (.lsub, 1) := by decide +kernel
theorem dS_cross_54 : decode cS_cross 54 = .ok (.lmul, 1) := by decide +kernel
theorem dS_cross_55 : decode cS_cross 55 = .ok (.lsub, 1) := by decide +kernel
theorem dS_cross_56 : decode cS_cross 56 = .ok (.lreturn, 1) := by decide +kernel
def f_S_cross (v : SV) (x1 : Int32) (x2 : Int64) (x4 : Int64) : Option Int64 := (ld 48 (sE v) x1).bind fun u1 => (ld 48 (sX v) u1).bind fun u2 => (ld 48 (sX v) x1).bind fun u3 => (ld 48 (sY v) x1).bind fun u4 => (ld 48 (sY v) u1).bind fun u5 => (ld 48 (sY v) x1).bind fun u6 => (ld 48 (sX v) x1).bind fun u7 => some (((u2 - u3) * (x4 - u4)) - ((u5 - u6) * (x2 - u7)))
set_option maxHeartbeats 4000000 in
set_option maxRecDepth 100000 in
theorem k_S_cross (l : Launch) (dC : Nat → ClassId) (dI : Nat → Nat → Nat) (cL cI : ClassId) (a ax ay ae : Nat) (v : SV) (x1 : Int32) (x2 : Int64) (x4 : Int64) (r : Int64) (h : f_S_cross v x1 x2 x4 = some r) : Met l yS_cross wsS_cross ({ frames := 0, cells := 0, slots := 0, locals := 0 }) (rd_Pc [.ref a, .int x1, .long x2, .long x4] (fun H => va_P (dC, dI) cls3 (shW cL cI a ax ay ae v) H) (dC, dI) cls3 [(cL, .long), (cI, .int)]) (vp_Sl (fun z => z = r)) 0 0 (fun _ => False) := by
  refine Met.ofW (cc := cS_cross) (maxL := 7) (ret := (some .long)) (by decide) rfl ?_
  intro p e s m args below meth c s₁ B hml hv
  obtain ⟨rfl, hPa, hK⟩ := hv
  have hx := B.exec
  have hb := B.bytes
  have hr := B.returns
  have hw : ∀ w ∈ wG, w.before ([.ref a, .int x1, .long x2, .long x4] : List Value).toArray s = true := fun w hq => atoms_spec (ws := wsS_cross) B.pre w (List.mem_cons_of_mem _ hq)
  have hown : s.vm.findClass R_S = some m.cls := findClass_of_methodNamed B.named
  have hlocks := B.notSynchronized
  have hl := lv_entry ([.ref a, .int x1, .long x2, .long x4] : List Value) (n := 7) (Nat.le_of_ble_eq_true rfl)
  rw [lg_entry_eq]
  generalize (lg_sl ([.ref a, .int x1, .long x2, .long x4] : List Value) ++ List.replicate (7 - (lg_sl ([.ref a, .int x1, .long x2, .long x4] : List Value)).length) Slot.unset).toArray = ls at hl ⊢
  have hl : lv_has ls 7 [(0, .ref a), (1, .int x1), (2, .long x2), (4, .long x4)] := hl
  unfold f_S_cross at h
  refine lv_aload_n hx hb dS_cross_0 rfl (lv_at hl 0 rfl) ?_
  refine va_get (D := (dC, dI)) (ci := 0) (v := .ref ae) (C := R_S) (T := T_S) (N := 8) hx hb hw in_S hown hK hPa 0 rfl rfl 5 (by decide) (hw _ w_50) (fun _ h9 => h9) rfl dS_cross_1 ?_
  refine lv_iload_n hx hb dS_cross_4 rfl (lv_at hl 1 rfl) ?_
  obtain ⟨u1, hu1, h⟩ := ob_some h
  obtain ⟨hiu1, eu1⟩ := ld_of hu1
  refine va_iald hx hb hK hPa 3 1 rfl rfl hiu1 dS_cross_5 ?_
  rw [eu1]
  refine lv_istore (lv' := [(6, .int u1), (0, .ref a), (1, .int x1), (2, .long x2), (4, .long x4)]) hx hb dS_cross_6 hl (by decide) rfl (fun ls hl => ?_)
  refine lv_aload_n hx hb dS_cross_8 rfl (lv_at hl 1 rfl) ?_
  refine va_get (D := (dC, dI)) (ci := 0) (v := .ref ax) (C := R_S) (T := T_S) (N := 8) hx hb hw in_S hown hK hPa 0 rfl rfl 3 (by decide) (hw _ w_46) (fun _ h9 => h9) rfl dS_cross_9 ?_
  refine lv_iload hx hb dS_cross_12 (lv_at hl 0 rfl) ?_
  obtain ⟨u2, hu2, h⟩ := ob_some h
  obtain ⟨hiu2, eu2⟩ := ld_of hu2
  refine va_lald hx hb hK hPa 1 0 rfl rfl hiu2 dS_cross_14 ?_
  rw [eu2]
  refine lv_aload_n hx hb dS_cross_15 rfl (lv_at hl 1 rfl) ?_
  refine va_get (D := (dC, dI)) (ci := 0) (v := .ref ax) (C := R_S) (T := T_S) (N := 8) hx hb hw in_S hown hK hPa 0 rfl rfl 3 (by decide) (hw _ w_46) (fun _ h9 => h9) rfl dS_cross_16 ?_
  refine lv_iload_n hx hb dS_cross_19 rfl (lv_at hl 2 rfl) ?_
  obtain ⟨u3, hu3, h⟩ := ob_some h
  obtain ⟨hiu3, eu3⟩ := ld_of hu3
  refine va_lald hx hb hK hPa 1 0 rfl rfl hiu3 dS_cross_20 ?_
  rw [eu3]
  refine lv_lsub hx hb dS_cross_21 ?_
  refine lv_lload hx hb dS_cross_22 (lv_at hl 4 rfl) ?_
  refine lv_aload_n hx hb dS_cross_24 rfl (lv_at hl 1 rfl) ?_
  refine va_get (D := (dC, dI)) (ci := 0) (v := .ref ay) (C := R_S) (T := T_S) (N := 8) hx hb hw in_S hown hK hPa 0 rfl rfl 4 (by decide) (hw _ w_48) (fun _ h9 => h9) rfl dS_cross_25 ?_
  refine lv_iload_n hx hb dS_cross_28 rfl (lv_at hl 2 rfl) ?_
  obtain ⟨u4, hu4, h⟩ := ob_some h
  obtain ⟨hiu4, eu4⟩ := ld_of hu4
  refine va_lald hx hb hK hPa 2 0 rfl rfl hiu4 dS_cross_29 ?_
  rw [eu4]
  refine lv_lsub hx hb dS_cross_30 ?_
  refine lv_lmul hx hb dS_cross_31 ?_
  refine lv_aload_n hx hb dS_cross_32 rfl (lv_at hl 1 rfl) ?_
  refine va_get (D := (dC, dI)) (ci := 0) (v := .ref ay) (C := R_S) (T := T_S) (N := 8) hx hb hw in_S hown hK hPa 0 rfl rfl 4 (by decide) (hw _ w_48) (fun _ h9 => h9) rfl dS_cross_33 ?_
  refine lv_iload hx hb dS_cross_36 (lv_at hl 0 rfl) ?_
  obtain ⟨u5, hu5, h⟩ := ob_some h
  obtain ⟨hiu5, eu5⟩ := ld_of hu5
  refine va_lald hx hb hK hPa 2 0 rfl rfl hiu5 dS_cross_38 ?_
  rw [eu5]
  refine lv_aload_n hx hb dS_cross_39 rfl (lv_at hl 1 rfl) ?_
  refine va_get (D := (dC, dI)) (ci := 0) (v := .ref ay) (C := R_S) (T := T_S) (N := 8) hx hb hw in_S hown hK hPa 0 rfl rfl 4 (by decide) (hw _ w_48) (fun _ h9 => h9) rfl dS_cross_40 ?_
  refine lv_iload_n hx hb dS_cross_43 rfl (lv_at hl 2 rfl) ?_
  obtain ⟨u6, hu6, h⟩ := ob_some h
  obtain ⟨hiu6, eu6⟩ := ld_of hu6
  refine va_lald hx hb hK hPa 2 0 rfl rfl hiu6 dS_cross_44 ?_
  rw [eu6]
  refine lv_lsub hx hb dS_cross_45 ?_
  refine lv_lload_n hx hb dS_cross_46 rfl (lv_at hl 3 rfl) ?_
  refine lv_aload_n hx hb dS_cross_47 rfl (lv_at hl 1 rfl) ?_
  refine va_get (D := (dC, dI)) (ci := 0) (v := .ref ax) (C := R_S) (T := T_S) (N := 8) hx hb hw in_S hown hK hPa 0 rfl rfl 3 (by decide) (hw _ w_46) (fun _ h9 => h9) rfl dS_cross_48 ?_
  refine lv_iload_n hx hb dS_cross_51 rfl (lv_at hl 2 rfl) ?_
  obtain ⟨u7, hu7, h⟩ := ob_some h
  obtain ⟨hiu7, eu7⟩ := ld_of hu7
  refine va_lald hx hb hK hPa 1 0 rfl rfl hiu7 dS_cross_52 ?_
  rw [eu7]
  refine lv_lsub hx hb dS_cross_53 ?_
  refine lv_lmul hx hb dS_cross_54 ?_
  refine lv_lsub hx hb dS_cross_55 ?_
  exact W.lret hx hb hr (fun t ht hW => ⟨_, rfl, Option.some.inj h, ht⟩) nil_locs dS_cross_56
theorem dS_squareTo_0 : decode cS_squareTo 0 = .ok (.lload_n 2, 1) := by decide +kernel
theorem dS_squareTo_1 : decode cS_squareTo 1 = .ok (.aload_n 0, 1) := by decide +kernel
theorem dS_squareTo_2 : decode cS_squareTo 2 = .ok (.getfield 23, 3) := by decide +kernel
theorem dS_squareTo_5 : decode cS_squareTo 5 = .ok (.iload_n 1, 1) := by decide +kernel
theorem dS_squareTo_6 : decode cS_squareTo 6 = .ok (.laload, 1) := by decide +kernel
theorem dS_squareTo_7 : decode cS_squareTo 7 = .ok (.lsub, 1) := by decide +kernel
theorem dS_squareTo_8 : decode cS_squareTo 8 = .ok (.lload_n 2, 1) := by decide +kernel
theorem dS_squareTo_9 : decode cS_squareTo 9 = .ok (.aload_n 0, 1) := by decide +kernel
theorem dS_squareTo_10 : decode cS_squareTo 10 = .ok (.getfield 23, 3) := by decide +kernel
theorem dS_squareTo_13 : decode cS_squareTo 13 = .ok (.iload_n 1, 1) := by decide +kernel
theorem dS_squareTo_14 : decode cS_squareTo 14 = .ok (.laload, 1) := by decide +kernel
theorem dS_squareTo_15 : decode cS_squareTo 15 = .ok (.lsub, 1) := by decide +kernel
theorem dS_squareTo_16 : decode cS_squareTo 16 = .ok (.lmul, 1) := by decide +kernel
theorem dS_squareTo_17 : decode cS_squareTo 17 = .ok (.lload 4, 2) := by decide +kernel
theorem dS_squareTo_19 : decode cS_squareTo 19 = .ok (.aload_n 0, 1) := by decide +kernel
theorem dS_squareTo_20 : decode cS_squareTo 20 = .ok (.getfield 27, 3) := by decide +kernel
theorem dS_squareTo_23 : decode cS_squareTo 23 = .ok (.iload_n 1, 1) := by decide +kernel
theorem dS_squareTo_24 : decode cS_squareTo 24 = .ok (.laload, 1) := by decide +kernel
theorem dS_squareTo_25 : decode cS_squareTo 25 = .ok (.lsub, 1) := by decide +kernel
theorem dS_squareTo_26 : decode cS_squareTo 26 = .ok (.lload 4, 2) := by decide +kernel
theorem dS_squareTo_28 : decode cS_squareTo 28 = .ok (.aload_n 0, 1) := by decide +kernel
theorem dS_squareTo_29 : decode cS_squareTo 29 = .ok (.getfield 27, 3) := by decide +kernel
theorem dS_squareTo_32 : decode cS_squareTo 32 = .ok (.iload_n 1, 1) := by decide +kernel
theorem dS_squareTo_33 : decode cS_squareTo 33 = .ok (.laload, 1) := by decide +kernel
theorem dS_squareTo_34 : decode cS_squareTo 34 = .ok (.lsub, 1) := by decide +kernel
theorem dS_squareTo_35 : decode cS_squareTo 35 = .ok (.lmul, 1) := by decide +kernel
theorem dS_squareTo_36 : decode cS_squareTo 36 = .ok (.ladd, 1) := by decide +kernel
theorem dS_squareTo_37 : decode cS_squareTo 37 = .ok (.lreturn, 1) := by decide +kernel
def f_S_squareTo (v : SV) (x1 : Int32) (x2 : Int64) (x4 : Int64) : Option Int64 := (ld 48 (sX v) x1).bind fun u1 => (ld 48 (sX v) x1).bind fun u2 => (ld 48 (sY v) x1).bind fun u3 => (ld 48 (sY v) x1).bind fun u4 => some (((x2 - u1) * (x2 - u2)) + ((x4 - u3) * (x4 - u4)))
set_option maxHeartbeats 4000000 in
set_option maxRecDepth 100000 in
theorem k_S_squareTo (l : Launch) (dC : Nat → ClassId) (dI : Nat → Nat → Nat) (cL cI : ClassId) (a ax ay ae : Nat) (v : SV) (x1 : Int32) (x2 : Int64) (x4 : Int64) (r : Int64) (h : f_S_squareTo v x1 x2 x4 = some r) : Met l yS_squareTo wsS_squareTo ({ frames := 0, cells := 0, slots := 0, locals := 0 }) (rd_Pc [.ref a, .int x1, .long x2, .long x4] (fun H => va_P (dC, dI) cls3 (shW cL cI a ax ay ae v) H) (dC, dI) cls3 [(cL, .long), (cI, .int)]) (vp_Sl (fun z => z = r)) 0 0 (fun _ => False) := by
  refine Met.ofW (cc := cS_squareTo) (maxL := 6) (ret := (some .long)) (by decide) rfl ?_
  intro p e s m args below meth c s₁ B hml hv
  obtain ⟨rfl, hPa, hK⟩ := hv
  have hx := B.exec
  have hb := B.bytes
  have hr := B.returns
  have hw : ∀ w ∈ wG, w.before ([.ref a, .int x1, .long x2, .long x4] : List Value).toArray s = true := fun w hq => atoms_spec (ws := wsS_squareTo) B.pre w (List.mem_cons_of_mem _ hq)
  have hown : s.vm.findClass R_S = some m.cls := findClass_of_methodNamed B.named
  have hlocks := B.notSynchronized
  have hl := lv_entry ([.ref a, .int x1, .long x2, .long x4] : List Value) (n := 6) (Nat.le_of_ble_eq_true rfl)
  rw [lg_entry_eq]
  generalize (lg_sl ([.ref a, .int x1, .long x2, .long x4] : List Value) ++ List.replicate (6 - (lg_sl ([.ref a, .int x1, .long x2, .long x4] : List Value)).length) Slot.unset).toArray = ls at hl ⊢
  have hl : lv_has ls 6 [(0, .ref a), (1, .int x1), (2, .long x2), (4, .long x4)] := hl
  unfold f_S_squareTo at h
  refine lv_lload_n hx hb dS_squareTo_0 rfl (lv_at hl 2 rfl) ?_
  refine lv_aload_n hx hb dS_squareTo_1 rfl (lv_at hl 0 rfl) ?_
  refine va_get (D := (dC, dI)) (ci := 0) (v := .ref ax) (C := R_S) (T := T_S) (N := 8) hx hb hw in_S hown hK hPa 0 rfl rfl 3 (by decide) (hw _ w_46) (fun _ h9 => h9) rfl dS_squareTo_2 ?_
  refine lv_iload_n hx hb dS_squareTo_5 rfl (lv_at hl 1 rfl) ?_
  obtain ⟨u1, hu1, h⟩ := ob_some h
  obtain ⟨hiu1, eu1⟩ := ld_of hu1
  refine va_lald hx hb hK hPa 1 0 rfl rfl hiu1 dS_squareTo_6 ?_
  rw [eu1]
  refine lv_lsub hx hb dS_squareTo_7 ?_
  refine lv_lload_n hx hb dS_squareTo_8 rfl (lv_at hl 2 rfl) ?_
  refine lv_aload_n hx hb dS_squareTo_9 rfl (lv_at hl 0 rfl) ?_
  refine va_get (D := (dC, dI)) (ci := 0) (v := .ref ax) (C := R_S) (T := T_S) (N := 8) hx hb hw in_S hown hK hPa 0 rfl rfl 3 (by decide) (hw _ w_46) (fun _ h9 => h9) rfl dS_squareTo_10 ?_
  refine lv_iload_n hx hb dS_squareTo_13 rfl (lv_at hl 1 rfl) ?_
  obtain ⟨u2, hu2, h⟩ := ob_some h
  obtain ⟨hiu2, eu2⟩ := ld_of hu2
  refine va_lald hx hb hK hPa 1 0 rfl rfl hiu2 dS_squareTo_14 ?_
  rw [eu2]
  refine lv_lsub hx hb dS_squareTo_15 ?_
  refine lv_lmul hx hb dS_squareTo_16 ?_
  refine lv_lload hx hb dS_squareTo_17 (lv_at hl 3 rfl) ?_
  refine lv_aload_n hx hb dS_squareTo_19 rfl (lv_at hl 0 rfl) ?_
  refine va_get (D := (dC, dI)) (ci := 0) (v := .ref ay) (C := R_S) (T := T_S) (N := 8) hx hb hw in_S hown hK hPa 0 rfl rfl 4 (by decide) (hw _ w_48) (fun _ h9 => h9) rfl dS_squareTo_20 ?_
  refine lv_iload_n hx hb dS_squareTo_23 rfl (lv_at hl 1 rfl) ?_
  obtain ⟨u3, hu3, h⟩ := ob_some h
  obtain ⟨hiu3, eu3⟩ := ld_of hu3
  refine va_lald hx hb hK hPa 2 0 rfl rfl hiu3 dS_squareTo_24 ?_
  rw [eu3]
  refine lv_lsub hx hb dS_squareTo_25 ?_
  refine lv_lload hx hb dS_squareTo_26 (lv_at hl 3 rfl) ?_
  refine lv_aload_n hx hb dS_squareTo_28 rfl (lv_at hl 0 rfl) ?_
  refine va_get (D := (dC, dI)) (ci := 0) (v := .ref ay) (C := R_S) (T := T_S) (N := 8) hx hb hw in_S hown hK hPa 0 rfl rfl 4 (by decide) (hw _ w_48) (fun _ h9 => h9) rfl dS_squareTo_29 ?_
  refine lv_iload_n hx hb dS_squareTo_32 rfl (lv_at hl 1 rfl) ?_
  obtain ⟨u4, hu4, h⟩ := ob_some h
  obtain ⟨hiu4, eu4⟩ := ld_of hu4
  refine va_lald hx hb hK hPa 2 0 rfl rfl hiu4 dS_squareTo_33 ?_
  rw [eu4]
  refine lv_lsub hx hb dS_squareTo_34 ?_
  refine lv_lmul hx hb dS_squareTo_35 ?_
  refine lv_ladd hx hb dS_squareTo_36 ?_
  exact W.lret hx hb hr (fun t ht hW => ⟨_, rfl, Option.some.inj h, ht⟩) nil_locs dS_squareTo_37
theorem dS_compareToSide_0 : decode cS_compareToSide 0 = .ok (.aload_n 0, 1) := by decide +kernel
theorem dS_compareToSide_1 : decode cS_compareToSide 1 = .ok (.getfield 30, 3) := by decide +kernel
theorem dS_compareToSide_4 : decode cS_compareToSide 4 = .ok (.iload_n 1, 1) := by decide +kernel
theorem dS_compareToSide_5 : decode cS_compareToSide 5 = .ok (.iaload, 1) := by decide +kernel
theorem dS_compareToSide_6 : decode cS_compareToSide 6 = .ok (.istore 8, 2) := by decide +kernel
theorem dS_compareToSide_8 : decode cS_compareToSide 8 = .ok (.aload_n 0, 1) := by decide +kernel
theorem dS_compareToSide_9 : decode cS_compareToSide 9 = .ok (.getfield 23, 3) := by decide +kernel
theorem dS_compareToSide_12 : decode cS_compareToSide 12 = .ok (.iload 8, 2) := by decide +kernel
theorem dS_compareToSide_14 : decode cS_compareToSide 14 = .ok (.laload, 1) := by decide +kernel
theorem dS_compareToSide_15 : decode cS_compareToSide 15 = .ok (.aload_n 0, 1) := by decide +kernel
theorem dS_compareToSide_16 : decode cS_compareToSide 16 = .ok (.getfield 23, 3) := by decide +kernel
theorem dS_compareToSide_19 : decode cS_compareToSide 19 = .ok (.iload_n 1, 1) := by decide +kernel
theorem dS_compareToSide_20 : decode cS_compareToSide 20 = .ok (.laload, 1) := by decide +kernel
theorem dS_compareToSide_21 : decode cS_compareToSide 21 = .ok (.lsub, 1) := by decide +kernel
theorem dS_compareToSide_22 : decode cS_compareToSide 22 = .ok (.lstore 9, 2) := by decide +kernel
theorem dS_compareToSide_24 : decode cS_compareToSide 24 = .ok (.aload_n 0, 1) := by decide +kernel
theorem dS_compareToSide_25 : decode cS_compareToSide 25 = .ok (.getfield 27, 3) := by decide +kernel
theorem dS_compareToSide_28 : decode cS_compareToSide 28 = .ok (.iload 8, 2) := by decide +kernel
theorem dS_compareToSide_30 : decode cS_compareToSide 30 = .ok (.laload, 1) := by decide +kernel
theorem dS_compareToSide_31 : decode cS_compareToSide 31 = .ok (.aload_n 0, 1) := by decide +kernel
theorem dS_compareToSide_32 : decode cS_compareToSide 32 = .ok (.getfield 27, 3) := by decide +kernel
theorem dS_compareToSide_35 : decode cS_compareToSide 35 = .ok (.iload_n 1, 1) := by decide +kernel
theorem dS_compareToSide_36 : decode cS_compareToSide 36 = .ok (.laload, 1) := by decide +kernel
theorem dS_compareToSide_37 : decode cS_compareToSide 37 = .ok (.lsub, 1) := by decide +kernel
theorem dS_compareToSide_38 : decode cS_compareToSide 38 = .ok (.lstore 11, 2) := by decide +kernel
theorem dS_compareToSide_40 : decode cS_compareToSide 40 = .ok (.lload 9, 2) := by decide +kernel
theorem dS_compareToSide_42 : decode cS_compareToSide 42 = .ok (.lload 9, 2) := by decide +kernel
theorem dS_compareToSide_44 : decode cS_compareToSide 44 = .ok (.lmul, 1) := by decide +kernel
theorem dS_compareToSide_45 : decode cS_compareToSide 45 = .ok (.lload 11, 2) := by decide +kernel
theorem dS_compareToSide_47 : decode cS_compareToSide 47 = .ok (.lload 11, 2) := by decide +kernel
theorem dS_compareToSide_49 : decode cS_compareToSide 49 = .ok (.lmul, 1) := by decide +kernel
theorem dS_compareToSide_50 : decode cS_compareToSide 50 = .ok (.ladd, 1) := by decide +kernel
theorem dS_compareToSide_51 : decode cS_compareToSide 51 = .ok (.lstore 13, 2) := by decide +kernel
theorem dS_compareToSide_53 : decode cS_compareToSide 53 = .ok (.lload 9, 2) := by decide +kernel
theorem dS_compareToSide_55 : decode cS_compareToSide 55 = .ok (.lload_n 2, 1) := by decide +kernel
theorem dS_compareToSide_56 : decode cS_compareToSide 56 = .ok (.aload_n 0, 1) := by decide +kernel
theorem dS_compareToSide_57 : decode cS_compareToSide 57 = .ok (.getfield 23, 3) := by decide +kernel
theorem dS_compareToSide_60 : decode cS_compareToSide 60 = .ok (.iload_n 1, 1) := by decide +kernel
theorem dS_compareToSide_61 : decode cS_compareToSide 61 = .ok (.laload, 1) := by decide +kernel
theorem dS_compareToSide_62 : decode cS_compareToSide 62 = .ok (.lsub, 1) := by decide +kernel
theorem dS_compareToSide_63 : decode cS_compareToSide 63 = .ok (.lmul, 1) := by decide +kernel
theorem dS_compareToSide_64 : decode cS_compareToSide 64 = .ok (.lload 11, 2) := by decide +kernel
theorem dS_compareToSide_66 : decode cS_compareToSide 66 = .ok (.lload 4, 2) := by decide +kernel
theorem dS_compareToSide_68 : decode cS_compareToSide 68 = .ok (.aload_n 0, 1) := by decide +kernel
theorem dS_compareToSide_69 : decode cS_compareToSide 69 = .ok (.getfield 27, 3) := by decide +kernel
theorem dS_compareToSide_72 : decode cS_compareToSide 72 = .ok (.iload_n 1, 1) := by decide +kernel
theorem dS_compareToSide_73 : decode cS_compareToSide 73 = .ok (.laload, 1) := by decide +kernel
theorem dS_compareToSide_74 : decode cS_compareToSide 74 = .ok (.lsub, 1) := by decide +kernel
theorem dS_compareToSide_75 : decode cS_compareToSide 75 = .ok (.lmul, 1) := by decide +kernel
theorem dS_compareToSide_76 : decode cS_compareToSide 76 = .ok (.ladd, 1) := by decide +kernel
theorem dS_compareToSide_77 : decode cS_compareToSide 77 = .ok (.lstore 15, 2) := by decide +kernel
theorem dS_compareToSide_79 : decode cS_compareToSide 79 = .ok (.lload 15, 2) := by decide +kernel
theorem dS_compareToSide_81 : decode cS_compareToSide 81 = .ok (.lconst 0, 1) := by decide +kernel
theorem dS_compareToSide_82 : decode cS_compareToSide 82 = .ok (.lcmp, 1) := by decide +kernel
theorem dS_compareToSide_83 : decode cS_compareToSide 83 = .ok (.ifCond .gt 20, 3) := by decide +kernel
theorem dS_compareToSide_86 : decode cS_compareToSide 86 = .ok (.aload_n 0, 1) := by decide +kernel
theorem dS_compareToSide_87 : decode cS_compareToSide 87 = .ok (.iload_n 1, 1) := by decide +kernel
theorem dS_compareToSide_88 : decode cS_compareToSide 88 = .ok (.lload_n 2, 1) := by decide +kernel
theorem dS_compareToSide_89 : decode cS_compareToSide 89 = .ok (.lload 4, 2) := by decide +kernel
theorem dS_compareToSide_91 : decode cS_compareToSide 91 = .ok (.invokevirtual 83, 3) := by decide +kernel
theorem dS_compareToSide_94 : decode cS_compareToSide 94 = .ok (.lload 6, 2) := by decide +kernel
theorem dS_compareToSide_96 : decode cS_compareToSide 96 = .ok (.lload 6, 2) := by decide +kernel
theorem dS_compareToSide_98 : decode cS_compareToSide 98 = .ok (.lmul, 1) := by decide +kernel
theorem dS_compareToSide_99 : decode cS_compareToSide 99 = .ok (.invokestatic 86, 3) := by decide +kernel
theorem dS_compareToSide_102 : decode cS_compareToSide 102 = .ok (.ireturn, 1) := by decide +kernel
theorem dS_compareToSide_103 : decode cS_compareToSide 103 = .ok (.lload 15, 2) := by decide +kernel
theorem dS_compareToSide_105 : decode cS_compareToSide 105 = .ok (.lload 13, 2) := by decide +kernel
theorem dS_compareToSide_107 : decode cS_compareToSide 107 = .ok (.lcmp, 1) := by decide +kernel
theorem dS_compareToSide_108 : decode cS_compareToSide 108 = .ok (.ifCond .lt 21, 3) := by decide +kernel
theorem dS_compareToSide_111 : decode cS_compareToSide 111 = .ok (.aload_n 0, 1) := by decide +kernel
theorem dS_compareToSide_112 : decode cS_compareToSide 112 = .ok (.iload 8, 2) := by decide +kernel
theorem dS_compareToSide_114 : decode cS_compareToSide 114 = .ok (.lload_n 2, 1) := by decide +kernel
theorem dS_compareToSide_115 : decode cS_compareToSide 115 = .ok (.lload 4, 2) := by decide +kernel
theorem dS_compareToSide_117 : decode cS_compareToSide 117 = .ok (.invokevirtual 83, 3) := by decide +kernel
theorem dS_compareToSide_120 : decode cS_compareToSide 120 = .ok (.lload 6, 2) := by decide +kernel
theorem dS_compareToSide_122 : decode cS_compareToSide 122 = .ok (.lload 6, 2) := by decide +kernel
theorem dS_compareToSide_124 : decode cS_compareToSide 124 = .ok (.lmul, 1) := by decide +kernel
theorem dS_compareToSide_125 : decode cS_compareToSide 125 = .ok (.invokestatic 86, 3) := by decide +kernel
theorem dS_compareToSide_128 : decode cS_compareToSide 128 = .ok (.ireturn, 1) := by decide +kernel
theorem dS_compareToSide_129 : decode cS_compareToSide 129 = .ok (.aload_n 0, 1) := by decide +kernel
theorem dS_compareToSide_130 : decode cS_compareToSide 130 = .ok (.iload_n 1, 1) := by decide +kernel
theorem dS_compareToSide_131 : decode cS_compareToSide 131 = .ok (.lload_n 2, 1) := by decide +kernel
theorem dS_compareToSide_132 : decode cS_compareToSide 132 = .ok (.lload 4, 2) := by decide +kernel
theorem dS_compareToSide_134 : decode cS_compareToSide 134 = .ok (.invokevirtual 50, 3) := by decide +kernel
theorem dS_compareToSide_137 : decode cS_compareToSide 137 = .ok (.invokestatic 92, 3) := by decide +kernel
theorem dS_compareToSide_140 : decode cS_compareToSide 140 = .ok (.lstore 17, 2) := by decide +kernel
theorem dS_compareToSide_142 : decode cS_compareToSide 142 = .ok (.lload 17, 2) := by decide +kernel
theorem dS_compareToSide_144 : decode cS_compareToSide 144 = .ok (.lload 17, 2) := by decide +kernel
theorem dS_compareToSide_146 : decode cS_compareToSide 146 = .ok (.lload 6, 2) := by decide +kernel
theorem dS_compareToSide_148 : decode cS_compareToSide 148 = .ok (.lload 6, 2) := by decide +kernel
theorem dS_compareToSide_150 : decode cS_compareToSide 150 = .ok (.lmul, 1) := by decide +kernel
theorem dS_compareToSide_151 : decode cS_compareToSide 151 = .ok (.lload 13, 2) := by decide +kernel
theorem dS_compareToSide_153 : decode cS_compareToSide 153 = .ok (.invokestatic 96, 3) := by decide +kernel
theorem dS_compareToSide_156 : decode cS_compareToSide 156 = .ok (.ireturn, 1) := by decide +kernel
def f_S_compareToSide (v : SV) (x1 : Int32) (x2 : Int64) (x4 : Int64) (x6 : Int64) : Option Int32 := (ld 48 (sE v) x1).bind fun u1 => (ld 48 (sX v) u1).bind fun u2 => (ld 48 (sX v) x1).bind fun u3 => (ld 48 (sY v) u1).bind fun u4 => (ld 48 (sY v) x1).bind fun u5 => (some (((u2 - u3) * (u2 - u3)) + ((u4 - u5) * (u4 - u5)))).bind fun u6 => (ld 48 (sX v) x1).bind fun u7 => (ld 48 (sY v) x1).bind fun u8 => (some (((u2 - u3) * (x2 - u7)) + ((u4 - u5) * (x4 - u8)))).bind fun u9 => (if 0 < (lg_cmp u9 (0 : Int64)) then (if (lg_cmp u9 u6) < 0 then (f_S_cross v x1 x2 x4).bind fun u12 => (some (if 0 < u12 then u12 else -u12)).bind fun u13 => (f_W_compareProducts u13 u13 (x6 * x6) u6).bind fun u14 => some u14 else (f_S_squareTo v u1 x2 x4).bind fun u15 => (f_JL_compare_JJ u15 (x6 * x6)).bind fun u16 => some u16) else (f_S_squareTo v x1 x2 x4).bind fun u17 => (f_JL_compare_JJ u17 (x6 * x6)).bind fun u18 => some u18)
set_option maxHeartbeats 4000000 in
set_option maxRecDepth 100000 in
theorem k_S_compareToSide (l : Launch) (dC : Nat → ClassId) (dI : Nat → Nat → Nat) (cL cI : ClassId) (a ax ay ae : Nat) (v : SV) (x1 : Int32) (x2 : Int64) (x4 : Int64) (x6 : Int64) (r : Int32) (h : f_S_compareToSide v x1 x2 x4 x6 = some r) : Met l yS_compareToSide wsS_compareToSide ({ frames := 2, cells := 0, slots := 0, locals := 63 }) (rd_Pc [.ref a, .int x1, .long x2, .long x4, .long x6] (fun H => va_P (dC, dI) cls3 (shW cL cI a ax ay ae v) H) (dC, dI) cls3 [(cL, .long), (cI, .int)]) (vp_Si (fun z => z = r)) 0 0 (fun _ => False) := by
  refine Met.ofW (cc := cS_compareToSide) (maxL := 19) (ret := (some .int)) (by decide) rfl ?_
  intro p e s m args below meth c s₁ B hml hv
  obtain ⟨rfl, hPa, hK⟩ := hv
  have hx := B.exec
  have hb := B.bytes
  have hr := B.returns
  have hw : ∀ w ∈ wG, w.before ([.ref a, .int x1, .long x2, .long x4, .long x6] : List Value).toArray s = true := fun w hq => atoms_spec (ws := wsS_compareToSide) B.pre w (List.mem_cons_of_mem _ hq)
  have hown : s.vm.findClass R_S = some m.cls := findClass_of_methodNamed B.named
  have hlocks := B.notSynchronized
  have hl := lv_entry ([.ref a, .int x1, .long x2, .long x4, .long x6] : List Value) (n := 19) (Nat.le_of_ble_eq_true rfl)
  rw [lg_entry_eq]
  generalize (lg_sl ([.ref a, .int x1, .long x2, .long x4, .long x6] : List Value) ++ List.replicate (19 - (lg_sl ([.ref a, .int x1, .long x2, .long x4, .long x6] : List Value)).length) Slot.unset).toArray = ls at hl ⊢
  have hl : lv_has ls 19 [(0, .ref a), (1, .int x1), (2, .long x2), (4, .long x4), (6, .long x6)] := hl
  unfold f_S_compareToSide at h
  refine lv_aload_n hx hb dS_compareToSide_0 rfl (lv_at hl 0 rfl) ?_
  refine va_get (D := (dC, dI)) (ci := 0) (v := .ref ae) (C := R_S) (T := T_S) (N := 8) hx hb hw in_S hown hK hPa 0 rfl rfl 5 (by decide) (hw _ w_50) (fun _ h9 => h9) rfl dS_compareToSide_1 ?_
  refine lv_iload_n hx hb dS_compareToSide_4 rfl (lv_at hl 1 rfl) ?_
  obtain ⟨u1, hu1, h⟩ := ob_some h
  obtain ⟨hiu1, eu1⟩ := ld_of hu1
  refine va_iald hx hb hK hPa 3 1 rfl rfl hiu1 dS_compareToSide_5 ?_
  rw [eu1]
  refine lv_istore (lv' := [(8, .int u1), (0, .ref a), (1, .int x1), (2, .long x2), (4, .long x4), (6, .long x6)]) hx hb dS_compareToSide_6 hl (by decide) rfl (fun ls hl => ?_)
  refine lv_aload_n hx hb dS_compareToSide_8 rfl (lv_at hl 1 rfl) ?_
  refine va_get (D := (dC, dI)) (ci := 0) (v := .ref ax) (C := R_S) (T := T_S) (N := 8) hx hb hw in_S hown hK hPa 0 rfl rfl 3 (by decide) (hw _ w_46) (fun _ h9 => h9) rfl dS_compareToSide_9 ?_
  refine lv_iload hx hb dS_compareToSide_12 (lv_at hl 0 rfl) ?_
  obtain ⟨u2, hu2, h⟩ := ob_some h
  obtain ⟨hiu2, eu2⟩ := ld_of hu2
  refine va_lald hx hb hK hPa 1 0 rfl rfl hiu2 dS_compareToSide_14 ?_
  rw [eu2]
  refine lv_aload_n hx hb dS_compareToSide_15 rfl (lv_at hl 1 rfl) ?_
  refine va_get (D := (dC, dI)) (ci := 0) (v := .ref ax) (C := R_S) (T := T_S) (N := 8) hx hb hw in_S hown hK hPa 0 rfl rfl 3 (by decide) (hw _ w_46) (fun _ h9 => h9) rfl dS_compareToSide_16 ?_
  refine lv_iload_n hx hb dS_compareToSide_19 rfl (lv_at hl 2 rfl) ?_
  obtain ⟨u3, hu3, h⟩ := ob_some h
  obtain ⟨hiu3, eu3⟩ := ld_of hu3
  refine va_lald hx hb hK hPa 1 0 rfl rfl hiu3 dS_compareToSide_20 ?_
  rw [eu3]
  refine lv_lsub hx hb dS_compareToSide_21 ?_
  refine lv_lstore (lv' := [(9, .long (u2 - u3)), (8, .int u1), (0, .ref a), (1, .int x1), (2, .long x2), (4, .long x4), (6, .long x6)]) hx hb dS_compareToSide_22 hl (by decide) rfl (fun ls hl => ?_)
  refine lv_aload_n hx hb dS_compareToSide_24 rfl (lv_at hl 2 rfl) ?_
  refine va_get (D := (dC, dI)) (ci := 0) (v := .ref ay) (C := R_S) (T := T_S) (N := 8) hx hb hw in_S hown hK hPa 0 rfl rfl 4 (by decide) (hw _ w_48) (fun _ h9 => h9) rfl dS_compareToSide_25 ?_
  refine lv_iload hx hb dS_compareToSide_28 (lv_at hl 1 rfl) ?_
  obtain ⟨u4, hu4, h⟩ := ob_some h
  obtain ⟨hiu4, eu4⟩ := ld_of hu4
  refine va_lald hx hb hK hPa 2 0 rfl rfl hiu4 dS_compareToSide_30 ?_
  rw [eu4]
  refine lv_aload_n hx hb dS_compareToSide_31 rfl (lv_at hl 2 rfl) ?_
  refine va_get (D := (dC, dI)) (ci := 0) (v := .ref ay) (C := R_S) (T := T_S) (N := 8) hx hb hw in_S hown hK hPa 0 rfl rfl 4 (by decide) (hw _ w_48) (fun _ h9 => h9) rfl dS_compareToSide_32 ?_
  refine lv_iload_n hx hb dS_compareToSide_35 rfl (lv_at hl 3 rfl) ?_
  obtain ⟨u5, hu5, h⟩ := ob_some h
  obtain ⟨hiu5, eu5⟩ := ld_of hu5
  refine va_lald hx hb hK hPa 2 0 rfl rfl hiu5 dS_compareToSide_36 ?_
  rw [eu5]
  refine lv_lsub hx hb dS_compareToSide_37 ?_
  refine lv_lstore (lv' := [(11, .long (u4 - u5)), (9, .long (u2 - u3)), (8, .int u1), (0, .ref a), (1, .int x1), (2, .long x2), (4, .long x4), (6, .long x6)]) hx hb dS_compareToSide_38 hl (by decide) rfl (fun ls hl => ?_)
  refine lv_lload hx hb dS_compareToSide_40 (lv_at hl 1 rfl) ?_
  refine lv_lload hx hb dS_compareToSide_42 (lv_at hl 1 rfl) ?_
  refine lv_lmul hx hb dS_compareToSide_44 ?_
  refine lv_lload hx hb dS_compareToSide_45 (lv_at hl 0 rfl) ?_
  refine lv_lload hx hb dS_compareToSide_47 (lv_at hl 0 rfl) ?_
  refine lv_lmul hx hb dS_compareToSide_49 ?_
  refine lv_ladd hx hb dS_compareToSide_50 ?_
  obtain ⟨u6, hu6, h⟩ := ob_some h
  rw [Option.some.inj hu6]
  refine lv_lstore (lv' := [(13, .long u6), (11, .long (u4 - u5)), (9, .long (u2 - u3)), (8, .int u1), (0, .ref a), (1, .int x1), (2, .long x2), (4, .long x4), (6, .long x6)]) hx hb dS_compareToSide_51 hl (by decide) rfl (fun ls hl => ?_)
  refine lv_lload hx hb dS_compareToSide_53 (lv_at hl 2 rfl) ?_
  refine lv_lload_n hx hb dS_compareToSide_55 rfl (lv_at hl 6 rfl) ?_
  refine lv_aload_n hx hb dS_compareToSide_56 rfl (lv_at hl 4 rfl) ?_
  refine va_get (D := (dC, dI)) (ci := 0) (v := .ref ax) (C := R_S) (T := T_S) (N := 8) hx hb hw in_S hown hK hPa 0 rfl rfl 3 (by decide) (hw _ w_46) (fun _ h9 => h9) rfl dS_compareToSide_57 ?_
  refine lv_iload_n hx hb dS_compareToSide_60 rfl (lv_at hl 5 rfl) ?_
  obtain ⟨u7, hu7, h⟩ := ob_some h
  obtain ⟨hiu7, eu7⟩ := ld_of hu7
  refine va_lald hx hb hK hPa 1 0 rfl rfl hiu7 dS_compareToSide_61 ?_
  rw [eu7]
  refine lv_lsub hx hb dS_compareToSide_62 ?_
  refine lv_lmul hx hb dS_compareToSide_63 ?_
  refine lv_lload hx hb dS_compareToSide_64 (lv_at hl 1 rfl) ?_
  refine lv_lload hx hb dS_compareToSide_66 (lv_at hl 7 rfl) ?_
  refine lv_aload_n hx hb dS_compareToSide_68 rfl (lv_at hl 4 rfl) ?_
  refine va_get (D := (dC, dI)) (ci := 0) (v := .ref ay) (C := R_S) (T := T_S) (N := 8) hx hb hw in_S hown hK hPa 0 rfl rfl 4 (by decide) (hw _ w_48) (fun _ h9 => h9) rfl dS_compareToSide_69 ?_
  refine lv_iload_n hx hb dS_compareToSide_72 rfl (lv_at hl 5 rfl) ?_
  obtain ⟨u8, hu8, h⟩ := ob_some h
  obtain ⟨hiu8, eu8⟩ := ld_of hu8
  refine va_lald hx hb hK hPa 2 0 rfl rfl hiu8 dS_compareToSide_73 ?_
  rw [eu8]
  refine lv_lsub hx hb dS_compareToSide_74 ?_
  refine lv_lmul hx hb dS_compareToSide_75 ?_
  refine lv_ladd hx hb dS_compareToSide_76 ?_
  obtain ⟨u9, hu9, h⟩ := ob_some h
  rw [Option.some.inj hu9]
  refine lv_lstore (lv' := [(15, .long u9), (13, .long u6), (11, .long (u4 - u5)), (9, .long (u2 - u3)), (8, .int u1), (0, .ref a), (1, .int x1), (2, .long x2), (4, .long x4), (6, .long x6)]) hx hb dS_compareToSide_77 hl (by decide) rfl (fun ls hl => ?_)
  refine lv_lload hx hb dS_compareToSide_79 (lv_at hl 0 rfl) ?_
  refine lv_lconst (v := 0) hx hb dS_compareToSide_81 (by decide) ?_
  refine W.lcmp hx hb dS_compareToSide_82 ?_
  refine lv_if_gt (tgt := 103) hx hb dS_compareToSide_83 (by decide) (fun c10 => ?_) (fun c10 => ?_)
  · have h := it_t c10 h
    refine lv_lload hx hb dS_compareToSide_103 (lv_at hl 0 rfl) ?_
    refine lv_lload hx hb dS_compareToSide_105 (lv_at hl 1 rfl) ?_
    refine W.lcmp hx hb dS_compareToSide_107 ?_
    refine lv_if_lt (tgt := 129) hx hb dS_compareToSide_108 (by decide) (fun c11 => ?_) (fun c11 => ?_)
    · have h := it_t c11 h
      refine lv_aload_n hx hb dS_compareToSide_129 rfl (lv_at hl 5 rfl) ?_
      refine lv_iload_n hx hb dS_compareToSide_130 rfl (lv_at hl 6 rfl) ?_
      refine lv_lload_n hx hb dS_compareToSide_131 rfl (lv_at hl 7 rfl) ?_
      refine lv_lload hx hb dS_compareToSide_132 (lv_at hl 8 rfl) ?_
      obtain ⟨u12, hu12, h⟩ := ob_some h
      refine vp_callSl (va_Run.run (va_runV (As := [.int x1, .long x2, .long x4]) (rest := []) ⟨hx, hb, hml, hown, hw⟩ (k_S_cross l dC dI cL cI a ax ay ae v x1 x2 x4 u12 hu12) (cwV 3 hw (gV w_264 w_265 w_266 w_7 w_267) rfl rfl rfl (by decide +kernel) ⟨Nat.le_of_ble_eq_true rfl, Nat.le_of_ble_eq_true rfl⟩) ⟨rd_blind, va_recv hK hPa (ci := 0) (q0 := 0) rfl rfl, rd_pre hPa hK⟩ rfl rfl hl.1 rfl (lv_room (Nat.le_of_ble_eq_true rfl)) dS_compareToSide_134 ⟨Nat.le_of_ble_eq_true rfl, Nat.le_of_ble_eq_true rfl⟩)) (fun z hz => ?_)
      rw [hz]; clear hz
      obtain ⟨u13, hu13, h⟩ := ob_some h
      refine va_mabs_long hx hb (hml.trans hl.1.symm) hown (hw _ w_334) (hw _ w_335) (hw _ w_11) (hw _ wm_abs_J) (Nat.le_of_ble_eq_true rfl) (Nat.le_of_ble_eq_true rfl) (Nat.le_of_ble_eq_true rfl) (Nat.le_of_ble_eq_true rfl) dS_compareToSide_137 ?_
      rw [Option.some.inj hu13]
      refine lv_lstore (lv' := [(17, .long u13), (15, .long u9), (13, .long u6), (11, .long (u4 - u5)), (9, .long (u2 - u3)), (8, .int u1), (0, .ref a), (1, .int x1), (2, .long x2), (4, .long x4), (6, .long x6)]) hx hb dS_compareToSide_140 hl (by decide) rfl (fun ls hl => ?_)
      refine lv_lload hx hb dS_compareToSide_142 (lv_at hl 0 rfl) ?_
      refine lv_lload hx hb dS_compareToSide_144 (lv_at hl 0 rfl) ?_
      refine lv_lload hx hb dS_compareToSide_146 (lv_at hl 10 rfl) ?_
      refine lv_lload hx hb dS_compareToSide_148 (lv_at hl 10 rfl) ?_
      refine lv_lmul hx hb dS_compareToSide_150 ?_
      refine lv_lload hx hb dS_compareToSide_151 (lv_at hl 2 rfl) ?_
      obtain ⟨u14, hu14, h⟩ := ob_some h
      refine vp_callSi (va_Run.run (va_runS (As := [.long u13, .long u13, .long (x6 * x6), .long u6]) (rest := []) ⟨hx, hb, hml, hown, hw⟩ (k_W_compareProducts l dC dI cL cI u13 u13 (x6 * x6) u6 u14 hu14) (va_cwS 4 hw (gS w_337 w_338 w_13 w_339) rfl rfl rfl (by decide +kernel) ⟨Nat.le_of_ble_eq_true rfl, Nat.le_of_ble_eq_true rfl⟩) ⟨rd_blind, rd_pre trivial hK⟩ rfl rfl hl.1 rfl (lv_room (Nat.le_of_ble_eq_true rfl)) dS_compareToSide_153 ⟨Nat.le_of_ble_eq_true rfl, Nat.le_of_ble_eq_true rfl⟩)) (fun z hz => ?_)
      rw [hz]; clear hz
      exact W.iret hx hb hr (fun t ht hW => ⟨_, rfl, Option.some.inj h, ht⟩) nil_locs dS_compareToSide_156
    · have h := it_f c11 h
      refine lv_aload_n hx hb dS_compareToSide_111 rfl (lv_at hl 5 rfl) ?_
      refine lv_iload hx hb dS_compareToSide_112 (lv_at hl 4 rfl) ?_
      refine lv_lload_n hx hb dS_compareToSide_114 rfl (lv_at hl 7 rfl) ?_
      refine lv_lload hx hb dS_compareToSide_115 (lv_at hl 8 rfl) ?_
      obtain ⟨u15, hu15, h⟩ := ob_some h
      refine vp_callSl (va_Run.run (va_runV (As := [.int u1, .long x2, .long x4]) (rest := []) ⟨hx, hb, hml, hown, hw⟩ (k_S_squareTo l dC dI cL cI a ax ay ae v u1 x2 x4 u15 hu15) (cwV 3 hw (gV w_327 w_329 wp_4 w_7 w_330) rfl rfl rfl (by decide +kernel) ⟨Nat.le_of_ble_eq_true rfl, Nat.le_of_ble_eq_true rfl⟩) ⟨rd_blind, va_recv hK hPa (ci := 0) (q0 := 0) rfl rfl, rd_pre hPa hK⟩ rfl rfl hl.1 rfl (lv_room (Nat.le_of_ble_eq_true rfl)) dS_compareToSide_117 ⟨Nat.le_of_ble_eq_true rfl, Nat.le_of_ble_eq_true rfl⟩)) (fun z hz => ?_)
      rw [hz]; clear hz
      refine lv_lload hx hb dS_compareToSide_120 (lv_at hl 9 rfl) ?_
      refine lv_lload hx hb dS_compareToSide_122 (lv_at hl 9 rfl) ?_
      refine lv_lmul hx hb dS_compareToSide_124 ?_
      obtain ⟨u16, hu16, h⟩ := ob_some h
      refine vp_callSi (va_Run.run (va_runS (As := [.long u15, .long (x6 * x6)]) (rest := []) ⟨hx, hb, hml, hown, hw⟩ (k_JL_compare_JJ l dC dI cL cI u15 (x6 * x6) u16 hu16) (va_cwS 2 hw (gS w_331 w_332 w_12 w_333) rfl rfl rfl (by decide +kernel) ⟨Nat.le_of_ble_eq_true rfl, Nat.le_of_ble_eq_true rfl⟩) ⟨rd_blind, rd_pre trivial hK⟩ rfl rfl hl.1 rfl (lv_room (Nat.le_of_ble_eq_true rfl)) dS_compareToSide_125 ⟨Nat.le_of_ble_eq_true rfl, Nat.le_of_ble_eq_true rfl⟩)) (fun z hz => ?_)
      rw [hz]; clear hz
      exact W.iret hx hb hr (fun t ht hW => ⟨_, rfl, Option.some.inj h, ht⟩) nil_locs dS_compareToSide_128
  · have h := it_f c10 h
    refine lv_aload_n hx hb dS_compareToSide_86 rfl (lv_at hl 5 rfl) ?_
    refine lv_iload_n hx hb dS_compareToSide_87 rfl (lv_at hl 6 rfl) ?_
    refine lv_lload_n hx hb dS_compareToSide_88 rfl (lv_at hl 7 rfl) ?_
    refine lv_lload hx hb dS_compareToSide_89 (lv_at hl 8 rfl) ?_
    obtain ⟨u17, hu17, h⟩ := ob_some h
    refine vp_callSl (va_Run.run (va_runV (As := [.int x1, .long x2, .long x4]) (rest := []) ⟨hx, hb, hml, hown, hw⟩ (k_S_squareTo l dC dI cL cI a ax ay ae v x1 x2 x4 u17 hu17) (cwV 3 hw (gV w_327 w_329 wp_4 w_7 w_330) rfl rfl rfl (by decide +kernel) ⟨Nat.le_of_ble_eq_true rfl, Nat.le_of_ble_eq_true rfl⟩) ⟨rd_blind, va_recv hK hPa (ci := 0) (q0 := 0) rfl rfl, rd_pre hPa hK⟩ rfl rfl hl.1 rfl (lv_room (Nat.le_of_ble_eq_true rfl)) dS_compareToSide_91 ⟨Nat.le_of_ble_eq_true rfl, Nat.le_of_ble_eq_true rfl⟩)) (fun z hz => ?_)
    rw [hz]; clear hz
    refine lv_lload hx hb dS_compareToSide_94 (lv_at hl 9 rfl) ?_
    refine lv_lload hx hb dS_compareToSide_96 (lv_at hl 9 rfl) ?_
    refine lv_lmul hx hb dS_compareToSide_98 ?_
    obtain ⟨u18, hu18, h⟩ := ob_some h
    refine vp_callSi (va_Run.run (va_runS (As := [.long u17, .long (x6 * x6)]) (rest := []) ⟨hx, hb, hml, hown, hw⟩ (k_JL_compare_JJ l dC dI cL cI u17 (x6 * x6) u18 hu18) (va_cwS 2 hw (gS w_331 w_332 w_12 w_333) rfl rfl rfl (by decide +kernel) ⟨Nat.le_of_ble_eq_true rfl, Nat.le_of_ble_eq_true rfl⟩) ⟨rd_blind, rd_pre trivial hK⟩ rfl rfl hl.1 rfl (lv_room (Nat.le_of_ble_eq_true rfl)) dS_compareToSide_99 ⟨Nat.le_of_ble_eq_true rfl, Nat.le_of_ble_eq_true rfl⟩)) (fun z hz => ?_)
    rw [hz]; clear hz
    exact W.iret hx hb hr (fun t ht hW => ⟨_, rfl, Option.some.inj h, ht⟩) nil_locs dS_compareToSide_102
theorem dS_compareToSides_0 : decode cS_compareToSides 0 = .ok (.iconst 1, 1) := by decide +kernel
theorem dS_compareToSides_1 : decode cS_compareToSides 1 = .ok (.istore 7, 2) := by decide +kernel
theorem dS_compareToSides_3 : decode cS_compareToSides 3 = .ok (.iconst 0, 1) := by decide +kernel
theorem dS_compareToSides_4 : decode cS_compareToSides 4 = .ok (.istore 8, 2) := by decide +kernel
theorem dS_compareToSides_6 : decode cS_compareToSides 6 = .ok (.iload 8, 2) := by decide +kernel
theorem dS_compareToSides_8 : decode cS_compareToSides 8 = .ok (.aload_n 0, 1) := by decide +kernel
theorem dS_compareToSides_9 : decode cS_compareToSides 9 = .ok (.getfield 34, 3) := by decide +kernel
theorem dS_compareToSides_12 : decode cS_compareToSides 12 = .ok (.if_icmp .ge 31, 3) := by decide +kernel
theorem dS_compareToSides_15 : decode cS_compareToSides 15 = .ok (.iload 7, 2) := by decide +kernel
theorem dS_compareToSides_17 : decode cS_compareToSides 17 = .ok (.ifCond .lt 26, 3) := by decide +kernel
theorem dS_compareToSides_20 : decode cS_compareToSides 20 = .ok (.iload 7, 2) := by decide +kernel
theorem dS_compareToSides_22 : decode cS_compareToSides 22 = .ok (.aload_n 0, 1) := by decide +kernel
theorem dS_compareToSides_23 : decode cS_compareToSides 23 = .ok (.iload 8, 2) := by decide +kernel
theorem dS_compareToSides_25 : decode cS_compareToSides 25 = .ok (.lload_n 1, 1) := by decide +kernel
theorem dS_compareToSides_26 : decode cS_compareToSides 26 = .ok (.lload_n 3, 1) := by decide +kernel
theorem dS_compareToSides_27 : decode cS_compareToSides 27 = .ok (.lload 5, 2) := by decide +kernel
theorem dS_compareToSides_29 : decode cS_compareToSides 29 = .ok (.invokevirtual 76, 3) := by decide +kernel
theorem dS_compareToSides_32 : decode cS_compareToSides 32 = .ok (.invokestatic 80, 3) := by decide +kernel
theorem dS_compareToSides_35 : decode cS_compareToSides 35 = .ok (.istore 7, 2) := by decide +kernel
theorem dS_compareToSides_37 : decode cS_compareToSides 37 = .ok (.iinc 8 1, 3) := by decide +kernel
theorem dS_compareToSides_40 : decode cS_compareToSides 40 = .ok (.goto (-34), 3) := by decide +kernel
theorem dS_compareToSides_43 : decode cS_compareToSides 43 = .ok (.iload 7, 2) := by decide +kernel
theorem dS_compareToSides_45 : decode cS_compareToSides 45 = .ok (.ireturn, 1) := by decide +kernel
def f_S_compareToSides_j43 (v : SV) (p7 : Int32) : Option Int32 := some p7
def f_S_compareToSides_l6 (v : SV) : Nat → Int64 → Int64 → Int64 → Int32 → Int32 → Option Int32
 | 0, _, _, _, _, _ => none
 | n + 1, p1, p3, p5, p7, p8 => (if (sN v) ≤ p8 then (f_S_compareToSides_j43 v p7) else (if p7 < 0 then (f_S_compareToSides_j43 v p7) else (f_S_compareToSide v p8 p1 p3 p5).bind fun u3 => (some (if u3 < p7 then u3 else p7)).bind fun u4 => ((f_S_compareToSides_l6 v n) p1 p3 p5 u4 (p8 + 1))))
def f_S_compareToSides (v : SV) (x1 : Int64) (x3 : Int64) (x5 : Int64) : Option Int32 := (f_S_compareToSides_l6 v 64 x1 x3 x5 (1 : Int32) (0 : Int32))
set_option maxHeartbeats 4000000 in
set_option maxRecDepth 100000 in
theorem k_S_compareToSides (l : Launch) (dC : Nat → ClassId) (dI : Nat → Nat → Nat) (cL cI : ClassId) (a ax ay ae : Nat) (v : SV) (x1 : Int64) (x3 : Int64) (x5 : Int64) (r : Int32) (h : f_S_compareToSides v x1 x3 x5 = some r) : Met l yS_compareToSides wsS_compareToSides ({ frames := 3, cells := 0, slots := 0, locals := 101 }) (rd_Pc [.ref a, .long x1, .long x3, .long x5] (fun H => va_P (dC, dI) cls3 (shW cL cI a ax ay ae v) H) (dC, dI) cls3 [(cL, .long), (cI, .int)]) (vp_Si (fun z => z = r)) 0 0 (fun _ => False) := by
  refine Met.ofW (cc := cS_compareToSides) (maxL := 9) (ret := (some .int)) (by decide) rfl ?_
  intro p e s m args below meth c s₁ B hml hv
  obtain ⟨rfl, hPa, hK⟩ := hv
  have hx := B.exec
  have hb := B.bytes
  have hr := B.returns
  have hw : ∀ w ∈ wG, w.before ([.ref a, .long x1, .long x3, .long x5] : List Value).toArray s = true := fun w hq => atoms_spec (ws := wsS_compareToSides) B.pre w (List.mem_cons_of_mem _ hq)
  have hown : s.vm.findClass R_S = some m.cls := findClass_of_methodNamed B.named
  have hlocks := B.notSynchronized
  have hl := lv_entry ([.ref a, .long x1, .long x3, .long x5] : List Value) (n := 9) (Nat.le_of_ble_eq_true rfl)
  rw [lg_entry_eq]
  generalize (lg_sl ([.ref a, .long x1, .long x3, .long x5] : List Value) ++ List.replicate (9 - (lg_sl ([.ref a, .long x1, .long x3, .long x5] : List Value)).length) Slot.unset).toArray = ls at hl ⊢
  have hl : lv_has ls 9 [(0, .ref a), (1, .long x1), (3, .long x3), (5, .long x5)] := hl
  have k43 : ∀ (p7 : Int32), f_S_compareToSides_j43 v p7 = some r →  ∀ (ls : Array Slot), lv_has ls 9 [(7, .int p7)] → W p l e (headSpec wsS_compareToSides ({ frames := 3, cells := 0, slots := 0, locals := 101 })).room s m ([.ref a, .long x1, .long x3, .long x5] : List Value).toArray below meth c s.heap [] 0 0 (MQ below (vp_Si (fun z => z = r)) ([.ref a, .long x1, .long x3, .long x5] : List Value).toArray s 0 0 (fun _ => False)) (F0 m 43 ls []) := by
    intro p7 h  ls hl
    unfold f_S_compareToSides_j43 at h
    refine lv_iload hx hb dS_compareToSides_43 (lv_at hl 0 rfl) ?_
    exact W.iret hx hb hr (fun t ht hW => ⟨_, rfl, Option.some.inj h, ht⟩) nil_locs dS_compareToSides_45
  have k6 : ∀ (n6 : Nat), ∀ (p1 : Int64) (p3 : Int64) (p5 : Int64) (p7 : Int32) (p8 : Int32), f_S_compareToSides_l6 v n6 p1 p3 p5 p7 p8 = some r →  ∀ (ls : Array Slot), lv_has ls 9 [(0, .ref a), (1, .long p1), (3, .long p3), (5, .long p5), (7, .int p7), (8, .int p8)] → W p l e (headSpec wsS_compareToSides ({ frames := 3, cells := 0, slots := 0, locals := 101 })).room s m ([.ref a, .long x1, .long x3, .long x5] : List Value).toArray below meth c s.heap [] 0 0 (MQ below (vp_Si (fun z => z = r)) ([.ref a, .long x1, .long x3, .long x5] : List Value).toArray s 0 0 (fun _ => False)) (F0 m 6 ls []) := by
    intro n6
    induction n6 with
    | zero => intro p1 p3 p5 p7 p8 h; exact absurd h (by simp [f_S_compareToSides_l6])
    | succ n6 ih6 =>
      intro p1 p3 p5 p7 p8 h  ls hl
      rw [f_S_compareToSides_l6] at h
      refine lv_iload hx hb dS_compareToSides_6 (lv_at hl 5 rfl) ?_
      refine lv_aload_n hx hb dS_compareToSides_8 rfl (lv_at hl 0 rfl) ?_
      refine va_get (D := (dC, dI)) (ci := 0) (v := .int (sN v)) (C := R_S) (T := T_S) (N := 8) hx hb hw in_S hown hK hPa 0 rfl rfl 6 (by decide) (hw _ w_52) (fun _ h9 => h9) rfl dS_compareToSides_9 ?_
      refine lv_icmp_ge (tgt := 43) hx hb dS_compareToSides_12 (by decide) (fun c1 => ?_) (fun c1 => ?_)
      · have h := it_t c1 h
        exact k43 p7 h ls (lv_sub hl [4] rfl)
      · have h := it_f c1 h
        refine lv_iload hx hb dS_compareToSides_15 (lv_at hl 4 rfl) ?_
        refine lv_if_lt (tgt := 43) hx hb dS_compareToSides_17 (by decide) (fun c2 => ?_) (fun c2 => ?_)
        · have h := it_t c2 h
          exact k43 p7 h ls (lv_sub hl [4] rfl)
        · have h := it_f c2 h
          refine lv_iload hx hb dS_compareToSides_20 (lv_at hl 4 rfl) ?_
          refine lv_aload_n hx hb dS_compareToSides_22 rfl (lv_at hl 0 rfl) ?_
          refine lv_iload hx hb dS_compareToSides_23 (lv_at hl 5 rfl) ?_
          refine lv_lload_n hx hb dS_compareToSides_25 rfl (lv_at hl 1 rfl) ?_
          refine lv_lload_n hx hb dS_compareToSides_26 rfl (lv_at hl 2 rfl) ?_
          refine lv_lload hx hb dS_compareToSides_27 (lv_at hl 3 rfl) ?_
          obtain ⟨u3, hu3, h⟩ := ob_some h
          refine vp_callSi (va_Run.run (va_runV (As := [.int p8, .long p1, .long p3, .long p5]) (rest := [.int p7]) ⟨hx, hb, hml, hown, hw⟩ (k_S_compareToSide l dC dI cL cI a ax ay ae v p8 p1 p3 p5 u3 hu3) (cwV 4 hw (gV w_323 w_325 wp_3 w_7 w_326) rfl rfl rfl (by decide +kernel) ⟨Nat.le_of_ble_eq_true rfl, Nat.le_of_ble_eq_true rfl⟩) ⟨rd_blind, va_recv hK hPa (ci := 0) (q0 := 0) rfl rfl, rd_pre hPa hK⟩ rfl rfl hl.1 rfl (lv_room (Nat.le_of_ble_eq_true rfl)) dS_compareToSides_29 ⟨Nat.le_of_ble_eq_true rfl, Nat.le_of_ble_eq_true rfl⟩)) (fun z hz => ?_)
          rw [hz]; clear hz
          obtain ⟨u4, hu4, h⟩ := ob_some h
          refine va_mmin hx hb (hml.trans hl.1.symm) hown (hw _ w_346) (hw _ w_347) (hw _ w_11) (hw _ wm_min_I) (Nat.le_of_ble_eq_true rfl) (Nat.le_of_ble_eq_true rfl) (Nat.le_of_ble_eq_true rfl) (Nat.le_of_ble_eq_true rfl) dS_compareToSides_32 ?_
          rw [Option.some.inj hu4]
          refine lv_istore (lv' := [(7, .int u4), (0, .ref a), (1, .long p1), (3, .long p3), (5, .long p5), (8, .int p8)]) hx hb dS_compareToSides_35 hl (by decide) rfl (fun ls hl => ?_)
          refine lv_iinc (v := p8 + 1) (lv' := [(8, .int (p8 + 1)), (7, .int u4), (0, .ref a), (1, .long p1), (3, .long p3), (5, .long p5)]) hx hb dS_compareToSides_37 hl (k := 5) rfl rfl (by decide) rfl (fun ls hl => ?_)
          refine lv_goto (tgt := 6) hx hb dS_compareToSides_40 (by decide) ?_
          exact ih6 p1 p3 p5 u4 (p8 + 1) h ls (lv_sub hl [2, 3, 4, 5, 1, 0] rfl)
  unfold f_S_compareToSides at h
  refine lv_iconst (v := 1) hx hb dS_compareToSides_0 (by decide) ?_
  refine lv_istore (lv' := [(7, .int (1 : Int32)), (0, .ref a), (1, .long x1), (3, .long x3), (5, .long x5)]) hx hb dS_compareToSides_1 hl (by decide) rfl (fun ls hl => ?_)
  refine lv_iconst (v := 0) hx hb dS_compareToSides_3 (by decide) ?_
  refine lv_istore (lv' := [(8, .int (0 : Int32)), (7, .int (1 : Int32)), (0, .ref a), (1, .long x1), (3, .long x3), (5, .long x5)]) hx hb dS_compareToSides_4 hl (by decide) rfl (fun ls hl => ?_)
  exact k6 64 x1 x3 x5 (1 : Int32) (0 : Int32) h ls (lv_sub hl [2, 3, 4, 5, 1, 0] rfl)
