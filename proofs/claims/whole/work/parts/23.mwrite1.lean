/-! the reference: writing methods, laid by program -/
theorem dM_begin_0 : decode cM_begin 0 = .ok (.aload_n 0, 1) := by decide +kernel
theorem dM_begin_1 : decode cM_begin 1 = .ok (.getfield 7, 3) := by decide +kernel
theorem dM_begin_4 : decode cM_begin 4 = .ok (.aload_n 0, 1) := by decide +kernel
theorem dM_begin_5 : decode cM_begin 5 = .ok (.getfield 60, 3) := by decide +kernel
theorem dM_begin_8 : decode cM_begin 8 = .ok (.iload_n 1, 1) := by decide +kernel
theorem dM_begin_9 : decode cM_begin 9 = .ok (.iastore, 1) := by decide +kernel
theorem dM_begin_10 : decode cM_begin 10 = .ok (.aload_n 0, 1) := by decide +kernel
theorem dM_begin_11 : decode cM_begin 11 = .ok (.getfield 13, 3) := by decide +kernel
theorem dM_begin_14 : decode cM_begin 14 = .ok (.aload_n 0, 1) := by decide +kernel
theorem dM_begin_15 : decode cM_begin 15 = .ok (.getfield 60, 3) := by decide +kernel
theorem dM_begin_18 : decode cM_begin 18 = .ok (.lload_n 2, 1) := by decide +kernel
theorem dM_begin_19 : decode cM_begin 19 = .ok (.lastore, 1) := by decide +kernel
theorem dM_begin_20 : decode cM_begin 20 = .ok (.aload_n 0, 1) := by decide +kernel
theorem dM_begin_21 : decode cM_begin 21 = .ok (.getfield 23, 3) := by decide +kernel
theorem dM_begin_24 : decode cM_begin 24 = .ok (.aload_n 0, 1) := by decide +kernel
theorem dM_begin_25 : decode cM_begin 25 = .ok (.getfield 60, 3) := by decide +kernel
theorem dM_begin_28 : decode cM_begin 28 = .ok (.iconst 0, 1) := by decide +kernel
theorem dM_begin_29 : decode cM_begin 29 = .ok (.iastore, 1) := by decide +kernel
theorem dM_begin_30 : decode cM_begin 30 = .ok (.aload_n 0, 1) := by decide +kernel
theorem dM_begin_31 : decode cM_begin 31 = .ok (.getfield 29, 3) := by decide +kernel
theorem dM_begin_34 : decode cM_begin 34 = .ok (.aload_n 0, 1) := by decide +kernel
theorem dM_begin_35 : decode cM_begin 35 = .ok (.getfield 60, 3) := by decide +kernel
theorem dM_begin_38 : decode cM_begin 38 = .ok (.iconst 0, 1) := by decide +kernel
theorem dM_begin_39 : decode cM_begin 39 = .ok (.iastore, 1) := by decide +kernel
theorem dM_begin_40 : decode cM_begin 40 = .ok (.aload_n 0, 1) := by decide +kernel
theorem dM_begin_41 : decode cM_begin 41 = .ok (.dup, 1) := by decide +kernel
theorem dM_begin_42 : decode cM_begin 42 = .ok (.getfield 60, 3) := by decide +kernel
theorem dM_begin_45 : decode cM_begin 45 = .ok (.iconst 1, 1) := by decide +kernel
theorem dM_begin_46 : decode cM_begin 46 = .ok (.iadd, 1) := by decide +kernel
theorem dM_begin_47 : decode cM_begin 47 = .ok (.putfield 60, 3) := by decide +kernel
theorem dM_begin_50 : decode cM_begin 50 = .ok (.aload_n 0, 1) := by decide +kernel
theorem dM_begin_51 : decode cM_begin 51 = .ok (.getfield 60, 3) := by decide +kernel
theorem dM_begin_54 : decode cM_begin 54 = .ok (.iconst 1, 1) := by decide +kernel
theorem dM_begin_55 : decode cM_begin 55 = .ok (.isub, 1) := by decide +kernel
theorem dM_begin_56 : decode cM_begin 56 = .ok (.ireturn, 1) := by decide +kernel
def f_M_begin (v : MV) (x1 : Int32) (x2 : Int64) : Option (Int32 × MV) := (ck 40 (md_shapes v)).bind fun u1 => (some (ms_kinds v (upd (md_kinds v) (md_shapes v).toNatClampNeg x1))).bind fun v2 => (ck 40 (md_shapes v2)).bind fun u3 => (some (ms_radii v2 (vp_updL (md_radii v2) (md_shapes v2).toNatClampNeg x2))).bind fun v4 => (ck 40 (md_shapes v4)).bind fun u5 => (some (ms_many v4 (upd (md_many v4) (md_shapes v4).toNatClampNeg (0 : Int32)))).bind fun v6 => (ck 40 (md_shapes v6)).bind fun u7 => (some (ms_rings v6 (upd (md_rings v6) (md_shapes v6).toNatClampNeg (0 : Int32)))).bind fun v8 => (some (ms_shapes v8 ((md_shapes v8) + (1 : Int32)))).bind fun v9 => some ((md_shapes v9) - (1 : Int32), v9)
set_option maxHeartbeats 4000000 in
set_option maxRecDepth 100000 in
theorem k_M_begin (l : Launch) (dC : Nat → ClassId) (dI : Nat → Nat → Nat) (cL cI : ClassId) (qm : Nat → Nat) (v : MV) (x1 : Int32) (x2 : Int64) (r : (Int32 × MV)) (h : f_M_begin v x1 x2 = some r) : Met l yM_begin wsM_begin ({ frames := 0, cells := 0, slots := 0, locals := 0 }) (rd_Pc [.ref (qm 0), .int x1, .long x2] (fun H => va_P (dC, dI) cls3 (mdW cL cI qm v) H ∧ va_D (inQ qm) (mdW cL cI qm v)) (dC, dI) cls3 [(cL, .long), (cI, .int)]) (mu_Q (some (.int r.1)) (dC, dI) cls3 (mdW cL cI qm r.2) (inQ qm)) 0 0 (inQ qm) := by
  refine Met.ofW (cc := cM_begin) (maxL := 4) (ret := (some .int)) (by decide) rfl ?_
  intro p e s m args below meth c s₁ B hml hv
  obtain ⟨rfl, ⟨hPm, hD⟩, hK⟩ := hv
  have hx := B.exec
  have hb := B.bytes
  have hr := B.returns
  have hw : ∀ w ∈ wG, w.before ([.ref (qm 0), .int x1, .long x2] : List Value).toArray s = true := fun w hq => atoms_spec (ws := wsM_begin) B.pre w (List.mem_cons_of_mem _ hq)
  have hown : s.vm.findClass R_M = some m.cls := findClass_of_methodNamed B.named
  have hlocks := B.notSynchronized
  have hl := lv_entry ([.ref (qm 0), .int x1, .long x2] : List Value) (n := 4) (Nat.le_of_ble_eq_true rfl)
  rw [lg_entry_eq]
  generalize (lg_sl ([.ref (qm 0), .int x1, .long x2] : List Value) ++ List.replicate (4 - (lg_sl ([.ref (qm 0), .int x1, .long x2] : List Value)).length) Slot.unset).toArray = ls at hl ⊢
  have hl : lv_has ls 4 [(0, .ref (qm 0)), (1, .int x1), (2, .long x2)] := hl
  have hS : va_S (inQ qm) s.heap s.heap [] := va_S.rf
  obtain ⟨H, hH⟩ : ∃ H : Heap, H = s.heap := ⟨_, rfl⟩
  obtain ⟨locs, hlocs⟩ : ∃ L : List Loc, L = [] := ⟨_, rfl⟩
  suffices hgo : W p l e (headSpec wsM_begin ({ frames := 0, cells := 0, slots := 0, locals := 0 })).room s m ([.ref (qm 0), .int x1, .long x2] : List Value).toArray below meth c H locs 0 0 (MQ below (mu_Q (some (.int r.1)) (dC, dI) cls3 (mdW cL cI qm r.2) (inQ qm)) ([.ref (qm 0), .int x1, .long x2] : List Value).toArray s 0 0 (inQ qm)) (F0 m 0 ls []) by rw [hH, hlocs] at hgo; exact hgo
  rw [← hH] at hPm
  have hS : va_S (inQ qm) s.heap H locs := by rw [hH, hlocs]; exact hS
  clear hH hlocs
  unfold f_M_begin at h
  refine lv_aload_n hx hb dM_begin_0 rfl (lv_at hl 0 rfl) ?_
  refine va_get (D := (dC, dI)) (ci := 2) (v := .ref (qm 1)) (C := R_M) (T := T_M) (N := 15) hx hb hw in_M hown hK hPm 0 rfl rfl 2 (by decide) (hw _ w_447) (fun _ h9 => h9) rfl dM_begin_1 ?_
  refine lv_aload_n hx hb dM_begin_4 rfl (lv_at hl 0 rfl) ?_
  refine va_get (D := (dC, dI)) (ci := 2) (v := .int (md_shapes v)) (C := R_M) (T := T_M) (N := 15) hx hb hw in_M hown hK hPm 0 rfl rfl 1 (by decide) (hw _ w_446) (fun _ h9 => h9) rfl dM_begin_5 ?_
  refine lv_iload_n hx hb dM_begin_8 rfl (lv_at hl 1 rfl) ?_
  obtain ⟨u1, hu1, h⟩ := ob_some h
  refine va_iast hx hb hK hPm hD hS 1 1 rfl rfl (ck_of hu1) dM_begin_9 (fun H locs hPm hD hS => ?_)
  obtain ⟨v2, hv2, h⟩ := ob_some h
  have hPm : va_P (dC, dI) cls3 (mdW cL cI qm (ms_kinds v (upd (md_kinds v) (md_shapes v).toNatClampNeg x1))) H := hPm
  have hD : va_D (inQ qm) (mdW cL cI qm (ms_kinds v (upd (md_kinds v) (md_shapes v).toNatClampNeg x1))) := hD
  rw [Option.some.inj hv2] at hPm hD
  refine lv_aload_n hx hb dM_begin_10 rfl (lv_at hl 0 rfl) ?_
  refine va_get (D := (dC, dI)) (ci := 2) (v := .ref (qm 2)) (C := R_M) (T := T_M) (N := 15) hx hb hw in_M hown hK hPm 0 rfl rfl 3 (by decide) (hw _ w_448) (fun _ h9 => h9) rfl dM_begin_11 ?_
  refine lv_aload_n hx hb dM_begin_14 rfl (lv_at hl 0 rfl) ?_
  refine va_get (D := (dC, dI)) (ci := 2) (v := .int (md_shapes v2)) (C := R_M) (T := T_M) (N := 15) hx hb hw in_M hown hK hPm 0 rfl rfl 1 (by decide) (hw _ w_446) (fun _ h9 => h9) rfl dM_begin_15 ?_
  refine lv_lload_n hx hb dM_begin_18 rfl (lv_at hl 2 rfl) ?_
  obtain ⟨u3, hu3, h⟩ := ob_some h
  refine va_last hx hb hK hPm hD hS 2 0 rfl rfl (ck_of hu3) dM_begin_19 (fun H locs hPm hD hS => ?_)
  obtain ⟨v4, hv4, h⟩ := ob_some h
  have hPm : va_P (dC, dI) cls3 (mdW cL cI qm (ms_radii v2 (vp_updL (md_radii v2) (md_shapes v2).toNatClampNeg x2))) H := hPm
  have hD : va_D (inQ qm) (mdW cL cI qm (ms_radii v2 (vp_updL (md_radii v2) (md_shapes v2).toNatClampNeg x2))) := hD
  rw [Option.some.inj hv4] at hPm hD
  refine lv_aload_n hx hb dM_begin_20 rfl (lv_at hl 0 rfl) ?_
  refine va_get (D := (dC, dI)) (ci := 2) (v := .ref (qm 5)) (C := R_M) (T := T_M) (N := 15) hx hb hw in_M hown hK hPm 0 rfl rfl 6 (by decide) (hw _ w_451) (fun _ h9 => h9) rfl dM_begin_21 ?_
  refine lv_aload_n hx hb dM_begin_24 rfl (lv_at hl 0 rfl) ?_
  refine va_get (D := (dC, dI)) (ci := 2) (v := .int (md_shapes v4)) (C := R_M) (T := T_M) (N := 15) hx hb hw in_M hown hK hPm 0 rfl rfl 1 (by decide) (hw _ w_446) (fun _ h9 => h9) rfl dM_begin_25 ?_
  refine lv_iconst (v := 0) hx hb dM_begin_28 (by decide) ?_
  obtain ⟨u5, hu5, h⟩ := ob_some h
  refine va_iast hx hb hK hPm hD hS 5 1 rfl rfl (ck_of hu5) dM_begin_29 (fun H locs hPm hD hS => ?_)
  obtain ⟨v6, hv6, h⟩ := ob_some h
  have hPm : va_P (dC, dI) cls3 (mdW cL cI qm (ms_many v4 (upd (md_many v4) (md_shapes v4).toNatClampNeg (0 : Int32)))) H := hPm
  have hD : va_D (inQ qm) (mdW cL cI qm (ms_many v4 (upd (md_many v4) (md_shapes v4).toNatClampNeg (0 : Int32)))) := hD
  rw [Option.some.inj hv6] at hPm hD
  refine lv_aload_n hx hb dM_begin_30 rfl (lv_at hl 0 rfl) ?_
  refine va_get (D := (dC, dI)) (ci := 2) (v := .ref (qm 7)) (C := R_M) (T := T_M) (N := 15) hx hb hw in_M hown hK hPm 0 rfl rfl 8 (by decide) (hw _ w_453) (fun _ h9 => h9) rfl dM_begin_31 ?_
  refine lv_aload_n hx hb dM_begin_34 rfl (lv_at hl 0 rfl) ?_
  refine va_get (D := (dC, dI)) (ci := 2) (v := .int (md_shapes v6)) (C := R_M) (T := T_M) (N := 15) hx hb hw in_M hown hK hPm 0 rfl rfl 1 (by decide) (hw _ w_446) (fun _ h9 => h9) rfl dM_begin_35 ?_
  refine lv_iconst (v := 0) hx hb dM_begin_38 (by decide) ?_
  obtain ⟨u7, hu7, h⟩ := ob_some h
  refine va_iast hx hb hK hPm hD hS 7 1 rfl rfl (ck_of hu7) dM_begin_39 (fun H locs hPm hD hS => ?_)
  obtain ⟨v8, hv8, h⟩ := ob_some h
  have hPm : va_P (dC, dI) cls3 (mdW cL cI qm (ms_rings v6 (upd (md_rings v6) (md_shapes v6).toNatClampNeg (0 : Int32)))) H := hPm
  have hD : va_D (inQ qm) (mdW cL cI qm (ms_rings v6 (upd (md_rings v6) (md_shapes v6).toNatClampNeg (0 : Int32)))) := hD
  rw [Option.some.inj hv8] at hPm hD
  refine lv_aload_n hx hb dM_begin_40 rfl (lv_at hl 0 rfl) ?_
  refine lv_dup hx hb dM_begin_41 rfl ?_
  refine va_get (D := (dC, dI)) (ci := 2) (v := .int (md_shapes v8)) (C := R_M) (T := T_M) (N := 15) hx hb hw in_M hown hK hPm 0 rfl rfl 1 (by decide) (hw _ w_446) (fun _ h9 => h9) rfl dM_begin_42 ?_
  refine lv_iconst (v := 1) hx hb dM_begin_45 (by decide) ?_
  refine lv_iadd hx hb dM_begin_46 ?_
  refine va_put (D := (dC, dI)) (ci := 2) (v := .int ((md_shapes v8) + (1 : Int32))) (ty := .int) (C := R_M) (T := T_M) (N := 15) hx hb hw in_M t_M t_M_ok nm_M hown hK hPm hD hS 0 rfl rfl 1 (by decide) (hw _ w_446) (fun _ h9 => h9) rfl (by decide +kernel) rfl rfl (Nat.le_of_ble_eq_true rfl) dM_begin_47 (fun H locs hPm hD hS => ?_)
  obtain ⟨v9, hv9, h⟩ := ob_some h
  have hPm : va_P (dC, dI) cls3 (mdW cL cI qm (ms_shapes v8 ((md_shapes v8) + (1 : Int32)))) H := hPm
  have hD : va_D (inQ qm) (mdW cL cI qm (ms_shapes v8 ((md_shapes v8) + (1 : Int32)))) := hD
  rw [Option.some.inj hv9] at hPm hD
  refine lv_aload_n hx hb dM_begin_50 rfl (lv_at hl 0 rfl) ?_
  refine va_get (D := (dC, dI)) (ci := 2) (v := .int (md_shapes v9)) (C := R_M) (T := T_M) (N := 15) hx hb hw in_M hown hK hPm 0 rfl rfl 1 (by decide) (hw _ w_446) (fun _ h9 => h9) rfl dM_begin_51 ?_
  refine lv_iconst (v := 1) hx hb dM_begin_54 (by decide) ?_
  refine lv_isub hx hb dM_begin_55 ?_
  have h := Option.some.inj h
  subst h
  exact W.iret hx hb hr (fun t ht hW => ⟨rfl, by rw [ht]; exact hPm, hS.F ht⟩) hS.2.2 dM_begin_56
theorem dM_add_0 : decode cM_add 0 = .ok (.aload_n 0, 1) := by decide +kernel
theorem dM_add_1 : decode cM_add 1 = .ok (.getfield 17, 3) := by decide +kernel
theorem dM_add_4 : decode cM_add 4 = .ok (.bipush 48, 2) := by decide +kernel
theorem dM_add_6 : decode cM_add 6 = .ok (.iload_n 1, 1) := by decide +kernel
theorem dM_add_7 : decode cM_add 7 = .ok (.imul, 1) := by decide +kernel
theorem dM_add_8 : decode cM_add 8 = .ok (.aload_n 0, 1) := by decide +kernel
theorem dM_add_9 : decode cM_add 9 = .ok (.getfield 23, 3) := by decide +kernel
theorem dM_add_12 : decode cM_add 12 = .ok (.iload_n 1, 1) := by decide +kernel
theorem dM_add_13 : decode cM_add 13 = .ok (.iaload, 1) := by decide +kernel
theorem dM_add_14 : decode cM_add 14 = .ok (.iadd, 1) := by decide +kernel
theorem dM_add_15 : decode cM_add 15 = .ok (.lload_n 2, 1) := by decide +kernel
theorem dM_add_16 : decode cM_add 16 = .ok (.lastore, 1) := by decide +kernel
theorem dM_add_17 : decode cM_add 17 = .ok (.aload_n 0, 1) := by decide +kernel
theorem dM_add_18 : decode cM_add 18 = .ok (.getfield 20, 3) := by decide +kernel
theorem dM_add_21 : decode cM_add 21 = .ok (.bipush 48, 2) := by decide +kernel
theorem dM_add_23 : decode cM_add 23 = .ok (.iload_n 1, 1) := by decide +kernel
theorem dM_add_24 : decode cM_add 24 = .ok (.imul, 1) := by decide +kernel
theorem dM_add_25 : decode cM_add 25 = .ok (.aload_n 0, 1) := by decide +kernel
theorem dM_add_26 : decode cM_add 26 = .ok (.getfield 23, 3) := by decide +kernel
theorem dM_add_29 : decode cM_add 29 = .ok (.iload_n 1, 1) := by decide +kernel
theorem dM_add_30 : decode cM_add 30 = .ok (.iaload, 1) := by decide +kernel
theorem dM_add_31 : decode cM_add 31 = .ok (.iadd, 1) := by decide +kernel
theorem dM_add_32 : decode cM_add 32 = .ok (.lload 4, 2) := by decide +kernel
theorem dM_add_34 : decode cM_add 34 = .ok (.lastore, 1) := by decide +kernel
theorem dM_add_35 : decode cM_add 35 = .ok (.aload_n 0, 1) := by decide +kernel
theorem dM_add_36 : decode cM_add 36 = .ok (.getfield 23, 3) := by decide +kernel
theorem dM_add_39 : decode cM_add 39 = .ok (.iload_n 1, 1) := by decide +kernel
theorem dM_add_40 : decode cM_add 40 = .ok (.dup2, 1) := by decide +kernel
theorem dM_add_41 : decode cM_add 41 = .ok (.iaload, 1) := by decide +kernel
theorem dM_add_42 : decode cM_add 42 = .ok (.iconst 1, 1) := by decide +kernel
theorem dM_add_43 : decode cM_add 43 = .ok (.iadd, 1) := by decide +kernel
theorem dM_add_44 : decode cM_add 44 = .ok (.iastore, 1) := by decide +kernel
theorem dM_add_45 : decode cM_add 45 = .ok (.return_, 1) := by decide +kernel
def f_M_add (v : MV) (x1 : Int32) (x2 : Int64) (x4 : Int64) : Option MV := (ld 40 (md_many v) x1).bind fun u1 => (ck 1920 (((48 : Int32) * x1) + u1)).bind fun u2 => (some (ms_cornerX v (vp_updL (md_cornerX v) (((48 : Int32) * x1) + u1).toNatClampNeg x2))).bind fun v3 => (ld 40 (md_many v3) x1).bind fun u4 => (ck 1920 (((48 : Int32) * x1) + u4)).bind fun u5 => (some (ms_cornerY v3 (vp_updL (md_cornerY v3) (((48 : Int32) * x1) + u4).toNatClampNeg x4))).bind fun v6 => (ld 40 (md_many v6) x1).bind fun u7 => (ck 40 x1).bind fun u8 => (some (ms_many v6 (upd (md_many v6) x1.toNatClampNeg (u7 + (1 : Int32))))).bind fun v9 => some v9
set_option maxHeartbeats 4000000 in
set_option maxRecDepth 100000 in
theorem k_M_add (l : Launch) (dC : Nat → ClassId) (dI : Nat → Nat → Nat) (cL cI : ClassId) (qm : Nat → Nat) (v : MV) (x1 : Int32) (x2 : Int64) (x4 : Int64) (r : MV) (h : f_M_add v x1 x2 x4 = some r) : Met l yM_add wsM_add ({ frames := 0, cells := 0, slots := 0, locals := 0 }) (rd_Pc [.ref (qm 0), .int x1, .long x2, .long x4] (fun H => va_P (dC, dI) cls3 (mdW cL cI qm v) H ∧ va_D (inQ qm) (mdW cL cI qm v)) (dC, dI) cls3 [(cL, .long), (cI, .int)]) (mu_Q none (dC, dI) cls3 (mdW cL cI qm r) (inQ qm)) 0 0 (inQ qm) := by
  refine Met.ofW (cc := cM_add) (maxL := 6) (ret := none) (by decide) rfl ?_
  intro p e s m args below meth c s₁ B hml hv
  obtain ⟨rfl, ⟨hPm, hD⟩, hK⟩ := hv
  have hx := B.exec
  have hb := B.bytes
  have hr := B.returns
  have hw : ∀ w ∈ wG, w.before ([.ref (qm 0), .int x1, .long x2, .long x4] : List Value).toArray s = true := fun w hq => atoms_spec (ws := wsM_add) B.pre w (List.mem_cons_of_mem _ hq)
  have hown : s.vm.findClass R_M = some m.cls := findClass_of_methodNamed B.named
  have hlocks := B.notSynchronized
  have hl := lv_entry ([.ref (qm 0), .int x1, .long x2, .long x4] : List Value) (n := 6) (Nat.le_of_ble_eq_true rfl)
  rw [lg_entry_eq]
  generalize (lg_sl ([.ref (qm 0), .int x1, .long x2, .long x4] : List Value) ++ List.replicate (6 - (lg_sl ([.ref (qm 0), .int x1, .long x2, .long x4] : List Value)).length) Slot.unset).toArray = ls at hl ⊢
  have hl : lv_has ls 6 [(0, .ref (qm 0)), (1, .int x1), (2, .long x2), (4, .long x4)] := hl
  have hS : va_S (inQ qm) s.heap s.heap [] := va_S.rf
  obtain ⟨H, hH⟩ : ∃ H : Heap, H = s.heap := ⟨_, rfl⟩
  obtain ⟨locs, hlocs⟩ : ∃ L : List Loc, L = [] := ⟨_, rfl⟩
  suffices hgo : W p l e (headSpec wsM_add ({ frames := 0, cells := 0, slots := 0, locals := 0 })).room s m ([.ref (qm 0), .int x1, .long x2, .long x4] : List Value).toArray below meth c H locs 0 0 (MQ below (mu_Q none (dC, dI) cls3 (mdW cL cI qm r) (inQ qm)) ([.ref (qm 0), .int x1, .long x2, .long x4] : List Value).toArray s 0 0 (inQ qm)) (F0 m 0 ls []) by rw [hH, hlocs] at hgo; exact hgo
  rw [← hH] at hPm
  have hS : va_S (inQ qm) s.heap H locs := by rw [hH, hlocs]; exact hS
  clear hH hlocs
  unfold f_M_add at h
  refine lv_aload_n hx hb dM_add_0 rfl (lv_at hl 0 rfl) ?_
  refine va_get (D := (dC, dI)) (ci := 2) (v := .ref (qm 3)) (C := R_M) (T := T_M) (N := 15) hx hb hw in_M hown hK hPm 0 rfl rfl 4 (by decide) (hw _ w_449) (fun _ h9 => h9) rfl dM_add_1 ?_
  refine lv_bipush (v := 48) hx hb dM_add_4 (by decide) ?_
  refine lv_iload_n hx hb dM_add_6 rfl (lv_at hl 1 rfl) ?_
  refine lv_imul hx hb dM_add_7 ?_
  refine lv_aload_n hx hb dM_add_8 rfl (lv_at hl 0 rfl) ?_
  refine va_get (D := (dC, dI)) (ci := 2) (v := .ref (qm 5)) (C := R_M) (T := T_M) (N := 15) hx hb hw in_M hown hK hPm 0 rfl rfl 6 (by decide) (hw _ w_451) (fun _ h9 => h9) rfl dM_add_9 ?_
  refine lv_iload_n hx hb dM_add_12 rfl (lv_at hl 1 rfl) ?_
  obtain ⟨u1, hu1, h⟩ := ob_some h
  obtain ⟨hiu1, eu1⟩ := ld_of hu1
  refine va_iald hx hb hK hPm 5 1 rfl rfl hiu1 dM_add_13 ?_
  rw [eu1]
  refine lv_iadd hx hb dM_add_14 ?_
  refine lv_lload_n hx hb dM_add_15 rfl (lv_at hl 2 rfl) ?_
  obtain ⟨u2, hu2, h⟩ := ob_some h
  refine va_last hx hb hK hPm hD hS 3 0 rfl rfl (ck_of hu2) dM_add_16 (fun H locs hPm hD hS => ?_)
  obtain ⟨v3, hv3, h⟩ := ob_some h
  have hPm : va_P (dC, dI) cls3 (mdW cL cI qm (ms_cornerX v (vp_updL (md_cornerX v) (((48 : Int32) * x1) + u1).toNatClampNeg x2))) H := hPm
  have hD : va_D (inQ qm) (mdW cL cI qm (ms_cornerX v (vp_updL (md_cornerX v) (((48 : Int32) * x1) + u1).toNatClampNeg x2))) := hD
  rw [Option.some.inj hv3] at hPm hD
  refine lv_aload_n hx hb dM_add_17 rfl (lv_at hl 0 rfl) ?_
  refine va_get (D := (dC, dI)) (ci := 2) (v := .ref (qm 4)) (C := R_M) (T := T_M) (N := 15) hx hb hw in_M hown hK hPm 0 rfl rfl 5 (by decide) (hw _ w_450) (fun _ h9 => h9) rfl dM_add_18 ?_
  refine lv_bipush (v := 48) hx hb dM_add_21 (by decide) ?_
  refine lv_iload_n hx hb dM_add_23 rfl (lv_at hl 1 rfl) ?_
  refine lv_imul hx hb dM_add_24 ?_
  refine lv_aload_n hx hb dM_add_25 rfl (lv_at hl 0 rfl) ?_
  refine va_get (D := (dC, dI)) (ci := 2) (v := .ref (qm 5)) (C := R_M) (T := T_M) (N := 15) hx hb hw in_M hown hK hPm 0 rfl rfl 6 (by decide) (hw _ w_451) (fun _ h9 => h9) rfl dM_add_26 ?_
  refine lv_iload_n hx hb dM_add_29 rfl (lv_at hl 1 rfl) ?_
  obtain ⟨u4, hu4, h⟩ := ob_some h
  obtain ⟨hiu4, eu4⟩ := ld_of hu4
  refine va_iald hx hb hK hPm 5 1 rfl rfl hiu4 dM_add_30 ?_
  rw [eu4]
  refine lv_iadd hx hb dM_add_31 ?_
  refine lv_lload hx hb dM_add_32 (lv_at hl 3 rfl) ?_
  obtain ⟨u5, hu5, h⟩ := ob_some h
  refine va_last hx hb hK hPm hD hS 4 0 rfl rfl (ck_of hu5) dM_add_34 (fun H locs hPm hD hS => ?_)
  obtain ⟨v6, hv6, h⟩ := ob_some h
  have hPm : va_P (dC, dI) cls3 (mdW cL cI qm (ms_cornerY v3 (vp_updL (md_cornerY v3) (((48 : Int32) * x1) + u4).toNatClampNeg x4))) H := hPm
  have hD : va_D (inQ qm) (mdW cL cI qm (ms_cornerY v3 (vp_updL (md_cornerY v3) (((48 : Int32) * x1) + u4).toNatClampNeg x4))) := hD
  rw [Option.some.inj hv6] at hPm hD
  refine lv_aload_n hx hb dM_add_35 rfl (lv_at hl 0 rfl) ?_
  refine va_get (D := (dC, dI)) (ci := 2) (v := .ref (qm 5)) (C := R_M) (T := T_M) (N := 15) hx hb hw in_M hown hK hPm 0 rfl rfl 6 (by decide) (hw _ w_451) (fun _ h9 => h9) rfl dM_add_36 ?_
  refine lv_iload_n hx hb dM_add_39 rfl (lv_at hl 1 rfl) ?_
  refine lv_dup2_11 hx hb dM_add_40 rfl rfl ?_
  obtain ⟨u7, hu7, h⟩ := ob_some h
  obtain ⟨hiu7, eu7⟩ := ld_of hu7
  refine va_iald hx hb hK hPm 5 1 rfl rfl hiu7 dM_add_41 ?_
  rw [eu7]
  refine lv_iconst (v := 1) hx hb dM_add_42 (by decide) ?_
  refine lv_iadd hx hb dM_add_43 ?_
  obtain ⟨u8, hu8, h⟩ := ob_some h
  refine va_iast hx hb hK hPm hD hS 5 1 rfl rfl (ck_of hu8) dM_add_44 (fun H locs hPm hD hS => ?_)
  obtain ⟨v9, hv9, h⟩ := ob_some h
  have hPm : va_P (dC, dI) cls3 (mdW cL cI qm (ms_many v6 (upd (md_many v6) x1.toNatClampNeg (u7 + (1 : Int32))))) H := hPm
  have hD : va_D (inQ qm) (mdW cL cI qm (ms_many v6 (upd (md_many v6) x1.toNatClampNeg (u7 + (1 : Int32))))) := hD
  rw [Option.some.inj hv9] at hPm hD
  have h := Option.some.inj h
  subst h
  exact W.vret hx hb hr (fun t ht hW => ⟨rfl, by rw [ht]; exact hPm, hS.F ht⟩) hS.2.2 dM_add_45
theorem dM_piece_0 : decode cM_piece 0 = .ok (.bipush 48, 2) := by decide +kernel
theorem dM_piece_2 : decode cM_piece 2 = .ok (.iload_n 1, 1) := by decide +kernel
theorem dM_piece_3 : decode cM_piece 3 = .ok (.imul, 1) := by decide +kernel
theorem dM_piece_4 : decode cM_piece 4 = .ok (.aload_n 0, 1) := by decide +kernel
theorem dM_piece_5 : decode cM_piece 5 = .ok (.getfield 44, 3) := by decide +kernel
theorem dM_piece_8 : decode cM_piece 8 = .ok (.iload_n 1, 1) := by decide +kernel
theorem dM_piece_9 : decode cM_piece 9 = .ok (.iaload, 1) := by decide +kernel
theorem dM_piece_10 : decode cM_piece 10 = .ok (.iadd, 1) := by decide +kernel
theorem dM_piece_11 : decode cM_piece 11 = .ok (.istore 10, 2) := by decide +kernel
theorem dM_piece_13 : decode cM_piece 13 = .ok (.aload_n 0, 1) := by decide +kernel
theorem dM_piece_14 : decode cM_piece 14 = .ok (.getfield 32, 3) := by decide +kernel
theorem dM_piece_17 : decode cM_piece 17 = .ok (.iload 10, 2) := by decide +kernel
theorem dM_piece_19 : decode cM_piece 19 = .ok (.lload_n 2, 1) := by decide +kernel
theorem dM_piece_20 : decode cM_piece 20 = .ok (.lastore, 1) := by decide +kernel
theorem dM_piece_21 : decode cM_piece 21 = .ok (.aload_n 0, 1) := by decide +kernel
theorem dM_piece_22 : decode cM_piece 22 = .ok (.getfield 35, 3) := by decide +kernel
theorem dM_piece_25 : decode cM_piece 25 = .ok (.iload 10, 2) := by decide +kernel
theorem dM_piece_27 : decode cM_piece 27 = .ok (.lload 4, 2) := by decide +kernel
theorem dM_piece_29 : decode cM_piece 29 = .ok (.lastore, 1) := by decide +kernel
theorem dM_piece_30 : decode cM_piece 30 = .ok (.aload_n 0, 1) := by decide +kernel
theorem dM_piece_31 : decode cM_piece 31 = .ok (.getfield 38, 3) := by decide +kernel
theorem dM_piece_34 : decode cM_piece 34 = .ok (.iload 10, 2) := by decide +kernel
theorem dM_piece_36 : decode cM_piece 36 = .ok (.lload 6, 2) := by decide +kernel
theorem dM_piece_38 : decode cM_piece 38 = .ok (.lastore, 1) := by decide +kernel
theorem dM_piece_39 : decode cM_piece 39 = .ok (.aload_n 0, 1) := by decide +kernel
theorem dM_piece_40 : decode cM_piece 40 = .ok (.getfield 41, 3) := by decide +kernel
theorem dM_piece_43 : decode cM_piece 43 = .ok (.iload 10, 2) := by decide +kernel
theorem dM_piece_45 : decode cM_piece 45 = .ok (.lload 8, 2) := by decide +kernel
theorem dM_piece_47 : decode cM_piece 47 = .ok (.lastore, 1) := by decide +kernel
theorem dM_piece_48 : decode cM_piece 48 = .ok (.aload_n 0, 1) := by decide +kernel
theorem dM_piece_49 : decode cM_piece 49 = .ok (.getfield 44, 3) := by decide +kernel
theorem dM_piece_52 : decode cM_piece 52 = .ok (.iload_n 1, 1) := by decide +kernel
theorem dM_piece_53 : decode cM_piece 53 = .ok (.dup2, 1) := by decide +kernel
theorem dM_piece_54 : decode cM_piece 54 = .ok (.iaload, 1) := by decide +kernel
theorem dM_piece_55 : decode cM_piece 55 = .ok (.iconst 1, 1) := by decide +kernel
theorem dM_piece_56 : decode cM_piece 56 = .ok (.iadd, 1) := by decide +kernel
theorem dM_piece_57 : decode cM_piece 57 = .ok (.iastore, 1) := by decide +kernel
theorem dM_piece_58 : decode cM_piece 58 = .ok (.return_, 1) := by decide +kernel
def f_M_piece (v : MV) (x1 : Int32) (x2 : Int64) (x4 : Int64) (x6 : Int64) (x8 : Int64) : Option MV := (ld 2 (md_size v) x1).bind fun u1 => (some (((48 : Int32) * x1) + u1)).bind fun u2 => (ck 96 u2).bind fun u3 => (some (ms_ax v (vp_updL (md_ax v) u2.toNatClampNeg x2))).bind fun v4 => (ck 96 u2).bind fun u5 => (some (ms_ay v4 (vp_updL (md_ay v4) u2.toNatClampNeg x4))).bind fun v6 => (ck 96 u2).bind fun u7 => (some (ms_bx v6 (vp_updL (md_bx v6) u2.toNatClampNeg x6))).bind fun v8 => (ck 96 u2).bind fun u9 => (some (ms_by v8 (vp_updL (md_by v8) u2.toNatClampNeg x8))).bind fun v10 => (ld 2 (md_size v10) x1).bind fun u11 => (ck 2 x1).bind fun u12 => (some (ms_size v10 (upd (md_size v10) x1.toNatClampNeg (u11 + (1 : Int32))))).bind fun v13 => some v13
set_option maxHeartbeats 4000000 in
set_option maxRecDepth 100000 in
theorem k_M_piece (l : Launch) (dC : Nat → ClassId) (dI : Nat → Nat → Nat) (cL cI : ClassId) (qm : Nat → Nat) (v : MV) (x1 : Int32) (x2 : Int64) (x4 : Int64) (x6 : Int64) (x8 : Int64) (r : MV) (h : f_M_piece v x1 x2 x4 x6 x8 = some r) : Met l yM_piece wsM_piece ({ frames := 0, cells := 0, slots := 0, locals := 0 }) (rd_Pc [.ref (qm 0), .int x1, .long x2, .long x4, .long x6, .long x8] (fun H => va_P (dC, dI) cls3 (mdW cL cI qm v) H ∧ va_D (inQ qm) (mdW cL cI qm v)) (dC, dI) cls3 [(cL, .long), (cI, .int)]) (mu_Q none (dC, dI) cls3 (mdW cL cI qm r) (inQ qm)) 0 0 (inQ qm) := by
  refine Met.ofW (cc := cM_piece) (maxL := 11) (ret := none) (by decide) rfl ?_
  intro p e s m args below meth c s₁ B hml hv
  obtain ⟨rfl, ⟨hPm, hD⟩, hK⟩ := hv
  have hx := B.exec
  have hb := B.bytes
  have hr := B.returns
  have hw : ∀ w ∈ wG, w.before ([.ref (qm 0), .int x1, .long x2, .long x4, .long x6, .long x8] : List Value).toArray s = true := fun w hq => atoms_spec (ws := wsM_piece) B.pre w (List.mem_cons_of_mem _ hq)
  have hown : s.vm.findClass R_M = some m.cls := findClass_of_methodNamed B.named
  have hlocks := B.notSynchronized
  have hl := lv_entry ([.ref (qm 0), .int x1, .long x2, .long x4, .long x6, .long x8] : List Value) (n := 11) (Nat.le_of_ble_eq_true rfl)
  rw [lg_entry_eq]
  generalize (lg_sl ([.ref (qm 0), .int x1, .long x2, .long x4, .long x6, .long x8] : List Value) ++ List.replicate (11 - (lg_sl ([.ref (qm 0), .int x1, .long x2, .long x4, .long x6, .long x8] : List Value)).length) Slot.unset).toArray = ls at hl ⊢
  have hl : lv_has ls 11 [(0, .ref (qm 0)), (1, .int x1), (2, .long x2), (4, .long x4), (6, .long x6), (8, .long x8)] := hl
  have hS : va_S (inQ qm) s.heap s.heap [] := va_S.rf
  obtain ⟨H, hH⟩ : ∃ H : Heap, H = s.heap := ⟨_, rfl⟩
  obtain ⟨locs, hlocs⟩ : ∃ L : List Loc, L = [] := ⟨_, rfl⟩
  suffices hgo : W p l e (headSpec wsM_piece ({ frames := 0, cells := 0, slots := 0, locals := 0 })).room s m ([.ref (qm 0), .int x1, .long x2, .long x4, .long x6, .long x8] : List Value).toArray below meth c H locs 0 0 (MQ below (mu_Q none (dC, dI) cls3 (mdW cL cI qm r) (inQ qm)) ([.ref (qm 0), .int x1, .long x2, .long x4, .long x6, .long x8] : List Value).toArray s 0 0 (inQ qm)) (F0 m 0 ls []) by rw [hH, hlocs] at hgo; exact hgo
  rw [← hH] at hPm
  have hS : va_S (inQ qm) s.heap H locs := by rw [hH, hlocs]; exact hS
  clear hH hlocs
  unfold f_M_piece at h
  refine lv_bipush (v := 48) hx hb dM_piece_0 (by decide) ?_
  refine lv_iload_n hx hb dM_piece_2 rfl (lv_at hl 1 rfl) ?_
  refine lv_imul hx hb dM_piece_3 ?_
  refine lv_aload_n hx hb dM_piece_4 rfl (lv_at hl 0 rfl) ?_
  refine va_get (D := (dC, dI)) (ci := 2) (v := .ref (qm 12)) (C := R_M) (T := T_M) (N := 15) hx hb hw in_M hown hK hPm 0 rfl rfl 13 (by decide) (hw _ w_458) (fun _ h9 => h9) rfl dM_piece_5 ?_
  refine lv_iload_n hx hb dM_piece_8 rfl (lv_at hl 1 rfl) ?_
  obtain ⟨u1, hu1, h⟩ := ob_some h
  obtain ⟨hiu1, eu1⟩ := ld_of hu1
  refine va_iald hx hb hK hPm 12 1 rfl rfl hiu1 dM_piece_9 ?_
  rw [eu1]
  refine lv_iadd hx hb dM_piece_10 ?_
  obtain ⟨u2, hu2, h⟩ := ob_some h
  rw [Option.some.inj hu2]
  refine lv_istore (lv' := [(10, .int u2), (0, .ref (qm 0)), (1, .int x1), (2, .long x2), (4, .long x4), (6, .long x6), (8, .long x8)]) hx hb dM_piece_11 hl (by decide) rfl (fun ls hl => ?_)
  refine lv_aload_n hx hb dM_piece_13 rfl (lv_at hl 1 rfl) ?_
  refine va_get (D := (dC, dI)) (ci := 2) (v := .ref (qm 8)) (C := R_M) (T := T_M) (N := 15) hx hb hw in_M hown hK hPm 0 rfl rfl 9 (by decide) (hw _ w_454) (fun _ h9 => h9) rfl dM_piece_14 ?_
  refine lv_iload hx hb dM_piece_17 (lv_at hl 0 rfl) ?_
  refine lv_lload_n hx hb dM_piece_19 rfl (lv_at hl 3 rfl) ?_
  obtain ⟨u3, hu3, h⟩ := ob_some h
  refine va_last hx hb hK hPm hD hS 8 0 rfl rfl (ck_of hu3) dM_piece_20 (fun H locs hPm hD hS => ?_)
  obtain ⟨v4, hv4, h⟩ := ob_some h
  have hPm : va_P (dC, dI) cls3 (mdW cL cI qm (ms_ax v (vp_updL (md_ax v) u2.toNatClampNeg x2))) H := hPm
  have hD : va_D (inQ qm) (mdW cL cI qm (ms_ax v (vp_updL (md_ax v) u2.toNatClampNeg x2))) := hD
  rw [Option.some.inj hv4] at hPm hD
  refine lv_aload_n hx hb dM_piece_21 rfl (lv_at hl 1 rfl) ?_
  refine va_get (D := (dC, dI)) (ci := 2) (v := .ref (qm 9)) (C := R_M) (T := T_M) (N := 15) hx hb hw in_M hown hK hPm 0 rfl rfl 10 (by decide) (hw _ w_455) (fun _ h9 => h9) rfl dM_piece_22 ?_
  refine lv_iload hx hb dM_piece_25 (lv_at hl 0 rfl) ?_
  refine lv_lload hx hb dM_piece_27 (lv_at hl 4 rfl) ?_
  obtain ⟨u5, hu5, h⟩ := ob_some h
  refine va_last hx hb hK hPm hD hS 9 0 rfl rfl (ck_of hu5) dM_piece_29 (fun H locs hPm hD hS => ?_)
  obtain ⟨v6, hv6, h⟩ := ob_some h
  have hPm : va_P (dC, dI) cls3 (mdW cL cI qm (ms_ay v4 (vp_updL (md_ay v4) u2.toNatClampNeg x4))) H := hPm
  have hD : va_D (inQ qm) (mdW cL cI qm (ms_ay v4 (vp_updL (md_ay v4) u2.toNatClampNeg x4))) := hD
  rw [Option.some.inj hv6] at hPm hD
  refine lv_aload_n hx hb dM_piece_30 rfl (lv_at hl 1 rfl) ?_
  refine va_get (D := (dC, dI)) (ci := 2) (v := .ref (qm 10)) (C := R_M) (T := T_M) (N := 15) hx hb hw in_M hown hK hPm 0 rfl rfl 11 (by decide) (hw _ w_456) (fun _ h9 => h9) rfl dM_piece_31 ?_
  refine lv_iload hx hb dM_piece_34 (lv_at hl 0 rfl) ?_
  refine lv_lload hx hb dM_piece_36 (lv_at hl 5 rfl) ?_
  obtain ⟨u7, hu7, h⟩ := ob_some h
  refine va_last hx hb hK hPm hD hS 10 0 rfl rfl (ck_of hu7) dM_piece_38 (fun H locs hPm hD hS => ?_)
  obtain ⟨v8, hv8, h⟩ := ob_some h
  have hPm : va_P (dC, dI) cls3 (mdW cL cI qm (ms_bx v6 (vp_updL (md_bx v6) u2.toNatClampNeg x6))) H := hPm
  have hD : va_D (inQ qm) (mdW cL cI qm (ms_bx v6 (vp_updL (md_bx v6) u2.toNatClampNeg x6))) := hD
  rw [Option.some.inj hv8] at hPm hD
  refine lv_aload_n hx hb dM_piece_39 rfl (lv_at hl 1 rfl) ?_
  refine va_get (D := (dC, dI)) (ci := 2) (v := .ref (qm 11)) (C := R_M) (T := T_M) (N := 15) hx hb hw in_M hown hK hPm 0 rfl rfl 12 (by decide) (hw _ w_457) (fun _ h9 => h9) rfl dM_piece_40 ?_
  refine lv_iload hx hb dM_piece_43 (lv_at hl 0 rfl) ?_
  refine lv_lload hx hb dM_piece_45 (lv_at hl 6 rfl) ?_
  obtain ⟨u9, hu9, h⟩ := ob_some h
  refine va_last hx hb hK hPm hD hS 11 0 rfl rfl (ck_of hu9) dM_piece_47 (fun H locs hPm hD hS => ?_)
  obtain ⟨v10, hv10, h⟩ := ob_some h
  have hPm : va_P (dC, dI) cls3 (mdW cL cI qm (ms_by v8 (vp_updL (md_by v8) u2.toNatClampNeg x8))) H := hPm
  have hD : va_D (inQ qm) (mdW cL cI qm (ms_by v8 (vp_updL (md_by v8) u2.toNatClampNeg x8))) := hD
  rw [Option.some.inj hv10] at hPm hD
  refine lv_aload_n hx hb dM_piece_48 rfl (lv_at hl 1 rfl) ?_
  refine va_get (D := (dC, dI)) (ci := 2) (v := .ref (qm 12)) (C := R_M) (T := T_M) (N := 15) hx hb hw in_M hown hK hPm 0 rfl rfl 13 (by decide) (hw _ w_458) (fun _ h9 => h9) rfl dM_piece_49 ?_
  refine lv_iload_n hx hb dM_piece_52 rfl (lv_at hl 2 rfl) ?_
  refine lv_dup2_11 hx hb dM_piece_53 rfl rfl ?_
  obtain ⟨u11, hu11, h⟩ := ob_some h
  obtain ⟨hiu11, eu11⟩ := ld_of hu11
  refine va_iald hx hb hK hPm 12 1 rfl rfl hiu11 dM_piece_54 ?_
  rw [eu11]
  refine lv_iconst (v := 1) hx hb dM_piece_55 (by decide) ?_
  refine lv_iadd hx hb dM_piece_56 ?_
  obtain ⟨u12, hu12, h⟩ := ob_some h
  refine va_iast hx hb hK hPm hD hS 12 1 rfl rfl (ck_of hu12) dM_piece_57 (fun H locs hPm hD hS => ?_)
  obtain ⟨v13, hv13, h⟩ := ob_some h
  have hPm : va_P (dC, dI) cls3 (mdW cL cI qm (ms_size v10 (upd (md_size v10) x1.toNatClampNeg (u11 + (1 : Int32))))) H := hPm
  have hD : va_D (inQ qm) (mdW cL cI qm (ms_size v10 (upd (md_size v10) x1.toNatClampNeg (u11 + (1 : Int32))))) := hD
  rw [Option.some.inj hv13] at hPm hD
  have h := Option.some.inj h
  subst h
  exact W.vret hx hb hr (fun t ht hW => ⟨rfl, by rw [ht]; exact hPm, hS.F ht⟩) hS.2.2 dM_piece_58
theorem dM_multiply_0 : decode cM_multiply 0 = .ok (.lload_n 2, 1) := by decide +kernel
theorem dM_multiply_1 : decode cM_multiply 1 = .ok (.ldc2_w 148, 3) := by decide +kernel
theorem dM_multiply_4 : decode cM_multiply 4 = .ok (.land, 1) := by decide +kernel
theorem dM_multiply_5 : decode cM_multiply 5 = .ok (.lstore 6, 2) := by decide +kernel
theorem dM_multiply_7 : decode cM_multiply 7 = .ok (.lload_n 2, 1) := by decide +kernel
theorem dM_multiply_8 : decode cM_multiply 8 = .ok (.bipush 32, 2) := by decide +kernel
theorem dM_multiply_10 : decode cM_multiply 10 = .ok (.lushr, 1) := by decide +kernel
theorem dM_multiply_11 : decode cM_multiply 11 = .ok (.lstore 8, 2) := by decide +kernel
theorem dM_multiply_13 : decode cM_multiply 13 = .ok (.lload 4, 2) := by decide +kernel
theorem dM_multiply_15 : decode cM_multiply 15 = .ok (.ldc2_w 148, 3) := by decide +kernel
theorem dM_multiply_18 : decode cM_multiply 18 = .ok (.land, 1) := by decide +kernel
theorem dM_multiply_19 : decode cM_multiply 19 = .ok (.lstore 10, 2) := by decide +kernel
theorem dM_multiply_21 : decode cM_multiply 21 = .ok (.lload 4, 2) := by decide +kernel
theorem dM_multiply_23 : decode cM_multiply 23 = .ok (.bipush 32, 2) := by decide +kernel
theorem dM_multiply_25 : decode cM_multiply 25 = .ok (.lushr, 1) := by decide +kernel
theorem dM_multiply_26 : decode cM_multiply 26 = .ok (.lstore 12, 2) := by decide +kernel
theorem dM_multiply_28 : decode cM_multiply 28 = .ok (.lload 6, 2) := by decide +kernel
theorem dM_multiply_30 : decode cM_multiply 30 = .ok (.lload 10, 2) := by decide +kernel
theorem dM_multiply_32 : decode cM_multiply 32 = .ok (.lmul, 1) := by decide +kernel
theorem dM_multiply_33 : decode cM_multiply 33 = .ok (.lstore 14, 2) := by decide +kernel
theorem dM_multiply_35 : decode cM_multiply 35 = .ok (.lload 8, 2) := by decide +kernel
theorem dM_multiply_37 : decode cM_multiply 37 = .ok (.lload 10, 2) := by decide +kernel
theorem dM_multiply_39 : decode cM_multiply 39 = .ok (.lmul, 1) := by decide +kernel
theorem dM_multiply_40 : decode cM_multiply 40 = .ok (.lstore 16, 2) := by decide +kernel
theorem dM_multiply_42 : decode cM_multiply 42 = .ok (.lload 6, 2) := by decide +kernel
theorem dM_multiply_44 : decode cM_multiply 44 = .ok (.lload 12, 2) := by decide +kernel
theorem dM_multiply_46 : decode cM_multiply 46 = .ok (.lmul, 1) := by decide +kernel
theorem dM_multiply_47 : decode cM_multiply 47 = .ok (.lstore 18, 2) := by decide +kernel
theorem dM_multiply_49 : decode cM_multiply 49 = .ok (.lload 14, 2) := by decide +kernel
theorem dM_multiply_51 : decode cM_multiply 51 = .ok (.bipush 32, 2) := by decide +kernel
theorem dM_multiply_53 : decode cM_multiply 53 = .ok (.lushr, 1) := by decide +kernel
theorem dM_multiply_54 : decode cM_multiply 54 = .ok (.lload 16, 2) := by decide +kernel
theorem dM_multiply_56 : decode cM_multiply 56 = .ok (.ldc2_w 148, 3) := by decide +kernel
theorem dM_multiply_59 : decode cM_multiply 59 = .ok (.land, 1) := by decide +kernel
theorem dM_multiply_60 : decode cM_multiply 60 = .ok (.ladd, 1) := by decide +kernel
theorem dM_multiply_61 : decode cM_multiply 61 = .ok (.lload 18, 2) := by decide +kernel
theorem dM_multiply_63 : decode cM_multiply 63 = .ok (.ldc2_w 148, 3) := by decide +kernel
theorem dM_multiply_66 : decode cM_multiply 66 = .ok (.land, 1) := by decide +kernel
theorem dM_multiply_67 : decode cM_multiply 67 = .ok (.ladd, 1) := by decide +kernel
theorem dM_multiply_68 : decode cM_multiply 68 = .ok (.lstore 20, 2) := by decide +kernel
theorem dM_multiply_70 : decode cM_multiply 70 = .ok (.lload 8, 2) := by decide +kernel
theorem dM_multiply_72 : decode cM_multiply 72 = .ok (.lload 12, 2) := by decide +kernel
theorem dM_multiply_74 : decode cM_multiply 74 = .ok (.lmul, 1) := by decide +kernel
theorem dM_multiply_75 : decode cM_multiply 75 = .ok (.lload 16, 2) := by decide +kernel
theorem dM_multiply_77 : decode cM_multiply 77 = .ok (.bipush 32, 2) := by decide +kernel
theorem dM_multiply_79 : decode cM_multiply 79 = .ok (.lushr, 1) := by decide +kernel
theorem dM_multiply_80 : decode cM_multiply 80 = .ok (.ladd, 1) := by decide +kernel
theorem dM_multiply_81 : decode cM_multiply 81 = .ok (.lload 18, 2) := by decide +kernel
theorem dM_multiply_83 : decode cM_multiply 83 = .ok (.bipush 32, 2) := by decide +kernel
theorem dM_multiply_85 : decode cM_multiply 85 = .ok (.lushr, 1) := by decide +kernel
theorem dM_multiply_86 : decode cM_multiply 86 = .ok (.ladd, 1) := by decide +kernel
theorem dM_multiply_87 : decode cM_multiply 87 = .ok (.lload 20, 2) := by decide +kernel
theorem dM_multiply_89 : decode cM_multiply 89 = .ok (.bipush 32, 2) := by decide +kernel
theorem dM_multiply_91 : decode cM_multiply 91 = .ok (.lushr, 1) := by decide +kernel
theorem dM_multiply_92 : decode cM_multiply 92 = .ok (.ladd, 1) := by decide +kernel
theorem dM_multiply_93 : decode cM_multiply 93 = .ok (.lstore 22, 2) := by decide +kernel
theorem dM_multiply_95 : decode cM_multiply 95 = .ok (.aload_n 0, 1) := by decide +kernel
theorem dM_multiply_96 : decode cM_multiply 96 = .ok (.getfield 47, 3) := by decide +kernel
theorem dM_multiply_99 : decode cM_multiply 99 = .ok (.iload_n 1, 1) := by decide +kernel
theorem dM_multiply_100 : decode cM_multiply 100 = .ok (.lload 14, 2) := by decide +kernel
theorem dM_multiply_102 : decode cM_multiply 102 = .ok (.ldc2_w 148, 3) := by decide +kernel
theorem dM_multiply_105 : decode cM_multiply 105 = .ok (.land, 1) := by decide +kernel
theorem dM_multiply_106 : decode cM_multiply 106 = .ok (.lastore, 1) := by decide +kernel
theorem dM_multiply_107 : decode cM_multiply 107 = .ok (.aload_n 0, 1) := by decide +kernel
theorem dM_multiply_108 : decode cM_multiply 108 = .ok (.getfield 47, 3) := by decide +kernel
theorem dM_multiply_111 : decode cM_multiply 111 = .ok (.iload_n 1, 1) := by decide +kernel
theorem dM_multiply_112 : decode cM_multiply 112 = .ok (.iconst 1, 1) := by decide +kernel
theorem dM_multiply_113 : decode cM_multiply 113 = .ok (.iadd, 1) := by decide +kernel
theorem dM_multiply_114 : decode cM_multiply 114 = .ok (.lload 20, 2) := by decide +kernel
theorem dM_multiply_116 : decode cM_multiply 116 = .ok (.ldc2_w 148, 3) := by decide +kernel
theorem dM_multiply_119 : decode cM_multiply 119 = .ok (.land, 1) := by decide +kernel
theorem dM_multiply_120 : decode cM_multiply 120 = .ok (.lastore, 1) := by decide +kernel
theorem dM_multiply_121 : decode cM_multiply 121 = .ok (.aload_n 0, 1) := by decide +kernel
theorem dM_multiply_122 : decode cM_multiply 122 = .ok (.getfield 47, 3) := by decide +kernel
theorem dM_multiply_125 : decode cM_multiply 125 = .ok (.iload_n 1, 1) := by decide +kernel
theorem dM_multiply_126 : decode cM_multiply 126 = .ok (.iconst 2, 1) := by decide +kernel
theorem dM_multiply_127 : decode cM_multiply 127 = .ok (.iadd, 1) := by decide +kernel
theorem dM_multiply_128 : decode cM_multiply 128 = .ok (.lload 22, 2) := by decide +kernel
theorem dM_multiply_130 : decode cM_multiply 130 = .ok (.ldc2_w 148, 3) := by decide +kernel
theorem dM_multiply_133 : decode cM_multiply 133 = .ok (.land, 1) := by decide +kernel
theorem dM_multiply_134 : decode cM_multiply 134 = .ok (.lastore, 1) := by decide +kernel
theorem dM_multiply_135 : decode cM_multiply 135 = .ok (.aload_n 0, 1) := by decide +kernel
theorem dM_multiply_136 : decode cM_multiply 136 = .ok (.getfield 47, 3) := by decide +kernel
theorem dM_multiply_139 : decode cM_multiply 139 = .ok (.iload_n 1, 1) := by decide +kernel
theorem dM_multiply_140 : decode cM_multiply 140 = .ok (.iconst 3, 1) := by decide +kernel
theorem dM_multiply_141 : decode cM_multiply 141 = .ok (.iadd, 1) := by decide +kernel
theorem dM_multiply_142 : decode cM_multiply 142 = .ok (.lload 22, 2) := by decide +kernel
theorem dM_multiply_144 : decode cM_multiply 144 = .ok (.bipush 32, 2) := by decide +kernel
theorem dM_multiply_146 : decode cM_multiply 146 = .ok (.lushr, 1) := by decide +kernel
theorem dM_multiply_147 : decode cM_multiply 147 = .ok (.lastore, 1) := by decide +kernel
theorem dM_multiply_148 : decode cM_multiply 148 = .ok (.return_, 1) := by decide +kernel
def f_M_multiply (v : MV) (x1 : Int32) (x2 : Int64) (x4 : Int64) : Option MV := (some (x2 &&& (4294967295 : Int64))).bind fun u1 => (some ((x2.toUInt64 >>> ((32 : Int32).toInt64.toUInt64 &&& Int64.toUInt64 63)).toInt64)).bind fun u2 => (some (x4 &&& (4294967295 : Int64))).bind fun u3 => (some ((x4.toUInt64 >>> ((32 : Int32).toInt64.toUInt64 &&& Int64.toUInt64 63)).toInt64)).bind fun u4 => (some (((((u1 * u3).toUInt64 >>> ((32 : Int32).toInt64.toUInt64 &&& Int64.toUInt64 63)).toInt64) + ((u2 * u3) &&& (4294967295 : Int64))) + ((u1 * u4) &&& (4294967295 : Int64)))).bind fun u5 => (some ((((u2 * u4) + (((u2 * u3).toUInt64 >>> ((32 : Int32).toInt64.toUInt64 &&& Int64.toUInt64 63)).toInt64)) + (((u1 * u4).toUInt64 >>> ((32 : Int32).toInt64.toUInt64 &&& Int64.toUInt64 63)).toInt64)) + ((u5.toUInt64 >>> ((32 : Int32).toInt64.toUInt64 &&& Int64.toUInt64 63)).toInt64))).bind fun u6 => (ck 8 x1).bind fun u7 => (some (ms_digits v (vp_updL (md_digits v) x1.toNatClampNeg ((u1 * u3) &&& (4294967295 : Int64))))).bind fun v8 => (ck 8 (x1 + (1 : Int32))).bind fun u9 => (some (ms_digits v8 (vp_updL (md_digits v8) (x1 + (1 : Int32)).toNatClampNeg (u5 &&& (4294967295 : Int64))))).bind fun v10 => (ck 8 (x1 + (2 : Int32))).bind fun u11 => (some (ms_digits v10 (vp_updL (md_digits v10) (x1 + (2 : Int32)).toNatClampNeg (u6 &&& (4294967295 : Int64))))).bind fun v12 => (ck 8 (x1 + (3 : Int32))).bind fun u13 => (some (ms_digits v12 (vp_updL (md_digits v12) (x1 + (3 : Int32)).toNatClampNeg ((u6.toUInt64 >>> ((32 : Int32).toInt64.toUInt64 &&& Int64.toUInt64 63)).toInt64)))).bind fun v14 => some v14
set_option maxHeartbeats 4000000 in
set_option maxRecDepth 100000 in
theorem k_M_multiply (l : Launch) (dC : Nat → ClassId) (dI : Nat → Nat → Nat) (cL cI : ClassId) (qm : Nat → Nat) (v : MV) (x1 : Int32) (x2 : Int64) (x4 : Int64) (r : MV) (h : f_M_multiply v x1 x2 x4 = some r) : Met l yM_multiply wsM_multiply ({ frames := 0, cells := 0, slots := 0, locals := 0 }) (rd_Pc [.ref (qm 0), .int x1, .long x2, .long x4] (fun H => va_P (dC, dI) cls3 (mdW cL cI qm v) H ∧ va_D (inQ qm) (mdW cL cI qm v)) (dC, dI) cls3 [(cL, .long), (cI, .int)]) (mu_Q none (dC, dI) cls3 (mdW cL cI qm r) (inQ qm)) 0 0 (inQ qm) := by
  refine Met.ofW (cc := cM_multiply) (maxL := 24) (ret := none) (by decide) rfl ?_
  intro p e s m args below meth c s₁ B hml hv
  obtain ⟨rfl, ⟨hPm, hD⟩, hK⟩ := hv
  have hx := B.exec
  have hb := B.bytes
  have hr := B.returns
  have hw : ∀ w ∈ wG, w.before ([.ref (qm 0), .int x1, .long x2, .long x4] : List Value).toArray s = true := fun w hq => atoms_spec (ws := wsM_multiply) B.pre w (List.mem_cons_of_mem _ hq)
  have hown : s.vm.findClass R_M = some m.cls := findClass_of_methodNamed B.named
  have hlocks := B.notSynchronized
  have hl := lv_entry ([.ref (qm 0), .int x1, .long x2, .long x4] : List Value) (n := 24) (Nat.le_of_ble_eq_true rfl)
  rw [lg_entry_eq]
  generalize (lg_sl ([.ref (qm 0), .int x1, .long x2, .long x4] : List Value) ++ List.replicate (24 - (lg_sl ([.ref (qm 0), .int x1, .long x2, .long x4] : List Value)).length) Slot.unset).toArray = ls at hl ⊢
  have hl : lv_has ls 24 [(0, .ref (qm 0)), (1, .int x1), (2, .long x2), (4, .long x4)] := hl
  have hS : va_S (inQ qm) s.heap s.heap [] := va_S.rf
  obtain ⟨H, hH⟩ : ∃ H : Heap, H = s.heap := ⟨_, rfl⟩
  obtain ⟨locs, hlocs⟩ : ∃ L : List Loc, L = [] := ⟨_, rfl⟩
  suffices hgo : W p l e (headSpec wsM_multiply ({ frames := 0, cells := 0, slots := 0, locals := 0 })).room s m ([.ref (qm 0), .int x1, .long x2, .long x4] : List Value).toArray below meth c H locs 0 0 (MQ below (mu_Q none (dC, dI) cls3 (mdW cL cI qm r) (inQ qm)) ([.ref (qm 0), .int x1, .long x2, .long x4] : List Value).toArray s 0 0 (inQ qm)) (F0 m 0 ls []) by rw [hH, hlocs] at hgo; exact hgo
  rw [← hH] at hPm
  have hS : va_S (inQ qm) s.heap H locs := by rw [hH, hlocs]; exact hS
  clear hH hlocs
  unfold f_M_multiply at h
  refine lv_lload_n hx hb dM_multiply_0 rfl (lv_at hl 2 rfl) ?_
  refine lv_ldc2 (v := 4294967295) hx hb hown (hw _ w_639) dM_multiply_1 ?_
  refine lv_land hx hb dM_multiply_4 ?_
  obtain ⟨u1, hu1, h⟩ := ob_some h
  rw [Option.some.inj hu1]
  refine lv_lstore (lv' := [(6, .long u1), (0, .ref (qm 0)), (1, .int x1), (2, .long x2), (4, .long x4)]) hx hb dM_multiply_5 hl (by decide) rfl (fun ls hl => ?_)
  refine lv_lload_n hx hb dM_multiply_7 rfl (lv_at hl 3 rfl) ?_
  refine lv_bipush (v := 32) hx hb dM_multiply_8 (by decide) ?_
  refine lv_lushr hx hb dM_multiply_10 rfl ?_
  obtain ⟨u2, hu2, h⟩ := ob_some h
  rw [Option.some.inj hu2]
  refine lv_lstore (lv' := [(8, .long u2), (6, .long u1), (0, .ref (qm 0)), (1, .int x1), (2, .long x2), (4, .long x4)]) hx hb dM_multiply_11 hl (by decide) rfl (fun ls hl => ?_)
  refine lv_lload hx hb dM_multiply_13 (lv_at hl 5 rfl) ?_
  refine lv_ldc2 (v := 4294967295) hx hb hown (hw _ w_639) dM_multiply_15 ?_
  refine lv_land hx hb dM_multiply_18 ?_
  obtain ⟨u3, hu3, h⟩ := ob_some h
  rw [Option.some.inj hu3]
  refine lv_lstore (lv' := [(10, .long u3), (8, .long u2), (6, .long u1), (0, .ref (qm 0)), (1, .int x1), (2, .long x2), (4, .long x4)]) hx hb dM_multiply_19 hl (by decide) rfl (fun ls hl => ?_)
  refine lv_lload hx hb dM_multiply_21 (lv_at hl 6 rfl) ?_
  refine lv_bipush (v := 32) hx hb dM_multiply_23 (by decide) ?_
  refine lv_lushr hx hb dM_multiply_25 rfl ?_
  obtain ⟨u4, hu4, h⟩ := ob_some h
  rw [Option.some.inj hu4]
  refine lv_lstore (lv' := [(12, .long u4), (10, .long u3), (8, .long u2), (6, .long u1), (0, .ref (qm 0)), (1, .int x1), (2, .long x2), (4, .long x4)]) hx hb dM_multiply_26 hl (by decide) rfl (fun ls hl => ?_)
  refine lv_lload hx hb dM_multiply_28 (lv_at hl 3 rfl) ?_
  refine lv_lload hx hb dM_multiply_30 (lv_at hl 1 rfl) ?_
  refine lv_lmul hx hb dM_multiply_32 ?_
  refine lv_lstore (lv' := [(14, .long (u1 * u3)), (12, .long u4), (10, .long u3), (8, .long u2), (6, .long u1), (0, .ref (qm 0)), (1, .int x1), (2, .long x2), (4, .long x4)]) hx hb dM_multiply_33 hl (by decide) rfl (fun ls hl => ?_)
  refine lv_lload hx hb dM_multiply_35 (lv_at hl 3 rfl) ?_
  refine lv_lload hx hb dM_multiply_37 (lv_at hl 2 rfl) ?_
  refine lv_lmul hx hb dM_multiply_39 ?_
  refine lv_lstore (lv' := [(16, .long (u2 * u3)), (14, .long (u1 * u3)), (12, .long u4), (10, .long u3), (8, .long u2), (6, .long u1), (0, .ref (qm 0)), (1, .int x1), (2, .long x2), (4, .long x4)]) hx hb dM_multiply_40 hl (by decide) rfl (fun ls hl => ?_)
  refine lv_lload hx hb dM_multiply_42 (lv_at hl 5 rfl) ?_
  refine lv_lload hx hb dM_multiply_44 (lv_at hl 2 rfl) ?_
  refine lv_lmul hx hb dM_multiply_46 ?_
  refine lv_lstore (lv' := [(18, .long (u1 * u4)), (16, .long (u2 * u3)), (14, .long (u1 * u3)), (12, .long u4), (10, .long u3), (8, .long u2), (6, .long u1), (0, .ref (qm 0)), (1, .int x1), (2, .long x2), (4, .long x4)]) hx hb dM_multiply_47 hl (by decide) rfl (fun ls hl => ?_)
  refine lv_lload hx hb dM_multiply_49 (lv_at hl 2 rfl) ?_
  refine lv_bipush (v := 32) hx hb dM_multiply_51 (by decide) ?_
  refine lv_lushr hx hb dM_multiply_53 rfl ?_
  refine lv_lload hx hb dM_multiply_54 (lv_at hl 1 rfl) ?_
  refine lv_ldc2 (v := 4294967295) hx hb hown (hw _ w_639) dM_multiply_56 ?_
  refine lv_land hx hb dM_multiply_59 ?_
  refine lv_ladd hx hb dM_multiply_60 ?_
  refine lv_lload hx hb dM_multiply_61 (lv_at hl 0 rfl) ?_
  refine lv_ldc2 (v := 4294967295) hx hb hown (hw _ w_639) dM_multiply_63 ?_
  refine lv_land hx hb dM_multiply_66 ?_
  refine lv_ladd hx hb dM_multiply_67 ?_
  obtain ⟨u5, hu5, h⟩ := ob_some h
  rw [Option.some.inj hu5]
  refine lv_lstore (lv' := [(20, .long u5), (18, .long (u1 * u4)), (16, .long (u2 * u3)), (14, .long (u1 * u3)), (12, .long u4), (10, .long u3), (8, .long u2), (6, .long u1), (0, .ref (qm 0)), (1, .int x1), (2, .long x2), (4, .long x4)]) hx hb dM_multiply_68 hl (by decide) rfl (fun ls hl => ?_)
  refine lv_lload hx hb dM_multiply_70 (lv_at hl 6 rfl) ?_
  refine lv_lload hx hb dM_multiply_72 (lv_at hl 4 rfl) ?_
  refine lv_lmul hx hb dM_multiply_74 ?_
  refine lv_lload hx hb dM_multiply_75 (lv_at hl 2 rfl) ?_
  refine lv_bipush (v := 32) hx hb dM_multiply_77 (by decide) ?_
  refine lv_lushr hx hb dM_multiply_79 rfl ?_
  refine lv_ladd hx hb dM_multiply_80 ?_
  refine lv_lload hx hb dM_multiply_81 (lv_at hl 1 rfl) ?_
  refine lv_bipush (v := 32) hx hb dM_multiply_83 (by decide) ?_
  refine lv_lushr hx hb dM_multiply_85 rfl ?_
  refine lv_ladd hx hb dM_multiply_86 ?_
  refine lv_lload hx hb dM_multiply_87 (lv_at hl 0 rfl) ?_
  refine lv_bipush (v := 32) hx hb dM_multiply_89 (by decide) ?_
  refine lv_lushr hx hb dM_multiply_91 rfl ?_
  refine lv_ladd hx hb dM_multiply_92 ?_
  obtain ⟨u6, hu6, h⟩ := ob_some h
  rw [Option.some.inj hu6]
  refine lv_lstore (lv' := [(22, .long u6), (20, .long u5), (18, .long (u1 * u4)), (16, .long (u2 * u3)), (14, .long (u1 * u3)), (12, .long u4), (10, .long u3), (8, .long u2), (6, .long u1), (0, .ref (qm 0)), (1, .int x1), (2, .long x2), (4, .long x4)]) hx hb dM_multiply_93 hl (by decide) rfl (fun ls hl => ?_)
  refine lv_aload_n hx hb dM_multiply_95 rfl (lv_at hl 9 rfl) ?_
  refine va_get (D := (dC, dI)) (ci := 2) (v := .ref (qm 13)) (C := R_M) (T := T_M) (N := 15) hx hb hw in_M hown hK hPm 0 rfl rfl 14 (by decide) (hw _ w_459) (fun _ h9 => h9) rfl dM_multiply_96 ?_
  refine lv_iload_n hx hb dM_multiply_99 rfl (lv_at hl 10 rfl) ?_
  refine lv_lload hx hb dM_multiply_100 (lv_at hl 4 rfl) ?_
  refine lv_ldc2 (v := 4294967295) hx hb hown (hw _ w_639) dM_multiply_102 ?_
  refine lv_land hx hb dM_multiply_105 ?_
  obtain ⟨u7, hu7, h⟩ := ob_some h
  refine va_last hx hb hK hPm hD hS 13 0 rfl rfl (ck_of hu7) dM_multiply_106 (fun H locs hPm hD hS => ?_)
  obtain ⟨v8, hv8, h⟩ := ob_some h
  have hPm : va_P (dC, dI) cls3 (mdW cL cI qm (ms_digits v (vp_updL (md_digits v) x1.toNatClampNeg ((u1 * u3) &&& (4294967295 : Int64))))) H := hPm
  have hD : va_D (inQ qm) (mdW cL cI qm (ms_digits v (vp_updL (md_digits v) x1.toNatClampNeg ((u1 * u3) &&& (4294967295 : Int64))))) := hD
  rw [Option.some.inj hv8] at hPm hD
  refine lv_aload_n hx hb dM_multiply_107 rfl (lv_at hl 9 rfl) ?_
  refine va_get (D := (dC, dI)) (ci := 2) (v := .ref (qm 13)) (C := R_M) (T := T_M) (N := 15) hx hb hw in_M hown hK hPm 0 rfl rfl 14 (by decide) (hw _ w_459) (fun _ h9 => h9) rfl dM_multiply_108 ?_
  refine lv_iload_n hx hb dM_multiply_111 rfl (lv_at hl 10 rfl) ?_
  refine lv_iconst (v := 1) hx hb dM_multiply_112 (by decide) ?_
  refine lv_iadd hx hb dM_multiply_113 ?_
  refine lv_lload hx hb dM_multiply_114 (lv_at hl 1 rfl) ?_
  refine lv_ldc2 (v := 4294967295) hx hb hown (hw _ w_639) dM_multiply_116 ?_
  refine lv_land hx hb dM_multiply_119 ?_
  obtain ⟨u9, hu9, h⟩ := ob_some h
  refine va_last hx hb hK hPm hD hS 13 0 rfl rfl (ck_of hu9) dM_multiply_120 (fun H locs hPm hD hS => ?_)
  obtain ⟨v10, hv10, h⟩ := ob_some h
  have hPm : va_P (dC, dI) cls3 (mdW cL cI qm (ms_digits v8 (vp_updL (md_digits v8) (x1 + (1 : Int32)).toNatClampNeg (u5 &&& (4294967295 : Int64))))) H := hPm
  have hD : va_D (inQ qm) (mdW cL cI qm (ms_digits v8 (vp_updL (md_digits v8) (x1 + (1 : Int32)).toNatClampNeg (u5 &&& (4294967295 : Int64))))) := hD
  rw [Option.some.inj hv10] at hPm hD
  refine lv_aload_n hx hb dM_multiply_121 rfl (lv_at hl 9 rfl) ?_
  refine va_get (D := (dC, dI)) (ci := 2) (v := .ref (qm 13)) (C := R_M) (T := T_M) (N := 15) hx hb hw in_M hown hK hPm 0 rfl rfl 14 (by decide) (hw _ w_459) (fun _ h9 => h9) rfl dM_multiply_122 ?_
  refine lv_iload_n hx hb dM_multiply_125 rfl (lv_at hl 10 rfl) ?_
  refine lv_iconst (v := 2) hx hb dM_multiply_126 (by decide) ?_
  refine lv_iadd hx hb dM_multiply_127 ?_
  refine lv_lload hx hb dM_multiply_128 (lv_at hl 0 rfl) ?_
  refine lv_ldc2 (v := 4294967295) hx hb hown (hw _ w_639) dM_multiply_130 ?_
  refine lv_land hx hb dM_multiply_133 ?_
  obtain ⟨u11, hu11, h⟩ := ob_some h
  refine va_last hx hb hK hPm hD hS 13 0 rfl rfl (ck_of hu11) dM_multiply_134 (fun H locs hPm hD hS => ?_)
  obtain ⟨v12, hv12, h⟩ := ob_some h
  have hPm : va_P (dC, dI) cls3 (mdW cL cI qm (ms_digits v10 (vp_updL (md_digits v10) (x1 + (2 : Int32)).toNatClampNeg (u6 &&& (4294967295 : Int64))))) H := hPm
  have hD : va_D (inQ qm) (mdW cL cI qm (ms_digits v10 (vp_updL (md_digits v10) (x1 + (2 : Int32)).toNatClampNeg (u6 &&& (4294967295 : Int64))))) := hD
  rw [Option.some.inj hv12] at hPm hD
  refine lv_aload_n hx hb dM_multiply_135 rfl (lv_at hl 9 rfl) ?_
  refine va_get (D := (dC, dI)) (ci := 2) (v := .ref (qm 13)) (C := R_M) (T := T_M) (N := 15) hx hb hw in_M hown hK hPm 0 rfl rfl 14 (by decide) (hw _ w_459) (fun _ h9 => h9) rfl dM_multiply_136 ?_
  refine lv_iload_n hx hb dM_multiply_139 rfl (lv_at hl 10 rfl) ?_
  refine lv_iconst (v := 3) hx hb dM_multiply_140 (by decide) ?_
  refine lv_iadd hx hb dM_multiply_141 ?_
  refine lv_lload hx hb dM_multiply_142 (lv_at hl 0 rfl) ?_
  refine lv_bipush (v := 32) hx hb dM_multiply_144 (by decide) ?_
  refine lv_lushr hx hb dM_multiply_146 rfl ?_
  obtain ⟨u13, hu13, h⟩ := ob_some h
  refine va_last hx hb hK hPm hD hS 13 0 rfl rfl (ck_of hu13) dM_multiply_147 (fun H locs hPm hD hS => ?_)
  obtain ⟨v14, hv14, h⟩ := ob_some h
  have hPm : va_P (dC, dI) cls3 (mdW cL cI qm (ms_digits v12 (vp_updL (md_digits v12) (x1 + (3 : Int32)).toNatClampNeg ((u6.toUInt64 >>> ((32 : Int32).toInt64.toUInt64 &&& Int64.toUInt64 63)).toInt64)))) H := hPm
  have hD : va_D (inQ qm) (mdW cL cI qm (ms_digits v12 (vp_updL (md_digits v12) (x1 + (3 : Int32)).toNatClampNeg ((u6.toUInt64 >>> ((32 : Int32).toInt64.toUInt64 &&& Int64.toUInt64 63)).toInt64)))) := hD
  rw [Option.some.inj hv14] at hPm hD
  have h := Option.some.inj h
  subst h
  exact W.vret hx hb hr (fun t ht hW => ⟨rfl, by rw [ht]; exact hPm, hS.F ht⟩) hS.2.2 dM_multiply_148
theorem dM_order_0 : decode cM_order 0 = .ok (.aload_n 0, 1) := by decide +kernel
theorem dM_order_1 : decode cM_order 1 = .ok (.getfield 17, 3) := by decide +kernel
theorem dM_order_4 : decode cM_order 4 = .ok (.iload_n 1, 1) := by decide +kernel
theorem dM_order_5 : decode cM_order 5 = .ok (.laload, 1) := by decide +kernel
theorem dM_order_6 : decode cM_order 6 = .ok (.lstore_n 2, 1) := by decide +kernel
theorem dM_order_7 : decode cM_order 7 = .ok (.aload_n 0, 1) := by decide +kernel
theorem dM_order_8 : decode cM_order 8 = .ok (.getfield 17, 3) := by decide +kernel
theorem dM_order_11 : decode cM_order 11 = .ok (.iload_n 1, 1) := by decide +kernel
theorem dM_order_12 : decode cM_order 12 = .ok (.iconst 1, 1) := by decide +kernel
theorem dM_order_13 : decode cM_order 13 = .ok (.iadd, 1) := by decide +kernel
theorem dM_order_14 : decode cM_order 14 = .ok (.laload, 1) := by decide +kernel
theorem dM_order_15 : decode cM_order 15 = .ok (.lstore 4, 2) := by decide +kernel
theorem dM_order_17 : decode cM_order 17 = .ok (.aload_n 0, 1) := by decide +kernel
theorem dM_order_18 : decode cM_order 18 = .ok (.getfield 20, 3) := by decide +kernel
theorem dM_order_21 : decode cM_order 21 = .ok (.iload_n 1, 1) := by decide +kernel
theorem dM_order_22 : decode cM_order 22 = .ok (.laload, 1) := by decide +kernel
theorem dM_order_23 : decode cM_order 23 = .ok (.lstore 6, 2) := by decide +kernel
theorem dM_order_25 : decode cM_order 25 = .ok (.aload_n 0, 1) := by decide +kernel
theorem dM_order_26 : decode cM_order 26 = .ok (.getfield 20, 3) := by decide +kernel
theorem dM_order_29 : decode cM_order 29 = .ok (.iload_n 1, 1) := by decide +kernel
theorem dM_order_30 : decode cM_order 30 = .ok (.iconst 1, 1) := by decide +kernel
theorem dM_order_31 : decode cM_order 31 = .ok (.iadd, 1) := by decide +kernel
theorem dM_order_32 : decode cM_order 32 = .ok (.laload, 1) := by decide +kernel
theorem dM_order_33 : decode cM_order 33 = .ok (.lstore 8, 2) := by decide +kernel
theorem dM_order_35 : decode cM_order 35 = .ok (.aload_n 0, 1) := by decide +kernel
theorem dM_order_36 : decode cM_order 36 = .ok (.getfield 17, 3) := by decide +kernel
theorem dM_order_39 : decode cM_order 39 = .ok (.iload_n 1, 1) := by decide +kernel
theorem dM_order_40 : decode cM_order 40 = .ok (.lload_n 2, 1) := by decide +kernel
theorem dM_order_41 : decode cM_order 41 = .ok (.lload 4, 2) := by decide +kernel
theorem dM_order_43 : decode cM_order 43 = .ok (.lcmp, 1) := by decide +kernel
theorem dM_order_44 : decode cM_order 44 = .ok (.ifCond .ge 7, 3) := by decide +kernel
theorem dM_order_47 : decode cM_order 47 = .ok (.lload_n 2, 1) := by decide +kernel
theorem dM_order_48 : decode cM_order 48 = .ok (.goto 5, 3) := by decide +kernel
theorem dM_order_51 : decode cM_order 51 = .ok (.lload 4, 2) := by decide +kernel
theorem dM_order_53 : decode cM_order 53 = .ok (.lastore, 1) := by decide +kernel
theorem dM_order_54 : decode cM_order 54 = .ok (.aload_n 0, 1) := by decide +kernel
theorem dM_order_55 : decode cM_order 55 = .ok (.getfield 17, 3) := by decide +kernel
theorem dM_order_58 : decode cM_order 58 = .ok (.iload_n 1, 1) := by decide +kernel
theorem dM_order_59 : decode cM_order 59 = .ok (.iconst 1, 1) := by decide +kernel
theorem dM_order_60 : decode cM_order 60 = .ok (.iadd, 1) := by decide +kernel
theorem dM_order_61 : decode cM_order 61 = .ok (.lload_n 2, 1) := by decide +kernel
theorem dM_order_62 : decode cM_order 62 = .ok (.lload 4, 2) := by decide +kernel
theorem dM_order_64 : decode cM_order 64 = .ok (.lcmp, 1) := by decide +kernel
theorem dM_order_65 : decode cM_order 65 = .ok (.ifCond .ge 8, 3) := by decide +kernel
theorem dM_order_68 : decode cM_order 68 = .ok (.lload 4, 2) := by decide +kernel
theorem dM_order_70 : decode cM_order 70 = .ok (.goto 4, 3) := by decide +kernel
theorem dM_order_73 : decode cM_order 73 = .ok (.lload_n 2, 1) := by decide +kernel
theorem dM_order_74 : decode cM_order 74 = .ok (.lastore, 1) := by decide +kernel
theorem dM_order_75 : decode cM_order 75 = .ok (.aload_n 0, 1) := by decide +kernel
theorem dM_order_76 : decode cM_order 76 = .ok (.getfield 20, 3) := by decide +kernel
theorem dM_order_79 : decode cM_order 79 = .ok (.iload_n 1, 1) := by decide +kernel
theorem dM_order_80 : decode cM_order 80 = .ok (.lload 6, 2) := by decide +kernel
theorem dM_order_82 : decode cM_order 82 = .ok (.lload 8, 2) := by decide +kernel
theorem dM_order_84 : decode cM_order 84 = .ok (.lcmp, 1) := by decide +kernel
theorem dM_order_85 : decode cM_order 85 = .ok (.ifCond .ge 8, 3) := by decide +kernel
theorem dM_order_88 : decode cM_order 88 = .ok (.lload 6, 2) := by decide +kernel
theorem dM_order_90 : decode cM_order 90 = .ok (.goto 5, 3) := by decide +kernel
theorem dM_order_93 : decode cM_order 93 = .ok (.lload 8, 2) := by decide +kernel
theorem dM_order_95 : decode cM_order 95 = .ok (.lastore, 1) := by decide +kernel
theorem dM_order_96 : decode cM_order 96 = .ok (.aload_n 0, 1) := by decide +kernel
theorem dM_order_97 : decode cM_order 97 = .ok (.getfield 20, 3) := by decide +kernel
theorem dM_order_100 : decode cM_order 100 = .ok (.iload_n 1, 1) := by decide +kernel
theorem dM_order_101 : decode cM_order 101 = .ok (.iconst 1, 1) := by decide +kernel
theorem dM_order_102 : decode cM_order 102 = .ok (.iadd, 1) := by decide +kernel
theorem dM_order_103 : decode cM_order 103 = .ok (.lload 6, 2) := by decide +kernel
theorem dM_order_105 : decode cM_order 105 = .ok (.lload 8, 2) := by decide +kernel
theorem dM_order_107 : decode cM_order 107 = .ok (.lcmp, 1) := by decide +kernel
theorem dM_order_108 : decode cM_order 108 = .ok (.ifCond .ge 8, 3) := by decide +kernel
theorem dM_order_111 : decode cM_order 111 = .ok (.lload 8, 2) := by decide +kernel
theorem dM_order_113 : decode cM_order 113 = .ok (.goto 5, 3) := by decide +kernel
theorem dM_order_116 : decode cM_order 116 = .ok (.lload 6, 2) := by decide +kernel
theorem dM_order_118 : decode cM_order 118 = .ok (.lastore, 1) := by decide +kernel
theorem dM_order_119 : decode cM_order 119 = .ok (.return_, 1) := by decide +kernel
def f_M_order_j118 (vv : MV) (s1 : Int32) (s2 : Int64) : Option MV := (ck 1920 s1).bind fun u15 => (some (ms_cornerY vv (vp_updL (md_cornerY vv) s1.toNatClampNeg s2))).bind fun v16 => some v16
def f_M_order_j95 (vv : MV) (p1 : Int32) (p6 : Int64) (p8 : Int64) (s1 : Int32) (s2 : Int64) : Option MV := (ck 1920 s1).bind fun u12 => (some (ms_cornerY vv (vp_updL (md_cornerY vv) s1.toNatClampNeg s2))).bind fun v13 => (if 0 ≤ (lg_cmp p6 p8) then (f_M_order_j118 v13 (p1 + (1 : Int32)) p6) else (f_M_order_j118 v13 (p1 + (1 : Int32)) p8))
def f_M_order_j74 (vv : MV) (p1 : Int32) (p6 : Int64) (p8 : Int64) (s1 : Int32) (s2 : Int64) : Option MV := (ck 1920 s1).bind fun u9 => (some (ms_cornerX vv (vp_updL (md_cornerX vv) s1.toNatClampNeg s2))).bind fun v10 => (if 0 ≤ (lg_cmp p6 p8) then (f_M_order_j95 v10 p1 p6 p8 p1 p8) else (f_M_order_j95 v10 p1 p6 p8 p1 p6))
def f_M_order_j53 (vv : MV) (p1 : Int32) (p2 : Int64) (p4 : Int64) (p6 : Int64) (p8 : Int64) (s1 : Int32) (s2 : Int64) : Option MV := (ck 1920 s1).bind fun u6 => (some (ms_cornerX vv (vp_updL (md_cornerX vv) s1.toNatClampNeg s2))).bind fun v7 => (if 0 ≤ (lg_cmp p2 p4) then (f_M_order_j74 v7 p1 p6 p8 (p1 + (1 : Int32)) p2) else (f_M_order_j74 v7 p1 p6 p8 (p1 + (1 : Int32)) p4))
def f_M_order (v : MV) (x1 : Int32) : Option MV := (ld 1920 (md_cornerX v) x1).bind fun u1 => (ld 1920 (md_cornerX v) (x1 + (1 : Int32))).bind fun u2 => (ld 1920 (md_cornerY v) x1).bind fun u3 => (ld 1920 (md_cornerY v) (x1 + (1 : Int32))).bind fun u4 => (if 0 ≤ (lg_cmp u1 u2) then (f_M_order_j53 v x1 u1 u2 u3 u4 x1 u2) else (f_M_order_j53 v x1 u1 u2 u3 u4 x1 u1))
set_option maxHeartbeats 4000000 in
set_option maxRecDepth 100000 in
theorem k_M_order (l : Launch) (dC : Nat → ClassId) (dI : Nat → Nat → Nat) (cL cI : ClassId) (qm : Nat → Nat) (v : MV) (x1 : Int32) (r : MV) (h : f_M_order v x1 = some r) : Met l yM_order wsM_order ({ frames := 0, cells := 0, slots := 0, locals := 0 }) (rd_Pc [.ref (qm 0), .int x1] (fun H => va_P (dC, dI) cls3 (mdW cL cI qm v) H ∧ va_D (inQ qm) (mdW cL cI qm v)) (dC, dI) cls3 [(cL, .long), (cI, .int)]) (mu_Q none (dC, dI) cls3 (mdW cL cI qm r) (inQ qm)) 0 0 (inQ qm) := by
  refine Met.ofW (cc := cM_order) (maxL := 10) (ret := none) (by decide) rfl ?_
  intro p e s m args below meth c s₁ B hml hv
  obtain ⟨rfl, ⟨hPm, hD⟩, hK⟩ := hv
  have hx := B.exec
  have hb := B.bytes
  have hr := B.returns
  have hw : ∀ w ∈ wG, w.before ([.ref (qm 0), .int x1] : List Value).toArray s = true := fun w hq => atoms_spec (ws := wsM_order) B.pre w (List.mem_cons_of_mem _ hq)
  have hown : s.vm.findClass R_M = some m.cls := findClass_of_methodNamed B.named
  have hlocks := B.notSynchronized
  have hl := lv_entry ([.ref (qm 0), .int x1] : List Value) (n := 10) (Nat.le_of_ble_eq_true rfl)
  rw [lg_entry_eq]
  generalize (lg_sl ([.ref (qm 0), .int x1] : List Value) ++ List.replicate (10 - (lg_sl ([.ref (qm 0), .int x1] : List Value)).length) Slot.unset).toArray = ls at hl ⊢
  have hl : lv_has ls 10 [(0, .ref (qm 0)), (1, .int x1)] := hl
  have k118 : ∀ (vv : MV) (s1 : Int32) (s2 : Int64), f_M_order_j118 vv s1 s2 = some r → ∀ (H : Heap) (locs : List Loc), va_P (dC, dI) cls3 (mdW cL cI qm vv) H → va_D (inQ qm) (mdW cL cI qm vv) → va_S (inQ qm) s.heap H locs → ∀ (ls : Array Slot), lv_has ls 10 [] → W p l e (headSpec wsM_order ({ frames := 0, cells := 0, slots := 0, locals := 0 })).room s m ([.ref (qm 0), .int x1] : List Value).toArray below meth c H locs 0 0 (MQ below (mu_Q none (dC, dI) cls3 (mdW cL cI qm r) (inQ qm)) ([.ref (qm 0), .int x1] : List Value).toArray s 0 0 (inQ qm)) (F0 m 118 ls [.long s2, .int s1, .ref (qm 4)]) := by
    intro vv s1 s2 h H locs hPm hD hS ls hl
    unfold f_M_order_j118 at h
    obtain ⟨u15, hu15, h⟩ := ob_some h
    refine va_last hx hb hK hPm hD hS 4 0 rfl rfl (ck_of hu15) dM_order_118 (fun H locs hPm hD hS => ?_)
    obtain ⟨v16, hv16, h⟩ := ob_some h
    have hPm : va_P (dC, dI) cls3 (mdW cL cI qm (ms_cornerY vv (vp_updL (md_cornerY vv) s1.toNatClampNeg s2))) H := hPm
    have hD : va_D (inQ qm) (mdW cL cI qm (ms_cornerY vv (vp_updL (md_cornerY vv) s1.toNatClampNeg s2))) := hD
    rw [Option.some.inj hv16] at hPm hD
    have h := Option.some.inj h
    subst h
    exact W.vret hx hb hr (fun t ht hW => ⟨rfl, by rw [ht]; exact hPm, hS.F ht⟩) hS.2.2 dM_order_119
  have k95 : ∀ (vv : MV) (p1 : Int32) (p6 : Int64) (p8 : Int64) (s1 : Int32) (s2 : Int64), f_M_order_j95 vv p1 p6 p8 s1 s2 = some r → ∀ (H : Heap) (locs : List Loc), va_P (dC, dI) cls3 (mdW cL cI qm vv) H → va_D (inQ qm) (mdW cL cI qm vv) → va_S (inQ qm) s.heap H locs → ∀ (ls : Array Slot), lv_has ls 10 [(0, .ref (qm 0)), (1, .int p1), (6, .long p6), (8, .long p8)] → W p l e (headSpec wsM_order ({ frames := 0, cells := 0, slots := 0, locals := 0 })).room s m ([.ref (qm 0), .int x1] : List Value).toArray below meth c H locs 0 0 (MQ below (mu_Q none (dC, dI) cls3 (mdW cL cI qm r) (inQ qm)) ([.ref (qm 0), .int x1] : List Value).toArray s 0 0 (inQ qm)) (F0 m 95 ls [.long s2, .int s1, .ref (qm 4)]) := by
    intro vv p1 p6 p8 s1 s2 h H locs hPm hD hS ls hl
    unfold f_M_order_j95 at h
    obtain ⟨u12, hu12, h⟩ := ob_some h
    refine va_last hx hb hK hPm hD hS 4 0 rfl rfl (ck_of hu12) dM_order_95 (fun H locs hPm hD hS => ?_)
    obtain ⟨v13, hv13, h⟩ := ob_some h
    have hPm : va_P (dC, dI) cls3 (mdW cL cI qm (ms_cornerY vv (vp_updL (md_cornerY vv) s1.toNatClampNeg s2))) H := hPm
    have hD : va_D (inQ qm) (mdW cL cI qm (ms_cornerY vv (vp_updL (md_cornerY vv) s1.toNatClampNeg s2))) := hD
    rw [Option.some.inj hv13] at hPm hD
    refine lv_aload_n hx hb dM_order_96 rfl (lv_at hl 0 rfl) ?_
    refine va_get (D := (dC, dI)) (ci := 2) (v := .ref (qm 4)) (C := R_M) (T := T_M) (N := 15) hx hb hw in_M hown hK hPm 0 rfl rfl 5 (by decide) (hw _ w_450) (fun _ h9 => h9) rfl dM_order_97 ?_
    refine lv_iload_n hx hb dM_order_100 rfl (lv_at hl 1 rfl) ?_
    refine lv_iconst (v := 1) hx hb dM_order_101 (by decide) ?_
    refine lv_iadd hx hb dM_order_102 ?_
    refine lv_lload hx hb dM_order_103 (lv_at hl 2 rfl) ?_
    refine lv_lload hx hb dM_order_105 (lv_at hl 3 rfl) ?_
    refine W.lcmp hx hb dM_order_107 ?_
    refine lv_if_ge (tgt := 116) hx hb dM_order_108 (by decide) (fun c14 => ?_) (fun c14 => ?_)
    · have h := it_t c14 h
      refine lv_lload hx hb dM_order_116 (lv_at hl 2 rfl) ?_
      exact k118 v13 (p1 + (1 : Int32)) p6 h H locs hPm hD hS ls (lv_sub hl [] rfl)
    · have h := it_f c14 h
      refine lv_lload hx hb dM_order_111 (lv_at hl 3 rfl) ?_
      refine lv_goto (tgt := 118) hx hb dM_order_113 (by decide) ?_
      exact k118 v13 (p1 + (1 : Int32)) p8 h H locs hPm hD hS ls (lv_sub hl [] rfl)
  have k74 : ∀ (vv : MV) (p1 : Int32) (p6 : Int64) (p8 : Int64) (s1 : Int32) (s2 : Int64), f_M_order_j74 vv p1 p6 p8 s1 s2 = some r → ∀ (H : Heap) (locs : List Loc), va_P (dC, dI) cls3 (mdW cL cI qm vv) H → va_D (inQ qm) (mdW cL cI qm vv) → va_S (inQ qm) s.heap H locs → ∀ (ls : Array Slot), lv_has ls 10 [(0, .ref (qm 0)), (1, .int p1), (6, .long p6), (8, .long p8)] → W p l e (headSpec wsM_order ({ frames := 0, cells := 0, slots := 0, locals := 0 })).room s m ([.ref (qm 0), .int x1] : List Value).toArray below meth c H locs 0 0 (MQ below (mu_Q none (dC, dI) cls3 (mdW cL cI qm r) (inQ qm)) ([.ref (qm 0), .int x1] : List Value).toArray s 0 0 (inQ qm)) (F0 m 74 ls [.long s2, .int s1, .ref (qm 3)]) := by
    intro vv p1 p6 p8 s1 s2 h H locs hPm hD hS ls hl
    unfold f_M_order_j74 at h
    obtain ⟨u9, hu9, h⟩ := ob_some h
    refine va_last hx hb hK hPm hD hS 3 0 rfl rfl (ck_of hu9) dM_order_74 (fun H locs hPm hD hS => ?_)
    obtain ⟨v10, hv10, h⟩ := ob_some h
    have hPm : va_P (dC, dI) cls3 (mdW cL cI qm (ms_cornerX vv (vp_updL (md_cornerX vv) s1.toNatClampNeg s2))) H := hPm
    have hD : va_D (inQ qm) (mdW cL cI qm (ms_cornerX vv (vp_updL (md_cornerX vv) s1.toNatClampNeg s2))) := hD
    rw [Option.some.inj hv10] at hPm hD
    refine lv_aload_n hx hb dM_order_75 rfl (lv_at hl 0 rfl) ?_
    refine va_get (D := (dC, dI)) (ci := 2) (v := .ref (qm 4)) (C := R_M) (T := T_M) (N := 15) hx hb hw in_M hown hK hPm 0 rfl rfl 5 (by decide) (hw _ w_450) (fun _ h9 => h9) rfl dM_order_76 ?_
    refine lv_iload_n hx hb dM_order_79 rfl (lv_at hl 1 rfl) ?_
    refine lv_lload hx hb dM_order_80 (lv_at hl 2 rfl) ?_
    refine lv_lload hx hb dM_order_82 (lv_at hl 3 rfl) ?_
    refine W.lcmp hx hb dM_order_84 ?_
    refine lv_if_ge (tgt := 93) hx hb dM_order_85 (by decide) (fun c11 => ?_) (fun c11 => ?_)
    · have h := it_t c11 h
      refine lv_lload hx hb dM_order_93 (lv_at hl 3 rfl) ?_
      exact k95 v10 p1 p6 p8 p1 p8 h H locs hPm hD hS ls (lv_sub hl [0, 1, 2, 3] rfl)
    · have h := it_f c11 h
      refine lv_lload hx hb dM_order_88 (lv_at hl 2 rfl) ?_
      refine lv_goto (tgt := 95) hx hb dM_order_90 (by decide) ?_
      exact k95 v10 p1 p6 p8 p1 p6 h H locs hPm hD hS ls (lv_sub hl [0, 1, 2, 3] rfl)
  have k53 : ∀ (vv : MV) (p1 : Int32) (p2 : Int64) (p4 : Int64) (p6 : Int64) (p8 : Int64) (s1 : Int32) (s2 : Int64), f_M_order_j53 vv p1 p2 p4 p6 p8 s1 s2 = some r → ∀ (H : Heap) (locs : List Loc), va_P (dC, dI) cls3 (mdW cL cI qm vv) H → va_D (inQ qm) (mdW cL cI qm vv) → va_S (inQ qm) s.heap H locs → ∀ (ls : Array Slot), lv_has ls 10 [(0, .ref (qm 0)), (1, .int p1), (2, .long p2), (4, .long p4), (6, .long p6), (8, .long p8)] → W p l e (headSpec wsM_order ({ frames := 0, cells := 0, slots := 0, locals := 0 })).room s m ([.ref (qm 0), .int x1] : List Value).toArray below meth c H locs 0 0 (MQ below (mu_Q none (dC, dI) cls3 (mdW cL cI qm r) (inQ qm)) ([.ref (qm 0), .int x1] : List Value).toArray s 0 0 (inQ qm)) (F0 m 53 ls [.long s2, .int s1, .ref (qm 3)]) := by
    intro vv p1 p2 p4 p6 p8 s1 s2 h H locs hPm hD hS ls hl
    unfold f_M_order_j53 at h
    obtain ⟨u6, hu6, h⟩ := ob_some h
    refine va_last hx hb hK hPm hD hS 3 0 rfl rfl (ck_of hu6) dM_order_53 (fun H locs hPm hD hS => ?_)
    obtain ⟨v7, hv7, h⟩ := ob_some h
    have hPm : va_P (dC, dI) cls3 (mdW cL cI qm (ms_cornerX vv (vp_updL (md_cornerX vv) s1.toNatClampNeg s2))) H := hPm
    have hD : va_D (inQ qm) (mdW cL cI qm (ms_cornerX vv (vp_updL (md_cornerX vv) s1.toNatClampNeg s2))) := hD
    rw [Option.some.inj hv7] at hPm hD
    refine lv_aload_n hx hb dM_order_54 rfl (lv_at hl 0 rfl) ?_
    refine va_get (D := (dC, dI)) (ci := 2) (v := .ref (qm 3)) (C := R_M) (T := T_M) (N := 15) hx hb hw in_M hown hK hPm 0 rfl rfl 4 (by decide) (hw _ w_449) (fun _ h9 => h9) rfl dM_order_55 ?_
    refine lv_iload_n hx hb dM_order_58 rfl (lv_at hl 1 rfl) ?_
    refine lv_iconst (v := 1) hx hb dM_order_59 (by decide) ?_
    refine lv_iadd hx hb dM_order_60 ?_
    refine lv_lload_n hx hb dM_order_61 rfl (lv_at hl 2 rfl) ?_
    refine lv_lload hx hb dM_order_62 (lv_at hl 3 rfl) ?_
    refine W.lcmp hx hb dM_order_64 ?_
    refine lv_if_ge (tgt := 73) hx hb dM_order_65 (by decide) (fun c8 => ?_) (fun c8 => ?_)
    · have h := it_t c8 h
      refine lv_lload_n hx hb dM_order_73 rfl (lv_at hl 2 rfl) ?_
      exact k74 v7 p1 p6 p8 (p1 + (1 : Int32)) p2 h H locs hPm hD hS ls (lv_sub hl [0, 1, 4, 5] rfl)
    · have h := it_f c8 h
      refine lv_lload hx hb dM_order_68 (lv_at hl 3 rfl) ?_
      refine lv_goto (tgt := 74) hx hb dM_order_70 (by decide) ?_
      exact k74 v7 p1 p6 p8 (p1 + (1 : Int32)) p4 h H locs hPm hD hS ls (lv_sub hl [0, 1, 4, 5] rfl)
  have hS : va_S (inQ qm) s.heap s.heap [] := va_S.rf
  obtain ⟨H, hH⟩ : ∃ H : Heap, H = s.heap := ⟨_, rfl⟩
  obtain ⟨locs, hlocs⟩ : ∃ L : List Loc, L = [] := ⟨_, rfl⟩
  suffices hgo : W p l e (headSpec wsM_order ({ frames := 0, cells := 0, slots := 0, locals := 0 })).room s m ([.ref (qm 0), .int x1] : List Value).toArray below meth c H locs 0 0 (MQ below (mu_Q none (dC, dI) cls3 (mdW cL cI qm r) (inQ qm)) ([.ref (qm 0), .int x1] : List Value).toArray s 0 0 (inQ qm)) (F0 m 0 ls []) by rw [hH, hlocs] at hgo; exact hgo
  rw [← hH] at hPm
  have hS : va_S (inQ qm) s.heap H locs := by rw [hH, hlocs]; exact hS
  clear hH hlocs
  unfold f_M_order at h
  refine lv_aload_n hx hb dM_order_0 rfl (lv_at hl 0 rfl) ?_
  refine va_get (D := (dC, dI)) (ci := 2) (v := .ref (qm 3)) (C := R_M) (T := T_M) (N := 15) hx hb hw in_M hown hK hPm 0 rfl rfl 4 (by decide) (hw _ w_449) (fun _ h9 => h9) rfl dM_order_1 ?_
  refine lv_iload_n hx hb dM_order_4 rfl (lv_at hl 1 rfl) ?_
  obtain ⟨u1, hu1, h⟩ := ob_some h
  obtain ⟨hiu1, eu1⟩ := ld_of hu1
  refine va_lald hx hb hK hPm 3 0 rfl rfl hiu1 dM_order_5 ?_
  rw [eu1]
  refine lv_lstore_n (lv' := [(2, .long u1), (0, .ref (qm 0)), (1, .int x1)]) hx hb dM_order_6 rfl hl (by decide) rfl (fun ls hl => ?_)
  refine lv_aload_n hx hb dM_order_7 rfl (lv_at hl 1 rfl) ?_
  refine va_get (D := (dC, dI)) (ci := 2) (v := .ref (qm 3)) (C := R_M) (T := T_M) (N := 15) hx hb hw in_M hown hK hPm 0 rfl rfl 4 (by decide) (hw _ w_449) (fun _ h9 => h9) rfl dM_order_8 ?_
  refine lv_iload_n hx hb dM_order_11 rfl (lv_at hl 2 rfl) ?_
  refine lv_iconst (v := 1) hx hb dM_order_12 (by decide) ?_
  refine lv_iadd hx hb dM_order_13 ?_
  obtain ⟨u2, hu2, h⟩ := ob_some h
  obtain ⟨hiu2, eu2⟩ := ld_of hu2
  refine va_lald hx hb hK hPm 3 0 rfl rfl hiu2 dM_order_14 ?_
  rw [eu2]
  refine lv_lstore (lv' := [(4, .long u2), (2, .long u1), (0, .ref (qm 0)), (1, .int x1)]) hx hb dM_order_15 hl (by decide) rfl (fun ls hl => ?_)
  refine lv_aload_n hx hb dM_order_17 rfl (lv_at hl 2 rfl) ?_
  refine va_get (D := (dC, dI)) (ci := 2) (v := .ref (qm 4)) (C := R_M) (T := T_M) (N := 15) hx hb hw in_M hown hK hPm 0 rfl rfl 5 (by decide) (hw _ w_450) (fun _ h9 => h9) rfl dM_order_18 ?_
  refine lv_iload_n hx hb dM_order_21 rfl (lv_at hl 3 rfl) ?_
  obtain ⟨u3, hu3, h⟩ := ob_some h
  obtain ⟨hiu3, eu3⟩ := ld_of hu3
  refine va_lald hx hb hK hPm 4 0 rfl rfl hiu3 dM_order_22 ?_
  rw [eu3]
  refine lv_lstore (lv' := [(6, .long u3), (4, .long u2), (2, .long u1), (0, .ref (qm 0)), (1, .int x1)]) hx hb dM_order_23 hl (by decide) rfl (fun ls hl => ?_)
  refine lv_aload_n hx hb dM_order_25 rfl (lv_at hl 3 rfl) ?_
  refine va_get (D := (dC, dI)) (ci := 2) (v := .ref (qm 4)) (C := R_M) (T := T_M) (N := 15) hx hb hw in_M hown hK hPm 0 rfl rfl 5 (by decide) (hw _ w_450) (fun _ h9 => h9) rfl dM_order_26 ?_
  refine lv_iload_n hx hb dM_order_29 rfl (lv_at hl 4 rfl) ?_
  refine lv_iconst (v := 1) hx hb dM_order_30 (by decide) ?_
  refine lv_iadd hx hb dM_order_31 ?_
  obtain ⟨u4, hu4, h⟩ := ob_some h
  obtain ⟨hiu4, eu4⟩ := ld_of hu4
  refine va_lald hx hb hK hPm 4 0 rfl rfl hiu4 dM_order_32 ?_
  rw [eu4]
  refine lv_lstore (lv' := [(8, .long u4), (6, .long u3), (4, .long u2), (2, .long u1), (0, .ref (qm 0)), (1, .int x1)]) hx hb dM_order_33 hl (by decide) rfl (fun ls hl => ?_)
  refine lv_aload_n hx hb dM_order_35 rfl (lv_at hl 4 rfl) ?_
  refine va_get (D := (dC, dI)) (ci := 2) (v := .ref (qm 3)) (C := R_M) (T := T_M) (N := 15) hx hb hw in_M hown hK hPm 0 rfl rfl 4 (by decide) (hw _ w_449) (fun _ h9 => h9) rfl dM_order_36 ?_
  refine lv_iload_n hx hb dM_order_39 rfl (lv_at hl 5 rfl) ?_
  refine lv_lload_n hx hb dM_order_40 rfl (lv_at hl 3 rfl) ?_
  refine lv_lload hx hb dM_order_41 (lv_at hl 2 rfl) ?_
  refine W.lcmp hx hb dM_order_43 ?_
  refine lv_if_ge (tgt := 51) hx hb dM_order_44 (by decide) (fun c5 => ?_) (fun c5 => ?_)
  · have h := it_t c5 h
    refine lv_lload hx hb dM_order_51 (lv_at hl 2 rfl) ?_
    exact k53 v x1 u1 u2 u3 u4 x1 u2 h H locs hPm hD hS ls (lv_sub hl [4, 5, 3, 2, 1, 0] rfl)
  · have h := it_f c5 h
    refine lv_lload_n hx hb dM_order_47 rfl (lv_at hl 3 rfl) ?_
    refine lv_goto (tgt := 53) hx hb dM_order_48 (by decide) ?_
    exact k53 v x1 u1 u2 u3 u4 x1 u1 h H locs hPm hD hS ls (lv_sub hl [4, 5, 3, 2, 1, 0] rfl)
theorem dM_compareProducts_0 : decode cM_compareProducts 0 = .ok (.aload_n 0, 1) := by decide +kernel
theorem dM_compareProducts_1 : decode cM_compareProducts 1 = .ok (.iconst 0, 1) := by decide +kernel
theorem dM_compareProducts_2 : decode cM_compareProducts 2 = .ok (.lload_n 1, 1) := by decide +kernel
theorem dM_compareProducts_3 : decode cM_compareProducts 3 = .ok (.lload_n 3, 1) := by decide +kernel
theorem dM_compareProducts_4 : decode cM_compareProducts 4 = .ok (.invokevirtual 150, 3) := by decide +kernel
theorem dM_compareProducts_7 : decode cM_compareProducts 7 = .ok (.aload_n 0, 1) := by decide +kernel
theorem dM_compareProducts_8 : decode cM_compareProducts 8 = .ok (.iconst 4, 1) := by decide +kernel
theorem dM_compareProducts_9 : decode cM_compareProducts 9 = .ok (.lload 5, 2) := by decide +kernel
theorem dM_compareProducts_11 : decode cM_compareProducts 11 = .ok (.lload 7, 2) := by decide +kernel
theorem dM_compareProducts_13 : decode cM_compareProducts 13 = .ok (.invokevirtual 150, 3) := by decide +kernel
theorem dM_compareProducts_16 : decode cM_compareProducts 16 = .ok (.iconst 3, 1) := by decide +kernel
theorem dM_compareProducts_17 : decode cM_compareProducts 17 = .ok (.istore 9, 2) := by decide +kernel
theorem dM_compareProducts_19 : decode cM_compareProducts 19 = .ok (.iload 9, 2) := by decide +kernel
theorem dM_compareProducts_21 : decode cM_compareProducts 21 = .ok (.ifCond .lt 55, 3) := by decide +kernel
theorem dM_compareProducts_24 : decode cM_compareProducts 24 = .ok (.aload_n 0, 1) := by decide +kernel
theorem dM_compareProducts_25 : decode cM_compareProducts 25 = .ok (.getfield 47, 3) := by decide +kernel
theorem dM_compareProducts_28 : decode cM_compareProducts 28 = .ok (.iload 9, 2) := by decide +kernel
theorem dM_compareProducts_30 : decode cM_compareProducts 30 = .ok (.laload, 1) := by decide +kernel
theorem dM_compareProducts_31 : decode cM_compareProducts 31 = .ok (.aload_n 0, 1) := by decide +kernel
theorem dM_compareProducts_32 : decode cM_compareProducts 32 = .ok (.getfield 47, 3) := by decide +kernel
theorem dM_compareProducts_35 : decode cM_compareProducts 35 = .ok (.iconst 4, 1) := by decide +kernel
theorem dM_compareProducts_36 : decode cM_compareProducts 36 = .ok (.iload 9, 2) := by decide +kernel
theorem dM_compareProducts_38 : decode cM_compareProducts 38 = .ok (.iadd, 1) := by decide +kernel
theorem dM_compareProducts_39 : decode cM_compareProducts 39 = .ok (.laload, 1) := by decide +kernel
theorem dM_compareProducts_40 : decode cM_compareProducts 40 = .ok (.lcmp, 1) := by decide +kernel
theorem dM_compareProducts_41 : decode cM_compareProducts 41 = .ok (.ifCond .eq 29, 3) := by decide +kernel
theorem dM_compareProducts_44 : decode cM_compareProducts 44 = .ok (.aload_n 0, 1) := by decide +kernel
theorem dM_compareProducts_45 : decode cM_compareProducts 45 = .ok (.getfield 47, 3) := by decide +kernel
theorem dM_compareProducts_48 : decode cM_compareProducts 48 = .ok (.iload 9, 2) := by decide +kernel
theorem dM_compareProducts_50 : decode cM_compareProducts 50 = .ok (.laload, 1) := by decide +kernel
theorem dM_compareProducts_51 : decode cM_compareProducts 51 = .ok (.aload_n 0, 1) := by decide +kernel
theorem dM_compareProducts_52 : decode cM_compareProducts 52 = .ok (.getfield 47, 3) := by decide +kernel
theorem dM_compareProducts_55 : decode cM_compareProducts 55 = .ok (.iconst 4, 1) := by decide +kernel
theorem dM_compareProducts_56 : decode cM_compareProducts 56 = .ok (.iload 9, 2) := by decide +kernel
theorem dM_compareProducts_58 : decode cM_compareProducts 58 = .ok (.iadd, 1) := by decide +kernel
theorem dM_compareProducts_59 : decode cM_compareProducts 59 = .ok (.laload, 1) := by decide +kernel
theorem dM_compareProducts_60 : decode cM_compareProducts 60 = .ok (.lcmp, 1) := by decide +kernel
theorem dM_compareProducts_61 : decode cM_compareProducts 61 = .ok (.ifCond .ge 7, 3) := by decide +kernel
theorem dM_compareProducts_64 : decode cM_compareProducts 64 = .ok (.iconst (-1), 1) := by decide +kernel
theorem dM_compareProducts_65 : decode cM_compareProducts 65 = .ok (.goto 4, 3) := by decide +kernel
theorem dM_compareProducts_68 : decode cM_compareProducts 68 = .ok (.iconst 1, 1) := by decide +kernel
theorem dM_compareProducts_69 : decode cM_compareProducts 69 = .ok (.ireturn, 1) := by decide +kernel
theorem dM_compareProducts_70 : decode cM_compareProducts 70 = .ok (.iinc 9 (-1), 3) := by decide +kernel
theorem dM_compareProducts_73 : decode cM_compareProducts 73 = .ok (.goto (-54), 3) := by decide +kernel
theorem dM_compareProducts_76 : decode cM_compareProducts 76 = .ok (.iconst 0, 1) := by decide +kernel
theorem dM_compareProducts_77 : decode cM_compareProducts 77 = .ok (.ireturn, 1) := by decide +kernel
def f_M_compareProducts_j69 (vv : MV) (s0 : Int32) : Option (Int32 × MV) := some (s0, vv)
def f_M_compareProducts_l19 : Nat → MV → Int32 → Option (Int32 × MV)
 | 0, _, _ => none
 | n + 1, vv, p9 => (if p9 < 0 then some ((0 : Int32), vv) else (ld 8 (md_digits vv) p9).bind fun u4 => (ld 8 (md_digits vv) ((4 : Int32) + p9)).bind fun u5 => (if (lg_cmp u4 u5) = 0 then ((f_M_compareProducts_l19 n) vv (p9 + (-1))) else (ld 8 (md_digits vv) p9).bind fun u7 => (ld 8 (md_digits vv) ((4 : Int32) + p9)).bind fun u8 => (if 0 ≤ (lg_cmp u7 u8) then (f_M_compareProducts_j69 vv (1 : Int32)) else (f_M_compareProducts_j69 vv (-1 : Int32)))))
def f_M_compareProducts (v : MV) (x1 : Int64) (x3 : Int64) (x5 : Int64) (x7 : Int64) : Option (Int32 × MV) := (f_M_multiply v (0 : Int32) x1 x3).bind fun u1 => (f_M_multiply u1 (4 : Int32) x5 x7).bind fun u2 => (f_M_compareProducts_l19 64 u2 (3 : Int32))
set_option maxHeartbeats 4000000 in
set_option maxRecDepth 100000 in
theorem k_M_compareProducts (l : Launch) (dC : Nat → ClassId) (dI : Nat → Nat → Nat) (cL cI : ClassId) (qm : Nat → Nat) (v : MV) (x1 : Int64) (x3 : Int64) (x5 : Int64) (x7 : Int64) (r : (Int32 × MV)) (h : f_M_compareProducts v x1 x3 x5 x7 = some r) : Met l yM_compareProducts wsM_compareProducts ({ frames := 1, cells := 0, slots := 0, locals := 43 }) (rd_Pc [.ref (qm 0), .long x1, .long x3, .long x5, .long x7] (fun H => va_P (dC, dI) cls3 (mdW cL cI qm v) H ∧ va_D (inQ qm) (mdW cL cI qm v)) (dC, dI) cls3 [(cL, .long), (cI, .int)]) (mu_Q (some (.int r.1)) (dC, dI) cls3 (mdW cL cI qm r.2) (inQ qm)) 0 0 (inQ qm) := by
  refine Met.ofW (cc := cM_compareProducts) (maxL := 10) (ret := (some .int)) (by decide) rfl ?_
  intro p e s m args below meth c s₁ B hml hv
  obtain ⟨rfl, ⟨hPm, hD⟩, hK⟩ := hv
  have hx := B.exec
  have hb := B.bytes
  have hr := B.returns
  have hw : ∀ w ∈ wG, w.before ([.ref (qm 0), .long x1, .long x3, .long x5, .long x7] : List Value).toArray s = true := fun w hq => atoms_spec (ws := wsM_compareProducts) B.pre w (List.mem_cons_of_mem _ hq)
  have hown : s.vm.findClass R_M = some m.cls := findClass_of_methodNamed B.named
  have hlocks := B.notSynchronized
  have hl := lv_entry ([.ref (qm 0), .long x1, .long x3, .long x5, .long x7] : List Value) (n := 10) (Nat.le_of_ble_eq_true rfl)
  rw [lg_entry_eq]
  generalize (lg_sl ([.ref (qm 0), .long x1, .long x3, .long x5, .long x7] : List Value) ++ List.replicate (10 - (lg_sl ([.ref (qm 0), .long x1, .long x3, .long x5, .long x7] : List Value)).length) Slot.unset).toArray = ls at hl ⊢
  have hl : lv_has ls 10 [(0, .ref (qm 0)), (1, .long x1), (3, .long x3), (5, .long x5), (7, .long x7)] := hl
  have k69 : ∀ (vv : MV) (s0 : Int32), f_M_compareProducts_j69 vv s0 = some r → ∀ (H : Heap) (locs : List Loc), va_P (dC, dI) cls3 (mdW cL cI qm vv) H → va_D (inQ qm) (mdW cL cI qm vv) → va_S (inQ qm) s.heap H locs → ∀ (ls : Array Slot), lv_has ls 10 [] → W p l e (headSpec wsM_compareProducts ({ frames := 1, cells := 0, slots := 0, locals := 43 })).room s m ([.ref (qm 0), .long x1, .long x3, .long x5, .long x7] : List Value).toArray below meth c H locs 0 0 (MQ below (mu_Q (some (.int r.1)) (dC, dI) cls3 (mdW cL cI qm r.2) (inQ qm)) ([.ref (qm 0), .long x1, .long x3, .long x5, .long x7] : List Value).toArray s 0 0 (inQ qm)) (F0 m 69 ls [.int s0]) := by
    intro vv s0 h H locs hPm hD hS ls hl
    unfold f_M_compareProducts_j69 at h
    have h := Option.some.inj h
    subst h
    exact W.iret hx hb hr (fun t ht hW => ⟨rfl, by rw [ht]; exact hPm, hS.F ht⟩) hS.2.2 dM_compareProducts_69
  have k19 : ∀ (n19 : Nat), ∀ (vv : MV) (p9 : Int32), f_M_compareProducts_l19 n19 vv p9 = some r → ∀ (H : Heap) (locs : List Loc), va_P (dC, dI) cls3 (mdW cL cI qm vv) H → va_D (inQ qm) (mdW cL cI qm vv) → va_S (inQ qm) s.heap H locs → ∀ (ls : Array Slot), lv_has ls 10 [(0, .ref (qm 0)), (9, .int p9)] → W p l e (headSpec wsM_compareProducts ({ frames := 1, cells := 0, slots := 0, locals := 43 })).room s m ([.ref (qm 0), .long x1, .long x3, .long x5, .long x7] : List Value).toArray below meth c H locs 0 0 (MQ below (mu_Q (some (.int r.1)) (dC, dI) cls3 (mdW cL cI qm r.2) (inQ qm)) ([.ref (qm 0), .long x1, .long x3, .long x5, .long x7] : List Value).toArray s 0 0 (inQ qm)) (F0 m 19 ls []) := by
    intro n19
    induction n19 with
    | zero => intro vv p9 h; exact absurd h (by simp [f_M_compareProducts_l19])
    | succ n19 ih19 =>
      intro vv p9 h H locs hPm hD hS ls hl
      rw [f_M_compareProducts_l19] at h
      refine lv_iload hx hb dM_compareProducts_19 (lv_at hl 1 rfl) ?_
      refine lv_if_lt (tgt := 76) hx hb dM_compareProducts_21 (by decide) (fun c3 => ?_) (fun c3 => ?_)
      · have h := it_t c3 h
        refine lv_iconst (v := 0) hx hb dM_compareProducts_76 (by decide) ?_
        have h := Option.some.inj h
        subst h
        exact W.iret hx hb hr (fun t ht hW => ⟨rfl, by rw [ht]; exact hPm, hS.F ht⟩) hS.2.2 dM_compareProducts_77
      · have h := it_f c3 h
        refine lv_aload_n hx hb dM_compareProducts_24 rfl (lv_at hl 0 rfl) ?_
        refine va_get (D := (dC, dI)) (ci := 2) (v := .ref (qm 13)) (C := R_M) (T := T_M) (N := 15) hx hb hw in_M hown hK hPm 0 rfl rfl 14 (by decide) (hw _ w_459) (fun _ h9 => h9) rfl dM_compareProducts_25 ?_
        refine lv_iload hx hb dM_compareProducts_28 (lv_at hl 1 rfl) ?_
        obtain ⟨u4, hu4, h⟩ := ob_some h
        obtain ⟨hiu4, eu4⟩ := ld_of hu4
        refine va_lald hx hb hK hPm 13 0 rfl rfl hiu4 dM_compareProducts_30 ?_
        rw [eu4]
        refine lv_aload_n hx hb dM_compareProducts_31 rfl (lv_at hl 0 rfl) ?_
        refine va_get (D := (dC, dI)) (ci := 2) (v := .ref (qm 13)) (C := R_M) (T := T_M) (N := 15) hx hb hw in_M hown hK hPm 0 rfl rfl 14 (by decide) (hw _ w_459) (fun _ h9 => h9) rfl dM_compareProducts_32 ?_
        refine lv_iconst (v := 4) hx hb dM_compareProducts_35 (by decide) ?_
        refine lv_iload hx hb dM_compareProducts_36 (lv_at hl 1 rfl) ?_
        refine lv_iadd hx hb dM_compareProducts_38 ?_
        obtain ⟨u5, hu5, h⟩ := ob_some h
        obtain ⟨hiu5, eu5⟩ := ld_of hu5
        refine va_lald hx hb hK hPm 13 0 rfl rfl hiu5 dM_compareProducts_39 ?_
        rw [eu5]
        refine W.lcmp hx hb dM_compareProducts_40 ?_
        refine lv_if_eq (tgt := 70) hx hb dM_compareProducts_41 (by decide) (fun c6 => ?_) (fun c6 => ?_)
        · have h := it_t c6 h
          refine lv_iinc (v := p9 + (-1)) (lv' := [(9, .int (p9 + (-1))), (0, .ref (qm 0))]) hx hb dM_compareProducts_70 hl (k := 1) rfl rfl (by decide) rfl (fun ls hl => ?_)
          refine lv_goto (tgt := 19) hx hb dM_compareProducts_73 (by decide) ?_
          exact ih19 vv (p9 + (-1)) h H locs hPm hD hS ls (lv_sub hl [1, 0] rfl)
        · have h := it_f c6 h
          refine lv_aload_n hx hb dM_compareProducts_44 rfl (lv_at hl 0 rfl) ?_
          refine va_get (D := (dC, dI)) (ci := 2) (v := .ref (qm 13)) (C := R_M) (T := T_M) (N := 15) hx hb hw in_M hown hK hPm 0 rfl rfl 14 (by decide) (hw _ w_459) (fun _ h9 => h9) rfl dM_compareProducts_45 ?_
          refine lv_iload hx hb dM_compareProducts_48 (lv_at hl 1 rfl) ?_
          obtain ⟨u7, hu7, h⟩ := ob_some h
          obtain ⟨hiu7, eu7⟩ := ld_of hu7
          refine va_lald hx hb hK hPm 13 0 rfl rfl hiu7 dM_compareProducts_50 ?_
          rw [eu7]
          refine lv_aload_n hx hb dM_compareProducts_51 rfl (lv_at hl 0 rfl) ?_
          refine va_get (D := (dC, dI)) (ci := 2) (v := .ref (qm 13)) (C := R_M) (T := T_M) (N := 15) hx hb hw in_M hown hK hPm 0 rfl rfl 14 (by decide) (hw _ w_459) (fun _ h9 => h9) rfl dM_compareProducts_52 ?_
          refine lv_iconst (v := 4) hx hb dM_compareProducts_55 (by decide) ?_
          refine lv_iload hx hb dM_compareProducts_56 (lv_at hl 1 rfl) ?_
          refine lv_iadd hx hb dM_compareProducts_58 ?_
          obtain ⟨u8, hu8, h⟩ := ob_some h
          obtain ⟨hiu8, eu8⟩ := ld_of hu8
          refine va_lald hx hb hK hPm 13 0 rfl rfl hiu8 dM_compareProducts_59 ?_
          rw [eu8]
          refine W.lcmp hx hb dM_compareProducts_60 ?_
          refine lv_if_ge (tgt := 68) hx hb dM_compareProducts_61 (by decide) (fun c9 => ?_) (fun c9 => ?_)
          · have h := it_t c9 h
            refine lv_iconst (v := 1) hx hb dM_compareProducts_68 (by decide) ?_
            exact k69 vv (1 : Int32) h H locs hPm hD hS ls (lv_sub hl [] rfl)
          · have h := it_f c9 h
            refine lv_iconst (v := -1) hx hb dM_compareProducts_64 (by decide) ?_
            refine lv_goto (tgt := 69) hx hb dM_compareProducts_65 (by decide) ?_
            exact k69 vv (-1 : Int32) h H locs hPm hD hS ls (lv_sub hl [] rfl)
  have hS : va_S (inQ qm) s.heap s.heap [] := va_S.rf
  obtain ⟨H, hH⟩ : ∃ H : Heap, H = s.heap := ⟨_, rfl⟩
  obtain ⟨locs, hlocs⟩ : ∃ L : List Loc, L = [] := ⟨_, rfl⟩
  suffices hgo : W p l e (headSpec wsM_compareProducts ({ frames := 1, cells := 0, slots := 0, locals := 43 })).room s m ([.ref (qm 0), .long x1, .long x3, .long x5, .long x7] : List Value).toArray below meth c H locs 0 0 (MQ below (mu_Q (some (.int r.1)) (dC, dI) cls3 (mdW cL cI qm r.2) (inQ qm)) ([.ref (qm 0), .long x1, .long x3, .long x5, .long x7] : List Value).toArray s 0 0 (inQ qm)) (F0 m 0 ls []) by rw [hH, hlocs] at hgo; exact hgo
  rw [← hH] at hPm
  have hS : va_S (inQ qm) s.heap H locs := by rw [hH, hlocs]; exact hS
  clear hH hlocs
  unfold f_M_compareProducts at h
  refine lv_aload_n hx hb dM_compareProducts_0 rfl (lv_at hl 0 rfl) ?_
  refine lv_iconst (v := 0) hx hb dM_compareProducts_1 (by decide) ?_
  refine lv_lload_n hx hb dM_compareProducts_2 rfl (lv_at hl 1 rfl) ?_
  refine lv_lload_n hx hb dM_compareProducts_3 rfl (lv_at hl 2 rfl) ?_
  obtain ⟨u1, hu1, h⟩ := ob_some h
  refine mu_call (va_runV (As := [.int (0 : Int32), .long x1, .long x3]) (rest := []) ⟨hx, hb, hml, hown, hw⟩ (k_M_multiply l dC dI cL cI qm v (0 : Int32) x1 x3 u1 hu1) (cwV 3 hw (gV w_635 w_637 wp_26 w_2 w_638) rfl rfl rfl (by decide +kernel) ⟨Nat.le_of_ble_eq_true rfl, Nat.le_of_ble_eq_true rfl⟩) ⟨rd_blind, va_recv hK hPm (ci := 2) (q0 := 0) rfl rfl, rd_pre ⟨hPm, hD⟩ hK⟩ rfl rfl hl.1 rfl (lv_room (Nat.le_of_ble_eq_true rfl)) dM_compareProducts_4 ⟨Nat.le_of_ble_eq_true rfl, Nat.le_of_ble_eq_true rfl⟩) hS (fun _ z => z) (fun H locs hPm hS _ _ => ?_)
  have hD := md_D (u1) hD
  refine lv_aload_n hx hb dM_compareProducts_7 rfl (lv_at hl 0 rfl) ?_
  refine lv_iconst (v := 4) hx hb dM_compareProducts_8 (by decide) ?_
  refine lv_lload hx hb dM_compareProducts_9 (lv_at hl 3 rfl) ?_
  refine lv_lload hx hb dM_compareProducts_11 (lv_at hl 4 rfl) ?_
  obtain ⟨u2, hu2, h⟩ := ob_some h
  refine mu_call (va_runV (As := [.int (4 : Int32), .long x5, .long x7]) (rest := []) ⟨hx, hb, hml, hown, hw⟩ (k_M_multiply l dC dI cL cI qm u1 (4 : Int32) x5 x7 u2 hu2) (cwV 3 hw (gV w_635 w_637 wp_26 w_2 w_638) rfl rfl rfl (by decide +kernel) ⟨Nat.le_of_ble_eq_true rfl, Nat.le_of_ble_eq_true rfl⟩) ⟨rd_blind, va_recv hK hPm (ci := 2) (q0 := 0) rfl rfl, rd_pre ⟨hPm, hD⟩ hK⟩ rfl rfl hl.1 rfl (lv_room (Nat.le_of_ble_eq_true rfl)) dM_compareProducts_13 ⟨Nat.le_of_ble_eq_true rfl, Nat.le_of_ble_eq_true rfl⟩) hS (fun _ z => z) (fun H locs hPm hS _ _ => ?_)
  have hD := md_D (u2) hD
  refine lv_iconst (v := 3) hx hb dM_compareProducts_16 (by decide) ?_
  refine lv_istore (lv' := [(9, .int (3 : Int32)), (0, .ref (qm 0)), (1, .long x1), (3, .long x3), (5, .long x5), (7, .long x7)]) hx hb dM_compareProducts_17 hl (by decide) rfl (fun ls hl => ?_)
  exact k19 64 u2 (3 : Int32) h H locs hPm hD hS ls (lv_sub hl [1, 0] rfl)
theorem dM_farther_0 : decode cM_farther 0 = .ok (.lload 9, 2) := by decide +kernel
theorem dM_farther_2 : decode cM_farther 2 = .ok (.lload 5, 2) := by decide +kernel
theorem dM_farther_4 : decode cM_farther 4 = .ok (.lsub, 1) := by decide +kernel
theorem dM_farther_5 : decode cM_farther 5 = .ok (.lstore 15, 2) := by decide +kernel
theorem dM_farther_7 : decode cM_farther 7 = .ok (.lload 11, 2) := by decide +kernel
theorem dM_farther_9 : decode cM_farther 9 = .ok (.lload 7, 2) := by decide +kernel
theorem dM_farther_11 : decode cM_farther 11 = .ok (.lsub, 1) := by decide +kernel
theorem dM_farther_12 : decode cM_farther 12 = .ok (.lstore 17, 2) := by decide +kernel
theorem dM_farther_14 : decode cM_farther 14 = .ok (.lload_n 1, 1) := by decide +kernel
theorem dM_farther_15 : decode cM_farther 15 = .ok (.lload 5, 2) := by decide +kernel
theorem dM_farther_17 : decode cM_farther 17 = .ok (.lsub, 1) := by decide +kernel
theorem dM_farther_18 : decode cM_farther 18 = .ok (.lload 15, 2) := by decide +kernel
theorem dM_farther_20 : decode cM_farther 20 = .ok (.lmul, 1) := by decide +kernel
theorem dM_farther_21 : decode cM_farther 21 = .ok (.lload_n 3, 1) := by decide +kernel
theorem dM_farther_22 : decode cM_farther 22 = .ok (.lload 7, 2) := by decide +kernel
theorem dM_farther_24 : decode cM_farther 24 = .ok (.lsub, 1) := by decide +kernel
theorem dM_farther_25 : decode cM_farther 25 = .ok (.lload 17, 2) := by decide +kernel
theorem dM_farther_27 : decode cM_farther 27 = .ok (.lmul, 1) := by decide +kernel
theorem dM_farther_28 : decode cM_farther 28 = .ok (.ladd, 1) := by decide +kernel
theorem dM_farther_29 : decode cM_farther 29 = .ok (.lstore 19, 2) := by decide +kernel
theorem dM_farther_31 : decode cM_farther 31 = .ok (.lload 15, 2) := by decide +kernel
theorem dM_farther_33 : decode cM_farther 33 = .ok (.lload 15, 2) := by decide +kernel
theorem dM_farther_35 : decode cM_farther 35 = .ok (.lmul, 1) := by decide +kernel
theorem dM_farther_36 : decode cM_farther 36 = .ok (.lload 17, 2) := by decide +kernel
theorem dM_farther_38 : decode cM_farther 38 = .ok (.lload 17, 2) := by decide +kernel
theorem dM_farther_40 : decode cM_farther 40 = .ok (.lmul, 1) := by decide +kernel
theorem dM_farther_41 : decode cM_farther 41 = .ok (.ladd, 1) := by decide +kernel
theorem dM_farther_42 : decode cM_farther 42 = .ok (.lstore 21, 2) := by decide +kernel
theorem dM_farther_44 : decode cM_farther 44 = .ok (.lload 19, 2) := by decide +kernel
theorem dM_farther_46 : decode cM_farther 46 = .ok (.lconst 0, 1) := by decide +kernel
theorem dM_farther_47 : decode cM_farther 47 = .ok (.lcmp, 1) := by decide +kernel
theorem dM_farther_48 : decode cM_farther 48 = .ok (.ifCond .gt 32, 3) := by decide +kernel
theorem dM_farther_51 : decode cM_farther 51 = .ok (.lload_n 1, 1) := by decide +kernel
theorem dM_farther_52 : decode cM_farther 52 = .ok (.lload 5, 2) := by decide +kernel
theorem dM_farther_54 : decode cM_farther 54 = .ok (.lsub, 1) := by decide +kernel
theorem dM_farther_55 : decode cM_farther 55 = .ok (.lload_n 1, 1) := by decide +kernel
theorem dM_farther_56 : decode cM_farther 56 = .ok (.lload 5, 2) := by decide +kernel
theorem dM_farther_58 : decode cM_farther 58 = .ok (.lsub, 1) := by decide +kernel
theorem dM_farther_59 : decode cM_farther 59 = .ok (.lmul, 1) := by decide +kernel
theorem dM_farther_60 : decode cM_farther 60 = .ok (.lload_n 3, 1) := by decide +kernel
theorem dM_farther_61 : decode cM_farther 61 = .ok (.lload 7, 2) := by decide +kernel
theorem dM_farther_63 : decode cM_farther 63 = .ok (.lsub, 1) := by decide +kernel
theorem dM_farther_64 : decode cM_farther 64 = .ok (.lload_n 3, 1) := by decide +kernel
theorem dM_farther_65 : decode cM_farther 65 = .ok (.lload 7, 2) := by decide +kernel
theorem dM_farther_67 : decode cM_farther 67 = .ok (.lsub, 1) := by decide +kernel
theorem dM_farther_68 : decode cM_farther 68 = .ok (.lmul, 1) := by decide +kernel
theorem dM_farther_69 : decode cM_farther 69 = .ok (.ladd, 1) := by decide +kernel
theorem dM_farther_70 : decode cM_farther 70 = .ok (.lload 13, 2) := by decide +kernel
theorem dM_farther_72 : decode cM_farther 72 = .ok (.lload 13, 2) := by decide +kernel
theorem dM_farther_74 : decode cM_farther 74 = .ok (.lmul, 1) := by decide +kernel
theorem dM_farther_75 : decode cM_farther 75 = .ok (.lsub, 1) := by decide +kernel
theorem dM_farther_76 : decode cM_farther 76 = .ok (.invokestatic 95, 3) := by decide +kernel
theorem dM_farther_79 : decode cM_farther 79 = .ok (.ireturn, 1) := by decide +kernel
theorem dM_farther_80 : decode cM_farther 80 = .ok (.lload 19, 2) := by decide +kernel
theorem dM_farther_82 : decode cM_farther 82 = .ok (.lload 21, 2) := by decide +kernel
theorem dM_farther_84 : decode cM_farther 84 = .ok (.lcmp, 1) := by decide +kernel
theorem dM_farther_85 : decode cM_farther 85 = .ok (.ifCond .lt 32, 3) := by decide +kernel
theorem dM_farther_88 : decode cM_farther 88 = .ok (.lload_n 1, 1) := by decide +kernel
theorem dM_farther_89 : decode cM_farther 89 = .ok (.lload 9, 2) := by decide +kernel
theorem dM_farther_91 : decode cM_farther 91 = .ok (.lsub, 1) := by decide +kernel
theorem dM_farther_92 : decode cM_farther 92 = .ok (.lload_n 1, 1) := by decide +kernel
theorem dM_farther_93 : decode cM_farther 93 = .ok (.lload 9, 2) := by decide +kernel
theorem dM_farther_95 : decode cM_farther 95 = .ok (.lsub, 1) := by decide +kernel
theorem dM_farther_96 : decode cM_farther 96 = .ok (.lmul, 1) := by decide +kernel
theorem dM_farther_97 : decode cM_farther 97 = .ok (.lload_n 3, 1) := by decide +kernel
theorem dM_farther_98 : decode cM_farther 98 = .ok (.lload 11, 2) := by decide +kernel
theorem dM_farther_100 : decode cM_farther 100 = .ok (.lsub, 1) := by decide +kernel
theorem dM_farther_101 : decode cM_farther 101 = .ok (.lload_n 3, 1) := by decide +kernel
theorem dM_farther_102 : decode cM_farther 102 = .ok (.lload 11, 2) := by decide +kernel
theorem dM_farther_104 : decode cM_farther 104 = .ok (.lsub, 1) := by decide +kernel
theorem dM_farther_105 : decode cM_farther 105 = .ok (.lmul, 1) := by decide +kernel
theorem dM_farther_106 : decode cM_farther 106 = .ok (.ladd, 1) := by decide +kernel
theorem dM_farther_107 : decode cM_farther 107 = .ok (.lload 13, 2) := by decide +kernel
theorem dM_farther_109 : decode cM_farther 109 = .ok (.lload 13, 2) := by decide +kernel
theorem dM_farther_111 : decode cM_farther 111 = .ok (.lmul, 1) := by decide +kernel
theorem dM_farther_112 : decode cM_farther 112 = .ok (.lsub, 1) := by decide +kernel
theorem dM_farther_113 : decode cM_farther 113 = .ok (.invokestatic 95, 3) := by decide +kernel
theorem dM_farther_116 : decode cM_farther 116 = .ok (.ireturn, 1) := by decide +kernel
theorem dM_farther_117 : decode cM_farther 117 = .ok (.lload 15, 2) := by decide +kernel
theorem dM_farther_119 : decode cM_farther 119 = .ok (.lload 17, 2) := by decide +kernel
theorem dM_farther_121 : decode cM_farther 121 = .ok (.lload_n 1, 1) := by decide +kernel
theorem dM_farther_122 : decode cM_farther 122 = .ok (.lload 5, 2) := by decide +kernel
theorem dM_farther_124 : decode cM_farther 124 = .ok (.lsub, 1) := by decide +kernel
theorem dM_farther_125 : decode cM_farther 125 = .ok (.lload_n 3, 1) := by decide +kernel
theorem dM_farther_126 : decode cM_farther 126 = .ok (.lload 7, 2) := by decide +kernel
theorem dM_farther_128 : decode cM_farther 128 = .ok (.lsub, 1) := by decide +kernel
theorem dM_farther_129 : decode cM_farther 129 = .ok (.invokestatic 91, 3) := by decide +kernel
theorem dM_farther_132 : decode cM_farther 132 = .ok (.lstore 23, 2) := by decide +kernel
theorem dM_farther_134 : decode cM_farther 134 = .ok (.lload 23, 2) := by decide +kernel
theorem dM_farther_136 : decode cM_farther 136 = .ok (.lconst 0, 1) := by decide +kernel
theorem dM_farther_137 : decode cM_farther 137 = .ok (.lcmp, 1) := by decide +kernel
theorem dM_farther_138 : decode cM_farther 138 = .ok (.ifCond .ge 10, 3) := by decide +kernel
theorem dM_farther_141 : decode cM_farther 141 = .ok (.lconst 0, 1) := by decide +kernel
theorem dM_farther_142 : decode cM_farther 142 = .ok (.lload 23, 2) := by decide +kernel
theorem dM_farther_144 : decode cM_farther 144 = .ok (.lsub, 1) := by decide +kernel
theorem dM_farther_145 : decode cM_farther 145 = .ok (.goto 5, 3) := by decide +kernel
theorem dM_farther_148 : decode cM_farther 148 = .ok (.lload 23, 2) := by decide +kernel
theorem dM_farther_150 : decode cM_farther 150 = .ok (.lstore 25, 2) := by decide +kernel
theorem dM_farther_152 : decode cM_farther 152 = .ok (.aload_n 0, 1) := by decide +kernel
theorem dM_farther_153 : decode cM_farther 153 = .ok (.lload 25, 2) := by decide +kernel
theorem dM_farther_155 : decode cM_farther 155 = .ok (.lload 25, 2) := by decide +kernel
theorem dM_farther_157 : decode cM_farther 157 = .ok (.lload 13, 2) := by decide +kernel
theorem dM_farther_159 : decode cM_farther 159 = .ok (.lload 13, 2) := by decide +kernel
theorem dM_farther_161 : decode cM_farther 161 = .ok (.lmul, 1) := by decide +kernel
theorem dM_farther_162 : decode cM_farther 162 = .ok (.lload 21, 2) := by decide +kernel
theorem dM_farther_164 : decode cM_farther 164 = .ok (.invokevirtual 153, 3) := by decide +kernel
theorem dM_farther_167 : decode cM_farther 167 = .ok (.ireturn, 1) := by decide +kernel
def f_M_farther_j150 (vv : MV) (p13 : Int64) (p21 : Int64) (s0 : Int64) : Option (Int32 × MV) := (f_M_compareProducts vv s0 s0 (p13 * p13) p21).bind fun u9 => some (u9.1, u9.2)
def f_M_farther (v : MV) (x1 : Int64) (x3 : Int64) (x5 : Int64) (x7 : Int64) (x9 : Int64) (x11 : Int64) (x13 : Int64) : Option (Int32 × MV) := (some (((x1 - x5) * (x9 - x5)) + ((x3 - x7) * (x11 - x7)))).bind fun u1 => (some (((x9 - x5) * (x9 - x5)) + ((x11 - x7) * (x11 - x7)))).bind fun u2 => (if 0 < (lg_cmp u1 (0 : Int64)) then (if (lg_cmp u1 u2) < 0 then (f_M_cross (x9 - x5) (x11 - x7) (x1 - x5) (x3 - x7)).bind fun u5 => (if 0 ≤ (lg_cmp u5 (0 : Int64)) then (f_M_farther_j150 v x13 u2 u5) else (f_M_farther_j150 v x13 u2 ((0 : Int64) - u5))) else (f_M_sign ((((x1 - x9) * (x1 - x9)) + ((x3 - x11) * (x3 - x11))) - (x13 * x13))).bind fun u7 => some (u7, v)) else (f_M_sign ((((x1 - x5) * (x1 - x5)) + ((x3 - x7) * (x3 - x7))) - (x13 * x13))).bind fun u8 => some (u8, v))
set_option maxHeartbeats 4000000 in
set_option maxRecDepth 100000 in
theorem k_M_farther (l : Launch) (dC : Nat → ClassId) (dI : Nat → Nat → Nat) (cL cI : ClassId) (qm : Nat → Nat) (v : MV) (x1 : Int64) (x3 : Int64) (x5 : Int64) (x7 : Int64) (x9 : Int64) (x11 : Int64) (x13 : Int64) (r : (Int32 × MV)) (h : f_M_farther v x1 x3 x5 x7 x9 x11 x13 = some r) : Met l yM_farther wsM_farther ({ frames := 2, cells := 0, slots := 0, locals := 72 }) (rd_Pc [.ref (qm 0), .long x1, .long x3, .long x5, .long x7, .long x9, .long x11, .long x13] (fun H => va_P (dC, dI) cls3 (mdW cL cI qm v) H ∧ va_D (inQ qm) (mdW cL cI qm v)) (dC, dI) cls3 [(cL, .long), (cI, .int)]) (mu_Q (some (.int r.1)) (dC, dI) cls3 (mdW cL cI qm r.2) (inQ qm)) 0 0 (inQ qm) := by
  refine Met.ofW (cc := cM_farther) (maxL := 27) (ret := (some .int)) (by decide) rfl ?_
  intro p e s m args below meth c s₁ B hml hv
  obtain ⟨rfl, ⟨hPm, hD⟩, hK⟩ := hv
  have hx := B.exec
  have hb := B.bytes
  have hr := B.returns
  have hw : ∀ w ∈ wG, w.before ([.ref (qm 0), .long x1, .long x3, .long x5, .long x7, .long x9, .long x11, .long x13] : List Value).toArray s = true := fun w hq => atoms_spec (ws := wsM_farther) B.pre w (List.mem_cons_of_mem _ hq)
  have hown : s.vm.findClass R_M = some m.cls := findClass_of_methodNamed B.named
  have hlocks := B.notSynchronized
  have hl := lv_entry ([.ref (qm 0), .long x1, .long x3, .long x5, .long x7, .long x9, .long x11, .long x13] : List Value) (n := 27) (Nat.le_of_ble_eq_true rfl)
  rw [lg_entry_eq]
  generalize (lg_sl ([.ref (qm 0), .long x1, .long x3, .long x5, .long x7, .long x9, .long x11, .long x13] : List Value) ++ List.replicate (27 - (lg_sl ([.ref (qm 0), .long x1, .long x3, .long x5, .long x7, .long x9, .long x11, .long x13] : List Value)).length) Slot.unset).toArray = ls at hl ⊢
  have hl : lv_has ls 27 [(0, .ref (qm 0)), (1, .long x1), (3, .long x3), (5, .long x5), (7, .long x7), (9, .long x9), (11, .long x11), (13, .long x13)] := hl
  have k150 : ∀ (vv : MV) (p13 : Int64) (p21 : Int64) (s0 : Int64), f_M_farther_j150 vv p13 p21 s0 = some r → ∀ (H : Heap) (locs : List Loc), va_P (dC, dI) cls3 (mdW cL cI qm vv) H → va_D (inQ qm) (mdW cL cI qm vv) → va_S (inQ qm) s.heap H locs → ∀ (ls : Array Slot), lv_has ls 27 [(0, .ref (qm 0)), (13, .long p13), (21, .long p21)] → W p l e (headSpec wsM_farther ({ frames := 2, cells := 0, slots := 0, locals := 72 })).room s m ([.ref (qm 0), .long x1, .long x3, .long x5, .long x7, .long x9, .long x11, .long x13] : List Value).toArray below meth c H locs 0 0 (MQ below (mu_Q (some (.int r.1)) (dC, dI) cls3 (mdW cL cI qm r.2) (inQ qm)) ([.ref (qm 0), .long x1, .long x3, .long x5, .long x7, .long x9, .long x11, .long x13] : List Value).toArray s 0 0 (inQ qm)) (F0 m 150 ls [.long s0]) := by
    intro vv p13 p21 s0 h H locs hPm hD hS ls hl
    unfold f_M_farther_j150 at h
    refine lv_lstore (lv' := [(25, .long s0), (0, .ref (qm 0)), (13, .long p13), (21, .long p21)]) hx hb dM_farther_150 hl (by decide) rfl (fun ls hl => ?_)
    refine lv_aload_n hx hb dM_farther_152 rfl (lv_at hl 1 rfl) ?_
    refine lv_lload hx hb dM_farther_153 (lv_at hl 0 rfl) ?_
    refine lv_lload hx hb dM_farther_155 (lv_at hl 0 rfl) ?_
    refine lv_lload hx hb dM_farther_157 (lv_at hl 2 rfl) ?_
    refine lv_lload hx hb dM_farther_159 (lv_at hl 2 rfl) ?_
    refine lv_lmul hx hb dM_farther_161 ?_
    refine lv_lload hx hb dM_farther_162 (lv_at hl 3 rfl) ?_
    obtain ⟨u9, hu9, h⟩ := ob_some h
    refine mu_call (va_runV (As := [.long s0, .long s0, .long (p13 * p13), .long p21]) (rest := []) ⟨hx, hb, hml, hown, hw⟩ (k_M_compareProducts l dC dI cL cI qm vv s0 s0 (p13 * p13) p21 u9 hu9) (cwV 4 hw (gV w_631 w_633 wp_25 w_2 w_634) rfl rfl rfl (by decide +kernel) ⟨Nat.le_of_ble_eq_true rfl, Nat.le_of_ble_eq_true rfl⟩) ⟨rd_blind, va_recv hK hPm (ci := 2) (q0 := 0) rfl rfl, rd_pre ⟨hPm, hD⟩ hK⟩ rfl rfl hl.1 rfl (lv_room (Nat.le_of_ble_eq_true rfl)) dM_farther_164 ⟨Nat.le_of_ble_eq_true rfl, Nat.le_of_ble_eq_true rfl⟩) hS (fun _ z => z) (fun H locs hPm hS _ _ => ?_)
    have hD := md_D (u9.2) hD
    have h := Option.some.inj h
    subst h
    exact W.iret hx hb hr (fun t ht hW => ⟨rfl, by rw [ht]; exact hPm, hS.F ht⟩) hS.2.2 dM_farther_167
  have hS : va_S (inQ qm) s.heap s.heap [] := va_S.rf
  obtain ⟨H, hH⟩ : ∃ H : Heap, H = s.heap := ⟨_, rfl⟩
  obtain ⟨locs, hlocs⟩ : ∃ L : List Loc, L = [] := ⟨_, rfl⟩
  suffices hgo : W p l e (headSpec wsM_farther ({ frames := 2, cells := 0, slots := 0, locals := 72 })).room s m ([.ref (qm 0), .long x1, .long x3, .long x5, .long x7, .long x9, .long x11, .long x13] : List Value).toArray below meth c H locs 0 0 (MQ below (mu_Q (some (.int r.1)) (dC, dI) cls3 (mdW cL cI qm r.2) (inQ qm)) ([.ref (qm 0), .long x1, .long x3, .long x5, .long x7, .long x9, .long x11, .long x13] : List Value).toArray s 0 0 (inQ qm)) (F0 m 0 ls []) by rw [hH, hlocs] at hgo; exact hgo
  rw [← hH] at hPm
  have hS : va_S (inQ qm) s.heap H locs := by rw [hH, hlocs]; exact hS
  clear hH hlocs
  unfold f_M_farther at h
  refine lv_lload hx hb dM_farther_0 (lv_at hl 5 rfl) ?_
  refine lv_lload hx hb dM_farther_2 (lv_at hl 3 rfl) ?_
  refine lv_lsub hx hb dM_farther_4 ?_
  refine lv_lstore (lv' := [(15, .long (x9 - x5)), (0, .ref (qm 0)), (1, .long x1), (3, .long x3), (5, .long x5), (7, .long x7), (9, .long x9), (11, .long x11), (13, .long x13)]) hx hb dM_farther_5 hl (by decide) rfl (fun ls hl => ?_)
  refine lv_lload hx hb dM_farther_7 (lv_at hl 7 rfl) ?_
  refine lv_lload hx hb dM_farther_9 (lv_at hl 5 rfl) ?_
  refine lv_lsub hx hb dM_farther_11 ?_
  refine lv_lstore (lv' := [(17, .long (x11 - x7)), (15, .long (x9 - x5)), (0, .ref (qm 0)), (1, .long x1), (3, .long x3), (5, .long x5), (7, .long x7), (9, .long x9), (11, .long x11), (13, .long x13)]) hx hb dM_farther_12 hl (by decide) rfl (fun ls hl => ?_)
  refine lv_lload_n hx hb dM_farther_14 rfl (lv_at hl 3 rfl) ?_
  refine lv_lload hx hb dM_farther_15 (lv_at hl 5 rfl) ?_
  refine lv_lsub hx hb dM_farther_17 ?_
  refine lv_lload hx hb dM_farther_18 (lv_at hl 1 rfl) ?_
  refine lv_lmul hx hb dM_farther_20 ?_
  refine lv_lload_n hx hb dM_farther_21 rfl (lv_at hl 4 rfl) ?_
  refine lv_lload hx hb dM_farther_22 (lv_at hl 6 rfl) ?_
  refine lv_lsub hx hb dM_farther_24 ?_
  refine lv_lload hx hb dM_farther_25 (lv_at hl 0 rfl) ?_
  refine lv_lmul hx hb dM_farther_27 ?_
  refine lv_ladd hx hb dM_farther_28 ?_
  obtain ⟨u1, hu1, h⟩ := ob_some h
  rw [Option.some.inj hu1]
  refine lv_lstore (lv' := [(19, .long u1), (17, .long (x11 - x7)), (15, .long (x9 - x5)), (0, .ref (qm 0)), (1, .long x1), (3, .long x3), (5, .long x5), (7, .long x7), (9, .long x9), (11, .long x11), (13, .long x13)]) hx hb dM_farther_29 hl (by decide) rfl (fun ls hl => ?_)
  refine lv_lload hx hb dM_farther_31 (lv_at hl 2 rfl) ?_
  refine lv_lload hx hb dM_farther_33 (lv_at hl 2 rfl) ?_
  refine lv_lmul hx hb dM_farther_35 ?_
  refine lv_lload hx hb dM_farther_36 (lv_at hl 1 rfl) ?_
  refine lv_lload hx hb dM_farther_38 (lv_at hl 1 rfl) ?_
  refine lv_lmul hx hb dM_farther_40 ?_
  refine lv_ladd hx hb dM_farther_41 ?_
  obtain ⟨u2, hu2, h⟩ := ob_some h
  rw [Option.some.inj hu2]
  refine lv_lstore (lv' := [(21, .long u2), (19, .long u1), (17, .long (x11 - x7)), (15, .long (x9 - x5)), (0, .ref (qm 0)), (1, .long x1), (3, .long x3), (5, .long x5), (7, .long x7), (9, .long x9), (11, .long x11), (13, .long x13)]) hx hb dM_farther_42 hl (by decide) rfl (fun ls hl => ?_)
  refine lv_lload hx hb dM_farther_44 (lv_at hl 1 rfl) ?_
  refine lv_lconst (v := 0) hx hb dM_farther_46 (by decide) ?_
  refine W.lcmp hx hb dM_farther_47 ?_
  refine lv_if_gt (tgt := 80) hx hb dM_farther_48 (by decide) (fun c3 => ?_) (fun c3 => ?_)
  · have h := it_t c3 h
    refine lv_lload hx hb dM_farther_80 (lv_at hl 1 rfl) ?_
    refine lv_lload hx hb dM_farther_82 (lv_at hl 0 rfl) ?_
    refine W.lcmp hx hb dM_farther_84 ?_
    refine lv_if_lt (tgt := 117) hx hb dM_farther_85 (by decide) (fun c4 => ?_) (fun c4 => ?_)
    · have h := it_t c4 h
      refine lv_lload hx hb dM_farther_117 (lv_at hl 3 rfl) ?_
      refine lv_lload hx hb dM_farther_119 (lv_at hl 2 rfl) ?_
      refine lv_lload_n hx hb dM_farther_121 rfl (lv_at hl 5 rfl) ?_
      refine lv_lload hx hb dM_farther_122 (lv_at hl 7 rfl) ?_
      refine lv_lsub hx hb dM_farther_124 ?_
      refine lv_lload_n hx hb dM_farther_125 rfl (lv_at hl 6 rfl) ?_
      refine lv_lload hx hb dM_farther_126 (lv_at hl 8 rfl) ?_
      refine lv_lsub hx hb dM_farther_128 ?_
      obtain ⟨u5, hu5, h⟩ := ob_some h
      refine vp_callSl (va_Run.run (va_runS (As := [.long (x9 - x5), .long (x11 - x7), .long (x1 - x5), .long (x3 - x7)]) (rest := []) ⟨hx, hb, hml, hown, hw⟩ (k_M_cross l dC dI cL cI (x9 - x5) (x11 - x7) (x1 - x5) (x3 - x7) u5 hu5) (va_cwS 4 hw (gS w_561 w_562 w_2 w_563) rfl rfl rfl (by decide +kernel) ⟨Nat.le_of_ble_eq_true rfl, Nat.le_of_ble_eq_true rfl⟩) ⟨rd_blind, rd_pre trivial hK⟩ rfl rfl hl.1 rfl (lv_room (Nat.le_of_ble_eq_true rfl)) dM_farther_129 ⟨Nat.le_of_ble_eq_true rfl, Nat.le_of_ble_eq_true rfl⟩)) (fun z hz => ?_)
      rw [hz]; clear hz
      refine lv_lstore (lv' := [(23, .long u5), (21, .long u2), (19, .long u1), (17, .long (x11 - x7)), (15, .long (x9 - x5)), (0, .ref (qm 0)), (1, .long x1), (3, .long x3), (5, .long x5), (7, .long x7), (9, .long x9), (11, .long x11), (13, .long x13)]) hx hb dM_farther_132 hl (by decide) rfl (fun ls hl => ?_)
      refine lv_lload hx hb dM_farther_134 (lv_at hl 0 rfl) ?_
      refine lv_lconst (v := 0) hx hb dM_farther_136 (by decide) ?_
      refine W.lcmp hx hb dM_farther_137 ?_
      refine lv_if_ge (tgt := 148) hx hb dM_farther_138 (by decide) (fun c6 => ?_) (fun c6 => ?_)
      · have h := it_t c6 h
        refine lv_lload hx hb dM_farther_148 (lv_at hl 0 rfl) ?_
        exact k150 v x13 u2 u5 h H locs hPm hD hS ls (lv_sub hl [5, 12, 1] rfl)
      · have h := it_f c6 h
        refine lv_lconst (v := 0) hx hb dM_farther_141 (by decide) ?_
        refine lv_lload hx hb dM_farther_142 (lv_at hl 0 rfl) ?_
        refine lv_lsub hx hb dM_farther_144 ?_
        refine lv_goto (tgt := 150) hx hb dM_farther_145 (by decide) ?_
        exact k150 v x13 u2 ((0 : Int64) - u5) h H locs hPm hD hS ls (lv_sub hl [5, 12, 1] rfl)
    · have h := it_f c4 h
      refine lv_lload_n hx hb dM_farther_88 rfl (lv_at hl 5 rfl) ?_
      refine lv_lload hx hb dM_farther_89 (lv_at hl 9 rfl) ?_
      refine lv_lsub hx hb dM_farther_91 ?_
      refine lv_lload_n hx hb dM_farther_92 rfl (lv_at hl 5 rfl) ?_
      refine lv_lload hx hb dM_farther_93 (lv_at hl 9 rfl) ?_
      refine lv_lsub hx hb dM_farther_95 ?_
      refine lv_lmul hx hb dM_farther_96 ?_
      refine lv_lload_n hx hb dM_farther_97 rfl (lv_at hl 6 rfl) ?_
      refine lv_lload hx hb dM_farther_98 (lv_at hl 10 rfl) ?_
      refine lv_lsub hx hb dM_farther_100 ?_
      refine lv_lload_n hx hb dM_farther_101 rfl (lv_at hl 6 rfl) ?_
      refine lv_lload hx hb dM_farther_102 (lv_at hl 10 rfl) ?_
      refine lv_lsub hx hb dM_farther_104 ?_
      refine lv_lmul hx hb dM_farther_105 ?_
      refine lv_ladd hx hb dM_farther_106 ?_
      refine lv_lload hx hb dM_farther_107 (lv_at hl 11 rfl) ?_
      refine lv_lload hx hb dM_farther_109 (lv_at hl 11 rfl) ?_
      refine lv_lmul hx hb dM_farther_111 ?_
      refine lv_lsub hx hb dM_farther_112 ?_
      obtain ⟨u7, hu7, h⟩ := ob_some h
      refine vp_callSi (va_Run.run (va_runS (As := [.long ((((x1 - x9) * (x1 - x9)) + ((x3 - x11) * (x3 - x11))) - (x13 * x13))]) (rest := []) ⟨hx, hb, hml, hown, hw⟩ (k_M_sign l dC dI cL cI ((((x1 - x9) * (x1 - x9)) + ((x3 - x11) * (x3 - x11))) - (x13 * x13)) u7 hu7) (va_cwS 1 hw (gS w_564 w_565 w_2 w_566) rfl rfl rfl (by decide +kernel) ⟨Nat.le_of_ble_eq_true rfl, Nat.le_of_ble_eq_true rfl⟩) ⟨rd_blind, rd_pre trivial hK⟩ rfl rfl hl.1 rfl (lv_room (Nat.le_of_ble_eq_true rfl)) dM_farther_113 ⟨Nat.le_of_ble_eq_true rfl, Nat.le_of_ble_eq_true rfl⟩)) (fun z hz => ?_)
      rw [hz]; clear hz
      have h := Option.some.inj h
      subst h
      exact W.iret hx hb hr (fun t ht hW => ⟨rfl, by rw [ht]; exact hPm, hS.F ht⟩) hS.2.2 dM_farther_116
  · have h := it_f c3 h
    refine lv_lload_n hx hb dM_farther_51 rfl (lv_at hl 5 rfl) ?_
    refine lv_lload hx hb dM_farther_52 (lv_at hl 7 rfl) ?_
    refine lv_lsub hx hb dM_farther_54 ?_
    refine lv_lload_n hx hb dM_farther_55 rfl (lv_at hl 5 rfl) ?_
    refine lv_lload hx hb dM_farther_56 (lv_at hl 7 rfl) ?_
    refine lv_lsub hx hb dM_farther_58 ?_
    refine lv_lmul hx hb dM_farther_59 ?_
    refine lv_lload_n hx hb dM_farther_60 rfl (lv_at hl 6 rfl) ?_
    refine lv_lload hx hb dM_farther_61 (lv_at hl 8 rfl) ?_
    refine lv_lsub hx hb dM_farther_63 ?_
    refine lv_lload_n hx hb dM_farther_64 rfl (lv_at hl 6 rfl) ?_
    refine lv_lload hx hb dM_farther_65 (lv_at hl 8 rfl) ?_
    refine lv_lsub hx hb dM_farther_67 ?_
    refine lv_lmul hx hb dM_farther_68 ?_
    refine lv_ladd hx hb dM_farther_69 ?_
    refine lv_lload hx hb dM_farther_70 (lv_at hl 11 rfl) ?_
    refine lv_lload hx hb dM_farther_72 (lv_at hl 11 rfl) ?_
    refine lv_lmul hx hb dM_farther_74 ?_
    refine lv_lsub hx hb dM_farther_75 ?_
    obtain ⟨u8, hu8, h⟩ := ob_some h
    refine vp_callSi (va_Run.run (va_runS (As := [.long ((((x1 - x5) * (x1 - x5)) + ((x3 - x7) * (x3 - x7))) - (x13 * x13))]) (rest := []) ⟨hx, hb, hml, hown, hw⟩ (k_M_sign l dC dI cL cI ((((x1 - x5) * (x1 - x5)) + ((x3 - x7) * (x3 - x7))) - (x13 * x13)) u8 hu8) (va_cwS 1 hw (gS w_564 w_565 w_2 w_566) rfl rfl rfl (by decide +kernel) ⟨Nat.le_of_ble_eq_true rfl, Nat.le_of_ble_eq_true rfl⟩) ⟨rd_blind, rd_pre trivial hK⟩ rfl rfl hl.1 rfl (lv_room (Nat.le_of_ble_eq_true rfl)) dM_farther_76 ⟨Nat.le_of_ble_eq_true rfl, Nat.le_of_ble_eq_true rfl⟩)) (fun z hz => ?_)
    rw [hz]; clear hz
    have h := Option.some.inj h
    subst h
    exact W.iret hx hb hr (fun t ht hW => ⟨rfl, by rw [ht]; exact hPm, hS.F ht⟩) hS.2.2 dM_farther_79
theorem dM_apart_0 : decode cM_apart 0 = .ok (.aload_n 0, 1) := by decide +kernel
theorem dM_apart_1 : decode cM_apart 1 = .ok (.aload_n 0, 1) := by decide +kernel
theorem dM_apart_2 : decode cM_apart 2 = .ok (.getfield 32, 3) := by decide +kernel
theorem dM_apart_5 : decode cM_apart 5 = .ok (.iload_n 1, 1) := by decide +kernel
theorem dM_apart_6 : decode cM_apart 6 = .ok (.laload, 1) := by decide +kernel
theorem dM_apart_7 : decode cM_apart 7 = .ok (.aload_n 0, 1) := by decide +kernel
theorem dM_apart_8 : decode cM_apart 8 = .ok (.getfield 35, 3) := by decide +kernel
theorem dM_apart_11 : decode cM_apart 11 = .ok (.iload_n 1, 1) := by decide +kernel
theorem dM_apart_12 : decode cM_apart 12 = .ok (.laload, 1) := by decide +kernel
theorem dM_apart_13 : decode cM_apart 13 = .ok (.aload_n 0, 1) := by decide +kernel
theorem dM_apart_14 : decode cM_apart 14 = .ok (.getfield 32, 3) := by decide +kernel
theorem dM_apart_17 : decode cM_apart 17 = .ok (.iload_n 2, 1) := by decide +kernel
theorem dM_apart_18 : decode cM_apart 18 = .ok (.laload, 1) := by decide +kernel
theorem dM_apart_19 : decode cM_apart 19 = .ok (.aload_n 0, 1) := by decide +kernel
theorem dM_apart_20 : decode cM_apart 20 = .ok (.getfield 35, 3) := by decide +kernel
theorem dM_apart_23 : decode cM_apart 23 = .ok (.iload_n 2, 1) := by decide +kernel
theorem dM_apart_24 : decode cM_apart 24 = .ok (.laload, 1) := by decide +kernel
theorem dM_apart_25 : decode cM_apart 25 = .ok (.aload_n 0, 1) := by decide +kernel
theorem dM_apart_26 : decode cM_apart 26 = .ok (.getfield 38, 3) := by decide +kernel
theorem dM_apart_29 : decode cM_apart 29 = .ok (.iload_n 2, 1) := by decide +kernel
theorem dM_apart_30 : decode cM_apart 30 = .ok (.laload, 1) := by decide +kernel
theorem dM_apart_31 : decode cM_apart 31 = .ok (.aload_n 0, 1) := by decide +kernel
theorem dM_apart_32 : decode cM_apart 32 = .ok (.getfield 41, 3) := by decide +kernel
theorem dM_apart_35 : decode cM_apart 35 = .ok (.iload_n 2, 1) := by decide +kernel
theorem dM_apart_36 : decode cM_apart 36 = .ok (.laload, 1) := by decide +kernel
theorem dM_apart_37 : decode cM_apart 37 = .ok (.lload_n 3, 1) := by decide +kernel
theorem dM_apart_38 : decode cM_apart 38 = .ok (.invokevirtual 157, 3) := by decide +kernel
theorem dM_apart_41 : decode cM_apart 41 = .ok (.istore 5, 2) := by decide +kernel
theorem dM_apart_43 : decode cM_apart 43 = .ok (.aload_n 0, 1) := by decide +kernel
theorem dM_apart_44 : decode cM_apart 44 = .ok (.aload_n 0, 1) := by decide +kernel
theorem dM_apart_45 : decode cM_apart 45 = .ok (.getfield 38, 3) := by decide +kernel
theorem dM_apart_48 : decode cM_apart 48 = .ok (.iload_n 1, 1) := by decide +kernel
theorem dM_apart_49 : decode cM_apart 49 = .ok (.laload, 1) := by decide +kernel
theorem dM_apart_50 : decode cM_apart 50 = .ok (.aload_n 0, 1) := by decide +kernel
theorem dM_apart_51 : decode cM_apart 51 = .ok (.getfield 41, 3) := by decide +kernel
theorem dM_apart_54 : decode cM_apart 54 = .ok (.iload_n 1, 1) := by decide +kernel
theorem dM_apart_55 : decode cM_apart 55 = .ok (.laload, 1) := by decide +kernel
theorem dM_apart_56 : decode cM_apart 56 = .ok (.aload_n 0, 1) := by decide +kernel
theorem dM_apart_57 : decode cM_apart 57 = .ok (.getfield 32, 3) := by decide +kernel
theorem dM_apart_60 : decode cM_apart 60 = .ok (.iload_n 2, 1) := by decide +kernel
theorem dM_apart_61 : decode cM_apart 61 = .ok (.laload, 1) := by decide +kernel
theorem dM_apart_62 : decode cM_apart 62 = .ok (.aload_n 0, 1) := by decide +kernel
theorem dM_apart_63 : decode cM_apart 63 = .ok (.getfield 35, 3) := by decide +kernel
theorem dM_apart_66 : decode cM_apart 66 = .ok (.iload_n 2, 1) := by decide +kernel
theorem dM_apart_67 : decode cM_apart 67 = .ok (.laload, 1) := by decide +kernel
theorem dM_apart_68 : decode cM_apart 68 = .ok (.aload_n 0, 1) := by decide +kernel
theorem dM_apart_69 : decode cM_apart 69 = .ok (.getfield 38, 3) := by decide +kernel
theorem dM_apart_72 : decode cM_apart 72 = .ok (.iload_n 2, 1) := by decide +kernel
theorem dM_apart_73 : decode cM_apart 73 = .ok (.laload, 1) := by decide +kernel
theorem dM_apart_74 : decode cM_apart 74 = .ok (.aload_n 0, 1) := by decide +kernel
theorem dM_apart_75 : decode cM_apart 75 = .ok (.getfield 41, 3) := by decide +kernel
theorem dM_apart_78 : decode cM_apart 78 = .ok (.iload_n 2, 1) := by decide +kernel
theorem dM_apart_79 : decode cM_apart 79 = .ok (.laload, 1) := by decide +kernel
theorem dM_apart_80 : decode cM_apart 80 = .ok (.lload_n 3, 1) := by decide +kernel
theorem dM_apart_81 : decode cM_apart 81 = .ok (.invokevirtual 157, 3) := by decide +kernel
theorem dM_apart_84 : decode cM_apart 84 = .ok (.istore 6, 2) := by decide +kernel
theorem dM_apart_86 : decode cM_apart 86 = .ok (.aload_n 0, 1) := by decide +kernel
theorem dM_apart_87 : decode cM_apart 87 = .ok (.aload_n 0, 1) := by decide +kernel
theorem dM_apart_88 : decode cM_apart 88 = .ok (.getfield 32, 3) := by decide +kernel
theorem dM_apart_91 : decode cM_apart 91 = .ok (.iload_n 2, 1) := by decide +kernel
theorem dM_apart_92 : decode cM_apart 92 = .ok (.laload, 1) := by decide +kernel
theorem dM_apart_93 : decode cM_apart 93 = .ok (.aload_n 0, 1) := by decide +kernel
theorem dM_apart_94 : decode cM_apart 94 = .ok (.getfield 35, 3) := by decide +kernel
theorem dM_apart_97 : decode cM_apart 97 = .ok (.iload_n 2, 1) := by decide +kernel
theorem dM_apart_98 : decode cM_apart 98 = .ok (.laload, 1) := by decide +kernel
theorem dM_apart_99 : decode cM_apart 99 = .ok (.aload_n 0, 1) := by decide +kernel
theorem dM_apart_100 : decode cM_apart 100 = .ok (.getfield 32, 3) := by decide +kernel
theorem dM_apart_103 : decode cM_apart 103 = .ok (.iload_n 1, 1) := by decide +kernel
theorem dM_apart_104 : decode cM_apart 104 = .ok (.laload, 1) := by decide +kernel
theorem dM_apart_105 : decode cM_apart 105 = .ok (.aload_n 0, 1) := by decide +kernel
theorem dM_apart_106 : decode cM_apart 106 = .ok (.getfield 35, 3) := by decide +kernel
theorem dM_apart_109 : decode cM_apart 109 = .ok (.iload_n 1, 1) := by decide +kernel
theorem dM_apart_110 : decode cM_apart 110 = .ok (.laload, 1) := by decide +kernel
theorem dM_apart_111 : decode cM_apart 111 = .ok (.aload_n 0, 1) := by decide +kernel
theorem dM_apart_112 : decode cM_apart 112 = .ok (.getfield 38, 3) := by decide +kernel
theorem dM_apart_115 : decode cM_apart 115 = .ok (.iload_n 1, 1) := by decide +kernel
theorem dM_apart_116 : decode cM_apart 116 = .ok (.laload, 1) := by decide +kernel
theorem dM_apart_117 : decode cM_apart 117 = .ok (.aload_n 0, 1) := by decide +kernel
theorem dM_apart_118 : decode cM_apart 118 = .ok (.getfield 41, 3) := by decide +kernel
theorem dM_apart_121 : decode cM_apart 121 = .ok (.iload_n 1, 1) := by decide +kernel
theorem dM_apart_122 : decode cM_apart 122 = .ok (.laload, 1) := by decide +kernel
theorem dM_apart_123 : decode cM_apart 123 = .ok (.lload_n 3, 1) := by decide +kernel
theorem dM_apart_124 : decode cM_apart 124 = .ok (.invokevirtual 157, 3) := by decide +kernel
theorem dM_apart_127 : decode cM_apart 127 = .ok (.istore 7, 2) := by decide +kernel
theorem dM_apart_129 : decode cM_apart 129 = .ok (.aload_n 0, 1) := by decide +kernel
theorem dM_apart_130 : decode cM_apart 130 = .ok (.aload_n 0, 1) := by decide +kernel
theorem dM_apart_131 : decode cM_apart 131 = .ok (.getfield 38, 3) := by decide +kernel
theorem dM_apart_134 : decode cM_apart 134 = .ok (.iload_n 2, 1) := by decide +kernel
theorem dM_apart_135 : decode cM_apart 135 = .ok (.laload, 1) := by decide +kernel
theorem dM_apart_136 : decode cM_apart 136 = .ok (.aload_n 0, 1) := by decide +kernel
theorem dM_apart_137 : decode cM_apart 137 = .ok (.getfield 41, 3) := by decide +kernel
theorem dM_apart_140 : decode cM_apart 140 = .ok (.iload_n 2, 1) := by decide +kernel
theorem dM_apart_141 : decode cM_apart 141 = .ok (.laload, 1) := by decide +kernel
theorem dM_apart_142 : decode cM_apart 142 = .ok (.aload_n 0, 1) := by decide +kernel
theorem dM_apart_143 : decode cM_apart 143 = .ok (.getfield 32, 3) := by decide +kernel
theorem dM_apart_146 : decode cM_apart 146 = .ok (.iload_n 1, 1) := by decide +kernel
theorem dM_apart_147 : decode cM_apart 147 = .ok (.laload, 1) := by decide +kernel
theorem dM_apart_148 : decode cM_apart 148 = .ok (.aload_n 0, 1) := by decide +kernel
theorem dM_apart_149 : decode cM_apart 149 = .ok (.getfield 35, 3) := by decide +kernel
theorem dM_apart_152 : decode cM_apart 152 = .ok (.iload_n 1, 1) := by decide +kernel
theorem dM_apart_153 : decode cM_apart 153 = .ok (.laload, 1) := by decide +kernel
theorem dM_apart_154 : decode cM_apart 154 = .ok (.aload_n 0, 1) := by decide +kernel
theorem dM_apart_155 : decode cM_apart 155 = .ok (.getfield 38, 3) := by decide +kernel
theorem dM_apart_158 : decode cM_apart 158 = .ok (.iload_n 1, 1) := by decide +kernel
theorem dM_apart_159 : decode cM_apart 159 = .ok (.laload, 1) := by decide +kernel
theorem dM_apart_160 : decode cM_apart 160 = .ok (.aload_n 0, 1) := by decide +kernel
theorem dM_apart_161 : decode cM_apart 161 = .ok (.getfield 41, 3) := by decide +kernel
theorem dM_apart_164 : decode cM_apart 164 = .ok (.iload_n 1, 1) := by decide +kernel
theorem dM_apart_165 : decode cM_apart 165 = .ok (.laload, 1) := by decide +kernel
theorem dM_apart_166 : decode cM_apart 166 = .ok (.lload_n 3, 1) := by decide +kernel
theorem dM_apart_167 : decode cM_apart 167 = .ok (.invokevirtual 157, 3) := by decide +kernel
theorem dM_apart_170 : decode cM_apart 170 = .ok (.istore 8, 2) := by decide +kernel
theorem dM_apart_172 : decode cM_apart 172 = .ok (.iload 5, 2) := by decide +kernel
theorem dM_apart_174 : decode cM_apart 174 = .ok (.iload 6, 2) := by decide +kernel
theorem dM_apart_176 : decode cM_apart 176 = .ok (.if_icmp .ge 8, 3) := by decide +kernel
theorem dM_apart_179 : decode cM_apart 179 = .ok (.iload 5, 2) := by decide +kernel
theorem dM_apart_181 : decode cM_apart 181 = .ok (.goto 5, 3) := by decide +kernel
theorem dM_apart_184 : decode cM_apart 184 = .ok (.iload 6, 2) := by decide +kernel
theorem dM_apart_186 : decode cM_apart 186 = .ok (.istore 9, 2) := by decide +kernel
theorem dM_apart_188 : decode cM_apart 188 = .ok (.iload 7, 2) := by decide +kernel
theorem dM_apart_190 : decode cM_apart 190 = .ok (.iload 8, 2) := by decide +kernel
theorem dM_apart_192 : decode cM_apart 192 = .ok (.if_icmp .ge 8, 3) := by decide +kernel
theorem dM_apart_195 : decode cM_apart 195 = .ok (.iload 7, 2) := by decide +kernel
theorem dM_apart_197 : decode cM_apart 197 = .ok (.goto 5, 3) := by decide +kernel
theorem dM_apart_200 : decode cM_apart 200 = .ok (.iload 8, 2) := by decide +kernel
theorem dM_apart_202 : decode cM_apart 202 = .ok (.istore 10, 2) := by decide +kernel
theorem dM_apart_204 : decode cM_apart 204 = .ok (.iload 9, 2) := by decide +kernel
theorem dM_apart_206 : decode cM_apart 206 = .ok (.iload 10, 2) := by decide +kernel
theorem dM_apart_208 : decode cM_apart 208 = .ok (.if_icmp .ge 8, 3) := by decide +kernel
theorem dM_apart_211 : decode cM_apart 211 = .ok (.iload 9, 2) := by decide +kernel
theorem dM_apart_213 : decode cM_apart 213 = .ok (.goto 5, 3) := by decide +kernel
theorem dM_apart_216 : decode cM_apart 216 = .ok (.iload 10, 2) := by decide +kernel
theorem dM_apart_218 : decode cM_apart 218 = .ok (.ireturn, 1) := by decide +kernel
def f_M_apart_j218 (vv : MV) (s0 : Int32) : Option (Int32 × MV) := some (s0, vv)
def f_M_apart_j202 (vv : MV) (p9 : Int32) (s0 : Int32) : Option (Int32 × MV) := (if s0 ≤ p9 then (f_M_apart_j218 vv s0) else (f_M_apart_j218 vv p9))
def f_M_apart_j186 (vv : MV) (p7 : Int32) (p8 : Int32) (s0 : Int32) : Option (Int32 × MV) := (if p8 ≤ p7 then (f_M_apart_j202 vv s0 p8) else (f_M_apart_j202 vv s0 p7))
def f_M_apart (v : MV) (x1 : Int32) (x2 : Int32) (x3 : Int64) : Option (Int32 × MV) := (ld 96 (md_ax v) x1).bind fun u1 => (ld 96 (md_ay v) x1).bind fun u2 => (ld 96 (md_ax v) x2).bind fun u3 => (ld 96 (md_ay v) x2).bind fun u4 => (ld 96 (md_bx v) x2).bind fun u5 => (ld 96 (md_by v) x2).bind fun u6 => (f_M_farther v u1 u2 u3 u4 u5 u6 x3).bind fun u7 => (ld 96 (md_bx u7.2) x1).bind fun u8 => (ld 96 (md_by u7.2) x1).bind fun u9 => (ld 96 (md_ax u7.2) x2).bind fun u10 => (ld 96 (md_ay u7.2) x2).bind fun u11 => (ld 96 (md_bx u7.2) x2).bind fun u12 => (ld 96 (md_by u7.2) x2).bind fun u13 => (f_M_farther u7.2 u8 u9 u10 u11 u12 u13 x3).bind fun u14 => (ld 96 (md_ax u14.2) x2).bind fun u15 => (ld 96 (md_ay u14.2) x2).bind fun u16 => (ld 96 (md_ax u14.2) x1).bind fun u17 => (ld 96 (md_ay u14.2) x1).bind fun u18 => (ld 96 (md_bx u14.2) x1).bind fun u19 => (ld 96 (md_by u14.2) x1).bind fun u20 => (f_M_farther u14.2 u15 u16 u17 u18 u19 u20 x3).bind fun u21 => (ld 96 (md_bx u21.2) x2).bind fun u22 => (ld 96 (md_by u21.2) x2).bind fun u23 => (ld 96 (md_ax u21.2) x1).bind fun u24 => (ld 96 (md_ay u21.2) x1).bind fun u25 => (ld 96 (md_bx u21.2) x1).bind fun u26 => (ld 96 (md_by u21.2) x1).bind fun u27 => (f_M_farther u21.2 u22 u23 u24 u25 u26 u27 x3).bind fun u28 => (if u14.1 ≤ u7.1 then (f_M_apart_j186 u28.2 u21.1 u28.1 u14.1) else (f_M_apart_j186 u28.2 u21.1 u28.1 u7.1))
set_option maxHeartbeats 4000000 in
set_option maxRecDepth 100000 in
theorem k_M_apart (l : Launch) (dC : Nat → ClassId) (dI : Nat → Nat → Nat) (cL cI : ClassId) (qm : Nat → Nat) (v : MV) (x1 : Int32) (x2 : Int32) (x3 : Int64) (r : (Int32 × MV)) (h : f_M_apart v x1 x2 x3 = some r) : Met l yM_apart wsM_apart ({ frames := 3, cells := 0, slots := 0, locals := 118 }) (rd_Pc [.ref (qm 0), .int x1, .int x2, .long x3] (fun H => va_P (dC, dI) cls3 (mdW cL cI qm v) H ∧ va_D (inQ qm) (mdW cL cI qm v)) (dC, dI) cls3 [(cL, .long), (cI, .int)]) (mu_Q (some (.int r.1)) (dC, dI) cls3 (mdW cL cI qm r.2) (inQ qm)) 0 0 (inQ qm) := by
  refine Met.ofW (cc := cM_apart) (maxL := 11) (ret := (some .int)) (by decide) rfl ?_
  intro p e s m args below meth c s₁ B hml hv
  obtain ⟨rfl, ⟨hPm, hD⟩, hK⟩ := hv
  have hx := B.exec
  have hb := B.bytes
  have hr := B.returns
  have hw : ∀ w ∈ wG, w.before ([.ref (qm 0), .int x1, .int x2, .long x3] : List Value).toArray s = true := fun w hq => atoms_spec (ws := wsM_apart) B.pre w (List.mem_cons_of_mem _ hq)
  have hown : s.vm.findClass R_M = some m.cls := findClass_of_methodNamed B.named
  have hlocks := B.notSynchronized
  have hl := lv_entry ([.ref (qm 0), .int x1, .int x2, .long x3] : List Value) (n := 11) (Nat.le_of_ble_eq_true rfl)
  rw [lg_entry_eq]
  generalize (lg_sl ([.ref (qm 0), .int x1, .int x2, .long x3] : List Value) ++ List.replicate (11 - (lg_sl ([.ref (qm 0), .int x1, .int x2, .long x3] : List Value)).length) Slot.unset).toArray = ls at hl ⊢
  have hl : lv_has ls 11 [(0, .ref (qm 0)), (1, .int x1), (2, .int x2), (3, .long x3)] := hl
  have k218 : ∀ (vv : MV) (s0 : Int32), f_M_apart_j218 vv s0 = some r → ∀ (H : Heap) (locs : List Loc), va_P (dC, dI) cls3 (mdW cL cI qm vv) H → va_D (inQ qm) (mdW cL cI qm vv) → va_S (inQ qm) s.heap H locs → ∀ (ls : Array Slot), lv_has ls 11 [] → W p l e (headSpec wsM_apart ({ frames := 3, cells := 0, slots := 0, locals := 118 })).room s m ([.ref (qm 0), .int x1, .int x2, .long x3] : List Value).toArray below meth c H locs 0 0 (MQ below (mu_Q (some (.int r.1)) (dC, dI) cls3 (mdW cL cI qm r.2) (inQ qm)) ([.ref (qm 0), .int x1, .int x2, .long x3] : List Value).toArray s 0 0 (inQ qm)) (F0 m 218 ls [.int s0]) := by
    intro vv s0 h H locs hPm hD hS ls hl
    unfold f_M_apart_j218 at h
    have h := Option.some.inj h
    subst h
    exact W.iret hx hb hr (fun t ht hW => ⟨rfl, by rw [ht]; exact hPm, hS.F ht⟩) hS.2.2 dM_apart_218
  have k202 : ∀ (vv : MV) (p9 : Int32) (s0 : Int32), f_M_apart_j202 vv p9 s0 = some r → ∀ (H : Heap) (locs : List Loc), va_P (dC, dI) cls3 (mdW cL cI qm vv) H → va_D (inQ qm) (mdW cL cI qm vv) → va_S (inQ qm) s.heap H locs → ∀ (ls : Array Slot), lv_has ls 11 [(9, .int p9)] → W p l e (headSpec wsM_apart ({ frames := 3, cells := 0, slots := 0, locals := 118 })).room s m ([.ref (qm 0), .int x1, .int x2, .long x3] : List Value).toArray below meth c H locs 0 0 (MQ below (mu_Q (some (.int r.1)) (dC, dI) cls3 (mdW cL cI qm r.2) (inQ qm)) ([.ref (qm 0), .int x1, .int x2, .long x3] : List Value).toArray s 0 0 (inQ qm)) (F0 m 202 ls [.int s0]) := by
    intro vv p9 s0 h H locs hPm hD hS ls hl
    unfold f_M_apart_j202 at h
    refine lv_istore (lv' := [(10, .int s0), (9, .int p9)]) hx hb dM_apart_202 hl (by decide) rfl (fun ls hl => ?_)
    refine lv_iload hx hb dM_apart_204 (lv_at hl 1 rfl) ?_
    refine lv_iload hx hb dM_apart_206 (lv_at hl 0 rfl) ?_
    refine lv_icmp_ge (tgt := 216) hx hb dM_apart_208 (by decide) (fun c31 => ?_) (fun c31 => ?_)
    · have h := it_t c31 h
      refine lv_iload hx hb dM_apart_216 (lv_at hl 0 rfl) ?_
      exact k218 vv s0 h H locs hPm hD hS ls (lv_sub hl [] rfl)
    · have h := it_f c31 h
      refine lv_iload hx hb dM_apart_211 (lv_at hl 1 rfl) ?_
      refine lv_goto (tgt := 218) hx hb dM_apart_213 (by decide) ?_
      exact k218 vv p9 h H locs hPm hD hS ls (lv_sub hl [] rfl)
  have k186 : ∀ (vv : MV) (p7 : Int32) (p8 : Int32) (s0 : Int32), f_M_apart_j186 vv p7 p8 s0 = some r → ∀ (H : Heap) (locs : List Loc), va_P (dC, dI) cls3 (mdW cL cI qm vv) H → va_D (inQ qm) (mdW cL cI qm vv) → va_S (inQ qm) s.heap H locs → ∀ (ls : Array Slot), lv_has ls 11 [(7, .int p7), (8, .int p8)] → W p l e (headSpec wsM_apart ({ frames := 3, cells := 0, slots := 0, locals := 118 })).room s m ([.ref (qm 0), .int x1, .int x2, .long x3] : List Value).toArray below meth c H locs 0 0 (MQ below (mu_Q (some (.int r.1)) (dC, dI) cls3 (mdW cL cI qm r.2) (inQ qm)) ([.ref (qm 0), .int x1, .int x2, .long x3] : List Value).toArray s 0 0 (inQ qm)) (F0 m 186 ls [.int s0]) := by
    intro vv p7 p8 s0 h H locs hPm hD hS ls hl
    unfold f_M_apart_j186 at h
    refine lv_istore (lv' := [(9, .int s0), (7, .int p7), (8, .int p8)]) hx hb dM_apart_186 hl (by decide) rfl (fun ls hl => ?_)
    refine lv_iload hx hb dM_apart_188 (lv_at hl 1 rfl) ?_
    refine lv_iload hx hb dM_apart_190 (lv_at hl 2 rfl) ?_
    refine lv_icmp_ge (tgt := 200) hx hb dM_apart_192 (by decide) (fun c30 => ?_) (fun c30 => ?_)
    · have h := it_t c30 h
      refine lv_iload hx hb dM_apart_200 (lv_at hl 2 rfl) ?_
      exact k202 vv s0 p8 h H locs hPm hD hS ls (lv_sub hl [0] rfl)
    · have h := it_f c30 h
      refine lv_iload hx hb dM_apart_195 (lv_at hl 1 rfl) ?_
      refine lv_goto (tgt := 202) hx hb dM_apart_197 (by decide) ?_
      exact k202 vv s0 p7 h H locs hPm hD hS ls (lv_sub hl [0] rfl)
  have hS : va_S (inQ qm) s.heap s.heap [] := va_S.rf
  obtain ⟨H, hH⟩ : ∃ H : Heap, H = s.heap := ⟨_, rfl⟩
  obtain ⟨locs, hlocs⟩ : ∃ L : List Loc, L = [] := ⟨_, rfl⟩
  suffices hgo : W p l e (headSpec wsM_apart ({ frames := 3, cells := 0, slots := 0, locals := 118 })).room s m ([.ref (qm 0), .int x1, .int x2, .long x3] : List Value).toArray below meth c H locs 0 0 (MQ below (mu_Q (some (.int r.1)) (dC, dI) cls3 (mdW cL cI qm r.2) (inQ qm)) ([.ref (qm 0), .int x1, .int x2, .long x3] : List Value).toArray s 0 0 (inQ qm)) (F0 m 0 ls []) by rw [hH, hlocs] at hgo; exact hgo
  rw [← hH] at hPm
  have hS : va_S (inQ qm) s.heap H locs := by rw [hH, hlocs]; exact hS
  clear hH hlocs
  unfold f_M_apart at h
  refine lv_aload_n hx hb dM_apart_0 rfl (lv_at hl 0 rfl) ?_
  refine lv_aload_n hx hb dM_apart_1 rfl (lv_at hl 0 rfl) ?_
  refine va_get (D := (dC, dI)) (ci := 2) (v := .ref (qm 8)) (C := R_M) (T := T_M) (N := 15) hx hb hw in_M hown hK hPm 0 rfl rfl 9 (by decide) (hw _ w_454) (fun _ h9 => h9) rfl dM_apart_2 ?_
  refine lv_iload_n hx hb dM_apart_5 rfl (lv_at hl 1 rfl) ?_
  obtain ⟨u1, hu1, h⟩ := ob_some h
  obtain ⟨hiu1, eu1⟩ := ld_of hu1
  refine va_lald hx hb hK hPm 8 0 rfl rfl hiu1 dM_apart_6 ?_
  rw [eu1]
  refine lv_aload_n hx hb dM_apart_7 rfl (lv_at hl 0 rfl) ?_
  refine va_get (D := (dC, dI)) (ci := 2) (v := .ref (qm 9)) (C := R_M) (T := T_M) (N := 15) hx hb hw in_M hown hK hPm 0 rfl rfl 10 (by decide) (hw _ w_455) (fun _ h9 => h9) rfl dM_apart_8 ?_
  refine lv_iload_n hx hb dM_apart_11 rfl (lv_at hl 1 rfl) ?_
  obtain ⟨u2, hu2, h⟩ := ob_some h
  obtain ⟨hiu2, eu2⟩ := ld_of hu2
  refine va_lald hx hb hK hPm 9 0 rfl rfl hiu2 dM_apart_12 ?_
  rw [eu2]
  refine lv_aload_n hx hb dM_apart_13 rfl (lv_at hl 0 rfl) ?_
  refine va_get (D := (dC, dI)) (ci := 2) (v := .ref (qm 8)) (C := R_M) (T := T_M) (N := 15) hx hb hw in_M hown hK hPm 0 rfl rfl 9 (by decide) (hw _ w_454) (fun _ h9 => h9) rfl dM_apart_14 ?_
  refine lv_iload_n hx hb dM_apart_17 rfl (lv_at hl 2 rfl) ?_
  obtain ⟨u3, hu3, h⟩ := ob_some h
  obtain ⟨hiu3, eu3⟩ := ld_of hu3
  refine va_lald hx hb hK hPm 8 0 rfl rfl hiu3 dM_apart_18 ?_
  rw [eu3]
  refine lv_aload_n hx hb dM_apart_19 rfl (lv_at hl 0 rfl) ?_
  refine va_get (D := (dC, dI)) (ci := 2) (v := .ref (qm 9)) (C := R_M) (T := T_M) (N := 15) hx hb hw in_M hown hK hPm 0 rfl rfl 10 (by decide) (hw _ w_455) (fun _ h9 => h9) rfl dM_apart_20 ?_
  refine lv_iload_n hx hb dM_apart_23 rfl (lv_at hl 2 rfl) ?_
  obtain ⟨u4, hu4, h⟩ := ob_some h
  obtain ⟨hiu4, eu4⟩ := ld_of hu4
  refine va_lald hx hb hK hPm 9 0 rfl rfl hiu4 dM_apart_24 ?_
  rw [eu4]
  refine lv_aload_n hx hb dM_apart_25 rfl (lv_at hl 0 rfl) ?_
  refine va_get (D := (dC, dI)) (ci := 2) (v := .ref (qm 10)) (C := R_M) (T := T_M) (N := 15) hx hb hw in_M hown hK hPm 0 rfl rfl 11 (by decide) (hw _ w_456) (fun _ h9 => h9) rfl dM_apart_26 ?_
  refine lv_iload_n hx hb dM_apart_29 rfl (lv_at hl 2 rfl) ?_
  obtain ⟨u5, hu5, h⟩ := ob_some h
  obtain ⟨hiu5, eu5⟩ := ld_of hu5
  refine va_lald hx hb hK hPm 10 0 rfl rfl hiu5 dM_apart_30 ?_
  rw [eu5]
  refine lv_aload_n hx hb dM_apart_31 rfl (lv_at hl 0 rfl) ?_
  refine va_get (D := (dC, dI)) (ci := 2) (v := .ref (qm 11)) (C := R_M) (T := T_M) (N := 15) hx hb hw in_M hown hK hPm 0 rfl rfl 12 (by decide) (hw _ w_457) (fun _ h9 => h9) rfl dM_apart_32 ?_
  refine lv_iload_n hx hb dM_apart_35 rfl (lv_at hl 2 rfl) ?_
  obtain ⟨u6, hu6, h⟩ := ob_some h
  obtain ⟨hiu6, eu6⟩ := ld_of hu6
  refine va_lald hx hb hK hPm 11 0 rfl rfl hiu6 dM_apart_36 ?_
  rw [eu6]
  refine lv_lload_n hx hb dM_apart_37 rfl (lv_at hl 3 rfl) ?_
  obtain ⟨u7, hu7, h⟩ := ob_some h
  refine mu_call (va_runV (As := [.long u1, .long u2, .long u3, .long u4, .long u5, .long u6, .long x3]) (rest := []) ⟨hx, hb, hml, hown, hw⟩ (k_M_farther l dC dI cL cI qm v u1 u2 u3 u4 u5 u6 x3 u7 hu7) (cwV 7 hw (gV w_627 w_629 wp_24 w_2 w_630) rfl rfl rfl (by decide +kernel) ⟨Nat.le_of_ble_eq_true rfl, Nat.le_of_ble_eq_true rfl⟩) ⟨rd_blind, va_recv hK hPm (ci := 2) (q0 := 0) rfl rfl, rd_pre ⟨hPm, hD⟩ hK⟩ rfl rfl hl.1 rfl (lv_room (Nat.le_of_ble_eq_true rfl)) dM_apart_38 ⟨Nat.le_of_ble_eq_true rfl, Nat.le_of_ble_eq_true rfl⟩) hS (fun _ z => z) (fun H locs hPm hS _ _ => ?_)
  have hD := md_D (u7.2) hD
  refine lv_istore (lv' := [(5, .int u7.1), (0, .ref (qm 0)), (1, .int x1), (2, .int x2), (3, .long x3)]) hx hb dM_apart_41 hl (by decide) rfl (fun ls hl => ?_)
  refine lv_aload_n hx hb dM_apart_43 rfl (lv_at hl 1 rfl) ?_
  refine lv_aload_n hx hb dM_apart_44 rfl (lv_at hl 1 rfl) ?_
  refine va_get (D := (dC, dI)) (ci := 2) (v := .ref (qm 10)) (C := R_M) (T := T_M) (N := 15) hx hb hw in_M hown hK hPm 0 rfl rfl 11 (by decide) (hw _ w_456) (fun _ h9 => h9) rfl dM_apart_45 ?_
  refine lv_iload_n hx hb dM_apart_48 rfl (lv_at hl 2 rfl) ?_
  obtain ⟨u8, hu8, h⟩ := ob_some h
  obtain ⟨hiu8, eu8⟩ := ld_of hu8
  refine va_lald hx hb hK hPm 10 0 rfl rfl hiu8 dM_apart_49 ?_
  rw [eu8]
  refine lv_aload_n hx hb dM_apart_50 rfl (lv_at hl 1 rfl) ?_
  refine va_get (D := (dC, dI)) (ci := 2) (v := .ref (qm 11)) (C := R_M) (T := T_M) (N := 15) hx hb hw in_M hown hK hPm 0 rfl rfl 12 (by decide) (hw _ w_457) (fun _ h9 => h9) rfl dM_apart_51 ?_
  refine lv_iload_n hx hb dM_apart_54 rfl (lv_at hl 2 rfl) ?_
  obtain ⟨u9, hu9, h⟩ := ob_some h
  obtain ⟨hiu9, eu9⟩ := ld_of hu9
  refine va_lald hx hb hK hPm 11 0 rfl rfl hiu9 dM_apart_55 ?_
  rw [eu9]
  refine lv_aload_n hx hb dM_apart_56 rfl (lv_at hl 1 rfl) ?_
  refine va_get (D := (dC, dI)) (ci := 2) (v := .ref (qm 8)) (C := R_M) (T := T_M) (N := 15) hx hb hw in_M hown hK hPm 0 rfl rfl 9 (by decide) (hw _ w_454) (fun _ h9 => h9) rfl dM_apart_57 ?_
  refine lv_iload_n hx hb dM_apart_60 rfl (lv_at hl 3 rfl) ?_
  obtain ⟨u10, hu10, h⟩ := ob_some h
  obtain ⟨hiu10, eu10⟩ := ld_of hu10
  refine va_lald hx hb hK hPm 8 0 rfl rfl hiu10 dM_apart_61 ?_
  rw [eu10]
  refine lv_aload_n hx hb dM_apart_62 rfl (lv_at hl 1 rfl) ?_
  refine va_get (D := (dC, dI)) (ci := 2) (v := .ref (qm 9)) (C := R_M) (T := T_M) (N := 15) hx hb hw in_M hown hK hPm 0 rfl rfl 10 (by decide) (hw _ w_455) (fun _ h9 => h9) rfl dM_apart_63 ?_
  refine lv_iload_n hx hb dM_apart_66 rfl (lv_at hl 3 rfl) ?_
  obtain ⟨u11, hu11, h⟩ := ob_some h
  obtain ⟨hiu11, eu11⟩ := ld_of hu11
  refine va_lald hx hb hK hPm 9 0 rfl rfl hiu11 dM_apart_67 ?_
  rw [eu11]
  refine lv_aload_n hx hb dM_apart_68 rfl (lv_at hl 1 rfl) ?_
  refine va_get (D := (dC, dI)) (ci := 2) (v := .ref (qm 10)) (C := R_M) (T := T_M) (N := 15) hx hb hw in_M hown hK hPm 0 rfl rfl 11 (by decide) (hw _ w_456) (fun _ h9 => h9) rfl dM_apart_69 ?_
  refine lv_iload_n hx hb dM_apart_72 rfl (lv_at hl 3 rfl) ?_
  obtain ⟨u12, hu12, h⟩ := ob_some h
  obtain ⟨hiu12, eu12⟩ := ld_of hu12
  refine va_lald hx hb hK hPm 10 0 rfl rfl hiu12 dM_apart_73 ?_
  rw [eu12]
  refine lv_aload_n hx hb dM_apart_74 rfl (lv_at hl 1 rfl) ?_
  refine va_get (D := (dC, dI)) (ci := 2) (v := .ref (qm 11)) (C := R_M) (T := T_M) (N := 15) hx hb hw in_M hown hK hPm 0 rfl rfl 12 (by decide) (hw _ w_457) (fun _ h9 => h9) rfl dM_apart_75 ?_
  refine lv_iload_n hx hb dM_apart_78 rfl (lv_at hl 3 rfl) ?_
  obtain ⟨u13, hu13, h⟩ := ob_some h
  obtain ⟨hiu13, eu13⟩ := ld_of hu13
  refine va_lald hx hb hK hPm 11 0 rfl rfl hiu13 dM_apart_79 ?_
  rw [eu13]
  refine lv_lload_n hx hb dM_apart_80 rfl (lv_at hl 4 rfl) ?_
  obtain ⟨u14, hu14, h⟩ := ob_some h
  refine mu_call (va_runV (As := [.long u8, .long u9, .long u10, .long u11, .long u12, .long u13, .long x3]) (rest := []) ⟨hx, hb, hml, hown, hw⟩ (k_M_farther l dC dI cL cI qm u7.2 u8 u9 u10 u11 u12 u13 x3 u14 hu14) (cwV 7 hw (gV w_627 w_629 wp_24 w_2 w_630) rfl rfl rfl (by decide +kernel) ⟨Nat.le_of_ble_eq_true rfl, Nat.le_of_ble_eq_true rfl⟩) ⟨rd_blind, va_recv hK hPm (ci := 2) (q0 := 0) rfl rfl, rd_pre ⟨hPm, hD⟩ hK⟩ rfl rfl hl.1 rfl (lv_room (Nat.le_of_ble_eq_true rfl)) dM_apart_81 ⟨Nat.le_of_ble_eq_true rfl, Nat.le_of_ble_eq_true rfl⟩) hS (fun _ z => z) (fun H locs hPm hS _ _ => ?_)
  have hD := md_D (u14.2) hD
  refine lv_istore (lv' := [(6, .int u14.1), (5, .int u7.1), (0, .ref (qm 0)), (1, .int x1), (2, .int x2), (3, .long x3)]) hx hb dM_apart_84 hl (by decide) rfl (fun ls hl => ?_)
  refine lv_aload_n hx hb dM_apart_86 rfl (lv_at hl 2 rfl) ?_
  refine lv_aload_n hx hb dM_apart_87 rfl (lv_at hl 2 rfl) ?_
  refine va_get (D := (dC, dI)) (ci := 2) (v := .ref (qm 8)) (C := R_M) (T := T_M) (N := 15) hx hb hw in_M hown hK hPm 0 rfl rfl 9 (by decide) (hw _ w_454) (fun _ h9 => h9) rfl dM_apart_88 ?_
  refine lv_iload_n hx hb dM_apart_91 rfl (lv_at hl 4 rfl) ?_
  obtain ⟨u15, hu15, h⟩ := ob_some h
  obtain ⟨hiu15, eu15⟩ := ld_of hu15
  refine va_lald hx hb hK hPm 8 0 rfl rfl hiu15 dM_apart_92 ?_
  rw [eu15]
  refine lv_aload_n hx hb dM_apart_93 rfl (lv_at hl 2 rfl) ?_
  refine va_get (D := (dC, dI)) (ci := 2) (v := .ref (qm 9)) (C := R_M) (T := T_M) (N := 15) hx hb hw in_M hown hK hPm 0 rfl rfl 10 (by decide) (hw _ w_455) (fun _ h9 => h9) rfl dM_apart_94 ?_
  refine lv_iload_n hx hb dM_apart_97 rfl (lv_at hl 4 rfl) ?_
  obtain ⟨u16, hu16, h⟩ := ob_some h
  obtain ⟨hiu16, eu16⟩ := ld_of hu16
  refine va_lald hx hb hK hPm 9 0 rfl rfl hiu16 dM_apart_98 ?_
  rw [eu16]
  refine lv_aload_n hx hb dM_apart_99 rfl (lv_at hl 2 rfl) ?_
  refine va_get (D := (dC, dI)) (ci := 2) (v := .ref (qm 8)) (C := R_M) (T := T_M) (N := 15) hx hb hw in_M hown hK hPm 0 rfl rfl 9 (by decide) (hw _ w_454) (fun _ h9 => h9) rfl dM_apart_100 ?_
  refine lv_iload_n hx hb dM_apart_103 rfl (lv_at hl 3 rfl) ?_
  obtain ⟨u17, hu17, h⟩ := ob_some h
  obtain ⟨hiu17, eu17⟩ := ld_of hu17
  refine va_lald hx hb hK hPm 8 0 rfl rfl hiu17 dM_apart_104 ?_
  rw [eu17]
  refine lv_aload_n hx hb dM_apart_105 rfl (lv_at hl 2 rfl) ?_
  refine va_get (D := (dC, dI)) (ci := 2) (v := .ref (qm 9)) (C := R_M) (T := T_M) (N := 15) hx hb hw in_M hown hK hPm 0 rfl rfl 10 (by decide) (hw _ w_455) (fun _ h9 => h9) rfl dM_apart_106 ?_
  refine lv_iload_n hx hb dM_apart_109 rfl (lv_at hl 3 rfl) ?_
  obtain ⟨u18, hu18, h⟩ := ob_some h
  obtain ⟨hiu18, eu18⟩ := ld_of hu18
  refine va_lald hx hb hK hPm 9 0 rfl rfl hiu18 dM_apart_110 ?_
  rw [eu18]
  refine lv_aload_n hx hb dM_apart_111 rfl (lv_at hl 2 rfl) ?_
  refine va_get (D := (dC, dI)) (ci := 2) (v := .ref (qm 10)) (C := R_M) (T := T_M) (N := 15) hx hb hw in_M hown hK hPm 0 rfl rfl 11 (by decide) (hw _ w_456) (fun _ h9 => h9) rfl dM_apart_112 ?_
  refine lv_iload_n hx hb dM_apart_115 rfl (lv_at hl 3 rfl) ?_
  obtain ⟨u19, hu19, h⟩ := ob_some h
  obtain ⟨hiu19, eu19⟩ := ld_of hu19
  refine va_lald hx hb hK hPm 10 0 rfl rfl hiu19 dM_apart_116 ?_
  rw [eu19]
  refine lv_aload_n hx hb dM_apart_117 rfl (lv_at hl 2 rfl) ?_
  refine va_get (D := (dC, dI)) (ci := 2) (v := .ref (qm 11)) (C := R_M) (T := T_M) (N := 15) hx hb hw in_M hown hK hPm 0 rfl rfl 12 (by decide) (hw _ w_457) (fun _ h9 => h9) rfl dM_apart_118 ?_
  refine lv_iload_n hx hb dM_apart_121 rfl (lv_at hl 3 rfl) ?_
  obtain ⟨u20, hu20, h⟩ := ob_some h
  obtain ⟨hiu20, eu20⟩ := ld_of hu20
  refine va_lald hx hb hK hPm 11 0 rfl rfl hiu20 dM_apart_122 ?_
  rw [eu20]
  refine lv_lload_n hx hb dM_apart_123 rfl (lv_at hl 5 rfl) ?_
  obtain ⟨u21, hu21, h⟩ := ob_some h
  refine mu_call (va_runV (As := [.long u15, .long u16, .long u17, .long u18, .long u19, .long u20, .long x3]) (rest := []) ⟨hx, hb, hml, hown, hw⟩ (k_M_farther l dC dI cL cI qm u14.2 u15 u16 u17 u18 u19 u20 x3 u21 hu21) (cwV 7 hw (gV w_627 w_629 wp_24 w_2 w_630) rfl rfl rfl (by decide +kernel) ⟨Nat.le_of_ble_eq_true rfl, Nat.le_of_ble_eq_true rfl⟩) ⟨rd_blind, va_recv hK hPm (ci := 2) (q0 := 0) rfl rfl, rd_pre ⟨hPm, hD⟩ hK⟩ rfl rfl hl.1 rfl (lv_room (Nat.le_of_ble_eq_true rfl)) dM_apart_124 ⟨Nat.le_of_ble_eq_true rfl, Nat.le_of_ble_eq_true rfl⟩) hS (fun _ z => z) (fun H locs hPm hS _ _ => ?_)
  have hD := md_D (u21.2) hD
  refine lv_istore (lv' := [(7, .int u21.1), (6, .int u14.1), (5, .int u7.1), (0, .ref (qm 0)), (1, .int x1), (2, .int x2), (3, .long x3)]) hx hb dM_apart_127 hl (by decide) rfl (fun ls hl => ?_)
  refine lv_aload_n hx hb dM_apart_129 rfl (lv_at hl 3 rfl) ?_
  refine lv_aload_n hx hb dM_apart_130 rfl (lv_at hl 3 rfl) ?_
  refine va_get (D := (dC, dI)) (ci := 2) (v := .ref (qm 10)) (C := R_M) (T := T_M) (N := 15) hx hb hw in_M hown hK hPm 0 rfl rfl 11 (by decide) (hw _ w_456) (fun _ h9 => h9) rfl dM_apart_131 ?_
  refine lv_iload_n hx hb dM_apart_134 rfl (lv_at hl 5 rfl) ?_
  obtain ⟨u22, hu22, h⟩ := ob_some h
  obtain ⟨hiu22, eu22⟩ := ld_of hu22
  refine va_lald hx hb hK hPm 10 0 rfl rfl hiu22 dM_apart_135 ?_
  rw [eu22]
  refine lv_aload_n hx hb dM_apart_136 rfl (lv_at hl 3 rfl) ?_
  refine va_get (D := (dC, dI)) (ci := 2) (v := .ref (qm 11)) (C := R_M) (T := T_M) (N := 15) hx hb hw in_M hown hK hPm 0 rfl rfl 12 (by decide) (hw _ w_457) (fun _ h9 => h9) rfl dM_apart_137 ?_
  refine lv_iload_n hx hb dM_apart_140 rfl (lv_at hl 5 rfl) ?_
  obtain ⟨u23, hu23, h⟩ := ob_some h
  obtain ⟨hiu23, eu23⟩ := ld_of hu23
  refine va_lald hx hb hK hPm 11 0 rfl rfl hiu23 dM_apart_141 ?_
  rw [eu23]
  refine lv_aload_n hx hb dM_apart_142 rfl (lv_at hl 3 rfl) ?_
  refine va_get (D := (dC, dI)) (ci := 2) (v := .ref (qm 8)) (C := R_M) (T := T_M) (N := 15) hx hb hw in_M hown hK hPm 0 rfl rfl 9 (by decide) (hw _ w_454) (fun _ h9 => h9) rfl dM_apart_143 ?_
  refine lv_iload_n hx hb dM_apart_146 rfl (lv_at hl 4 rfl) ?_
  obtain ⟨u24, hu24, h⟩ := ob_some h
  obtain ⟨hiu24, eu24⟩ := ld_of hu24
  refine va_lald hx hb hK hPm 8 0 rfl rfl hiu24 dM_apart_147 ?_
  rw [eu24]
  refine lv_aload_n hx hb dM_apart_148 rfl (lv_at hl 3 rfl) ?_
  refine va_get (D := (dC, dI)) (ci := 2) (v := .ref (qm 9)) (C := R_M) (T := T_M) (N := 15) hx hb hw in_M hown hK hPm 0 rfl rfl 10 (by decide) (hw _ w_455) (fun _ h9 => h9) rfl dM_apart_149 ?_
  refine lv_iload_n hx hb dM_apart_152 rfl (lv_at hl 4 rfl) ?_
  obtain ⟨u25, hu25, h⟩ := ob_some h
  obtain ⟨hiu25, eu25⟩ := ld_of hu25
  refine va_lald hx hb hK hPm 9 0 rfl rfl hiu25 dM_apart_153 ?_
  rw [eu25]
  refine lv_aload_n hx hb dM_apart_154 rfl (lv_at hl 3 rfl) ?_
  refine va_get (D := (dC, dI)) (ci := 2) (v := .ref (qm 10)) (C := R_M) (T := T_M) (N := 15) hx hb hw in_M hown hK hPm 0 rfl rfl 11 (by decide) (hw _ w_456) (fun _ h9 => h9) rfl dM_apart_155 ?_
  refine lv_iload_n hx hb dM_apart_158 rfl (lv_at hl 4 rfl) ?_
  obtain ⟨u26, hu26, h⟩ := ob_some h
  obtain ⟨hiu26, eu26⟩ := ld_of hu26
  refine va_lald hx hb hK hPm 10 0 rfl rfl hiu26 dM_apart_159 ?_
  rw [eu26]
  refine lv_aload_n hx hb dM_apart_160 rfl (lv_at hl 3 rfl) ?_
  refine va_get (D := (dC, dI)) (ci := 2) (v := .ref (qm 11)) (C := R_M) (T := T_M) (N := 15) hx hb hw in_M hown hK hPm 0 rfl rfl 12 (by decide) (hw _ w_457) (fun _ h9 => h9) rfl dM_apart_161 ?_
  refine lv_iload_n hx hb dM_apart_164 rfl (lv_at hl 4 rfl) ?_
  obtain ⟨u27, hu27, h⟩ := ob_some h
  obtain ⟨hiu27, eu27⟩ := ld_of hu27
  refine va_lald hx hb hK hPm 11 0 rfl rfl hiu27 dM_apart_165 ?_
  rw [eu27]
  refine lv_lload_n hx hb dM_apart_166 rfl (lv_at hl 6 rfl) ?_
  obtain ⟨u28, hu28, h⟩ := ob_some h
  refine mu_call (va_runV (As := [.long u22, .long u23, .long u24, .long u25, .long u26, .long u27, .long x3]) (rest := []) ⟨hx, hb, hml, hown, hw⟩ (k_M_farther l dC dI cL cI qm u21.2 u22 u23 u24 u25 u26 u27 x3 u28 hu28) (cwV 7 hw (gV w_627 w_629 wp_24 w_2 w_630) rfl rfl rfl (by decide +kernel) ⟨Nat.le_of_ble_eq_true rfl, Nat.le_of_ble_eq_true rfl⟩) ⟨rd_blind, va_recv hK hPm (ci := 2) (q0 := 0) rfl rfl, rd_pre ⟨hPm, hD⟩ hK⟩ rfl rfl hl.1 rfl (lv_room (Nat.le_of_ble_eq_true rfl)) dM_apart_167 ⟨Nat.le_of_ble_eq_true rfl, Nat.le_of_ble_eq_true rfl⟩) hS (fun _ z => z) (fun H locs hPm hS _ _ => ?_)
  have hD := md_D (u28.2) hD
  refine lv_istore (lv' := [(8, .int u28.1), (7, .int u21.1), (6, .int u14.1), (5, .int u7.1), (0, .ref (qm 0)), (1, .int x1), (2, .int x2), (3, .long x3)]) hx hb dM_apart_170 hl (by decide) rfl (fun ls hl => ?_)
  refine lv_iload hx hb dM_apart_172 (lv_at hl 3 rfl) ?_
  refine lv_iload hx hb dM_apart_174 (lv_at hl 2 rfl) ?_
  refine lv_icmp_ge (tgt := 184) hx hb dM_apart_176 (by decide) (fun c29 => ?_) (fun c29 => ?_)
  · have h := it_t c29 h
    refine lv_iload hx hb dM_apart_184 (lv_at hl 2 rfl) ?_
    exact k186 u28.2 u21.1 u28.1 u14.1 h H locs hPm hD hS ls (lv_sub hl [1, 0] rfl)
  · have h := it_f c29 h
    refine lv_iload hx hb dM_apart_179 (lv_at hl 3 rfl) ?_
    refine lv_goto (tgt := 186) hx hb dM_apart_181 (by decide) ?_
    exact k186 u28.2 u21.1 u28.1 u7.1 h H locs hPm hD hS ls (lv_sub hl [1, 0] rfl)
