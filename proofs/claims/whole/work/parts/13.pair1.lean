/-! Pair: reading methods, laid by program -/
theorem dP_spansMeet_0 : decode cP_spansMeet 0 = .ok (.lload_n 0, 1) := by decide +kernel
theorem dP_spansMeet_1 : decode cP_spansMeet 1 = .ok (.lload_n 2, 1) := by decide +kernel
theorem dP_spansMeet_2 : decode cP_spansMeet 2 = .ok (.invokestatic 65, 3) := by decide +kernel
theorem dP_spansMeet_5 : decode cP_spansMeet 5 = .ok (.lload 4, 2) := by decide +kernel
theorem dP_spansMeet_7 : decode cP_spansMeet 7 = .ok (.lload 6, 2) := by decide +kernel
theorem dP_spansMeet_9 : decode cP_spansMeet 9 = .ok (.invokestatic 65, 3) := by decide +kernel
theorem dP_spansMeet_12 : decode cP_spansMeet 12 = .ok (.invokestatic 68, 3) := by decide +kernel
theorem dP_spansMeet_15 : decode cP_spansMeet 15 = .ok (.lload_n 0, 1) := by decide +kernel
theorem dP_spansMeet_16 : decode cP_spansMeet 16 = .ok (.lload_n 2, 1) := by decide +kernel
theorem dP_spansMeet_17 : decode cP_spansMeet 17 = .ok (.invokestatic 68, 3) := by decide +kernel
theorem dP_spansMeet_20 : decode cP_spansMeet 20 = .ok (.lload 4, 2) := by decide +kernel
theorem dP_spansMeet_22 : decode cP_spansMeet 22 = .ok (.lload 6, 2) := by decide +kernel
theorem dP_spansMeet_24 : decode cP_spansMeet 24 = .ok (.invokestatic 68, 3) := by decide +kernel
theorem dP_spansMeet_27 : decode cP_spansMeet 27 = .ok (.invokestatic 65, 3) := by decide +kernel
theorem dP_spansMeet_30 : decode cP_spansMeet 30 = .ok (.lcmp, 1) := by decide +kernel
theorem dP_spansMeet_31 : decode cP_spansMeet 31 = .ok (.ifCond .gt 7, 3) := by decide +kernel
theorem dP_spansMeet_34 : decode cP_spansMeet 34 = .ok (.iconst 1, 1) := by decide +kernel
theorem dP_spansMeet_35 : decode cP_spansMeet 35 = .ok (.goto 4, 3) := by decide +kernel
theorem dP_spansMeet_38 : decode cP_spansMeet 38 = .ok (.iconst 0, 1) := by decide +kernel
theorem dP_spansMeet_39 : decode cP_spansMeet 39 = .ok (.ireturn, 1) := by decide +kernel
def f_P_spansMeet_j39 (s0 : Int32) : Option Int32 := rb s0
def f_P_spansMeet (x0 : Int64) (x2 : Int64) (x4 : Int64) (x6 : Int64) : Option Int32 := (some (if x2 < x0 then x2 else x0)).bind fun u1 => (some (if x6 < x4 then x6 else x4)).bind fun u2 => (some (if u2 < u1 then u1 else u2)).bind fun u3 => (some (if x2 < x0 then x0 else x2)).bind fun u4 => (some (if x6 < x4 then x4 else x6)).bind fun u5 => (some (if u5 < u4 then u5 else u4)).bind fun u6 => (if 0 < (lg_cmp u3 u6) then (f_P_spansMeet_j39 (0 : Int32)) else (f_P_spansMeet_j39 (1 : Int32)))
set_option maxHeartbeats 4000000 in
set_option maxRecDepth 100000 in
theorem k_P_spansMeet (l : Launch) (dC : Nat → ClassId) (dI : Nat → Nat → Nat) (cL cI : ClassId) (x0 : Int64) (x2 : Int64) (x4 : Int64) (x6 : Int64) (r : Int32) (h : f_P_spansMeet x0 x2 x4 x6 = some r) : Met l yP_spansMeet wsP_spansMeet ({ frames := 1, cells := 0, slots := 0, locals := 23 }) (rd_Pc [.long x0, .long x2, .long x4, .long x6] (fun _ => True) (dC, dI) cls3 [(cL, .long), (cI, .int)]) (vp_Si (fun z => z = r)) 0 0 (fun _ => False) := by
  refine Met.ofW (cc := cP_spansMeet) (maxL := 8) (ret := (some .boolean)) (by decide) rfl ?_
  intro p e s m args below meth c s₁ B hml hv
  obtain ⟨rfl, hF, hK⟩ := hv
  have hx := B.exec
  have hb := B.bytes
  have hr := B.returns
  have hw : ∀ w ∈ wG, w.before ([.long x0, .long x2, .long x4, .long x6] : List Value).toArray s = true := fun w hq => atoms_spec (ws := wsP_spansMeet) B.pre w (List.mem_cons_of_mem _ hq)
  have hown : s.vm.findClass R_P = some m.cls := findClass_of_methodNamed B.named
  have hlocks := B.notSynchronized
  have hl := lv_entry ([.long x0, .long x2, .long x4, .long x6] : List Value) (n := 8) (Nat.le_of_ble_eq_true rfl)
  rw [lg_entry_eq]
  generalize (lg_sl ([.long x0, .long x2, .long x4, .long x6] : List Value) ++ List.replicate (8 - (lg_sl ([.long x0, .long x2, .long x4, .long x6] : List Value)).length) Slot.unset).toArray = ls at hl ⊢
  have hl : lv_has ls 8 [(0, .long x0), (2, .long x2), (4, .long x4), (6, .long x6)] := hl
  have k39 : ∀ (s0 : Int32), f_P_spansMeet_j39 s0 = some r →  ∀ (ls : Array Slot), lv_has ls 8 [] → W p l e (headSpec wsP_spansMeet ({ frames := 1, cells := 0, slots := 0, locals := 23 })).room s m ([.long x0, .long x2, .long x4, .long x6] : List Value).toArray below meth c s.heap [] 0 0 (MQ below (vp_Si (fun z => z = r)) ([.long x0, .long x2, .long x4, .long x6] : List Value).toArray s 0 0 (fun _ => False)) (F0 m 39 ls [.int s0]) := by
    intro s0 h  ls hl
    unfold f_P_spansMeet_j39 at h
    obtain ⟨hz, hr9⟩ := rb_of h
    exact W.zret hx hb hr hz (fun t ht hW => ⟨_, rfl, hr9, ht⟩) nil_locs dP_spansMeet_39
  unfold f_P_spansMeet at h
  refine lv_lload_n hx hb dP_spansMeet_0 rfl (lv_at hl 0 rfl) ?_
  refine lv_lload_n hx hb dP_spansMeet_1 rfl (lv_at hl 1 rfl) ?_
  obtain ⟨u1, hu1, h⟩ := ob_some h
  refine va_mmin_long hx hb (hml.trans hl.1.symm) hown (hw _ w_278) (hw _ w_279) (hw _ w_11) (hw _ wm_min_J) (Nat.le_of_ble_eq_true rfl) (Nat.le_of_ble_eq_true rfl) (Nat.le_of_ble_eq_true rfl) (Nat.le_of_ble_eq_true rfl) dP_spansMeet_2 ?_
  rw [Option.some.inj hu1]
  refine lv_lload hx hb dP_spansMeet_5 (lv_at hl 2 rfl) ?_
  refine lv_lload hx hb dP_spansMeet_7 (lv_at hl 3 rfl) ?_
  obtain ⟨u2, hu2, h⟩ := ob_some h
  refine va_mmin_long hx hb (hml.trans hl.1.symm) hown (hw _ w_278) (hw _ w_279) (hw _ w_11) (hw _ wm_min_J) (Nat.le_of_ble_eq_true rfl) (Nat.le_of_ble_eq_true rfl) (Nat.le_of_ble_eq_true rfl) (Nat.le_of_ble_eq_true rfl) dP_spansMeet_9 ?_
  rw [Option.some.inj hu2]
  obtain ⟨u3, hu3, h⟩ := ob_some h
  refine va_mmax_long hx hb (hml.trans hl.1.symm) hown (hw _ w_281) (hw _ w_282) (hw _ w_11) (hw _ wm_max_J) (Nat.le_of_ble_eq_true rfl) (Nat.le_of_ble_eq_true rfl) (Nat.le_of_ble_eq_true rfl) (Nat.le_of_ble_eq_true rfl) dP_spansMeet_12 ?_
  rw [Option.some.inj hu3]
  refine lv_lload_n hx hb dP_spansMeet_15 rfl (lv_at hl 0 rfl) ?_
  refine lv_lload_n hx hb dP_spansMeet_16 rfl (lv_at hl 1 rfl) ?_
  obtain ⟨u4, hu4, h⟩ := ob_some h
  refine va_mmax_long hx hb (hml.trans hl.1.symm) hown (hw _ w_281) (hw _ w_282) (hw _ w_11) (hw _ wm_max_J) (Nat.le_of_ble_eq_true rfl) (Nat.le_of_ble_eq_true rfl) (Nat.le_of_ble_eq_true rfl) (Nat.le_of_ble_eq_true rfl) dP_spansMeet_17 ?_
  rw [Option.some.inj hu4]
  refine lv_lload hx hb dP_spansMeet_20 (lv_at hl 2 rfl) ?_
  refine lv_lload hx hb dP_spansMeet_22 (lv_at hl 3 rfl) ?_
  obtain ⟨u5, hu5, h⟩ := ob_some h
  refine va_mmax_long hx hb (hml.trans hl.1.symm) hown (hw _ w_281) (hw _ w_282) (hw _ w_11) (hw _ wm_max_J) (Nat.le_of_ble_eq_true rfl) (Nat.le_of_ble_eq_true rfl) (Nat.le_of_ble_eq_true rfl) (Nat.le_of_ble_eq_true rfl) dP_spansMeet_24 ?_
  rw [Option.some.inj hu5]
  obtain ⟨u6, hu6, h⟩ := ob_some h
  refine va_mmin_long hx hb (hml.trans hl.1.symm) hown (hw _ w_278) (hw _ w_279) (hw _ w_11) (hw _ wm_min_J) (Nat.le_of_ble_eq_true rfl) (Nat.le_of_ble_eq_true rfl) (Nat.le_of_ble_eq_true rfl) (Nat.le_of_ble_eq_true rfl) dP_spansMeet_27 ?_
  rw [Option.some.inj hu6]
  refine W.lcmp hx hb dP_spansMeet_30 ?_
  refine lv_if_gt (tgt := 38) hx hb dP_spansMeet_31 (by decide) (fun c7 => ?_) (fun c7 => ?_)
  · have h := it_t c7 h
    refine lv_iconst (v := 0) hx hb dP_spansMeet_38 (by decide) ?_
    exact k39 (0 : Int32) h ls (lv_sub hl [] rfl)
  · have h := it_f c7 h
    refine lv_iconst (v := 1) hx hb dP_spansMeet_34 (by decide) ?_
    refine lv_goto (tgt := 39) hx hb dP_spansMeet_35 (by decide) ?_
    exact k39 (1 : Int32) h ls (lv_sub hl [] rfl)
theorem dP_passesBeside_0 : decode cP_passesBeside 0 = .ok (.aload_n 2, 1) := by decide +kernel
theorem dP_passesBeside_1 : decode cP_passesBeside 1 = .ok (.getfield 54, 3) := by decide +kernel
theorem dP_passesBeside_4 : decode cP_passesBeside 4 = .ok (.iload_n 3, 1) := by decide +kernel
theorem dP_passesBeside_5 : decode cP_passesBeside 5 = .ok (.iaload, 1) := by decide +kernel
theorem dP_passesBeside_6 : decode cP_passesBeside 6 = .ok (.istore 4, 2) := by decide +kernel
theorem dP_passesBeside_8 : decode cP_passesBeside 8 = .ok (.aload_n 0, 1) := by decide +kernel
theorem dP_passesBeside_9 : decode cP_passesBeside 9 = .ok (.iload_n 1, 1) := by decide +kernel
theorem dP_passesBeside_10 : decode cP_passesBeside 10 = .ok (.aload_n 2, 1) := by decide +kernel
theorem dP_passesBeside_11 : decode cP_passesBeside 11 = .ok (.getfield 35, 3) := by decide +kernel
theorem dP_passesBeside_14 : decode cP_passesBeside 14 = .ok (.iload_n 3, 1) := by decide +kernel
theorem dP_passesBeside_15 : decode cP_passesBeside 15 = .ok (.laload, 1) := by decide +kernel
theorem dP_passesBeside_16 : decode cP_passesBeside 16 = .ok (.aload_n 2, 1) := by decide +kernel
theorem dP_passesBeside_17 : decode cP_passesBeside 17 = .ok (.getfield 39, 3) := by decide +kernel
theorem dP_passesBeside_20 : decode cP_passesBeside 20 = .ok (.iload_n 3, 1) := by decide +kernel
theorem dP_passesBeside_21 : decode cP_passesBeside 21 = .ok (.laload, 1) := by decide +kernel
theorem dP_passesBeside_22 : decode cP_passesBeside 22 = .ok (.invokevirtual 71, 3) := by decide +kernel
theorem dP_passesBeside_25 : decode cP_passesBeside 25 = .ok (.lstore 5, 2) := by decide +kernel
theorem dP_passesBeside_27 : decode cP_passesBeside 27 = .ok (.aload_n 0, 1) := by decide +kernel
theorem dP_passesBeside_28 : decode cP_passesBeside 28 = .ok (.iload_n 1, 1) := by decide +kernel
theorem dP_passesBeside_29 : decode cP_passesBeside 29 = .ok (.aload_n 2, 1) := by decide +kernel
theorem dP_passesBeside_30 : decode cP_passesBeside 30 = .ok (.getfield 35, 3) := by decide +kernel
theorem dP_passesBeside_33 : decode cP_passesBeside 33 = .ok (.iload 4, 2) := by decide +kernel
theorem dP_passesBeside_35 : decode cP_passesBeside 35 = .ok (.laload, 1) := by decide +kernel
theorem dP_passesBeside_36 : decode cP_passesBeside 36 = .ok (.aload_n 2, 1) := by decide +kernel
theorem dP_passesBeside_37 : decode cP_passesBeside 37 = .ok (.getfield 39, 3) := by decide +kernel
theorem dP_passesBeside_40 : decode cP_passesBeside 40 = .ok (.iload 4, 2) := by decide +kernel
theorem dP_passesBeside_42 : decode cP_passesBeside 42 = .ok (.laload, 1) := by decide +kernel
theorem dP_passesBeside_43 : decode cP_passesBeside 43 = .ok (.invokevirtual 71, 3) := by decide +kernel
theorem dP_passesBeside_46 : decode cP_passesBeside 46 = .ok (.lstore 7, 2) := by decide +kernel
theorem dP_passesBeside_48 : decode cP_passesBeside 48 = .ok (.lload 5, 2) := by decide +kernel
theorem dP_passesBeside_50 : decode cP_passesBeside 50 = .ok (.lconst 0, 1) := by decide +kernel
theorem dP_passesBeside_51 : decode cP_passesBeside 51 = .ok (.lcmp, 1) := by decide +kernel
theorem dP_passesBeside_52 : decode cP_passesBeside 52 = .ok (.ifCond .ge 10, 3) := by decide +kernel
theorem dP_passesBeside_55 : decode cP_passesBeside 55 = .ok (.lload 7, 2) := by decide +kernel
theorem dP_passesBeside_57 : decode cP_passesBeside 57 = .ok (.lconst 0, 1) := by decide +kernel
theorem dP_passesBeside_58 : decode cP_passesBeside 58 = .ok (.lcmp, 1) := by decide +kernel
theorem dP_passesBeside_59 : decode cP_passesBeside 59 = .ok (.ifCond .lt 17, 3) := by decide +kernel
theorem dP_passesBeside_62 : decode cP_passesBeside 62 = .ok (.lload 5, 2) := by decide +kernel
theorem dP_passesBeside_64 : decode cP_passesBeside 64 = .ok (.lconst 0, 1) := by decide +kernel
theorem dP_passesBeside_65 : decode cP_passesBeside 65 = .ok (.lcmp, 1) := by decide +kernel
theorem dP_passesBeside_66 : decode cP_passesBeside 66 = .ok (.ifCond .le 14, 3) := by decide +kernel
theorem dP_passesBeside_69 : decode cP_passesBeside 69 = .ok (.lload 7, 2) := by decide +kernel
theorem dP_passesBeside_71 : decode cP_passesBeside 71 = .ok (.lconst 0, 1) := by decide +kernel
theorem dP_passesBeside_72 : decode cP_passesBeside 72 = .ok (.lcmp, 1) := by decide +kernel
theorem dP_passesBeside_73 : decode cP_passesBeside 73 = .ok (.ifCond .le 7, 3) := by decide +kernel
theorem dP_passesBeside_76 : decode cP_passesBeside 76 = .ok (.iconst 1, 1) := by decide +kernel
theorem dP_passesBeside_77 : decode cP_passesBeside 77 = .ok (.goto 4, 3) := by decide +kernel
theorem dP_passesBeside_80 : decode cP_passesBeside 80 = .ok (.iconst 0, 1) := by decide +kernel
theorem dP_passesBeside_81 : decode cP_passesBeside 81 = .ok (.ireturn, 1) := by decide +kernel
def f_P_passesBeside_j81 (v : SV) (w : SV) (s0 : Int32) : Option Int32 := rb s0
def f_P_passesBeside_j80 (v : SV) (w : SV) : Option Int32 := (f_P_passesBeside_j81 v w (0 : Int32))
def f_P_passesBeside_j76 (v : SV) (w : SV) : Option Int32 := (f_P_passesBeside_j81 v w (1 : Int32))
def f_P_passesBeside_j62 (v : SV) (w : SV) (p5 : Int64) (p7 : Int64) : Option Int32 := (if (lg_cmp p5 (0 : Int64)) ≤ 0 then (f_P_passesBeside_j80 v w) else (if (lg_cmp p7 (0 : Int64)) ≤ 0 then (f_P_passesBeside_j80 v w) else (f_P_passesBeside_j76 v w)))
def f_P_passesBeside (v : SV) (w : SV) (x1 : Int32) (x3 : Int32) : Option Int32 := (ld 48 (sE w) x3).bind fun u1 => (ld 48 (sX w) x3).bind fun u2 => (ld 48 (sY w) x3).bind fun u3 => (f_S_cross v x1 u2 u3).bind fun u4 => (ld 48 (sX w) u1).bind fun u5 => (ld 48 (sY w) u1).bind fun u6 => (f_S_cross v x1 u5 u6).bind fun u7 => (if 0 ≤ (lg_cmp u4 (0 : Int64)) then (f_P_passesBeside_j62 v w u4 u7) else (if (lg_cmp u7 (0 : Int64)) < 0 then (f_P_passesBeside_j76 v w) else (f_P_passesBeside_j62 v w u4 u7)))
set_option maxHeartbeats 4000000 in
set_option maxRecDepth 100000 in
theorem k_P_passesBeside (l : Launch) (dC : Nat → ClassId) (dI : Nat → Nat → Nat) (cL cI : ClassId) (a ax ay ae : Nat) (v : SV) (o ox oy oe : Nat) (w : SV) (x1 : Int32) (x3 : Int32) (r : Int32) (h : f_P_passesBeside v w x1 x3 = some r) : Met l yP_passesBeside wsP_passesBeside ({ frames := 1, cells := 0, slots := 0, locals := 26 }) (rd_Pc [.ref a, .int x1, .ref o, .int x3] (fun H => va_P (dC, dI) cls3 (shW cL cI a ax ay ae v) H ∧ va_P (dC, dI) cls3 (shW cL cI o ox oy oe w) H) (dC, dI) cls3 [(cL, .long), (cI, .int)]) (vp_Si (fun z => z = r)) 0 0 (fun _ => False) := by
  refine Met.ofW (cc := cP_passesBeside) (maxL := 9) (ret := (some .boolean)) (by decide) rfl ?_
  intro p e s m args below meth c s₁ B hml hv
  obtain ⟨rfl, ⟨hPa, hPo⟩, hK⟩ := hv
  have hx := B.exec
  have hb := B.bytes
  have hr := B.returns
  have hw : ∀ w ∈ wG, w.before ([.ref a, .int x1, .ref o, .int x3] : List Value).toArray s = true := fun w hq => atoms_spec (ws := wsP_passesBeside) B.pre w (List.mem_cons_of_mem _ hq)
  have hown : s.vm.findClass R_P = some m.cls := findClass_of_methodNamed B.named
  have hlocks := B.notSynchronized
  have hl := lv_entry ([.ref a, .int x1, .ref o, .int x3] : List Value) (n := 9) (Nat.le_of_ble_eq_true rfl)
  rw [lg_entry_eq]
  generalize (lg_sl ([.ref a, .int x1, .ref o, .int x3] : List Value) ++ List.replicate (9 - (lg_sl ([.ref a, .int x1, .ref o, .int x3] : List Value)).length) Slot.unset).toArray = ls at hl ⊢
  have hl : lv_has ls 9 [(0, .ref a), (1, .int x1), (2, .ref o), (3, .int x3)] := hl
  have k81 : ∀ (s0 : Int32), f_P_passesBeside_j81 v w s0 = some r →  ∀ (ls : Array Slot), lv_has ls 9 [] → W p l e (headSpec wsP_passesBeside ({ frames := 1, cells := 0, slots := 0, locals := 26 })).room s m ([.ref a, .int x1, .ref o, .int x3] : List Value).toArray below meth c s.heap [] 0 0 (MQ below (vp_Si (fun z => z = r)) ([.ref a, .int x1, .ref o, .int x3] : List Value).toArray s 0 0 (fun _ => False)) (F0 m 81 ls [.int s0]) := by
    intro s0 h  ls hl
    unfold f_P_passesBeside_j81 at h
    obtain ⟨hz, hr9⟩ := rb_of h
    exact W.zret hx hb hr hz (fun t ht hW => ⟨_, rfl, hr9, ht⟩) nil_locs dP_passesBeside_81
  have k80 : f_P_passesBeside_j80 v w = some r →  ∀ (ls : Array Slot), lv_has ls 9 [] → W p l e (headSpec wsP_passesBeside ({ frames := 1, cells := 0, slots := 0, locals := 26 })).room s m ([.ref a, .int x1, .ref o, .int x3] : List Value).toArray below meth c s.heap [] 0 0 (MQ below (vp_Si (fun z => z = r)) ([.ref a, .int x1, .ref o, .int x3] : List Value).toArray s 0 0 (fun _ => False)) (F0 m 80 ls []) := by
    intro  h  ls hl
    unfold f_P_passesBeside_j80 at h
    refine lv_iconst (v := 0) hx hb dP_passesBeside_80 (by decide) ?_
    exact k81 (0 : Int32) h ls (lv_sub hl [] rfl)
  have k76 : f_P_passesBeside_j76 v w = some r →  ∀ (ls : Array Slot), lv_has ls 9 [] → W p l e (headSpec wsP_passesBeside ({ frames := 1, cells := 0, slots := 0, locals := 26 })).room s m ([.ref a, .int x1, .ref o, .int x3] : List Value).toArray below meth c s.heap [] 0 0 (MQ below (vp_Si (fun z => z = r)) ([.ref a, .int x1, .ref o, .int x3] : List Value).toArray s 0 0 (fun _ => False)) (F0 m 76 ls []) := by
    intro  h  ls hl
    unfold f_P_passesBeside_j76 at h
    refine lv_iconst (v := 1) hx hb dP_passesBeside_76 (by decide) ?_
    refine lv_goto (tgt := 81) hx hb dP_passesBeside_77 (by decide) ?_
    exact k81 (1 : Int32) h ls (lv_sub hl [] rfl)
  have k62 : ∀ (p5 : Int64) (p7 : Int64), f_P_passesBeside_j62 v w p5 p7 = some r →  ∀ (ls : Array Slot), lv_has ls 9 [(5, .long p5), (7, .long p7)] → W p l e (headSpec wsP_passesBeside ({ frames := 1, cells := 0, slots := 0, locals := 26 })).room s m ([.ref a, .int x1, .ref o, .int x3] : List Value).toArray below meth c s.heap [] 0 0 (MQ below (vp_Si (fun z => z = r)) ([.ref a, .int x1, .ref o, .int x3] : List Value).toArray s 0 0 (fun _ => False)) (F0 m 62 ls []) := by
    intro p5 p7 h  ls hl
    unfold f_P_passesBeside_j62 at h
    refine lv_lload hx hb dP_passesBeside_62 (lv_at hl 0 rfl) ?_
    refine lv_lconst (v := 0) hx hb dP_passesBeside_64 (by decide) ?_
    refine W.lcmp hx hb dP_passesBeside_65 ?_
    refine lv_if_le (tgt := 80) hx hb dP_passesBeside_66 (by decide) (fun c10 => ?_) (fun c10 => ?_)
    · have h := it_t c10 h
      exact k80 h ls (lv_sub hl [] rfl)
    · have h := it_f c10 h
      refine lv_lload hx hb dP_passesBeside_69 (lv_at hl 1 rfl) ?_
      refine lv_lconst (v := 0) hx hb dP_passesBeside_71 (by decide) ?_
      refine W.lcmp hx hb dP_passesBeside_72 ?_
      refine lv_if_le (tgt := 80) hx hb dP_passesBeside_73 (by decide) (fun c11 => ?_) (fun c11 => ?_)
      · have h := it_t c11 h
        exact k80 h ls (lv_sub hl [] rfl)
      · have h := it_f c11 h
        exact k76 h ls (lv_sub hl [] rfl)
  unfold f_P_passesBeside at h
  refine lv_aload_n hx hb dP_passesBeside_0 rfl (lv_at hl 2 rfl) ?_
  refine va_get (D := (dC, dI)) (ci := 0) (v := .ref oe) (C := R_S) (T := T_S) (N := 8) hx hb hw in_S hown hK hPo 0 rfl rfl 5 (by decide) (hw _ w_51) (fun _ h9 => h9) rfl dP_passesBeside_1 ?_
  refine lv_iload_n hx hb dP_passesBeside_4 rfl (lv_at hl 3 rfl) ?_
  obtain ⟨u1, hu1, h⟩ := ob_some h
  obtain ⟨hiu1, eu1⟩ := ld_of hu1
  refine va_iald hx hb hK hPo 3 1 rfl rfl hiu1 dP_passesBeside_5 ?_
  rw [eu1]
  refine lv_istore (lv' := [(4, .int u1), (0, .ref a), (1, .int x1), (2, .ref o), (3, .int x3)]) hx hb dP_passesBeside_6 hl (by decide) rfl (fun ls hl => ?_)
  refine lv_aload_n hx hb dP_passesBeside_8 rfl (lv_at hl 1 rfl) ?_
  refine lv_iload_n hx hb dP_passesBeside_9 rfl (lv_at hl 2 rfl) ?_
  refine lv_aload_n hx hb dP_passesBeside_10 rfl (lv_at hl 3 rfl) ?_
  refine va_get (D := (dC, dI)) (ci := 0) (v := .ref ox) (C := R_S) (T := T_S) (N := 8) hx hb hw in_S hown hK hPo 0 rfl rfl 3 (by decide) (hw _ w_47) (fun _ h9 => h9) rfl dP_passesBeside_11 ?_
  refine lv_iload_n hx hb dP_passesBeside_14 rfl (lv_at hl 4 rfl) ?_
  obtain ⟨u2, hu2, h⟩ := ob_some h
  obtain ⟨hiu2, eu2⟩ := ld_of hu2
  refine va_lald hx hb hK hPo 1 0 rfl rfl hiu2 dP_passesBeside_15 ?_
  rw [eu2]
  refine lv_aload_n hx hb dP_passesBeside_16 rfl (lv_at hl 3 rfl) ?_
  refine va_get (D := (dC, dI)) (ci := 0) (v := .ref oy) (C := R_S) (T := T_S) (N := 8) hx hb hw in_S hown hK hPo 0 rfl rfl 4 (by decide) (hw _ w_49) (fun _ h9 => h9) rfl dP_passesBeside_17 ?_
  refine lv_iload_n hx hb dP_passesBeside_20 rfl (lv_at hl 4 rfl) ?_
  obtain ⟨u3, hu3, h⟩ := ob_some h
  obtain ⟨hiu3, eu3⟩ := ld_of hu3
  refine va_lald hx hb hK hPo 2 0 rfl rfl hiu3 dP_passesBeside_21 ?_
  rw [eu3]
  obtain ⟨u4, hu4, h⟩ := ob_some h
  refine vp_callSl (va_Run.run (va_runV (As := [.int x1, .long u2, .long u3]) (rest := []) ⟨hx, hb, hml, hown, hw⟩ (k_S_cross l dC dI cL cI a ax ay ae v x1 u2 u3 u4 hu4) (cwV 3 hw (gV w_287 w_265 w_266 w_7 w_267) rfl rfl rfl (by decide +kernel) ⟨Nat.le_of_ble_eq_true rfl, Nat.le_of_ble_eq_true rfl⟩) ⟨rd_blind, va_recv hK hPa (ci := 0) (q0 := 0) rfl rfl, rd_pre hPa hK⟩ rfl rfl hl.1 rfl (lv_room (Nat.le_of_ble_eq_true rfl)) dP_passesBeside_22 ⟨Nat.le_of_ble_eq_true rfl, Nat.le_of_ble_eq_true rfl⟩)) (fun z hz => ?_)
  rw [hz]; clear hz
  refine lv_lstore (lv' := [(5, .long u4), (4, .int u1), (0, .ref a), (1, .int x1), (2, .ref o), (3, .int x3)]) hx hb dP_passesBeside_25 hl (by decide) rfl (fun ls hl => ?_)
  refine lv_aload_n hx hb dP_passesBeside_27 rfl (lv_at hl 2 rfl) ?_
  refine lv_iload_n hx hb dP_passesBeside_28 rfl (lv_at hl 3 rfl) ?_
  refine lv_aload_n hx hb dP_passesBeside_29 rfl (lv_at hl 4 rfl) ?_
  refine va_get (D := (dC, dI)) (ci := 0) (v := .ref ox) (C := R_S) (T := T_S) (N := 8) hx hb hw in_S hown hK hPo 0 rfl rfl 3 (by decide) (hw _ w_47) (fun _ h9 => h9) rfl dP_passesBeside_30 ?_
  refine lv_iload hx hb dP_passesBeside_33 (lv_at hl 1 rfl) ?_
  obtain ⟨u5, hu5, h⟩ := ob_some h
  obtain ⟨hiu5, eu5⟩ := ld_of hu5
  refine va_lald hx hb hK hPo 1 0 rfl rfl hiu5 dP_passesBeside_35 ?_
  rw [eu5]
  refine lv_aload_n hx hb dP_passesBeside_36 rfl (lv_at hl 4 rfl) ?_
  refine va_get (D := (dC, dI)) (ci := 0) (v := .ref oy) (C := R_S) (T := T_S) (N := 8) hx hb hw in_S hown hK hPo 0 rfl rfl 4 (by decide) (hw _ w_49) (fun _ h9 => h9) rfl dP_passesBeside_37 ?_
  refine lv_iload hx hb dP_passesBeside_40 (lv_at hl 1 rfl) ?_
  obtain ⟨u6, hu6, h⟩ := ob_some h
  obtain ⟨hiu6, eu6⟩ := ld_of hu6
  refine va_lald hx hb hK hPo 2 0 rfl rfl hiu6 dP_passesBeside_42 ?_
  rw [eu6]
  obtain ⟨u7, hu7, h⟩ := ob_some h
  refine vp_callSl (va_Run.run (va_runV (As := [.int x1, .long u5, .long u6]) (rest := []) ⟨hx, hb, hml, hown, hw⟩ (k_S_cross l dC dI cL cI a ax ay ae v x1 u5 u6 u7 hu7) (cwV 3 hw (gV w_287 w_265 w_266 w_7 w_267) rfl rfl rfl (by decide +kernel) ⟨Nat.le_of_ble_eq_true rfl, Nat.le_of_ble_eq_true rfl⟩) ⟨rd_blind, va_recv hK hPa (ci := 0) (q0 := 0) rfl rfl, rd_pre hPa hK⟩ rfl rfl hl.1 rfl (lv_room (Nat.le_of_ble_eq_true rfl)) dP_passesBeside_43 ⟨Nat.le_of_ble_eq_true rfl, Nat.le_of_ble_eq_true rfl⟩)) (fun z hz => ?_)
  rw [hz]; clear hz
  refine lv_lstore (lv' := [(7, .long u7), (5, .long u4), (4, .int u1), (0, .ref a), (1, .int x1), (2, .ref o), (3, .int x3)]) hx hb dP_passesBeside_46 hl (by decide) rfl (fun ls hl => ?_)
  refine lv_lload hx hb dP_passesBeside_48 (lv_at hl 1 rfl) ?_
  refine lv_lconst (v := 0) hx hb dP_passesBeside_50 (by decide) ?_
  refine W.lcmp hx hb dP_passesBeside_51 ?_
  refine lv_if_ge (tgt := 62) hx hb dP_passesBeside_52 (by decide) (fun c8 => ?_) (fun c8 => ?_)
  · have h := it_t c8 h
    exact k62 u4 u7 h ls (lv_sub hl [1, 0] rfl)
  · have h := it_f c8 h
    refine lv_lload hx hb dP_passesBeside_55 (lv_at hl 0 rfl) ?_
    refine lv_lconst (v := 0) hx hb dP_passesBeside_57 (by decide) ?_
    refine W.lcmp hx hb dP_passesBeside_58 ?_
    refine lv_if_lt (tgt := 76) hx hb dP_passesBeside_59 (by decide) (fun c9 => ?_) (fun c9 => ?_)
    · have h := it_t c9 h
      exact k76 h ls (lv_sub hl [] rfl)
    · have h := it_f c9 h
      exact k62 u4 u7 h ls (lv_sub hl [1, 0] rfl)
theorem dP_sidesMeet_0 : decode cP_sidesMeet 0 = .ok (.aload_n 0, 1) := by decide +kernel
theorem dP_sidesMeet_1 : decode cP_sidesMeet 1 = .ok (.getfield 54, 3) := by decide +kernel
theorem dP_sidesMeet_4 : decode cP_sidesMeet 4 = .ok (.iload_n 1, 1) := by decide +kernel
theorem dP_sidesMeet_5 : decode cP_sidesMeet 5 = .ok (.iaload, 1) := by decide +kernel
theorem dP_sidesMeet_6 : decode cP_sidesMeet 6 = .ok (.istore 4, 2) := by decide +kernel
theorem dP_sidesMeet_8 : decode cP_sidesMeet 8 = .ok (.aload_n 2, 1) := by decide +kernel
theorem dP_sidesMeet_9 : decode cP_sidesMeet 9 = .ok (.getfield 54, 3) := by decide +kernel
theorem dP_sidesMeet_12 : decode cP_sidesMeet 12 = .ok (.iload_n 3, 1) := by decide +kernel
theorem dP_sidesMeet_13 : decode cP_sidesMeet 13 = .ok (.iaload, 1) := by decide +kernel
theorem dP_sidesMeet_14 : decode cP_sidesMeet 14 = .ok (.istore 5, 2) := by decide +kernel
theorem dP_sidesMeet_16 : decode cP_sidesMeet 16 = .ok (.aload_n 0, 1) := by decide +kernel
theorem dP_sidesMeet_17 : decode cP_sidesMeet 17 = .ok (.getfield 35, 3) := by decide +kernel
theorem dP_sidesMeet_20 : decode cP_sidesMeet 20 = .ok (.iload_n 1, 1) := by decide +kernel
theorem dP_sidesMeet_21 : decode cP_sidesMeet 21 = .ok (.laload, 1) := by decide +kernel
theorem dP_sidesMeet_22 : decode cP_sidesMeet 22 = .ok (.aload_n 0, 1) := by decide +kernel
theorem dP_sidesMeet_23 : decode cP_sidesMeet 23 = .ok (.getfield 35, 3) := by decide +kernel
theorem dP_sidesMeet_26 : decode cP_sidesMeet 26 = .ok (.iload 4, 2) := by decide +kernel
theorem dP_sidesMeet_28 : decode cP_sidesMeet 28 = .ok (.laload, 1) := by decide +kernel
theorem dP_sidesMeet_29 : decode cP_sidesMeet 29 = .ok (.aload_n 2, 1) := by decide +kernel
theorem dP_sidesMeet_30 : decode cP_sidesMeet 30 = .ok (.getfield 35, 3) := by decide +kernel
theorem dP_sidesMeet_33 : decode cP_sidesMeet 33 = .ok (.iload_n 3, 1) := by decide +kernel
theorem dP_sidesMeet_34 : decode cP_sidesMeet 34 = .ok (.laload, 1) := by decide +kernel
theorem dP_sidesMeet_35 : decode cP_sidesMeet 35 = .ok (.aload_n 2, 1) := by decide +kernel
theorem dP_sidesMeet_36 : decode cP_sidesMeet 36 = .ok (.getfield 35, 3) := by decide +kernel
theorem dP_sidesMeet_39 : decode cP_sidesMeet 39 = .ok (.iload 5, 2) := by decide +kernel
theorem dP_sidesMeet_41 : decode cP_sidesMeet 41 = .ok (.laload, 1) := by decide +kernel
theorem dP_sidesMeet_42 : decode cP_sidesMeet 42 = .ok (.invokestatic 58, 3) := by decide +kernel
theorem dP_sidesMeet_45 : decode cP_sidesMeet 45 = .ok (.ifCond .eq 59, 3) := by decide +kernel
theorem dP_sidesMeet_48 : decode cP_sidesMeet 48 = .ok (.aload_n 0, 1) := by decide +kernel
theorem dP_sidesMeet_49 : decode cP_sidesMeet 49 = .ok (.getfield 39, 3) := by decide +kernel
theorem dP_sidesMeet_52 : decode cP_sidesMeet 52 = .ok (.iload_n 1, 1) := by decide +kernel
theorem dP_sidesMeet_53 : decode cP_sidesMeet 53 = .ok (.laload, 1) := by decide +kernel
theorem dP_sidesMeet_54 : decode cP_sidesMeet 54 = .ok (.aload_n 0, 1) := by decide +kernel
theorem dP_sidesMeet_55 : decode cP_sidesMeet 55 = .ok (.getfield 39, 3) := by decide +kernel
theorem dP_sidesMeet_58 : decode cP_sidesMeet 58 = .ok (.iload 4, 2) := by decide +kernel
theorem dP_sidesMeet_60 : decode cP_sidesMeet 60 = .ok (.laload, 1) := by decide +kernel
theorem dP_sidesMeet_61 : decode cP_sidesMeet 61 = .ok (.aload_n 2, 1) := by decide +kernel
theorem dP_sidesMeet_62 : decode cP_sidesMeet 62 = .ok (.getfield 39, 3) := by decide +kernel
theorem dP_sidesMeet_65 : decode cP_sidesMeet 65 = .ok (.iload_n 3, 1) := by decide +kernel
theorem dP_sidesMeet_66 : decode cP_sidesMeet 66 = .ok (.laload, 1) := by decide +kernel
theorem dP_sidesMeet_67 : decode cP_sidesMeet 67 = .ok (.aload_n 2, 1) := by decide +kernel
theorem dP_sidesMeet_68 : decode cP_sidesMeet 68 = .ok (.getfield 39, 3) := by decide +kernel
theorem dP_sidesMeet_71 : decode cP_sidesMeet 71 = .ok (.iload 5, 2) := by decide +kernel
theorem dP_sidesMeet_73 : decode cP_sidesMeet 73 = .ok (.laload, 1) := by decide +kernel
theorem dP_sidesMeet_74 : decode cP_sidesMeet 74 = .ok (.invokestatic 58, 3) := by decide +kernel
theorem dP_sidesMeet_77 : decode cP_sidesMeet 77 = .ok (.ifCond .eq 27, 3) := by decide +kernel
theorem dP_sidesMeet_80 : decode cP_sidesMeet 80 = .ok (.aload_n 0, 1) := by decide +kernel
theorem dP_sidesMeet_81 : decode cP_sidesMeet 81 = .ok (.iload_n 1, 1) := by decide +kernel
theorem dP_sidesMeet_82 : decode cP_sidesMeet 82 = .ok (.aload_n 2, 1) := by decide +kernel
theorem dP_sidesMeet_83 : decode cP_sidesMeet 83 = .ok (.iload_n 3, 1) := by decide +kernel
theorem dP_sidesMeet_84 : decode cP_sidesMeet 84 = .ok (.invokestatic 62, 3) := by decide +kernel
theorem dP_sidesMeet_87 : decode cP_sidesMeet 87 = .ok (.ifCond .ne 17, 3) := by decide +kernel
theorem dP_sidesMeet_90 : decode cP_sidesMeet 90 = .ok (.aload_n 2, 1) := by decide +kernel
theorem dP_sidesMeet_91 : decode cP_sidesMeet 91 = .ok (.iload_n 3, 1) := by decide +kernel
theorem dP_sidesMeet_92 : decode cP_sidesMeet 92 = .ok (.aload_n 0, 1) := by decide +kernel
theorem dP_sidesMeet_93 : decode cP_sidesMeet 93 = .ok (.iload_n 1, 1) := by decide +kernel
theorem dP_sidesMeet_94 : decode cP_sidesMeet 94 = .ok (.invokestatic 62, 3) := by decide +kernel
theorem dP_sidesMeet_97 : decode cP_sidesMeet 97 = .ok (.ifCond .ne 7, 3) := by decide +kernel
theorem dP_sidesMeet_100 : decode cP_sidesMeet 100 = .ok (.iconst 1, 1) := by decide +kernel
theorem dP_sidesMeet_101 : decode cP_sidesMeet 101 = .ok (.goto 4, 3) := by decide +kernel
theorem dP_sidesMeet_104 : decode cP_sidesMeet 104 = .ok (.iconst 0, 1) := by decide +kernel
theorem dP_sidesMeet_105 : decode cP_sidesMeet 105 = .ok (.ireturn, 1) := by decide +kernel
def f_P_sidesMeet_j105 (v : SV) (w : SV) (s0 : Int32) : Option Int32 := rb s0
def f_P_sidesMeet_j104 (v : SV) (w : SV) : Option Int32 := (f_P_sidesMeet_j105 v w (0 : Int32))
def f_P_sidesMeet (v : SV) (w : SV) (x1 : Int32) (x3 : Int32) : Option Int32 := (ld 48 (sE v) x1).bind fun u1 => (ld 48 (sE w) x3).bind fun u2 => (ld 48 (sX v) x1).bind fun u3 => (ld 48 (sX v) u1).bind fun u4 => (ld 48 (sX w) x3).bind fun u5 => (ld 48 (sX w) u2).bind fun u6 => (f_P_spansMeet u3 u4 u5 u6).bind fun u7 => (if u7 = 0 then (f_P_sidesMeet_j104 v w) else (ld 48 (sY v) x1).bind fun u9 => (ld 48 (sY v) u1).bind fun u10 => (ld 48 (sY w) x3).bind fun u11 => (ld 48 (sY w) u2).bind fun u12 => (f_P_spansMeet u9 u10 u11 u12).bind fun u13 => (if u13 = 0 then (f_P_sidesMeet_j104 v w) else (f_P_passesBeside v w x1 x3).bind fun u15 => (if u15 = 0 then (f_P_passesBeside w v x3 x1).bind fun u17 => (if u17 = 0 then (f_P_sidesMeet_j105 v w (1 : Int32)) else (f_P_sidesMeet_j104 v w)) else (f_P_sidesMeet_j104 v w))))
set_option maxHeartbeats 4000000 in
set_option maxRecDepth 100000 in
theorem k_P_sidesMeet (l : Launch) (dC : Nat → ClassId) (dI : Nat → Nat → Nat) (cL cI : ClassId) (a ax ay ae : Nat) (v : SV) (o ox oy oe : Nat) (w : SV) (x1 : Int32) (x3 : Int32) (r : Int32) (h : f_P_sidesMeet v w x1 x3 = some r) : Met l yP_sidesMeet wsP_sidesMeet ({ frames := 2, cells := 0, slots := 0, locals := 54 }) (rd_Pc [.ref a, .int x1, .ref o, .int x3] (fun H => va_P (dC, dI) cls3 (shW cL cI a ax ay ae v) H ∧ va_P (dC, dI) cls3 (shW cL cI o ox oy oe w) H) (dC, dI) cls3 [(cL, .long), (cI, .int)]) (vp_Si (fun z => z = r)) 0 0 (fun _ => False) := by
  refine Met.ofW (cc := cP_sidesMeet) (maxL := 6) (ret := (some .boolean)) (by decide) rfl ?_
  intro p e s m args below meth c s₁ B hml hv
  obtain ⟨rfl, ⟨hPa, hPo⟩, hK⟩ := hv
  have hx := B.exec
  have hb := B.bytes
  have hr := B.returns
  have hw : ∀ w ∈ wG, w.before ([.ref a, .int x1, .ref o, .int x3] : List Value).toArray s = true := fun w hq => atoms_spec (ws := wsP_sidesMeet) B.pre w (List.mem_cons_of_mem _ hq)
  have hown : s.vm.findClass R_P = some m.cls := findClass_of_methodNamed B.named
  have hlocks := B.notSynchronized
  have hl := lv_entry ([.ref a, .int x1, .ref o, .int x3] : List Value) (n := 6) (Nat.le_of_ble_eq_true rfl)
  rw [lg_entry_eq]
  generalize (lg_sl ([.ref a, .int x1, .ref o, .int x3] : List Value) ++ List.replicate (6 - (lg_sl ([.ref a, .int x1, .ref o, .int x3] : List Value)).length) Slot.unset).toArray = ls at hl ⊢
  have hl : lv_has ls 6 [(0, .ref a), (1, .int x1), (2, .ref o), (3, .int x3)] := hl
  have k105 : ∀ (s0 : Int32), f_P_sidesMeet_j105 v w s0 = some r →  ∀ (ls : Array Slot), lv_has ls 6 [] → W p l e (headSpec wsP_sidesMeet ({ frames := 2, cells := 0, slots := 0, locals := 54 })).room s m ([.ref a, .int x1, .ref o, .int x3] : List Value).toArray below meth c s.heap [] 0 0 (MQ below (vp_Si (fun z => z = r)) ([.ref a, .int x1, .ref o, .int x3] : List Value).toArray s 0 0 (fun _ => False)) (F0 m 105 ls [.int s0]) := by
    intro s0 h  ls hl
    unfold f_P_sidesMeet_j105 at h
    obtain ⟨hz, hr9⟩ := rb_of h
    exact W.zret hx hb hr hz (fun t ht hW => ⟨_, rfl, hr9, ht⟩) nil_locs dP_sidesMeet_105
  have k104 : f_P_sidesMeet_j104 v w = some r →  ∀ (ls : Array Slot), lv_has ls 6 [] → W p l e (headSpec wsP_sidesMeet ({ frames := 2, cells := 0, slots := 0, locals := 54 })).room s m ([.ref a, .int x1, .ref o, .int x3] : List Value).toArray below meth c s.heap [] 0 0 (MQ below (vp_Si (fun z => z = r)) ([.ref a, .int x1, .ref o, .int x3] : List Value).toArray s 0 0 (fun _ => False)) (F0 m 104 ls []) := by
    intro  h  ls hl
    unfold f_P_sidesMeet_j104 at h
    refine lv_iconst (v := 0) hx hb dP_sidesMeet_104 (by decide) ?_
    exact k105 (0 : Int32) h ls (lv_sub hl [] rfl)
  unfold f_P_sidesMeet at h
  refine lv_aload_n hx hb dP_sidesMeet_0 rfl (lv_at hl 0 rfl) ?_
  refine va_get (D := (dC, dI)) (ci := 0) (v := .ref ae) (C := R_S) (T := T_S) (N := 8) hx hb hw in_S hown hK hPa 0 rfl rfl 5 (by decide) (hw _ w_51) (fun _ h9 => h9) rfl dP_sidesMeet_1 ?_
  refine lv_iload_n hx hb dP_sidesMeet_4 rfl (lv_at hl 1 rfl) ?_
  obtain ⟨u1, hu1, h⟩ := ob_some h
  obtain ⟨hiu1, eu1⟩ := ld_of hu1
  refine va_iald hx hb hK hPa 3 1 rfl rfl hiu1 dP_sidesMeet_5 ?_
  rw [eu1]
  refine lv_istore (lv' := [(4, .int u1), (0, .ref a), (1, .int x1), (2, .ref o), (3, .int x3)]) hx hb dP_sidesMeet_6 hl (by decide) rfl (fun ls hl => ?_)
  refine lv_aload_n hx hb dP_sidesMeet_8 rfl (lv_at hl 3 rfl) ?_
  refine va_get (D := (dC, dI)) (ci := 0) (v := .ref oe) (C := R_S) (T := T_S) (N := 8) hx hb hw in_S hown hK hPo 0 rfl rfl 5 (by decide) (hw _ w_51) (fun _ h9 => h9) rfl dP_sidesMeet_9 ?_
  refine lv_iload_n hx hb dP_sidesMeet_12 rfl (lv_at hl 4 rfl) ?_
  obtain ⟨u2, hu2, h⟩ := ob_some h
  obtain ⟨hiu2, eu2⟩ := ld_of hu2
  refine va_iald hx hb hK hPo 3 1 rfl rfl hiu2 dP_sidesMeet_13 ?_
  rw [eu2]
  refine lv_istore (lv' := [(5, .int u2), (4, .int u1), (0, .ref a), (1, .int x1), (2, .ref o), (3, .int x3)]) hx hb dP_sidesMeet_14 hl (by decide) rfl (fun ls hl => ?_)
  refine lv_aload_n hx hb dP_sidesMeet_16 rfl (lv_at hl 2 rfl) ?_
  refine va_get (D := (dC, dI)) (ci := 0) (v := .ref ax) (C := R_S) (T := T_S) (N := 8) hx hb hw in_S hown hK hPa 0 rfl rfl 3 (by decide) (hw _ w_47) (fun _ h9 => h9) rfl dP_sidesMeet_17 ?_
  refine lv_iload_n hx hb dP_sidesMeet_20 rfl (lv_at hl 3 rfl) ?_
  obtain ⟨u3, hu3, h⟩ := ob_some h
  obtain ⟨hiu3, eu3⟩ := ld_of hu3
  refine va_lald hx hb hK hPa 1 0 rfl rfl hiu3 dP_sidesMeet_21 ?_
  rw [eu3]
  refine lv_aload_n hx hb dP_sidesMeet_22 rfl (lv_at hl 2 rfl) ?_
  refine va_get (D := (dC, dI)) (ci := 0) (v := .ref ax) (C := R_S) (T := T_S) (N := 8) hx hb hw in_S hown hK hPa 0 rfl rfl 3 (by decide) (hw _ w_47) (fun _ h9 => h9) rfl dP_sidesMeet_23 ?_
  refine lv_iload hx hb dP_sidesMeet_26 (lv_at hl 1 rfl) ?_
  obtain ⟨u4, hu4, h⟩ := ob_some h
  obtain ⟨hiu4, eu4⟩ := ld_of hu4
  refine va_lald hx hb hK hPa 1 0 rfl rfl hiu4 dP_sidesMeet_28 ?_
  rw [eu4]
  refine lv_aload_n hx hb dP_sidesMeet_29 rfl (lv_at hl 4 rfl) ?_
  refine va_get (D := (dC, dI)) (ci := 0) (v := .ref ox) (C := R_S) (T := T_S) (N := 8) hx hb hw in_S hown hK hPo 0 rfl rfl 3 (by decide) (hw _ w_47) (fun _ h9 => h9) rfl dP_sidesMeet_30 ?_
  refine lv_iload_n hx hb dP_sidesMeet_33 rfl (lv_at hl 5 rfl) ?_
  obtain ⟨u5, hu5, h⟩ := ob_some h
  obtain ⟨hiu5, eu5⟩ := ld_of hu5
  refine va_lald hx hb hK hPo 1 0 rfl rfl hiu5 dP_sidesMeet_34 ?_
  rw [eu5]
  refine lv_aload_n hx hb dP_sidesMeet_35 rfl (lv_at hl 4 rfl) ?_
  refine va_get (D := (dC, dI)) (ci := 0) (v := .ref ox) (C := R_S) (T := T_S) (N := 8) hx hb hw in_S hown hK hPo 0 rfl rfl 3 (by decide) (hw _ w_47) (fun _ h9 => h9) rfl dP_sidesMeet_36 ?_
  refine lv_iload hx hb dP_sidesMeet_39 (lv_at hl 0 rfl) ?_
  obtain ⟨u6, hu6, h⟩ := ob_some h
  obtain ⟨hiu6, eu6⟩ := ld_of hu6
  refine va_lald hx hb hK hPo 1 0 rfl rfl hiu6 dP_sidesMeet_41 ?_
  rw [eu6]
  obtain ⟨u7, hu7, h⟩ := ob_some h
  refine vp_callSi (va_Run.run (va_runS (As := [.long u3, .long u4, .long u5, .long u6]) (rest := []) ⟨hx, hb, hml, hown, hw⟩ (k_P_spansMeet l dC dI cL cI u3 u4 u5 u6 u7 hu7) (va_cwS 4 hw (gS w_275 w_276 w_10 w_277) rfl rfl rfl (by decide +kernel) ⟨Nat.le_of_ble_eq_true rfl, Nat.le_of_ble_eq_true rfl⟩) ⟨rd_blind, rd_pre trivial hK⟩ rfl rfl hl.1 rfl (lv_room (Nat.le_of_ble_eq_true rfl)) dP_sidesMeet_42 ⟨Nat.le_of_ble_eq_true rfl, Nat.le_of_ble_eq_true rfl⟩)) (fun z hz => ?_)
  rw [hz]; clear hz
  refine lv_if_eq (tgt := 104) hx hb dP_sidesMeet_45 (by decide) (fun c8 => ?_) (fun c8 => ?_)
  · have h := it_t c8 h
    exact k104 h ls (lv_sub hl [] rfl)
  · have h := it_f c8 h
    refine lv_aload_n hx hb dP_sidesMeet_48 rfl (lv_at hl 2 rfl) ?_
    refine va_get (D := (dC, dI)) (ci := 0) (v := .ref ay) (C := R_S) (T := T_S) (N := 8) hx hb hw in_S hown hK hPa 0 rfl rfl 4 (by decide) (hw _ w_49) (fun _ h9 => h9) rfl dP_sidesMeet_49 ?_
    refine lv_iload_n hx hb dP_sidesMeet_52 rfl (lv_at hl 3 rfl) ?_
    obtain ⟨u9, hu9, h⟩ := ob_some h
    obtain ⟨hiu9, eu9⟩ := ld_of hu9
    refine va_lald hx hb hK hPa 2 0 rfl rfl hiu9 dP_sidesMeet_53 ?_
    rw [eu9]
    refine lv_aload_n hx hb dP_sidesMeet_54 rfl (lv_at hl 2 rfl) ?_
    refine va_get (D := (dC, dI)) (ci := 0) (v := .ref ay) (C := R_S) (T := T_S) (N := 8) hx hb hw in_S hown hK hPa 0 rfl rfl 4 (by decide) (hw _ w_49) (fun _ h9 => h9) rfl dP_sidesMeet_55 ?_
    refine lv_iload hx hb dP_sidesMeet_58 (lv_at hl 1 rfl) ?_
    obtain ⟨u10, hu10, h⟩ := ob_some h
    obtain ⟨hiu10, eu10⟩ := ld_of hu10
    refine va_lald hx hb hK hPa 2 0 rfl rfl hiu10 dP_sidesMeet_60 ?_
    rw [eu10]
    refine lv_aload_n hx hb dP_sidesMeet_61 rfl (lv_at hl 4 rfl) ?_
    refine va_get (D := (dC, dI)) (ci := 0) (v := .ref oy) (C := R_S) (T := T_S) (N := 8) hx hb hw in_S hown hK hPo 0 rfl rfl 4 (by decide) (hw _ w_49) (fun _ h9 => h9) rfl dP_sidesMeet_62 ?_
    refine lv_iload_n hx hb dP_sidesMeet_65 rfl (lv_at hl 5 rfl) ?_
    obtain ⟨u11, hu11, h⟩ := ob_some h
    obtain ⟨hiu11, eu11⟩ := ld_of hu11
    refine va_lald hx hb hK hPo 2 0 rfl rfl hiu11 dP_sidesMeet_66 ?_
    rw [eu11]
    refine lv_aload_n hx hb dP_sidesMeet_67 rfl (lv_at hl 4 rfl) ?_
    refine va_get (D := (dC, dI)) (ci := 0) (v := .ref oy) (C := R_S) (T := T_S) (N := 8) hx hb hw in_S hown hK hPo 0 rfl rfl 4 (by decide) (hw _ w_49) (fun _ h9 => h9) rfl dP_sidesMeet_68 ?_
    refine lv_iload hx hb dP_sidesMeet_71 (lv_at hl 0 rfl) ?_
    obtain ⟨u12, hu12, h⟩ := ob_some h
    obtain ⟨hiu12, eu12⟩ := ld_of hu12
    refine va_lald hx hb hK hPo 2 0 rfl rfl hiu12 dP_sidesMeet_73 ?_
    rw [eu12]
    obtain ⟨u13, hu13, h⟩ := ob_some h
    refine vp_callSi (va_Run.run (va_runS (As := [.long u9, .long u10, .long u11, .long u12]) (rest := []) ⟨hx, hb, hml, hown, hw⟩ (k_P_spansMeet l dC dI cL cI u9 u10 u11 u12 u13 hu13) (va_cwS 4 hw (gS w_275 w_276 w_10 w_277) rfl rfl rfl (by decide +kernel) ⟨Nat.le_of_ble_eq_true rfl, Nat.le_of_ble_eq_true rfl⟩) ⟨rd_blind, rd_pre trivial hK⟩ rfl rfl hl.1 rfl (lv_room (Nat.le_of_ble_eq_true rfl)) dP_sidesMeet_74 ⟨Nat.le_of_ble_eq_true rfl, Nat.le_of_ble_eq_true rfl⟩)) (fun z hz => ?_)
    rw [hz]; clear hz
    refine lv_if_eq (tgt := 104) hx hb dP_sidesMeet_77 (by decide) (fun c14 => ?_) (fun c14 => ?_)
    · have h := it_t c14 h
      exact k104 h ls (lv_sub hl [] rfl)
    · have h := it_f c14 h
      refine lv_aload_n hx hb dP_sidesMeet_80 rfl (lv_at hl 2 rfl) ?_
      refine lv_iload_n hx hb dP_sidesMeet_81 rfl (lv_at hl 3 rfl) ?_
      refine lv_aload_n hx hb dP_sidesMeet_82 rfl (lv_at hl 4 rfl) ?_
      refine lv_iload_n hx hb dP_sidesMeet_83 rfl (lv_at hl 5 rfl) ?_
      obtain ⟨u15, hu15, h⟩ := ob_some h
      refine vp_callSi (va_Run.run (va_runS (As := [.ref a, .int x1, .ref o, .int x3]) (rest := []) ⟨hx, hb, hml, hown, hw⟩ (k_P_passesBeside l dC dI cL cI a ax ay ae v o ox oy oe w x1 x3 u15 hu15) (va_cwS 4 hw (gS w_284 w_285 w_10 w_286) rfl rfl rfl (by decide +kernel) ⟨Nat.le_of_ble_eq_true rfl, Nat.le_of_ble_eq_true rfl⟩) ⟨rd_blind, rd_pre ⟨hPa, hPo⟩ hK⟩ rfl rfl hl.1 rfl (lv_room (Nat.le_of_ble_eq_true rfl)) dP_sidesMeet_84 ⟨Nat.le_of_ble_eq_true rfl, Nat.le_of_ble_eq_true rfl⟩)) (fun z hz => ?_)
      rw [hz]; clear hz
      refine lv_if_ne (tgt := 104) hx hb dP_sidesMeet_87 (by decide) (fun c16 => ?_) (fun c16 => ?_)
      · have h := it_f c16 h
        exact k104 h ls (lv_sub hl [] rfl)
      · have h := it_t c16 h
        refine lv_aload_n hx hb dP_sidesMeet_90 rfl (lv_at hl 4 rfl) ?_
        refine lv_iload_n hx hb dP_sidesMeet_91 rfl (lv_at hl 5 rfl) ?_
        refine lv_aload_n hx hb dP_sidesMeet_92 rfl (lv_at hl 2 rfl) ?_
        refine lv_iload_n hx hb dP_sidesMeet_93 rfl (lv_at hl 3 rfl) ?_
        obtain ⟨u17, hu17, h⟩ := ob_some h
        refine vp_callSi (va_Run.run (va_runS (As := [.ref o, .int x3, .ref a, .int x1]) (rest := []) ⟨hx, hb, hml, hown, hw⟩ (k_P_passesBeside l dC dI cL cI o ox oy oe w a ax ay ae v x3 x1 u17 hu17) (va_cwS 4 hw (gS w_284 w_285 w_10 w_286) rfl rfl rfl (by decide +kernel) ⟨Nat.le_of_ble_eq_true rfl, Nat.le_of_ble_eq_true rfl⟩) ⟨rd_blind, rd_pre ⟨hPo, hPa⟩ hK⟩ rfl rfl hl.1 rfl (lv_room (Nat.le_of_ble_eq_true rfl)) dP_sidesMeet_94 ⟨Nat.le_of_ble_eq_true rfl, Nat.le_of_ble_eq_true rfl⟩)) (fun z hz => ?_)
        rw [hz]; clear hz
        refine lv_if_ne (tgt := 104) hx hb dP_sidesMeet_97 (by decide) (fun c18 => ?_) (fun c18 => ?_)
        · have h := it_f c18 h
          exact k104 h ls (lv_sub hl [] rfl)
        · have h := it_t c18 h
          refine lv_iconst (v := 1) hx hb dP_sidesMeet_100 (by decide) ?_
          refine lv_goto (tgt := 105) hx hb dP_sidesMeet_101 (by decide) ?_
          exact k105 (1 : Int32) h ls (lv_sub hl [] rfl)
theorem dS_isOpenRingCrossing_0 : decode cS_isOpenRingCrossing 0 = .ok (.aload_n 0, 1) := by decide +kernel
theorem dS_isOpenRingCrossing_1 : decode cS_isOpenRingCrossing 1 = .ok (.getfield 37, 3) := by decide +kernel
theorem dS_isOpenRingCrossing_4 : decode cS_isOpenRingCrossing 4 = .ok (.istore_n 1, 1) := by decide +kernel
theorem dS_isOpenRingCrossing_5 : decode cS_isOpenRingCrossing 5 = .ok (.iload_n 1, 1) := by decide +kernel
theorem dS_isOpenRingCrossing_6 : decode cS_isOpenRingCrossing 6 = .ok (.aload_n 0, 1) := by decide +kernel
theorem dS_isOpenRingCrossing_7 : decode cS_isOpenRingCrossing 7 = .ok (.getfield 34, 3) := by decide +kernel
theorem dS_isOpenRingCrossing_10 : decode cS_isOpenRingCrossing 10 = .ok (.if_icmp .ge 64, 3) := by decide +kernel
theorem dS_isOpenRingCrossing_13 : decode cS_isOpenRingCrossing 13 = .ok (.iconst 0, 1) := by decide +kernel
theorem dS_isOpenRingCrossing_14 : decode cS_isOpenRingCrossing 14 = .ok (.istore_n 2, 1) := by decide +kernel
theorem dS_isOpenRingCrossing_15 : decode cS_isOpenRingCrossing 15 = .ok (.iload_n 2, 1) := by decide +kernel
theorem dS_isOpenRingCrossing_16 : decode cS_isOpenRingCrossing 16 = .ok (.iload_n 1, 1) := by decide +kernel
theorem dS_isOpenRingCrossing_17 : decode cS_isOpenRingCrossing 17 = .ok (.if_icmp .ge 51, 3) := by decide +kernel
theorem dS_isOpenRingCrossing_20 : decode cS_isOpenRingCrossing 20 = .ok (.aload_n 0, 1) := by decide +kernel
theorem dS_isOpenRingCrossing_21 : decode cS_isOpenRingCrossing 21 = .ok (.getfield 30, 3) := by decide +kernel
theorem dS_isOpenRingCrossing_24 : decode cS_isOpenRingCrossing 24 = .ok (.iload_n 1, 1) := by decide +kernel
theorem dS_isOpenRingCrossing_25 : decode cS_isOpenRingCrossing 25 = .ok (.iaload, 1) := by decide +kernel
theorem dS_isOpenRingCrossing_26 : decode cS_isOpenRingCrossing 26 = .ok (.iload_n 2, 1) := by decide +kernel
theorem dS_isOpenRingCrossing_27 : decode cS_isOpenRingCrossing 27 = .ok (.if_icmp .eq 13, 3) := by decide +kernel
theorem dS_isOpenRingCrossing_30 : decode cS_isOpenRingCrossing 30 = .ok (.aload_n 0, 1) := by decide +kernel
theorem dS_isOpenRingCrossing_31 : decode cS_isOpenRingCrossing 31 = .ok (.getfield 30, 3) := by decide +kernel
theorem dS_isOpenRingCrossing_34 : decode cS_isOpenRingCrossing 34 = .ok (.iload_n 2, 1) := by decide +kernel
theorem dS_isOpenRingCrossing_35 : decode cS_isOpenRingCrossing 35 = .ok (.iaload, 1) := by decide +kernel
theorem dS_isOpenRingCrossing_36 : decode cS_isOpenRingCrossing 36 = .ok (.iload_n 1, 1) := by decide +kernel
theorem dS_isOpenRingCrossing_37 : decode cS_isOpenRingCrossing 37 = .ok (.if_icmp .ne 7, 3) := by decide +kernel
theorem dS_isOpenRingCrossing_40 : decode cS_isOpenRingCrossing 40 = .ok (.iconst 1, 1) := by decide +kernel
theorem dS_isOpenRingCrossing_41 : decode cS_isOpenRingCrossing 41 = .ok (.goto 4, 3) := by decide +kernel
theorem dS_isOpenRingCrossing_44 : decode cS_isOpenRingCrossing 44 = .ok (.iconst 0, 1) := by decide +kernel
theorem dS_isOpenRingCrossing_45 : decode cS_isOpenRingCrossing 45 = .ok (.istore_n 3, 1) := by decide +kernel
theorem dS_isOpenRingCrossing_46 : decode cS_isOpenRingCrossing 46 = .ok (.iload_n 3, 1) := by decide +kernel
theorem dS_isOpenRingCrossing_47 : decode cS_isOpenRingCrossing 47 = .ok (.ifCond .ne 15, 3) := by decide +kernel
theorem dS_isOpenRingCrossing_50 : decode cS_isOpenRingCrossing 50 = .ok (.aload_n 0, 1) := by decide +kernel
theorem dS_isOpenRingCrossing_51 : decode cS_isOpenRingCrossing 51 = .ok (.iload_n 1, 1) := by decide +kernel
theorem dS_isOpenRingCrossing_52 : decode cS_isOpenRingCrossing 52 = .ok (.aload_n 0, 1) := by decide +kernel
theorem dS_isOpenRingCrossing_53 : decode cS_isOpenRingCrossing 53 = .ok (.iload_n 2, 1) := by decide +kernel
theorem dS_isOpenRingCrossing_54 : decode cS_isOpenRingCrossing 54 = .ok (.invokestatic 54, 3) := by decide +kernel
theorem dS_isOpenRingCrossing_57 : decode cS_isOpenRingCrossing 57 = .ok (.ifCond .eq 5, 3) := by decide +kernel
theorem dS_isOpenRingCrossing_60 : decode cS_isOpenRingCrossing 60 = .ok (.iconst 1, 1) := by decide +kernel
theorem dS_isOpenRingCrossing_61 : decode cS_isOpenRingCrossing 61 = .ok (.ireturn, 1) := by decide +kernel
theorem dS_isOpenRingCrossing_62 : decode cS_isOpenRingCrossing 62 = .ok (.iinc 2 1, 3) := by decide +kernel
theorem dS_isOpenRingCrossing_65 : decode cS_isOpenRingCrossing 65 = .ok (.goto (-50), 3) := by decide +kernel
theorem dS_isOpenRingCrossing_68 : decode cS_isOpenRingCrossing 68 = .ok (.iinc 1 1, 3) := by decide +kernel
theorem dS_isOpenRingCrossing_71 : decode cS_isOpenRingCrossing 71 = .ok (.goto (-66), 3) := by decide +kernel
theorem dS_isOpenRingCrossing_74 : decode cS_isOpenRingCrossing 74 = .ok (.iconst 0, 1) := by decide +kernel
theorem dS_isOpenRingCrossing_75 : decode cS_isOpenRingCrossing 75 = .ok (.ireturn, 1) := by decide +kernel
def f_S_isOpenRingCrossing_j62 (v : SV) (K5 : Int32 → Option Int32) (K15 : Int32 → Int32 → Option Int32) (p1 : Int32) (p2 : Int32) : Option Int32 := (K15 p1 (p2 + 1))
def f_S_isOpenRingCrossing_j45 (v : SV) (K5 : Int32 → Option Int32) (K15 : Int32 → Int32 → Option Int32) (p1 : Int32) (p2 : Int32) (s0 : Int32) : Option Int32 := (if s0 = 0 then (f_P_sidesMeet v v p1 p2).bind fun u8 => (if u8 = 0 then (f_S_isOpenRingCrossing_j62 v K5 K15 p1 p2) else rb (1 : Int32)) else (f_S_isOpenRingCrossing_j62 v K5 K15 p1 p2))
def f_S_isOpenRingCrossing_j40 (v : SV) (K5 : Int32 → Option Int32) (K15 : Int32 → Int32 → Option Int32) (p1 : Int32) (p2 : Int32) : Option Int32 := (f_S_isOpenRingCrossing_j45 v K5 K15 p1 p2 (1 : Int32))
def f_S_isOpenRingCrossing_l15 (v : SV) (K5 : Int32 → Option Int32) : Nat → Int32 → Int32 → Option Int32
 | 0, _, _ => none
 | n + 1, p1, p2 => (if p1 ≤ p2 then (K5 (p1 + 1)) else (ld 48 (sE v) p1).bind fun u3 => (if u3 = p2 then (f_S_isOpenRingCrossing_j40 v K5 (f_S_isOpenRingCrossing_l15 v K5 n) p1 p2) else (ld 48 (sE v) p2).bind fun u5 => (if u5 = p1 then (f_S_isOpenRingCrossing_j40 v K5 (f_S_isOpenRingCrossing_l15 v K5 n) p1 p2) else (f_S_isOpenRingCrossing_j45 v K5 (f_S_isOpenRingCrossing_l15 v K5 n) p1 p2 (0 : Int32)))))
def f_S_isOpenRingCrossing_l5 (v : SV) : Nat → Int32 → Option Int32
 | 0, _ => none
 | n + 1, p1 => (if (sN v) ≤ p1 then rb (0 : Int32) else (f_S_isOpenRingCrossing_l15 v (f_S_isOpenRingCrossing_l5 v n) 64 p1 (0 : Int32)))
def f_S_isOpenRingCrossing (v : SV) : Option Int32 := (f_S_isOpenRingCrossing_l5 v 64 (sO v))
set_option maxHeartbeats 4000000 in
set_option maxRecDepth 100000 in
theorem k_S_isOpenRingCrossing (l : Launch) (dC : Nat → ClassId) (dI : Nat → Nat → Nat) (cL cI : ClassId) (a ax ay ae : Nat) (v : SV) (r : Int32) (h : f_S_isOpenRingCrossing v = some r) : Met l yS_isOpenRingCrossing wsS_isOpenRingCrossing ({ frames := 3, cells := 0, slots := 0, locals := 79 }) (rd_Pc [.ref a] (fun H => va_P (dC, dI) cls3 (shW cL cI a ax ay ae v) H) (dC, dI) cls3 [(cL, .long), (cI, .int)]) (vp_Si (fun z => z = r)) 0 0 (fun _ => False) := by
  refine Met.ofW (cc := cS_isOpenRingCrossing) (maxL := 4) (ret := (some .boolean)) (by decide) rfl ?_
  intro p e s m args below meth c s₁ B hml hv
  obtain ⟨rfl, hPa, hK⟩ := hv
  have hx := B.exec
  have hb := B.bytes
  have hr := B.returns
  have hw : ∀ w ∈ wG, w.before ([.ref a] : List Value).toArray s = true := fun w hq => atoms_spec (ws := wsS_isOpenRingCrossing) B.pre w (List.mem_cons_of_mem _ hq)
  have hown : s.vm.findClass R_S = some m.cls := findClass_of_methodNamed B.named
  have hlocks := B.notSynchronized
  have hl := lv_entry ([.ref a] : List Value) (n := 4) (Nat.le_of_ble_eq_true rfl)
  rw [lg_entry_eq]
  generalize (lg_sl ([.ref a] : List Value) ++ List.replicate (4 - (lg_sl ([.ref a] : List Value)).length) Slot.unset).toArray = ls at hl ⊢
  have hl : lv_has ls 4 [(0, .ref a)] := hl
  have k5 : ∀ (n5 : Nat), ∀ (p1 : Int32), f_S_isOpenRingCrossing_l5 v n5 p1 = some r →  ∀ (ls : Array Slot), lv_has ls 4 [(0, .ref a), (1, .int p1)] → W p l e (headSpec wsS_isOpenRingCrossing ({ frames := 3, cells := 0, slots := 0, locals := 79 })).room s m ([.ref a] : List Value).toArray below meth c s.heap [] 0 0 (MQ below (vp_Si (fun z => z = r)) ([.ref a] : List Value).toArray s 0 0 (fun _ => False)) (F0 m 5 ls []) := by
    intro n5
    induction n5 with
    | zero => intro p1 h; exact absurd h (by simp [f_S_isOpenRingCrossing_l5])
    | succ n5 ih5 =>
      have k15 : ∀ (n15 : Nat), ∀ (p1 : Int32) (p2 : Int32), f_S_isOpenRingCrossing_l15 v (f_S_isOpenRingCrossing_l5 v n5) n15 p1 p2 = some r →  ∀ (ls : Array Slot), lv_has ls 4 [(0, .ref a), (1, .int p1), (2, .int p2)] → W p l e (headSpec wsS_isOpenRingCrossing ({ frames := 3, cells := 0, slots := 0, locals := 79 })).room s m ([.ref a] : List Value).toArray below meth c s.heap [] 0 0 (MQ below (vp_Si (fun z => z = r)) ([.ref a] : List Value).toArray s 0 0 (fun _ => False)) (F0 m 15 ls []) := by
        intro n15
        induction n15 with
        | zero => intro p1 p2 h; exact absurd h (by simp [f_S_isOpenRingCrossing_l15])
        | succ n15 ih15 =>
          have k62 : ∀ (p1 : Int32) (p2 : Int32), f_S_isOpenRingCrossing_j62 v (f_S_isOpenRingCrossing_l5 v n5) (f_S_isOpenRingCrossing_l15 v (f_S_isOpenRingCrossing_l5 v n5) n15) p1 p2 = some r →  ∀ (ls : Array Slot), lv_has ls 4 [(0, .ref a), (1, .int p1), (2, .int p2)] → W p l e (headSpec wsS_isOpenRingCrossing ({ frames := 3, cells := 0, slots := 0, locals := 79 })).room s m ([.ref a] : List Value).toArray below meth c s.heap [] 0 0 (MQ below (vp_Si (fun z => z = r)) ([.ref a] : List Value).toArray s 0 0 (fun _ => False)) (F0 m 62 ls []) := by
            intro p1 p2 h  ls hl
            unfold f_S_isOpenRingCrossing_j62 at h
            refine lv_iinc (v := p2 + 1) (lv' := [(2, .int (p2 + 1)), (0, .ref a), (1, .int p1)]) hx hb dS_isOpenRingCrossing_62 hl (k := 2) rfl rfl (by decide) rfl (fun ls hl => ?_)
            refine lv_goto (tgt := 15) hx hb dS_isOpenRingCrossing_65 (by decide) ?_
            exact ih15 p1 (p2 + 1) h ls (lv_sub hl [1, 2, 0] rfl)
          have k45 : ∀ (p1 : Int32) (p2 : Int32) (s0 : Int32), f_S_isOpenRingCrossing_j45 v (f_S_isOpenRingCrossing_l5 v n5) (f_S_isOpenRingCrossing_l15 v (f_S_isOpenRingCrossing_l5 v n5) n15) p1 p2 s0 = some r →  ∀ (ls : Array Slot), lv_has ls 4 [(0, .ref a), (1, .int p1), (2, .int p2)] → W p l e (headSpec wsS_isOpenRingCrossing ({ frames := 3, cells := 0, slots := 0, locals := 79 })).room s m ([.ref a] : List Value).toArray below meth c s.heap [] 0 0 (MQ below (vp_Si (fun z => z = r)) ([.ref a] : List Value).toArray s 0 0 (fun _ => False)) (F0 m 45 ls [.int s0]) := by
            intro p1 p2 s0 h  ls hl
            unfold f_S_isOpenRingCrossing_j45 at h
            refine lv_istore_n (lv' := [(3, .int s0), (0, .ref a), (1, .int p1), (2, .int p2)]) hx hb dS_isOpenRingCrossing_45 rfl hl (by decide) rfl (fun ls hl => ?_)
            refine lv_iload_n hx hb dS_isOpenRingCrossing_46 rfl (lv_at hl 0 rfl) ?_
            refine lv_if_ne (tgt := 62) hx hb dS_isOpenRingCrossing_47 (by decide) (fun c7 => ?_) (fun c7 => ?_)
            · have h := it_f c7 h
              exact k62 p1 p2 h ls (lv_sub hl [1, 2, 3] rfl)
            · have h := it_t c7 h
              refine lv_aload_n hx hb dS_isOpenRingCrossing_50 rfl (lv_at hl 1 rfl) ?_
              refine lv_iload_n hx hb dS_isOpenRingCrossing_51 rfl (lv_at hl 2 rfl) ?_
              refine lv_aload_n hx hb dS_isOpenRingCrossing_52 rfl (lv_at hl 1 rfl) ?_
              refine lv_iload_n hx hb dS_isOpenRingCrossing_53 rfl (lv_at hl 3 rfl) ?_
              obtain ⟨u8, hu8, h⟩ := ob_some h
              refine vp_callSi (va_Run.run (va_runS (As := [.ref a, .int p1, .ref a, .int p2]) (rest := []) ⟨hx, hb, hml, hown, hw⟩ (k_P_sidesMeet l dC dI cL cI a ax ay ae v a ax ay ae v p1 p2 u8 hu8) (va_cwS 4 hw (gS w_272 w_273 w_10 w_274) rfl rfl rfl (by decide +kernel) ⟨Nat.le_of_ble_eq_true rfl, Nat.le_of_ble_eq_true rfl⟩) ⟨rd_blind, rd_pre ⟨hPa, hPa⟩ hK⟩ rfl rfl hl.1 rfl (lv_room (Nat.le_of_ble_eq_true rfl)) dS_isOpenRingCrossing_54 ⟨Nat.le_of_ble_eq_true rfl, Nat.le_of_ble_eq_true rfl⟩)) (fun z hz => ?_)
              rw [hz]; clear hz
              refine lv_if_eq (tgt := 62) hx hb dS_isOpenRingCrossing_57 (by decide) (fun c9 => ?_) (fun c9 => ?_)
              · have h := it_t c9 h
                exact k62 p1 p2 h ls (lv_sub hl [1, 2, 3] rfl)
              · have h := it_f c9 h
                refine lv_iconst (v := 1) hx hb dS_isOpenRingCrossing_60 (by decide) ?_
                obtain ⟨hz, hr9⟩ := rb_of h
                exact W.zret hx hb hr hz (fun t ht hW => ⟨_, rfl, hr9, ht⟩) nil_locs dS_isOpenRingCrossing_61
          have k40 : ∀ (p1 : Int32) (p2 : Int32), f_S_isOpenRingCrossing_j40 v (f_S_isOpenRingCrossing_l5 v n5) (f_S_isOpenRingCrossing_l15 v (f_S_isOpenRingCrossing_l5 v n5) n15) p1 p2 = some r →  ∀ (ls : Array Slot), lv_has ls 4 [(0, .ref a), (1, .int p1), (2, .int p2)] → W p l e (headSpec wsS_isOpenRingCrossing ({ frames := 3, cells := 0, slots := 0, locals := 79 })).room s m ([.ref a] : List Value).toArray below meth c s.heap [] 0 0 (MQ below (vp_Si (fun z => z = r)) ([.ref a] : List Value).toArray s 0 0 (fun _ => False)) (F0 m 40 ls []) := by
            intro p1 p2 h  ls hl
            unfold f_S_isOpenRingCrossing_j40 at h
            refine lv_iconst (v := 1) hx hb dS_isOpenRingCrossing_40 (by decide) ?_
            refine lv_goto (tgt := 45) hx hb dS_isOpenRingCrossing_41 (by decide) ?_
            exact k45 p1 p2 (1 : Int32) h ls (lv_sub hl [0, 1, 2] rfl)
          intro p1 p2 h  ls hl
          rw [f_S_isOpenRingCrossing_l15] at h
          refine lv_iload_n hx hb dS_isOpenRingCrossing_15 rfl (lv_at hl 2 rfl) ?_
          refine lv_iload_n hx hb dS_isOpenRingCrossing_16 rfl (lv_at hl 1 rfl) ?_
          refine lv_icmp_ge (tgt := 68) hx hb dS_isOpenRingCrossing_17 (by decide) (fun c2 => ?_) (fun c2 => ?_)
          · have h := it_t c2 h
            refine lv_iinc (v := p1 + 1) (lv' := [(1, .int (p1 + 1)), (0, .ref a), (2, .int p2)]) hx hb dS_isOpenRingCrossing_68 hl (k := 1) rfl rfl (by decide) rfl (fun ls hl => ?_)
            refine lv_goto (tgt := 5) hx hb dS_isOpenRingCrossing_71 (by decide) ?_
            exact ih5 (p1 + 1) h ls (lv_sub hl [1, 0] rfl)
          · have h := it_f c2 h
            refine lv_aload_n hx hb dS_isOpenRingCrossing_20 rfl (lv_at hl 0 rfl) ?_
            refine va_get (D := (dC, dI)) (ci := 0) (v := .ref ae) (C := R_S) (T := T_S) (N := 8) hx hb hw in_S hown hK hPa 0 rfl rfl 5 (by decide) (hw _ w_50) (fun _ h9 => h9) rfl dS_isOpenRingCrossing_21 ?_
            refine lv_iload_n hx hb dS_isOpenRingCrossing_24 rfl (lv_at hl 1 rfl) ?_
            obtain ⟨u3, hu3, h⟩ := ob_some h
            obtain ⟨hiu3, eu3⟩ := ld_of hu3
            refine va_iald hx hb hK hPa 3 1 rfl rfl hiu3 dS_isOpenRingCrossing_25 ?_
            rw [eu3]
            refine lv_iload_n hx hb dS_isOpenRingCrossing_26 rfl (lv_at hl 2 rfl) ?_
            refine lv_icmp_eq (tgt := 40) hx hb dS_isOpenRingCrossing_27 (by decide) (fun c4 => ?_) (fun c4 => ?_)
            · have h := it_t c4 h
              exact k40 p1 p2 h ls (lv_sub hl [0, 1, 2] rfl)
            · have h := it_f c4 h
              refine lv_aload_n hx hb dS_isOpenRingCrossing_30 rfl (lv_at hl 0 rfl) ?_
              refine va_get (D := (dC, dI)) (ci := 0) (v := .ref ae) (C := R_S) (T := T_S) (N := 8) hx hb hw in_S hown hK hPa 0 rfl rfl 5 (by decide) (hw _ w_50) (fun _ h9 => h9) rfl dS_isOpenRingCrossing_31 ?_
              refine lv_iload_n hx hb dS_isOpenRingCrossing_34 rfl (lv_at hl 2 rfl) ?_
              obtain ⟨u5, hu5, h⟩ := ob_some h
              obtain ⟨hiu5, eu5⟩ := ld_of hu5
              refine va_iald hx hb hK hPa 3 1 rfl rfl hiu5 dS_isOpenRingCrossing_35 ?_
              rw [eu5]
              refine lv_iload_n hx hb dS_isOpenRingCrossing_36 rfl (lv_at hl 1 rfl) ?_
              refine lv_icmp_ne (tgt := 44) hx hb dS_isOpenRingCrossing_37 (by decide) (fun c6 => ?_) (fun c6 => ?_)
              · have h := it_f c6 h
                refine lv_iconst (v := 0) hx hb dS_isOpenRingCrossing_44 (by decide) ?_
                exact k45 p1 p2 (0 : Int32) h ls (lv_sub hl [0, 1, 2] rfl)
              · have h := it_t c6 h
                exact k40 p1 p2 h ls (lv_sub hl [0, 1, 2] rfl)
      intro p1 h  ls hl
      rw [f_S_isOpenRingCrossing_l5] at h
      refine lv_iload_n hx hb dS_isOpenRingCrossing_5 rfl (lv_at hl 1 rfl) ?_
      refine lv_aload_n hx hb dS_isOpenRingCrossing_6 rfl (lv_at hl 0 rfl) ?_
      refine va_get (D := (dC, dI)) (ci := 0) (v := .int (sN v)) (C := R_S) (T := T_S) (N := 8) hx hb hw in_S hown hK hPa 0 rfl rfl 6 (by decide) (hw _ w_52) (fun _ h9 => h9) rfl dS_isOpenRingCrossing_7 ?_
      refine lv_icmp_ge (tgt := 74) hx hb dS_isOpenRingCrossing_10 (by decide) (fun c1 => ?_) (fun c1 => ?_)
      · have h := it_t c1 h
        refine lv_iconst (v := 0) hx hb dS_isOpenRingCrossing_74 (by decide) ?_
        obtain ⟨hz, hr9⟩ := rb_of h
        exact W.zret hx hb hr hz (fun t ht hW => ⟨_, rfl, hr9, ht⟩) nil_locs dS_isOpenRingCrossing_75
      · have h := it_f c1 h
        refine lv_iconst (v := 0) hx hb dS_isOpenRingCrossing_13 (by decide) ?_
        refine lv_istore_n (lv' := [(2, .int (0 : Int32)), (0, .ref a), (1, .int p1)]) hx hb dS_isOpenRingCrossing_14 rfl hl (by decide) rfl (fun ls hl => ?_)
        exact k15 64 p1 (0 : Int32) h ls (lv_sub hl [1, 2, 0] rfl)
  unfold f_S_isOpenRingCrossing at h
  refine lv_aload_n hx hb dS_isOpenRingCrossing_0 rfl (lv_at hl 0 rfl) ?_
  refine va_get (D := (dC, dI)) (ci := 0) (v := .int (sO v)) (C := R_S) (T := T_S) (N := 8) hx hb hw in_S hown hK hPa 0 rfl rfl 7 (by decide) (hw _ w_54) (fun _ h9 => h9) rfl dS_isOpenRingCrossing_1 ?_
  refine lv_istore_n (lv' := [(1, .int (sO v)), (0, .ref a)]) hx hb dS_isOpenRingCrossing_4 rfl hl (by decide) rfl (fun ls hl => ?_)
  exact k5 64 (sO v) h ls (lv_sub hl [1, 0] rfl)
theorem dP_coresMeet_0 : decode cP_coresMeet 0 = .ok (.iconst 0, 1) := by decide +kernel
theorem dP_coresMeet_1 : decode cP_coresMeet 1 = .ok (.istore_n 2, 1) := by decide +kernel
theorem dP_coresMeet_2 : decode cP_coresMeet 2 = .ok (.iload_n 2, 1) := by decide +kernel
theorem dP_coresMeet_3 : decode cP_coresMeet 3 = .ok (.aload_n 0, 1) := by decide +kernel
theorem dP_coresMeet_4 : decode cP_coresMeet 4 = .ok (.getfield 29, 3) := by decide +kernel
theorem dP_coresMeet_7 : decode cP_coresMeet 7 = .ok (.if_icmp .ge 37, 3) := by decide +kernel
theorem dP_coresMeet_10 : decode cP_coresMeet 10 = .ok (.iconst 0, 1) := by decide +kernel
theorem dP_coresMeet_11 : decode cP_coresMeet 11 = .ok (.istore_n 3, 1) := by decide +kernel
theorem dP_coresMeet_12 : decode cP_coresMeet 12 = .ok (.iload_n 3, 1) := by decide +kernel
theorem dP_coresMeet_13 : decode cP_coresMeet 13 = .ok (.aload_n 1, 1) := by decide +kernel
theorem dP_coresMeet_14 : decode cP_coresMeet 14 = .ok (.getfield 29, 3) := by decide +kernel
theorem dP_coresMeet_17 : decode cP_coresMeet 17 = .ok (.if_icmp .ge 21, 3) := by decide +kernel
theorem dP_coresMeet_20 : decode cP_coresMeet 20 = .ok (.aload_n 0, 1) := by decide +kernel
theorem dP_coresMeet_21 : decode cP_coresMeet 21 = .ok (.iload_n 2, 1) := by decide +kernel
theorem dP_coresMeet_22 : decode cP_coresMeet 22 = .ok (.aload_n 1, 1) := by decide +kernel
theorem dP_coresMeet_23 : decode cP_coresMeet 23 = .ok (.iload_n 3, 1) := by decide +kernel
theorem dP_coresMeet_24 : decode cP_coresMeet 24 = .ok (.invokestatic 46, 3) := by decide +kernel
theorem dP_coresMeet_27 : decode cP_coresMeet 27 = .ok (.ifCond .eq 5, 3) := by decide +kernel
theorem dP_coresMeet_30 : decode cP_coresMeet 30 = .ok (.iconst 1, 1) := by decide +kernel
theorem dP_coresMeet_31 : decode cP_coresMeet 31 = .ok (.ireturn, 1) := by decide +kernel
theorem dP_coresMeet_32 : decode cP_coresMeet 32 = .ok (.iinc 3 1, 3) := by decide +kernel
theorem dP_coresMeet_35 : decode cP_coresMeet 35 = .ok (.goto (-23), 3) := by decide +kernel
theorem dP_coresMeet_38 : decode cP_coresMeet 38 = .ok (.iinc 2 1, 3) := by decide +kernel
theorem dP_coresMeet_41 : decode cP_coresMeet 41 = .ok (.goto (-39), 3) := by decide +kernel
theorem dP_coresMeet_44 : decode cP_coresMeet 44 = .ok (.aload_n 0, 1) := by decide +kernel
theorem dP_coresMeet_45 : decode cP_coresMeet 45 = .ok (.aload_n 1, 1) := by decide +kernel
theorem dP_coresMeet_46 : decode cP_coresMeet 46 = .ok (.invokevirtual 50, 3) := by decide +kernel
theorem dP_coresMeet_49 : decode cP_coresMeet 49 = .ok (.ifCond .ne 11, 3) := by decide +kernel
theorem dP_coresMeet_52 : decode cP_coresMeet 52 = .ok (.aload_n 1, 1) := by decide +kernel
theorem dP_coresMeet_53 : decode cP_coresMeet 53 = .ok (.aload_n 0, 1) := by decide +kernel
theorem dP_coresMeet_54 : decode cP_coresMeet 54 = .ok (.invokevirtual 50, 3) := by decide +kernel
theorem dP_coresMeet_57 : decode cP_coresMeet 57 = .ok (.ifCond .eq 7, 3) := by decide +kernel
theorem dP_coresMeet_60 : decode cP_coresMeet 60 = .ok (.iconst 1, 1) := by decide +kernel
theorem dP_coresMeet_61 : decode cP_coresMeet 61 = .ok (.goto 4, 3) := by decide +kernel
theorem dP_coresMeet_64 : decode cP_coresMeet 64 = .ok (.iconst 0, 1) := by decide +kernel
theorem dP_coresMeet_65 : decode cP_coresMeet 65 = .ok (.ireturn, 1) := by decide +kernel
def f_P_coresMeet_j65 (v : SV) (w : SV) (s0 : Int32) : Option Int32 := rb s0
def f_P_coresMeet_j60 (v : SV) (w : SV) : Option Int32 := (f_P_coresMeet_j65 v w (1 : Int32))
def f_P_coresMeet_l12 (v : SV) (w : SV) (K2 : Int32 → Option Int32) : Nat → Int32 → Int32 → Option Int32
 | 0, _, _ => none
 | n + 1, p2, p3 => (if (sN w) ≤ p3 then (K2 (p2 + 1)) else (f_P_sidesMeet v w p2 p3).bind fun u7 => (if u7 = 0 then ((f_P_coresMeet_l12 v w K2 n) p2 (p3 + 1)) else rb (1 : Int32)))
def f_P_coresMeet_l2 (v : SV) (w : SV) : Nat → Int32 → Option Int32
 | 0, _ => none
 | n + 1, p2 => (if (sN v) ≤ p2 then (f_S_enclosesCornerOf v w).bind fun u2 => (if u2 = 0 then (f_S_enclosesCornerOf w v).bind fun u4 => (if u4 = 0 then (f_P_coresMeet_j65 v w (0 : Int32)) else (f_P_coresMeet_j60 v w)) else (f_P_coresMeet_j60 v w)) else (f_P_coresMeet_l12 v w (f_P_coresMeet_l2 v w n) 64 p2 (0 : Int32)))
def f_P_coresMeet (v : SV) (w : SV) : Option Int32 := (f_P_coresMeet_l2 v w 64 (0 : Int32))
set_option maxHeartbeats 4000000 in
set_option maxRecDepth 100000 in
theorem k_P_coresMeet (l : Launch) (dC : Nat → ClassId) (dI : Nat → Nat → Nat) (cL cI : ClassId) (a ax ay ae : Nat) (v : SV) (o ox oy oe : Nat) (w : SV) (r : Int32) (h : f_P_coresMeet v w = some r) : Met l yP_coresMeet wsP_coresMeet ({ frames := 3, cells := 0, slots := 0, locals := 79 }) (rd_Pc [.ref a, .ref o] (fun H => va_P (dC, dI) cls3 (shW cL cI a ax ay ae v) H ∧ va_P (dC, dI) cls3 (shW cL cI o ox oy oe w) H) (dC, dI) cls3 [(cL, .long), (cI, .int)]) (vp_Si (fun z => z = r)) 0 0 (fun _ => False) := by
  refine Met.ofW (cc := cP_coresMeet) (maxL := 4) (ret := (some .boolean)) (by decide) rfl ?_
  intro p e s m args below meth c s₁ B hml hv
  obtain ⟨rfl, ⟨hPa, hPo⟩, hK⟩ := hv
  have hx := B.exec
  have hb := B.bytes
  have hr := B.returns
  have hw : ∀ w ∈ wG, w.before ([.ref a, .ref o] : List Value).toArray s = true := fun w hq => atoms_spec (ws := wsP_coresMeet) B.pre w (List.mem_cons_of_mem _ hq)
  have hown : s.vm.findClass R_P = some m.cls := findClass_of_methodNamed B.named
  have hlocks := B.notSynchronized
  have hl := lv_entry ([.ref a, .ref o] : List Value) (n := 4) (Nat.le_of_ble_eq_true rfl)
  rw [lg_entry_eq]
  generalize (lg_sl ([.ref a, .ref o] : List Value) ++ List.replicate (4 - (lg_sl ([.ref a, .ref o] : List Value)).length) Slot.unset).toArray = ls at hl ⊢
  have hl : lv_has ls 4 [(0, .ref a), (1, .ref o)] := hl
  have k65 : ∀ (s0 : Int32), f_P_coresMeet_j65 v w s0 = some r →  ∀ (ls : Array Slot), lv_has ls 4 [] → W p l e (headSpec wsP_coresMeet ({ frames := 3, cells := 0, slots := 0, locals := 79 })).room s m ([.ref a, .ref o] : List Value).toArray below meth c s.heap [] 0 0 (MQ below (vp_Si (fun z => z = r)) ([.ref a, .ref o] : List Value).toArray s 0 0 (fun _ => False)) (F0 m 65 ls [.int s0]) := by
    intro s0 h  ls hl
    unfold f_P_coresMeet_j65 at h
    obtain ⟨hz, hr9⟩ := rb_of h
    exact W.zret hx hb hr hz (fun t ht hW => ⟨_, rfl, hr9, ht⟩) nil_locs dP_coresMeet_65
  have k60 : f_P_coresMeet_j60 v w = some r →  ∀ (ls : Array Slot), lv_has ls 4 [] → W p l e (headSpec wsP_coresMeet ({ frames := 3, cells := 0, slots := 0, locals := 79 })).room s m ([.ref a, .ref o] : List Value).toArray below meth c s.heap [] 0 0 (MQ below (vp_Si (fun z => z = r)) ([.ref a, .ref o] : List Value).toArray s 0 0 (fun _ => False)) (F0 m 60 ls []) := by
    intro  h  ls hl
    unfold f_P_coresMeet_j60 at h
    refine lv_iconst (v := 1) hx hb dP_coresMeet_60 (by decide) ?_
    refine lv_goto (tgt := 65) hx hb dP_coresMeet_61 (by decide) ?_
    exact k65 (1 : Int32) h ls (lv_sub hl [] rfl)
  have k2 : ∀ (n2 : Nat), ∀ (p2 : Int32), f_P_coresMeet_l2 v w n2 p2 = some r →  ∀ (ls : Array Slot), lv_has ls 4 [(0, .ref a), (1, .ref o), (2, .int p2)] → W p l e (headSpec wsP_coresMeet ({ frames := 3, cells := 0, slots := 0, locals := 79 })).room s m ([.ref a, .ref o] : List Value).toArray below meth c s.heap [] 0 0 (MQ below (vp_Si (fun z => z = r)) ([.ref a, .ref o] : List Value).toArray s 0 0 (fun _ => False)) (F0 m 2 ls []) := by
    intro n2
    induction n2 with
    | zero => intro p2 h; exact absurd h (by simp [f_P_coresMeet_l2])
    | succ n2 ih2 =>
      have k12 : ∀ (n12 : Nat), ∀ (p2 : Int32) (p3 : Int32), f_P_coresMeet_l12 v w (f_P_coresMeet_l2 v w n2) n12 p2 p3 = some r →  ∀ (ls : Array Slot), lv_has ls 4 [(0, .ref a), (1, .ref o), (2, .int p2), (3, .int p3)] → W p l e (headSpec wsP_coresMeet ({ frames := 3, cells := 0, slots := 0, locals := 79 })).room s m ([.ref a, .ref o] : List Value).toArray below meth c s.heap [] 0 0 (MQ below (vp_Si (fun z => z = r)) ([.ref a, .ref o] : List Value).toArray s 0 0 (fun _ => False)) (F0 m 12 ls []) := by
        intro n12
        induction n12 with
        | zero => intro p2 p3 h; exact absurd h (by simp [f_P_coresMeet_l12])
        | succ n12 ih12 =>
          intro p2 p3 h  ls hl
          rw [f_P_coresMeet_l12] at h
          refine lv_iload_n hx hb dP_coresMeet_12 rfl (lv_at hl 3 rfl) ?_
          refine lv_aload_n hx hb dP_coresMeet_13 rfl (lv_at hl 1 rfl) ?_
          refine va_get (D := (dC, dI)) (ci := 0) (v := .int (sN w)) (C := R_S) (T := T_S) (N := 8) hx hb hw in_S hown hK hPo 0 rfl rfl 6 (by decide) (hw _ w_53) (fun _ h9 => h9) rfl dP_coresMeet_14 ?_
          refine lv_icmp_ge (tgt := 38) hx hb dP_coresMeet_17 (by decide) (fun c6 => ?_) (fun c6 => ?_)
          · have h := it_t c6 h
            refine lv_iinc (v := p2 + 1) (lv' := [(2, .int (p2 + 1)), (0, .ref a), (1, .ref o), (3, .int p3)]) hx hb dP_coresMeet_38 hl (k := 2) rfl rfl (by decide) rfl (fun ls hl => ?_)
            refine lv_goto (tgt := 2) hx hb dP_coresMeet_41 (by decide) ?_
            exact ih2 (p2 + 1) h ls (lv_sub hl [1, 2, 0] rfl)
          · have h := it_f c6 h
            refine lv_aload_n hx hb dP_coresMeet_20 rfl (lv_at hl 0 rfl) ?_
            refine lv_iload_n hx hb dP_coresMeet_21 rfl (lv_at hl 2 rfl) ?_
            refine lv_aload_n hx hb dP_coresMeet_22 rfl (lv_at hl 1 rfl) ?_
            refine lv_iload_n hx hb dP_coresMeet_23 rfl (lv_at hl 3 rfl) ?_
            obtain ⟨u7, hu7, h⟩ := ob_some h
            refine vp_callSi (va_Run.run (va_runS (As := [.ref a, .int p2, .ref o, .int p3]) (rest := []) ⟨hx, hb, hml, hown, hw⟩ (k_P_sidesMeet l dC dI cL cI a ax ay ae v o ox oy oe w p2 p3 u7 hu7) (va_cwS 4 hw (gS w_366 w_273 w_10 w_274) rfl rfl rfl (by decide +kernel) ⟨Nat.le_of_ble_eq_true rfl, Nat.le_of_ble_eq_true rfl⟩) ⟨rd_blind, rd_pre ⟨hPa, hPo⟩ hK⟩ rfl rfl hl.1 rfl (lv_room (Nat.le_of_ble_eq_true rfl)) dP_coresMeet_24 ⟨Nat.le_of_ble_eq_true rfl, Nat.le_of_ble_eq_true rfl⟩)) (fun z hz => ?_)
            rw [hz]; clear hz
            refine lv_if_eq (tgt := 32) hx hb dP_coresMeet_27 (by decide) (fun c8 => ?_) (fun c8 => ?_)
            · have h := it_t c8 h
              refine lv_iinc (v := p3 + 1) (lv' := [(3, .int (p3 + 1)), (0, .ref a), (1, .ref o), (2, .int p2)]) hx hb dP_coresMeet_32 hl (k := 3) rfl rfl (by decide) rfl (fun ls hl => ?_)
              refine lv_goto (tgt := 12) hx hb dP_coresMeet_35 (by decide) ?_
              exact ih12 p2 (p3 + 1) h ls (lv_sub hl [1, 2, 3, 0] rfl)
            · have h := it_f c8 h
              refine lv_iconst (v := 1) hx hb dP_coresMeet_30 (by decide) ?_
              obtain ⟨hz, hr9⟩ := rb_of h
              exact W.zret hx hb hr hz (fun t ht hW => ⟨_, rfl, hr9, ht⟩) nil_locs dP_coresMeet_31
      intro p2 h  ls hl
      rw [f_P_coresMeet_l2] at h
      refine lv_iload_n hx hb dP_coresMeet_2 rfl (lv_at hl 2 rfl) ?_
      refine lv_aload_n hx hb dP_coresMeet_3 rfl (lv_at hl 0 rfl) ?_
      refine va_get (D := (dC, dI)) (ci := 0) (v := .int (sN v)) (C := R_S) (T := T_S) (N := 8) hx hb hw in_S hown hK hPa 0 rfl rfl 6 (by decide) (hw _ w_53) (fun _ h9 => h9) rfl dP_coresMeet_4 ?_
      refine lv_icmp_ge (tgt := 44) hx hb dP_coresMeet_7 (by decide) (fun c1 => ?_) (fun c1 => ?_)
      · have h := it_t c1 h
        refine lv_aload_n hx hb dP_coresMeet_44 rfl (lv_at hl 0 rfl) ?_
        refine lv_aload_n hx hb dP_coresMeet_45 rfl (lv_at hl 1 rfl) ?_
        obtain ⟨u2, hu2, h⟩ := ob_some h
        refine vp_callSi (va_Run.run (va_runV (As := [.ref o]) (rest := []) ⟨hx, hb, hml, hown, hw⟩ (k_S_enclosesCornerOf l dC dI cL cI a ax ay ae v o ox oy oe w u2 hu2) (cwV 1 hw (gV w_367 w_368 w_369 w_7 w_370) rfl rfl rfl (by decide +kernel) ⟨Nat.le_of_ble_eq_true rfl, Nat.le_of_ble_eq_true rfl⟩) ⟨rd_blind, va_recv hK hPa (ci := 0) (q0 := 0) rfl rfl, rd_pre ⟨hPa, hPo⟩ hK⟩ rfl rfl hl.1 rfl (lv_room (Nat.le_of_ble_eq_true rfl)) dP_coresMeet_46 ⟨Nat.le_of_ble_eq_true rfl, Nat.le_of_ble_eq_true rfl⟩)) (fun z hz => ?_)
        rw [hz]; clear hz
        refine lv_if_ne (tgt := 60) hx hb dP_coresMeet_49 (by decide) (fun c3 => ?_) (fun c3 => ?_)
        · have h := it_f c3 h
          exact k60 h ls (lv_sub hl [] rfl)
        · have h := it_t c3 h
          refine lv_aload_n hx hb dP_coresMeet_52 rfl (lv_at hl 1 rfl) ?_
          refine lv_aload_n hx hb dP_coresMeet_53 rfl (lv_at hl 0 rfl) ?_
          obtain ⟨u4, hu4, h⟩ := ob_some h
          refine vp_callSi (va_Run.run (va_runV (As := [.ref a]) (rest := []) ⟨hx, hb, hml, hown, hw⟩ (k_S_enclosesCornerOf l dC dI cL cI o ox oy oe w a ax ay ae v u4 hu4) (cwV 1 hw (gV w_367 w_368 w_369 w_7 w_370) rfl rfl rfl (by decide +kernel) ⟨Nat.le_of_ble_eq_true rfl, Nat.le_of_ble_eq_true rfl⟩) ⟨rd_blind, va_recv hK hPo (ci := 0) (q0 := 0) rfl rfl, rd_pre ⟨hPo, hPa⟩ hK⟩ rfl rfl hl.1 rfl (lv_room (Nat.le_of_ble_eq_true rfl)) dP_coresMeet_54 ⟨Nat.le_of_ble_eq_true rfl, Nat.le_of_ble_eq_true rfl⟩)) (fun z hz => ?_)
          rw [hz]; clear hz
          refine lv_if_eq (tgt := 64) hx hb dP_coresMeet_57 (by decide) (fun c5 => ?_) (fun c5 => ?_)
          · have h := it_t c5 h
            refine lv_iconst (v := 0) hx hb dP_coresMeet_64 (by decide) ?_
            exact k65 (0 : Int32) h ls (lv_sub hl [] rfl)
          · have h := it_f c5 h
            exact k60 h ls (lv_sub hl [] rfl)
      · have h := it_f c1 h
        refine lv_iconst (v := 0) hx hb dP_coresMeet_10 (by decide) ?_
        refine lv_istore_n (lv' := [(3, .int (0 : Int32)), (0, .ref a), (1, .ref o), (2, .int p2)]) hx hb dP_coresMeet_11 rfl hl (by decide) rfl (fun ls hl => ?_)
        exact k12 64 p2 (0 : Int32) h ls (lv_sub hl [1, 2, 3, 0] rfl)
  unfold f_P_coresMeet at h
  refine lv_iconst (v := 0) hx hb dP_coresMeet_0 (by decide) ?_
  refine lv_istore_n (lv' := [(2, .int (0 : Int32)), (0, .ref a), (1, .ref o)]) hx hb dP_coresMeet_1 rfl hl (by decide) rfl (fun ls hl => ?_)
  exact k2 64 (0 : Int32) h ls (lv_sub hl [1, 2, 0] rfl)
theorem dP_compareCorners_0 : decode cP_compareCorners 0 = .ok (.iconst 1, 1) := by decide +kernel
theorem dP_compareCorners_1 : decode cP_compareCorners 1 = .ok (.istore 4, 2) := by decide +kernel
theorem dP_compareCorners_3 : decode cP_compareCorners 3 = .ok (.iconst 0, 1) := by decide +kernel
theorem dP_compareCorners_4 : decode cP_compareCorners 4 = .ok (.istore 5, 2) := by decide +kernel
theorem dP_compareCorners_6 : decode cP_compareCorners 6 = .ok (.iload 5, 2) := by decide +kernel
theorem dP_compareCorners_8 : decode cP_compareCorners 8 = .ok (.aload_n 0, 1) := by decide +kernel
theorem dP_compareCorners_9 : decode cP_compareCorners 9 = .ok (.getfield 29, 3) := by decide +kernel
theorem dP_compareCorners_12 : decode cP_compareCorners 12 = .ok (.if_icmp .ge 40, 3) := by decide +kernel
theorem dP_compareCorners_15 : decode cP_compareCorners 15 = .ok (.iload 4, 2) := by decide +kernel
theorem dP_compareCorners_17 : decode cP_compareCorners 17 = .ok (.ifCond .lt 35, 3) := by decide +kernel
theorem dP_compareCorners_20 : decode cP_compareCorners 20 = .ok (.iload 4, 2) := by decide +kernel
theorem dP_compareCorners_22 : decode cP_compareCorners 22 = .ok (.aload_n 1, 1) := by decide +kernel
theorem dP_compareCorners_23 : decode cP_compareCorners 23 = .ok (.aload_n 0, 1) := by decide +kernel
theorem dP_compareCorners_24 : decode cP_compareCorners 24 = .ok (.getfield 35, 3) := by decide +kernel
theorem dP_compareCorners_27 : decode cP_compareCorners 27 = .ok (.iload 5, 2) := by decide +kernel
theorem dP_compareCorners_29 : decode cP_compareCorners 29 = .ok (.laload, 1) := by decide +kernel
theorem dP_compareCorners_30 : decode cP_compareCorners 30 = .ok (.aload_n 0, 1) := by decide +kernel
theorem dP_compareCorners_31 : decode cP_compareCorners 31 = .ok (.getfield 39, 3) := by decide +kernel
theorem dP_compareCorners_34 : decode cP_compareCorners 34 = .ok (.iload 5, 2) := by decide +kernel
theorem dP_compareCorners_36 : decode cP_compareCorners 36 = .ok (.laload, 1) := by decide +kernel
theorem dP_compareCorners_37 : decode cP_compareCorners 37 = .ok (.lload_n 2, 1) := by decide +kernel
theorem dP_compareCorners_38 : decode cP_compareCorners 38 = .ok (.invokevirtual 42, 3) := by decide +kernel
theorem dP_compareCorners_41 : decode cP_compareCorners 41 = .ok (.invokestatic 23, 3) := by decide +kernel
theorem dP_compareCorners_44 : decode cP_compareCorners 44 = .ok (.istore 4, 2) := by decide +kernel
theorem dP_compareCorners_46 : decode cP_compareCorners 46 = .ok (.iinc 5 1, 3) := by decide +kernel
theorem dP_compareCorners_49 : decode cP_compareCorners 49 = .ok (.goto (-43), 3) := by decide +kernel
theorem dP_compareCorners_52 : decode cP_compareCorners 52 = .ok (.iload 4, 2) := by decide +kernel
theorem dP_compareCorners_54 : decode cP_compareCorners 54 = .ok (.ireturn, 1) := by decide +kernel
def f_P_compareCorners_j52 (v : SV) (w : SV) (p4 : Int32) : Option Int32 := some p4
def f_P_compareCorners_l6 (v : SV) (w : SV) : Nat → Int64 → Int32 → Int32 → Option Int32
 | 0, _, _, _ => none
 | n + 1, p2, p4, p5 => (if (sN v) ≤ p5 then (f_P_compareCorners_j52 v w p4) else (if p4 < 0 then (f_P_compareCorners_j52 v w p4) else (ld 48 (sX v) p5).bind fun u3 => (ld 48 (sY v) p5).bind fun u4 => (f_S_compareToSides w u3 u4 p2).bind fun u5 => (some (if u5 < p4 then u5 else p4)).bind fun u6 => ((f_P_compareCorners_l6 v w n) p2 u6 (p5 + 1))))
def f_P_compareCorners (v : SV) (w : SV) (x2 : Int64) : Option Int32 := (f_P_compareCorners_l6 v w 64 x2 (1 : Int32) (0 : Int32))
set_option maxHeartbeats 4000000 in
set_option maxRecDepth 100000 in
theorem k_P_compareCorners (l : Launch) (dC : Nat → ClassId) (dI : Nat → Nat → Nat) (cL cI : ClassId) (a ax ay ae : Nat) (v : SV) (o ox oy oe : Nat) (w : SV) (x2 : Int64) (r : Int32) (h : f_P_compareCorners v w x2 = some r) : Met l yP_compareCorners wsP_compareCorners ({ frames := 4, cells := 0, slots := 0, locals := 129 }) (rd_Pc [.ref a, .ref o, .long x2] (fun H => va_P (dC, dI) cls3 (shW cL cI a ax ay ae v) H ∧ va_P (dC, dI) cls3 (shW cL cI o ox oy oe w) H) (dC, dI) cls3 [(cL, .long), (cI, .int)]) (vp_Si (fun z => z = r)) 0 0 (fun _ => False) := by
  refine Met.ofW (cc := cP_compareCorners) (maxL := 6) (ret := (some .int)) (by decide) rfl ?_
  intro p e s m args below meth c s₁ B hml hv
  obtain ⟨rfl, ⟨hPa, hPo⟩, hK⟩ := hv
  have hx := B.exec
  have hb := B.bytes
  have hr := B.returns
  have hw : ∀ w ∈ wG, w.before ([.ref a, .ref o, .long x2] : List Value).toArray s = true := fun w hq => atoms_spec (ws := wsP_compareCorners) B.pre w (List.mem_cons_of_mem _ hq)
  have hown : s.vm.findClass R_P = some m.cls := findClass_of_methodNamed B.named
  have hlocks := B.notSynchronized
  have hl := lv_entry ([.ref a, .ref o, .long x2] : List Value) (n := 6) (Nat.le_of_ble_eq_true rfl)
  rw [lg_entry_eq]
  generalize (lg_sl ([.ref a, .ref o, .long x2] : List Value) ++ List.replicate (6 - (lg_sl ([.ref a, .ref o, .long x2] : List Value)).length) Slot.unset).toArray = ls at hl ⊢
  have hl : lv_has ls 6 [(0, .ref a), (1, .ref o), (2, .long x2)] := hl
  have k52 : ∀ (p4 : Int32), f_P_compareCorners_j52 v w p4 = some r →  ∀ (ls : Array Slot), lv_has ls 6 [(4, .int p4)] → W p l e (headSpec wsP_compareCorners ({ frames := 4, cells := 0, slots := 0, locals := 129 })).room s m ([.ref a, .ref o, .long x2] : List Value).toArray below meth c s.heap [] 0 0 (MQ below (vp_Si (fun z => z = r)) ([.ref a, .ref o, .long x2] : List Value).toArray s 0 0 (fun _ => False)) (F0 m 52 ls []) := by
    intro p4 h  ls hl
    unfold f_P_compareCorners_j52 at h
    refine lv_iload hx hb dP_compareCorners_52 (lv_at hl 0 rfl) ?_
    exact W.iret hx hb hr (fun t ht hW => ⟨_, rfl, Option.some.inj h, ht⟩) nil_locs dP_compareCorners_54
  have k6 : ∀ (n6 : Nat), ∀ (p2 : Int64) (p4 : Int32) (p5 : Int32), f_P_compareCorners_l6 v w n6 p2 p4 p5 = some r →  ∀ (ls : Array Slot), lv_has ls 6 [(0, .ref a), (1, .ref o), (2, .long p2), (4, .int p4), (5, .int p5)] → W p l e (headSpec wsP_compareCorners ({ frames := 4, cells := 0, slots := 0, locals := 129 })).room s m ([.ref a, .ref o, .long x2] : List Value).toArray below meth c s.heap [] 0 0 (MQ below (vp_Si (fun z => z = r)) ([.ref a, .ref o, .long x2] : List Value).toArray s 0 0 (fun _ => False)) (F0 m 6 ls []) := by
    intro n6
    induction n6 with
    | zero => intro p2 p4 p5 h; exact absurd h (by simp [f_P_compareCorners_l6])
    | succ n6 ih6 =>
      intro p2 p4 p5 h  ls hl
      rw [f_P_compareCorners_l6] at h
      refine lv_iload hx hb dP_compareCorners_6 (lv_at hl 4 rfl) ?_
      refine lv_aload_n hx hb dP_compareCorners_8 rfl (lv_at hl 0 rfl) ?_
      refine va_get (D := (dC, dI)) (ci := 0) (v := .int (sN v)) (C := R_S) (T := T_S) (N := 8) hx hb hw in_S hown hK hPa 0 rfl rfl 6 (by decide) (hw _ w_53) (fun _ h9 => h9) rfl dP_compareCorners_9 ?_
      refine lv_icmp_ge (tgt := 52) hx hb dP_compareCorners_12 (by decide) (fun c1 => ?_) (fun c1 => ?_)
      · have h := it_t c1 h
        exact k52 p4 h ls (lv_sub hl [3] rfl)
      · have h := it_f c1 h
        refine lv_iload hx hb dP_compareCorners_15 (lv_at hl 3 rfl) ?_
        refine lv_if_lt (tgt := 52) hx hb dP_compareCorners_17 (by decide) (fun c2 => ?_) (fun c2 => ?_)
        · have h := it_t c2 h
          exact k52 p4 h ls (lv_sub hl [3] rfl)
        · have h := it_f c2 h
          refine lv_iload hx hb dP_compareCorners_20 (lv_at hl 3 rfl) ?_
          refine lv_aload_n hx hb dP_compareCorners_22 rfl (lv_at hl 1 rfl) ?_
          refine lv_aload_n hx hb dP_compareCorners_23 rfl (lv_at hl 0 rfl) ?_
          refine va_get (D := (dC, dI)) (ci := 0) (v := .ref ax) (C := R_S) (T := T_S) (N := 8) hx hb hw in_S hown hK hPa 0 rfl rfl 3 (by decide) (hw _ w_47) (fun _ h9 => h9) rfl dP_compareCorners_24 ?_
          refine lv_iload hx hb dP_compareCorners_27 (lv_at hl 4 rfl) ?_
          obtain ⟨u3, hu3, h⟩ := ob_some h
          obtain ⟨hiu3, eu3⟩ := ld_of hu3
          refine va_lald hx hb hK hPa 1 0 rfl rfl hiu3 dP_compareCorners_29 ?_
          rw [eu3]
          refine lv_aload_n hx hb dP_compareCorners_30 rfl (lv_at hl 0 rfl) ?_
          refine va_get (D := (dC, dI)) (ci := 0) (v := .ref ay) (C := R_S) (T := T_S) (N := 8) hx hb hw in_S hown hK hPa 0 rfl rfl 4 (by decide) (hw _ w_49) (fun _ h9 => h9) rfl dP_compareCorners_31 ?_
          refine lv_iload hx hb dP_compareCorners_34 (lv_at hl 4 rfl) ?_
          obtain ⟨u4, hu4, h⟩ := ob_some h
          obtain ⟨hiu4, eu4⟩ := ld_of hu4
          refine va_lald hx hb hK hPa 2 0 rfl rfl hiu4 dP_compareCorners_36 ?_
          rw [eu4]
          refine lv_lload_n hx hb dP_compareCorners_37 rfl (lv_at hl 2 rfl) ?_
          obtain ⟨u5, hu5, h⟩ := ob_some h
          refine vp_callSi (va_Run.run (va_runV (As := [.long u3, .long u4, .long p2]) (rest := [.int p4]) ⟨hx, hb, hml, hown, hw⟩ (k_S_compareToSides l dC dI cL cI o ox oy oe w u3 u4 p2 u5 hu5) (cwV 3 hw (gV w_376 w_320 w_321 w_7 w_322) rfl rfl rfl (by decide +kernel) ⟨Nat.le_of_ble_eq_true rfl, Nat.le_of_ble_eq_true rfl⟩) ⟨rd_blind, va_recv hK hPo (ci := 0) (q0 := 0) rfl rfl, rd_pre hPo hK⟩ rfl rfl hl.1 rfl (lv_room (Nat.le_of_ble_eq_true rfl)) dP_compareCorners_38 ⟨Nat.le_of_ble_eq_true rfl, Nat.le_of_ble_eq_true rfl⟩)) (fun z hz => ?_)
          rw [hz]; clear hz
          obtain ⟨u6, hu6, h⟩ := ob_some h
          refine va_mmin hx hb (hml.trans hl.1.symm) hown (hw _ w_377) (hw _ w_347) (hw _ w_11) (hw _ wm_min_I) (Nat.le_of_ble_eq_true rfl) (Nat.le_of_ble_eq_true rfl) (Nat.le_of_ble_eq_true rfl) (Nat.le_of_ble_eq_true rfl) dP_compareCorners_41 ?_
          rw [Option.some.inj hu6]
          refine lv_istore (lv' := [(4, .int u6), (0, .ref a), (1, .ref o), (2, .long p2), (5, .int p5)]) hx hb dP_compareCorners_44 hl (by decide) rfl (fun ls hl => ?_)
          refine lv_iinc (v := p5 + 1) (lv' := [(5, .int (p5 + 1)), (4, .int u6), (0, .ref a), (1, .ref o), (2, .long p2)]) hx hb dP_compareCorners_46 hl (k := 4) rfl rfl (by decide) rfl (fun ls hl => ?_)
          refine lv_goto (tgt := 6) hx hb dP_compareCorners_49 (by decide) ?_
          exact ih6 p2 u6 (p5 + 1) h ls (lv_sub hl [2, 3, 4, 1, 0] rfl)
  unfold f_P_compareCorners at h
  refine lv_iconst (v := 1) hx hb dP_compareCorners_0 (by decide) ?_
  refine lv_istore (lv' := [(4, .int (1 : Int32)), (0, .ref a), (1, .ref o), (2, .long x2)]) hx hb dP_compareCorners_1 hl (by decide) rfl (fun ls hl => ?_)
  refine lv_iconst (v := 0) hx hb dP_compareCorners_3 (by decide) ?_
  refine lv_istore (lv' := [(5, .int (0 : Int32)), (4, .int (1 : Int32)), (0, .ref a), (1, .ref o), (2, .long x2)]) hx hb dP_compareCorners_4 hl (by decide) rfl (fun ls hl => ?_)
  exact k6 64 x2 (1 : Int32) (0 : Int32) h ls (lv_sub hl [2, 3, 4, 1, 0] rfl)
theorem dP_compareCores_0 : decode cP_compareCores 0 = .ok (.aload_n 0, 1) := by decide +kernel
theorem dP_compareCores_1 : decode cP_compareCores 1 = .ok (.aload_n 1, 1) := by decide +kernel
theorem dP_compareCores_2 : decode cP_compareCores 2 = .ok (.invokestatic 7, 3) := by decide +kernel
theorem dP_compareCores_5 : decode cP_compareCores 5 = .ok (.ifCond .eq 9, 3) := by decide +kernel
theorem dP_compareCores_8 : decode cP_compareCores 8 = .ok (.lconst 0, 1) := by decide +kernel
theorem dP_compareCores_9 : decode cP_compareCores 9 = .ok (.lload_n 2, 1) := by decide +kernel
theorem dP_compareCores_10 : decode cP_compareCores 10 = .ok (.invokestatic 13, 3) := by decide +kernel
theorem dP_compareCores_13 : decode cP_compareCores 13 = .ok (.ireturn, 1) := by decide +kernel
theorem dP_compareCores_14 : decode cP_compareCores 14 = .ok (.aload_n 0, 1) := by decide +kernel
theorem dP_compareCores_15 : decode cP_compareCores 15 = .ok (.aload_n 1, 1) := by decide +kernel
theorem dP_compareCores_16 : decode cP_compareCores 16 = .ok (.lload_n 2, 1) := by decide +kernel
theorem dP_compareCores_17 : decode cP_compareCores 17 = .ok (.invokestatic 19, 3) := by decide +kernel
theorem dP_compareCores_20 : decode cP_compareCores 20 = .ok (.aload_n 1, 1) := by decide +kernel
theorem dP_compareCores_21 : decode cP_compareCores 21 = .ok (.aload_n 0, 1) := by decide +kernel
theorem dP_compareCores_22 : decode cP_compareCores 22 = .ok (.lload_n 2, 1) := by decide +kernel
theorem dP_compareCores_23 : decode cP_compareCores 23 = .ok (.invokestatic 19, 3) := by decide +kernel
theorem dP_compareCores_26 : decode cP_compareCores 26 = .ok (.invokestatic 23, 3) := by decide +kernel
theorem dP_compareCores_29 : decode cP_compareCores 29 = .ok (.ireturn, 1) := by decide +kernel
def f_P_compareCores (v : SV) (w : SV) (x2 : Int64) : Option Int32 := (f_P_coresMeet v w).bind fun u1 => (if u1 = 0 then (f_P_compareCorners v w x2).bind fun u3 => (f_P_compareCorners w v x2).bind fun u4 => (some (if u4 < u3 then u4 else u3)).bind fun u5 => some u5 else (f_JL_compare_JJ (0 : Int64) x2).bind fun u6 => some u6)
set_option maxHeartbeats 4000000 in
set_option maxRecDepth 100000 in
theorem k_P_compareCores (l : Launch) (dC : Nat → ClassId) (dI : Nat → Nat → Nat) (cL cI : ClassId) (a ax ay ae : Nat) (v : SV) (o ox oy oe : Nat) (w : SV) (x2 : Int64) (r : Int32) (h : f_P_compareCores v w x2 = some r) : Met l yP_compareCores wsP_compareCores ({ frames := 5, cells := 0, slots := 0, locals := 154 }) (rd_Pc [.ref a, .ref o, .long x2] (fun H => va_P (dC, dI) cls3 (shW cL cI a ax ay ae v) H ∧ va_P (dC, dI) cls3 (shW cL cI o ox oy oe w) H) (dC, dI) cls3 [(cL, .long), (cI, .int)]) (vp_Si (fun z => z = r)) 0 0 (fun _ => False) := by
  refine Met.ofW (cc := cP_compareCores) (maxL := 4) (ret := (some .int)) (by decide) rfl ?_
  intro p e s m args below meth c s₁ B hml hv
  obtain ⟨rfl, ⟨hPa, hPo⟩, hK⟩ := hv
  have hx := B.exec
  have hb := B.bytes
  have hr := B.returns
  have hw : ∀ w ∈ wG, w.before ([.ref a, .ref o, .long x2] : List Value).toArray s = true := fun w hq => atoms_spec (ws := wsP_compareCores) B.pre w (List.mem_cons_of_mem _ hq)
  have hown : s.vm.findClass R_P = some m.cls := findClass_of_methodNamed B.named
  have hlocks := B.notSynchronized
  have hl := lv_entry ([.ref a, .ref o, .long x2] : List Value) (n := 4) (Nat.le_of_ble_eq_true rfl)
  rw [lg_entry_eq]
  generalize (lg_sl ([.ref a, .ref o, .long x2] : List Value) ++ List.replicate (4 - (lg_sl ([.ref a, .ref o, .long x2] : List Value)).length) Slot.unset).toArray = ls at hl ⊢
  have hl : lv_has ls 4 [(0, .ref a), (1, .ref o), (2, .long x2)] := hl
  unfold f_P_compareCores at h
  refine lv_aload_n hx hb dP_compareCores_0 rfl (lv_at hl 0 rfl) ?_
  refine lv_aload_n hx hb dP_compareCores_1 rfl (lv_at hl 1 rfl) ?_
  obtain ⟨u1, hu1, h⟩ := ob_some h
  refine vp_callSi (va_Run.run (va_runS (As := [.ref a, .ref o]) (rest := []) ⟨hx, hb, hml, hown, hw⟩ (k_P_coresMeet l dC dI cL cI a ax ay ae v o ox oy oe w u1 hu1) (va_cwS 2 hw (gS w_363 w_364 w_10 w_365) rfl rfl rfl (by decide +kernel) ⟨Nat.le_of_ble_eq_true rfl, Nat.le_of_ble_eq_true rfl⟩) ⟨rd_blind, rd_pre ⟨hPa, hPo⟩ hK⟩ rfl rfl hl.1 rfl (lv_room (Nat.le_of_ble_eq_true rfl)) dP_compareCores_2 ⟨Nat.le_of_ble_eq_true rfl, Nat.le_of_ble_eq_true rfl⟩)) (fun z hz => ?_)
  rw [hz]; clear hz
  refine lv_if_eq (tgt := 14) hx hb dP_compareCores_5 (by decide) (fun c2 => ?_) (fun c2 => ?_)
  · have h := it_t c2 h
    refine lv_aload_n hx hb dP_compareCores_14 rfl (lv_at hl 0 rfl) ?_
    refine lv_aload_n hx hb dP_compareCores_15 rfl (lv_at hl 1 rfl) ?_
    refine lv_lload_n hx hb dP_compareCores_16 rfl (lv_at hl 2 rfl) ?_
    obtain ⟨u3, hu3, h⟩ := ob_some h
    refine vp_callSi (va_Run.run (va_runS (As := [.ref a, .ref o, .long x2]) (rest := []) ⟨hx, hb, hml, hown, hw⟩ (k_P_compareCorners l dC dI cL cI a ax ay ae v o ox oy oe w x2 u3 hu3) (va_cwS 3 hw (gS w_373 w_374 w_10 w_375) rfl rfl rfl (by decide +kernel) ⟨Nat.le_of_ble_eq_true rfl, Nat.le_of_ble_eq_true rfl⟩) ⟨rd_blind, rd_pre ⟨hPa, hPo⟩ hK⟩ rfl rfl hl.1 rfl (lv_room (Nat.le_of_ble_eq_true rfl)) dP_compareCores_17 ⟨Nat.le_of_ble_eq_true rfl, Nat.le_of_ble_eq_true rfl⟩)) (fun z hz => ?_)
    rw [hz]; clear hz
    refine lv_aload_n hx hb dP_compareCores_20 rfl (lv_at hl 1 rfl) ?_
    refine lv_aload_n hx hb dP_compareCores_21 rfl (lv_at hl 0 rfl) ?_
    refine lv_lload_n hx hb dP_compareCores_22 rfl (lv_at hl 2 rfl) ?_
    obtain ⟨u4, hu4, h⟩ := ob_some h
    refine vp_callSi (va_Run.run (va_runS (As := [.ref o, .ref a, .long x2]) (rest := [.int u3]) ⟨hx, hb, hml, hown, hw⟩ (k_P_compareCorners l dC dI cL cI o ox oy oe w a ax ay ae v x2 u4 hu4) (va_cwS 3 hw (gS w_373 w_374 w_10 w_375) rfl rfl rfl (by decide +kernel) ⟨Nat.le_of_ble_eq_true rfl, Nat.le_of_ble_eq_true rfl⟩) ⟨rd_blind, rd_pre ⟨hPo, hPa⟩ hK⟩ rfl rfl hl.1 rfl (lv_room (Nat.le_of_ble_eq_true rfl)) dP_compareCores_23 ⟨Nat.le_of_ble_eq_true rfl, Nat.le_of_ble_eq_true rfl⟩)) (fun z hz => ?_)
    rw [hz]; clear hz
    obtain ⟨u5, hu5, h⟩ := ob_some h
    refine va_mmin hx hb (hml.trans hl.1.symm) hown (hw _ w_377) (hw _ w_347) (hw _ w_11) (hw _ wm_min_I) (Nat.le_of_ble_eq_true rfl) (Nat.le_of_ble_eq_true rfl) (Nat.le_of_ble_eq_true rfl) (Nat.le_of_ble_eq_true rfl) dP_compareCores_26 ?_
    rw [Option.some.inj hu5]
    exact W.iret hx hb hr (fun t ht hW => ⟨_, rfl, Option.some.inj h, ht⟩) nil_locs dP_compareCores_29
  · have h := it_f c2 h
    refine lv_lconst (v := 0) hx hb dP_compareCores_8 (by decide) ?_
    refine lv_lload_n hx hb dP_compareCores_9 rfl (lv_at hl 2 rfl) ?_
    obtain ⟨u6, hu6, h⟩ := ob_some h
    refine vp_callSi (va_Run.run (va_runS (As := [.long (0 : Int64), .long x2]) (rest := []) ⟨hx, hb, hml, hown, hw⟩ (k_JL_compare_JJ l dC dI cL cI (0 : Int64) x2 u6 hu6) (va_cwS 2 hw (gS w_372 w_332 w_12 w_333) rfl rfl rfl (by decide +kernel) ⟨Nat.le_of_ble_eq_true rfl, Nat.le_of_ble_eq_true rfl⟩) ⟨rd_blind, rd_pre trivial hK⟩ rfl rfl hl.1 rfl (lv_room (Nat.le_of_ble_eq_true rfl)) dP_compareCores_10 ⟨Nat.le_of_ble_eq_true rfl, Nat.le_of_ble_eq_true rfl⟩)) (fun z hz => ?_)
    rw [hz]; clear hz
    exact W.iret hx hb hr (fun t ht hW => ⟨_, rfl, Option.some.inj h, ht⟩) nil_locs dP_compareCores_13
