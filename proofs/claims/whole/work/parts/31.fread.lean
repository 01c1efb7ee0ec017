/-! ShapeForms: reading methods, both ways, laid by program -/
theorem dF_kind_0 : decode cF_kind 0 = .ok (.aload_n 0, 1) := by decide +kernel
theorem dF_kind_1 : decode cF_kind 1 = .ok (.iload_n 1, 1) := by decide +kernel
theorem dF_kind_2 : decode cF_kind 2 = .ok (.invokevirtual 55, 3) := by decide +kernel
theorem dF_kind_5 : decode cF_kind 5 = .ok (.astore_n 2, 1) := by decide +kernel
theorem dF_kind_6 : decode cF_kind 6 = .ok (.aload_n 2, 1) := by decide +kernel
theorem dF_kind_7 : decode cF_kind 7 = .ok (.getfield 132, 3) := by decide +kernel
theorem dF_kind_10 : decode cF_kind 10 = .ok (.iconst 2, 1) := by decide +kernel
theorem dF_kind_11 : decode cF_kind 11 = .ok (.if_icmp .ne 16, 3) := by decide +kernel
theorem dF_kind_14 : decode cF_kind 14 = .ok (.aload_n 2, 1) := by decide +kernel
theorem dF_kind_15 : decode cF_kind 15 = .ok (.getfield 86, 3) := by decide +kernel
theorem dF_kind_18 : decode cF_kind 18 = .ok (.lconst 0, 1) := by decide +kernel
theorem dF_kind_19 : decode cF_kind 19 = .ok (.lcmp, 1) := by decide +kernel
theorem dF_kind_20 : decode cF_kind 20 = .ok (.ifCond .le 7, 3) := by decide +kernel
theorem dF_kind_23 : decode cF_kind 23 = .ok (.iconst 4, 1) := by decide +kernel
theorem dF_kind_24 : decode cF_kind 24 = .ok (.goto 7, 3) := by decide +kernel
theorem dF_kind_27 : decode cF_kind 27 = .ok (.aload_n 2, 1) := by decide +kernel
theorem dF_kind_28 : decode cF_kind 28 = .ok (.getfield 132, 3) := by decide +kernel
theorem dF_kind_31 : decode cF_kind 31 = .ok (.ireturn, 1) := by decide +kernel
def f_F_kind_j31 (v : CV) (s0 : Int32) : Option Int32 := some s0
def f_F_kind_j27 (v : CV) (i2 : Nat) : Option Int32 := (f_F_kind_j31 v (sF (v.2 i2)))
def f_F_kind (v : CV) (x1 : Int32) : Option Int32 := (f_F_find v x1).bind fun u1 => (if (sF (v.2 u1)) = (2 : Int32) then (if (lg_cmp (sR (v.2 u1)) (0 : Int64)) ≤ 0 then (f_F_kind_j27 v u1) else (f_F_kind_j31 v (4 : Int32))) else (f_F_kind_j27 v u1))
set_option maxHeartbeats 4000000 in
set_option maxRecDepth 100000 in
theorem k_F_kind (l : Launch) (dC : Nat → ClassId) (dI : Nat → Nat → Nat) (cL cI cO : ClassId) (x0 xa : Nat) (ad : Nat → Nat → Nat) (v : CV) (x1 : Int32) (r : Int32) (h : f_F_kind v x1 = some r) : Met l yF_kind wsF_kind ({ frames := 1, cells := 0, slots := 0, locals := 22 }) (rd_Pc [.ref x0, .int x1] (fun H => SFH (dC, dI) cL cI cO x0 xa ad v H) (dC, dI) cls3 (ty3 cL cI cO)) (vp_Si (fun z => z = r)) 0 0 (fun _ => False) := by
  refine Met.ofW (cc := cF_kind) (maxL := 3) (ret := (some .int)) (by decide) rfl ?_
  intro p e s m args below meth c s₁ B hml hv
  obtain ⟨rfl, hPx, hK⟩ := hv
  have hx := B.exec
  have hb := B.bytes
  have hr := B.returns
  have hw : ∀ w ∈ wG, w.before ([.ref x0, .int x1] : List Value).toArray s = true := fun w hq => atoms_spec (ws := wsF_kind) B.pre w (List.mem_cons_of_mem _ hq)
  have hown : s.vm.findClass R_F = some m.cls := findClass_of_methodNamed B.named
  have hlocks := B.notSynchronized
  have hK2 := hK.sub (tys' := [(cL, .long), (cI, .int)]) [0, 1] rfl
  have hl := lv_entry ([.ref x0, .int x1] : List Value) (n := 3) (Nat.le_of_ble_eq_true rfl)
  rw [lg_entry_eq]
  generalize (lg_sl ([.ref x0, .int x1] : List Value) ++ List.replicate (3 - (lg_sl ([.ref x0, .int x1] : List Value)).length) Slot.unset).toArray = ls at hl ⊢
  have hl : lv_has ls 3 [(0, .ref x0), (1, .int x1)] := hl
  have k31 : ∀ (s0 : Int32), f_F_kind_j31 v s0 = some r →  ∀ (ls : Array Slot), lv_has ls 3 [] → W p l e (headSpec wsF_kind ({ frames := 1, cells := 0, slots := 0, locals := 22 })).room s m ([.ref x0, .int x1] : List Value).toArray below meth c s.heap [] 0 0 (MQ below (vp_Si (fun z => z = r)) ([.ref x0, .int x1] : List Value).toArray s 0 0 (fun _ => False)) (F0 m 31 ls [.int s0]) := by
    intro s0 h  ls hl
    unfold f_F_kind_j31 at h
    exact W.iret hx hb hr (fun t ht hW => ⟨_, rfl, Option.some.inj h, ht⟩) nil_locs dF_kind_31
  have k27 : ∀ (i2 : Nat), f_F_kind_j27 v i2 = some r → i2 < v.1 → ∀ (ls : Array Slot), lv_has ls 3 [(2, .ref (ad i2 0))] → W p l e (headSpec wsF_kind ({ frames := 1, cells := 0, slots := 0, locals := 22 })).room s m ([.ref x0, .int x1] : List Value).toArray below meth c s.heap [] 0 0 (MQ below (vp_Si (fun z => z = r)) ([.ref x0, .int x1] : List Value).toArray s 0 0 (fun _ => False)) (F0 m 27 ls []) := by
    intro i2 h hi2 ls hl
    unfold f_F_kind_j27 at h
    refine lv_aload_n hx hb dF_kind_27 rfl (lv_at hl 0 rfl) ?_
    refine va_get (D := (dC, dI)) (ci := 0) (v := .int (sF (v.2 i2))) (C := R_S) (T := T_S) (N := 8) hx hb hw in_S hown hK (hPx.2.1 i2 hi2) 0 rfl rfl 0 (by decide) (hw _ w_41) (fun _ h9 => h9) rfl dF_kind_28 ?_
    exact k31 (sF (v.2 i2)) h ls (lv_sub hl [] rfl)
  unfold f_F_kind at h
  refine lv_aload_n hx hb dF_kind_0 rfl (lv_at hl 0 rfl) ?_
  refine lv_iload_n hx hb dF_kind_1 rfl (lv_at hl 1 rfl) ?_
  obtain ⟨u1, hu1, h⟩ := ob_some h
  refine va_csr (va_Run.run (va_runV (As := [.int x1]) (rest := []) ⟨hx, hb, hml, hown, hw⟩ (k_F_find l dC dI cL cI cO x0 xa ad v x1 u1 hu1) (cwV 1 hw (gV w_204 w_206 wp_2 w_1 w_207) rfl rfl rfl (by decide +kernel) ⟨Nat.le_of_ble_eq_true rfl, Nat.le_of_ble_eq_true rfl⟩) ⟨rd_blind, va_recv hK hPx.1 (ci := 1) (q0 := 0) rfl rfl, rd_pre hPx hK⟩ rfl rfl hl.1 rfl (lv_room (Nat.le_of_ble_eq_true rfl)) dF_kind_2 ⟨Nat.le_of_ble_eq_true rfl, Nat.le_of_ble_eq_true rfl⟩)) (fun z hz => ?_)
  rw [hz]; clear hz
  have hltu1 := (find_lt hPx.2.2 hu1).1
  refine lv_astore_n (lv' := [(2, .ref (ad u1 0)), (0, .ref x0), (1, .int x1)]) hx hb dF_kind_5 rfl hl (by decide) rfl (fun ls hl => ?_)
  refine lv_aload_n hx hb dF_kind_6 rfl (lv_at hl 0 rfl) ?_
  refine va_get (D := (dC, dI)) (ci := 0) (v := .int (sF (v.2 u1))) (C := R_S) (T := T_S) (N := 8) hx hb hw in_S hown hK (hPx.2.1 u1 hltu1) 0 rfl rfl 0 (by decide) (hw _ w_41) (fun _ h9 => h9) rfl dF_kind_7 ?_
  refine lv_iconst (v := 2) hx hb dF_kind_10 (by decide) ?_
  refine lv_icmp_ne (tgt := 27) hx hb dF_kind_11 (by decide) (fun c2 => ?_) (fun c2 => ?_)
  · have h := it_f c2 h
    exact k27 u1 h hltu1 ls (lv_sub hl [0] rfl)
  · have h := it_t c2 h
    refine lv_aload_n hx hb dF_kind_14 rfl (lv_at hl 0 rfl) ?_
    refine va_get (D := (dC, dI)) (ci := 0) (v := .long (sR (v.2 u1))) (C := R_S) (T := T_S) (N := 8) hx hb hw in_S hown hK (hPx.2.1 u1 hltu1) 0 rfl rfl 2 (by decide) (hw _ w_45) (fun _ h9 => h9) rfl dF_kind_15 ?_
    refine lv_lconst (v := 0) hx hb dF_kind_18 (by decide) ?_
    refine W.lcmp hx hb dF_kind_19 ?_
    refine lv_if_le (tgt := 27) hx hb dF_kind_20 (by decide) (fun c3 => ?_) (fun c3 => ?_)
    · have h := it_t c3 h
      exact k27 u1 h hltu1 ls (lv_sub hl [0] rfl)
    · have h := it_f c3 h
      refine lv_iconst (v := 4) hx hb dF_kind_23 (by decide) ?_
      refine lv_goto (tgt := 31) hx hb dF_kind_24 (by decide) ?_
      exact k31 (4 : Int32) h ls (lv_sub hl [] rfl)
def g_F_kind (v : CV) (x1 : Int32) : Option String := xthen (g_F_find v x1) <| (f_F_find v x1).bind fun u1 => none
set_option maxHeartbeats 4000000 in
set_option maxRecDepth 100000 in
theorem kt_F_kind (l : Launch) (hl0 : l.stackTraces = false) (N0 : Nat) (dC : Nat → ClassId) (dI : Nat → Nat → Nat) (cL cI cO : ClassId) (x0 xa : Nat) (ad : Nat → Nat → Nat) (v : CV) (x1 : Int32) (E : String) (h : g_F_kind v x1 = some E) : vx_Met l yF_kind wsF_kind ({ frames := 7, cells := 1, slots := 6, locals := 112 }) (ev_Pc N0 [.ref x0, .int x1] (fun H => SFH (dC, dI) cL cI cO x0 xa ad v H) (dC, dI) cls3 (ty3 cL cI cO)) NoQ (XE E) 1 6 (fun _ => False) := by
  refine vx_ofW (cc := cF_kind) (maxL := 3) (ret := (some .int)) (by decide) rfl ?_
  intro p e s m args below meth c s₁ B hml htab hv
  obtain ⟨rfl, hPx, hK, hev⟩ := hv
  have hx := B.exec
  have hb := B.bytes
  have hr := B.returns
  have hw : ∀ w ∈ wG, w.before ([.ref x0, .int x1] : List Value).toArray s = true := fun w hq => atoms_spec (ws := wsF_kind) B.pre w (List.mem_cons_of_mem _ hq)
  have hown : s.vm.findClass R_F = some m.cls := findClass_of_methodNamed B.named
  have hlocks := B.notSynchronized
  have hK2 := hK.sub (tys' := [(cL, .long), (cI, .int)]) [0, 1] rfl
  have hl := lv_entry ([.ref x0, .int x1] : List Value) (n := 3) (Nat.le_of_ble_eq_true rfl)
  rw [lg_entry_eq]
  generalize (lg_sl ([.ref x0, .int x1] : List Value) ++ List.replicate (3 - (lg_sl ([.ref x0, .int x1] : List Value)).length) Slot.unset).toArray = ls at hl ⊢
  have hl : lv_has ls 3 [(0, .ref x0), (1, .int x1)] := hl
  unfold g_F_kind at h
  refine lv_aload_n hx hb dF_kind_0 rfl (lv_at hl 0 rfl) ?_
  refine lv_iload_n hx hb dF_kind_1 rfl (lv_at hl 1 rfl) ?_
  rcases xt h with hE | ⟨hN, h⟩
  · exact thr_pass (vx_runV (As := [.int x1]) (rest := []) ⟨hx, hb, hml, hown, hw⟩ (kt_F_find l hl0 N0 dC dI cL cI cO x0 xa ad v x1 E hE) (cwV 1 hw (gV w_204 w_206 wp_2 w_1 w_207) rfl rfl rfl (by decide +kernel) ⟨Nat.le_of_ble_eq_true rfl, Nat.le_of_ble_eq_true rfl⟩) ⟨ev_blind, va_recv hK hPx.1 (ci := 1) (q0 := 0) rfl rfl, ev_pre hPx hK hev⟩ rfl rfl hl.1 rfl (lv_room (Nat.le_of_ble_eq_true rfl)) dF_kind_2 ⟨Nat.le_of_ble_eq_true rfl, Nat.le_of_ble_eq_true rfl⟩) htab hlocks
  obtain ⟨u1, hu1, h⟩ := ob_some h
  refine va_csr (va_Run.run (va_runV (As := [.int x1]) (rest := []) ⟨hx, hb, hml, hown, hw⟩ (k_F_find l dC dI cL cI cO x0 xa ad v x1 u1 hu1) (cwV 1 hw (gV w_204 w_206 wp_2 w_1 w_207) rfl rfl rfl (by decide +kernel) ⟨Nat.le_of_ble_eq_true rfl, Nat.le_of_ble_eq_true rfl⟩) ⟨rd_blind, va_recv hK hPx.1 (ci := 1) (q0 := 0) rfl rfl, rd_pre hPx hK⟩ rfl rfl hl.1 rfl (lv_room (Nat.le_of_ble_eq_true rfl)) dF_kind_2 ⟨Nat.le_of_ble_eq_true rfl, Nat.le_of_ble_eq_true rfl⟩)) (fun z hz => ?_)
  rw [hz]; clear hz
  have hltu1 := (find_lt hPx.2.2 hu1).1
  cases h
theorem dF_inside_0 : decode cF_inside 0 = .ok (.aload_n 0, 1) := by decide +kernel
theorem dF_inside_1 : decode cF_inside 1 = .ok (.iload_n 1, 1) := by decide +kernel
theorem dF_inside_2 : decode cF_inside 2 = .ok (.invokevirtual 55, 3) := by decide +kernel
theorem dF_inside_5 : decode cF_inside 5 = .ok (.astore 6, 2) := by decide +kernel
theorem dF_inside_7 : decode cF_inside 7 = .ok (.aload 6, 2) := by decide +kernel
theorem dF_inside_9 : decode cF_inside 9 = .ok (.invokestatic 76, 3) := by decide +kernel
theorem dF_inside_12 : decode cF_inside 12 = .ok (.lload_n 2, 1) := by decide +kernel
theorem dF_inside_13 : decode cF_inside 13 = .ok (.lload 4, 2) := by decide +kernel
theorem dF_inside_15 : decode cF_inside 15 = .ok (.invokestatic 19, 3) := by decide +kernel
theorem dF_inside_18 : decode cF_inside 18 = .ok (.aload 6, 2) := by decide +kernel
theorem dF_inside_20 : decode cF_inside 20 = .ok (.lload_n 2, 1) := by decide +kernel
theorem dF_inside_21 : decode cF_inside 21 = .ok (.lload 4, 2) := by decide +kernel
theorem dF_inside_23 : decode cF_inside 23 = .ok (.aload 6, 2) := by decide +kernel
theorem dF_inside_25 : decode cF_inside 25 = .ok (.getfield 86, 3) := by decide +kernel
theorem dF_inside_28 : decode cF_inside 28 = .ok (.invokevirtual 98, 3) := by decide +kernel
theorem dF_inside_31 : decode cF_inside 31 = .ok (.ifCond .le 14, 3) := by decide +kernel
theorem dF_inside_34 : decode cF_inside 34 = .ok (.aload 6, 2) := by decide +kernel
theorem dF_inside_36 : decode cF_inside 36 = .ok (.lload_n 2, 1) := by decide +kernel
theorem dF_inside_37 : decode cF_inside 37 = .ok (.lload 4, 2) := by decide +kernel
theorem dF_inside_39 : decode cF_inside 39 = .ok (.invokevirtual 102, 3) := by decide +kernel
theorem dF_inside_42 : decode cF_inside 42 = .ok (.ifCond .eq 7, 3) := by decide +kernel
theorem dF_inside_45 : decode cF_inside 45 = .ok (.iconst 1, 1) := by decide +kernel
theorem dF_inside_46 : decode cF_inside 46 = .ok (.goto 4, 3) := by decide +kernel
theorem dF_inside_49 : decode cF_inside 49 = .ok (.iconst 0, 1) := by decide +kernel
theorem dF_inside_50 : decode cF_inside 50 = .ok (.ireturn, 1) := by decide +kernel
def f_F_inside_j50 (v : CV) (s0 : Int32) : Option Int32 := rb s0
def f_F_inside_j45 (v : CV) : Option Int32 := (f_F_inside_j50 v (1 : Int32))
def f_F_inside (v : CV) (x1 : Int32) (x2 : Int64) (x4 : Int64) : Option Int32 := (f_F_find v x1).bind fun u1 => (f_F_needWhole (v.2 u1)).bind fun u2 => (f_F_needPlace x2 x4).bind fun u3 => (f_S_compareToSides (v.2 u1) x2 x4 (sR (v.2 u1))).bind fun u4 => (if u4 ≤ 0 then (f_F_inside_j45 v) else (f_S_encloses (v.2 u1) x2 x4).bind fun u6 => (if u6 = 0 then (f_F_inside_j50 v (0 : Int32)) else (f_F_inside_j45 v)))
set_option maxHeartbeats 4000000 in
set_option maxRecDepth 100000 in
theorem k_F_inside (l : Launch) (dC : Nat → ClassId) (dI : Nat → Nat → Nat) (cL cI cO : ClassId) (x0 xa : Nat) (ad : Nat → Nat → Nat) (v : CV) (x1 : Int32) (x2 : Int64) (x4 : Int64) (r : Int32) (h : f_F_inside v x1 x2 x4 = some r) : Met l yF_inside wsF_inside ({ frames := 4, cells := 0, slots := 0, locals := 129 }) (rd_Pc [.ref x0, .int x1, .long x2, .long x4] (fun H => SFH (dC, dI) cL cI cO x0 xa ad v H) (dC, dI) cls3 (ty3 cL cI cO)) (vp_Si (fun z => z = r)) 0 0 (fun _ => False) := by
  refine Met.ofW (cc := cF_inside) (maxL := 7) (ret := (some .boolean)) (by decide) rfl ?_
  intro p e s m args below meth c s₁ B hml hv
  obtain ⟨rfl, hPx, hK⟩ := hv
  have hx := B.exec
  have hb := B.bytes
  have hr := B.returns
  have hw : ∀ w ∈ wG, w.before ([.ref x0, .int x1, .long x2, .long x4] : List Value).toArray s = true := fun w hq => atoms_spec (ws := wsF_inside) B.pre w (List.mem_cons_of_mem _ hq)
  have hown : s.vm.findClass R_F = some m.cls := findClass_of_methodNamed B.named
  have hlocks := B.notSynchronized
  have hK2 := hK.sub (tys' := [(cL, .long), (cI, .int)]) [0, 1] rfl
  have hl := lv_entry ([.ref x0, .int x1, .long x2, .long x4] : List Value) (n := 7) (Nat.le_of_ble_eq_true rfl)
  rw [lg_entry_eq]
  generalize (lg_sl ([.ref x0, .int x1, .long x2, .long x4] : List Value) ++ List.replicate (7 - (lg_sl ([.ref x0, .int x1, .long x2, .long x4] : List Value)).length) Slot.unset).toArray = ls at hl ⊢
  have hl : lv_has ls 7 [(0, .ref x0), (1, .int x1), (2, .long x2), (4, .long x4)] := hl
  have k50 : ∀ (s0 : Int32), f_F_inside_j50 v s0 = some r →  ∀ (ls : Array Slot), lv_has ls 7 [] → W p l e (headSpec wsF_inside ({ frames := 4, cells := 0, slots := 0, locals := 129 })).room s m ([.ref x0, .int x1, .long x2, .long x4] : List Value).toArray below meth c s.heap [] 0 0 (MQ below (vp_Si (fun z => z = r)) ([.ref x0, .int x1, .long x2, .long x4] : List Value).toArray s 0 0 (fun _ => False)) (F0 m 50 ls [.int s0]) := by
    intro s0 h  ls hl
    unfold f_F_inside_j50 at h
    obtain ⟨hz, hr9⟩ := rb_of h
    exact W.zret hx hb hr hz (fun t ht hW => ⟨_, rfl, hr9, ht⟩) nil_locs dF_inside_50
  have k45 : f_F_inside_j45 v = some r →  ∀ (ls : Array Slot), lv_has ls 7 [] → W p l e (headSpec wsF_inside ({ frames := 4, cells := 0, slots := 0, locals := 129 })).room s m ([.ref x0, .int x1, .long x2, .long x4] : List Value).toArray below meth c s.heap [] 0 0 (MQ below (vp_Si (fun z => z = r)) ([.ref x0, .int x1, .long x2, .long x4] : List Value).toArray s 0 0 (fun _ => False)) (F0 m 45 ls []) := by
    intro  h  ls hl
    unfold f_F_inside_j45 at h
    refine lv_iconst (v := 1) hx hb dF_inside_45 (by decide) ?_
    refine lv_goto (tgt := 50) hx hb dF_inside_46 (by decide) ?_
    exact k50 (1 : Int32) h ls (lv_sub hl [] rfl)
  unfold f_F_inside at h
  refine lv_aload_n hx hb dF_inside_0 rfl (lv_at hl 0 rfl) ?_
  refine lv_iload_n hx hb dF_inside_1 rfl (lv_at hl 1 rfl) ?_
  obtain ⟨u1, hu1, h⟩ := ob_some h
  refine va_csr (va_Run.run (va_runV (As := [.int x1]) (rest := []) ⟨hx, hb, hml, hown, hw⟩ (k_F_find l dC dI cL cI cO x0 xa ad v x1 u1 hu1) (cwV 1 hw (gV w_204 w_206 wp_2 w_1 w_207) rfl rfl rfl (by decide +kernel) ⟨Nat.le_of_ble_eq_true rfl, Nat.le_of_ble_eq_true rfl⟩) ⟨rd_blind, va_recv hK hPx.1 (ci := 1) (q0 := 0) rfl rfl, rd_pre hPx hK⟩ rfl rfl hl.1 rfl (lv_room (Nat.le_of_ble_eq_true rfl)) dF_inside_2 ⟨Nat.le_of_ble_eq_true rfl, Nat.le_of_ble_eq_true rfl⟩)) (fun z hz => ?_)
  rw [hz]; clear hz
  have hltu1 := (find_lt hPx.2.2 hu1).1
  refine lv_astore (lv' := [(6, .ref (ad u1 0)), (0, .ref x0), (1, .int x1), (2, .long x2), (4, .long x4)]) hx hb dF_inside_5 hl (by decide) rfl (fun ls hl => ?_)
  refine lv_aload hx hb dF_inside_7 (lv_at hl 0 rfl) ?_
  obtain ⟨u2, hu2, h⟩ := ob_some h
  refine va_csv (va_Run.run (va_runS (As := [.ref (ad u1 0)]) (rest := []) ⟨hx, hb, hml, hown, hw⟩ (k_F_needWhole l dC dI cL cI (ad u1 0) (ad u1 1) (ad u1 2) (ad u1 3) (v.2 u1) u2 hu2) (va_cwS 1 hw (gS w_295 w_296 w_1 w_297) rfl rfl rfl (by decide +kernel) ⟨Nat.le_of_ble_eq_true rfl, Nat.le_of_ble_eq_true rfl⟩) ⟨rd_blind, rd_pre (hPx.2.1 u1 hltu1) hK2⟩ rfl rfl hl.1 rfl (lv_room (Nat.le_of_ble_eq_true rfl)) dF_inside_9 ⟨Nat.le_of_ble_eq_true rfl, Nat.le_of_ble_eq_true rfl⟩)) (fun _ => ?_)
  refine lv_lload_n hx hb dF_inside_12 rfl (lv_at hl 3 rfl) ?_
  refine lv_lload hx hb dF_inside_13 (lv_at hl 4 rfl) ?_
  obtain ⟨u3, hu3, h⟩ := ob_some h
  refine va_csv (va_Run.run (va_runS (As := [.long x2, .long x4]) (rest := []) ⟨hx, hb, hml, hown, hw⟩ (k_F_needPlace l dC dI cL cI x2 x4 u3 hu3) (va_cwS 2 hw (gS w_86 w_87 w_1 w_88) rfl rfl rfl (by decide +kernel) ⟨Nat.le_of_ble_eq_true rfl, Nat.le_of_ble_eq_true rfl⟩) ⟨rd_blind, rd_pre trivial hK2⟩ rfl rfl hl.1 rfl (lv_room (Nat.le_of_ble_eq_true rfl)) dF_inside_15 ⟨Nat.le_of_ble_eq_true rfl, Nat.le_of_ble_eq_true rfl⟩)) (fun _ => ?_)
  refine lv_aload hx hb dF_inside_18 (lv_at hl 0 rfl) ?_
  refine lv_lload_n hx hb dF_inside_20 rfl (lv_at hl 3 rfl) ?_
  refine lv_lload hx hb dF_inside_21 (lv_at hl 4 rfl) ?_
  refine lv_aload hx hb dF_inside_23 (lv_at hl 0 rfl) ?_
  refine va_get (D := (dC, dI)) (ci := 0) (v := .long (sR (v.2 u1))) (C := R_S) (T := T_S) (N := 8) hx hb hw in_S hown hK (hPx.2.1 u1 hltu1) 0 rfl rfl 2 (by decide) (hw _ w_45) (fun _ h9 => h9) rfl dF_inside_25 ?_
  obtain ⟨u4, hu4, h⟩ := ob_some h
  refine vp_callSi (va_Run.run (va_runV (As := [.long x2, .long x4, .long (sR (v.2 u1))]) (rest := []) ⟨hx, hb, hml, hown, hw⟩ (k_S_compareToSides l dC dI cL cI (ad u1 0) (ad u1 1) (ad u1 2) (ad u1 3) (v.2 u1) x2 x4 (sR (v.2 u1)) u4 hu4) (cwV 3 hw (gV w_319 w_320 w_321 w_7 w_322) rfl rfl rfl (by decide +kernel) ⟨Nat.le_of_ble_eq_true rfl, Nat.le_of_ble_eq_true rfl⟩) ⟨rd_blind, va_recv hK (hPx.2.1 u1 hltu1) (ci := 0) (q0 := 0) rfl rfl, rd_pre (hPx.2.1 u1 hltu1) hK2⟩ rfl rfl hl.1 rfl (lv_room (Nat.le_of_ble_eq_true rfl)) dF_inside_28 ⟨Nat.le_of_ble_eq_true rfl, Nat.le_of_ble_eq_true rfl⟩)) (fun z hz => ?_)
  rw [hz]; clear hz
  refine lv_if_le (tgt := 45) hx hb dF_inside_31 (by decide) (fun c5 => ?_) (fun c5 => ?_)
  · have h := it_t c5 h
    exact k45 h ls (lv_sub hl [] rfl)
  · have h := it_f c5 h
    refine lv_aload hx hb dF_inside_34 (lv_at hl 0 rfl) ?_
    refine lv_lload_n hx hb dF_inside_36 rfl (lv_at hl 3 rfl) ?_
    refine lv_lload hx hb dF_inside_37 (lv_at hl 4 rfl) ?_
    obtain ⟨u6, hu6, h⟩ := ob_some h
    refine vp_callSi (va_Run.run (va_runV (As := [.long x2, .long x4]) (rest := []) ⟨hx, hb, hml, hown, hw⟩ (k_S_encloses l dC dI cL cI (ad u1 0) (ad u1 1) (ad u1 2) (ad u1 3) (v.2 u1) x2 x4 u6 hu6) (cwV 2 hw (gV w_349 w_350 w_351 w_7 w_352) rfl rfl rfl (by decide +kernel) ⟨Nat.le_of_ble_eq_true rfl, Nat.le_of_ble_eq_true rfl⟩) ⟨rd_blind, va_recv hK (hPx.2.1 u1 hltu1) (ci := 0) (q0 := 0) rfl rfl, rd_pre (hPx.2.1 u1 hltu1) hK2⟩ rfl rfl hl.1 rfl (lv_room (Nat.le_of_ble_eq_true rfl)) dF_inside_39 ⟨Nat.le_of_ble_eq_true rfl, Nat.le_of_ble_eq_true rfl⟩)) (fun z hz => ?_)
    rw [hz]; clear hz
    refine lv_if_eq (tgt := 49) hx hb dF_inside_42 (by decide) (fun c7 => ?_) (fun c7 => ?_)
    · have h := it_t c7 h
      refine lv_iconst (v := 0) hx hb dF_inside_49 (by decide) ?_
      exact k50 (0 : Int32) h ls (lv_sub hl [] rfl)
    · have h := it_f c7 h
      exact k45 h ls (lv_sub hl [] rfl)
def g_F_inside (v : CV) (x1 : Int32) (x2 : Int64) (x4 : Int64) : Option String := xthen (g_F_find v x1) <| (f_F_find v x1).bind fun u1 => xthen (g_F_needWhole (v.2 u1)) <| (f_F_needWhole (v.2 u1)).bind fun u2 => xthen (g_F_needPlace x2 x4) <| (f_F_needPlace x2 x4).bind fun u3 => none
set_option maxHeartbeats 4000000 in
set_option maxRecDepth 100000 in
theorem kt_F_inside (l : Launch) (hl0 : l.stackTraces = false) (N0 : Nat) (dC : Nat → ClassId) (dI : Nat → Nat → Nat) (cL cI cO : ClassId) (x0 xa : Nat) (ad : Nat → Nat → Nat) (v : CV) (x1 : Int32) (x2 : Int64) (x4 : Int64) (E : String) (h : g_F_inside v x1 x2 x4 = some E) : vx_Met l yF_inside wsF_inside ({ frames := 7, cells := 1, slots := 6, locals := 129 }) (ev_Pc N0 [.ref x0, .int x1, .long x2, .long x4] (fun H => SFH (dC, dI) cL cI cO x0 xa ad v H) (dC, dI) cls3 (ty3 cL cI cO)) NoQ (XE E) 1 6 (fun _ => False) := by
  refine vx_ofW (cc := cF_inside) (maxL := 7) (ret := (some .boolean)) (by decide) rfl ?_
  intro p e s m args below meth c s₁ B hml htab hv
  obtain ⟨rfl, hPx, hK, hev⟩ := hv
  have hx := B.exec
  have hb := B.bytes
  have hr := B.returns
  have hw : ∀ w ∈ wG, w.before ([.ref x0, .int x1, .long x2, .long x4] : List Value).toArray s = true := fun w hq => atoms_spec (ws := wsF_inside) B.pre w (List.mem_cons_of_mem _ hq)
  have hown : s.vm.findClass R_F = some m.cls := findClass_of_methodNamed B.named
  have hlocks := B.notSynchronized
  have hK2 := hK.sub (tys' := [(cL, .long), (cI, .int)]) [0, 1] rfl
  have hl := lv_entry ([.ref x0, .int x1, .long x2, .long x4] : List Value) (n := 7) (Nat.le_of_ble_eq_true rfl)
  rw [lg_entry_eq]
  generalize (lg_sl ([.ref x0, .int x1, .long x2, .long x4] : List Value) ++ List.replicate (7 - (lg_sl ([.ref x0, .int x1, .long x2, .long x4] : List Value)).length) Slot.unset).toArray = ls at hl ⊢
  have hl : lv_has ls 7 [(0, .ref x0), (1, .int x1), (2, .long x2), (4, .long x4)] := hl
  unfold g_F_inside at h
  refine lv_aload_n hx hb dF_inside_0 rfl (lv_at hl 0 rfl) ?_
  refine lv_iload_n hx hb dF_inside_1 rfl (lv_at hl 1 rfl) ?_
  rcases xt h with hE | ⟨hN, h⟩
  · exact thr_pass (vx_runV (As := [.int x1]) (rest := []) ⟨hx, hb, hml, hown, hw⟩ (kt_F_find l hl0 N0 dC dI cL cI cO x0 xa ad v x1 E hE) (cwV 1 hw (gV w_204 w_206 wp_2 w_1 w_207) rfl rfl rfl (by decide +kernel) ⟨Nat.le_of_ble_eq_true rfl, Nat.le_of_ble_eq_true rfl⟩) ⟨ev_blind, va_recv hK hPx.1 (ci := 1) (q0 := 0) rfl rfl, ev_pre hPx hK hev⟩ rfl rfl hl.1 rfl (lv_room (Nat.le_of_ble_eq_true rfl)) dF_inside_2 ⟨Nat.le_of_ble_eq_true rfl, Nat.le_of_ble_eq_true rfl⟩) htab hlocks
  obtain ⟨u1, hu1, h⟩ := ob_some h
  refine va_csr (va_Run.run (va_runV (As := [.int x1]) (rest := []) ⟨hx, hb, hml, hown, hw⟩ (k_F_find l dC dI cL cI cO x0 xa ad v x1 u1 hu1) (cwV 1 hw (gV w_204 w_206 wp_2 w_1 w_207) rfl rfl rfl (by decide +kernel) ⟨Nat.le_of_ble_eq_true rfl, Nat.le_of_ble_eq_true rfl⟩) ⟨rd_blind, va_recv hK hPx.1 (ci := 1) (q0 := 0) rfl rfl, rd_pre hPx hK⟩ rfl rfl hl.1 rfl (lv_room (Nat.le_of_ble_eq_true rfl)) dF_inside_2 ⟨Nat.le_of_ble_eq_true rfl, Nat.le_of_ble_eq_true rfl⟩)) (fun z hz => ?_)
  rw [hz]; clear hz
  have hltu1 := (find_lt hPx.2.2 hu1).1
  refine lv_astore (lv' := [(6, .ref (ad u1 0)), (0, .ref x0), (1, .int x1), (2, .long x2), (4, .long x4)]) hx hb dF_inside_5 hl (by decide) rfl (fun ls hl => ?_)
  refine lv_aload hx hb dF_inside_7 (lv_at hl 0 rfl) ?_
  rcases xt h with hE | ⟨hN, h⟩
  · exact thr_pass (vx_runS (As := [.ref (ad u1 0)]) (rest := []) ⟨hx, hb, hml, hown, hw⟩ (kt_F_needWhole l hl0 N0 dC dI cL cI (ad u1 0) (ad u1 1) (ad u1 2) (ad u1 3) (v.2 u1) E hE) (va_cwS 1 hw (gS w_295 w_296 w_1 w_297) rfl rfl rfl (by decide +kernel) ⟨Nat.le_of_ble_eq_true rfl, Nat.le_of_ble_eq_true rfl⟩) ⟨ev_blind, ev_pre (hPx.2.1 u1 hltu1) hK2 hev⟩ rfl rfl hl.1 rfl (lv_room (Nat.le_of_ble_eq_true rfl)) dF_inside_9 ⟨Nat.le_of_ble_eq_true rfl, Nat.le_of_ble_eq_true rfl⟩) htab hlocks
  obtain ⟨u2, hu2, h⟩ := ob_some h
  refine va_csv (va_Run.run (va_runS (As := [.ref (ad u1 0)]) (rest := []) ⟨hx, hb, hml, hown, hw⟩ (k_F_needWhole l dC dI cL cI (ad u1 0) (ad u1 1) (ad u1 2) (ad u1 3) (v.2 u1) u2 hu2) (va_cwS 1 hw (gS w_295 w_296 w_1 w_297) rfl rfl rfl (by decide +kernel) ⟨Nat.le_of_ble_eq_true rfl, Nat.le_of_ble_eq_true rfl⟩) ⟨rd_blind, rd_pre (hPx.2.1 u1 hltu1) hK2⟩ rfl rfl hl.1 rfl (lv_room (Nat.le_of_ble_eq_true rfl)) dF_inside_9 ⟨Nat.le_of_ble_eq_true rfl, Nat.le_of_ble_eq_true rfl⟩)) (fun _ => ?_)
  refine lv_lload_n hx hb dF_inside_12 rfl (lv_at hl 3 rfl) ?_
  refine lv_lload hx hb dF_inside_13 (lv_at hl 4 rfl) ?_
  rcases xt h with hE | ⟨hN, h⟩
  · exact thr_pass (vx_runS (As := [.long x2, .long x4]) (rest := []) ⟨hx, hb, hml, hown, hw⟩ (kt_F_needPlace l hl0 N0 dC dI cL cI x2 x4 E hE) (va_cwS 2 hw (gS w_86 w_87 w_1 w_88) rfl rfl rfl (by decide +kernel) ⟨Nat.le_of_ble_eq_true rfl, Nat.le_of_ble_eq_true rfl⟩) ⟨ev_blind, ev_pre trivial hK2 hev⟩ rfl rfl hl.1 rfl (lv_room (Nat.le_of_ble_eq_true rfl)) dF_inside_15 ⟨Nat.le_of_ble_eq_true rfl, Nat.le_of_ble_eq_true rfl⟩) htab hlocks
  obtain ⟨u3, hu3, h⟩ := ob_some h
  refine va_csv (va_Run.run (va_runS (As := [.long x2, .long x4]) (rest := []) ⟨hx, hb, hml, hown, hw⟩ (k_F_needPlace l dC dI cL cI x2 x4 u3 hu3) (va_cwS 2 hw (gS w_86 w_87 w_1 w_88) rfl rfl rfl (by decide +kernel) ⟨Nat.le_of_ble_eq_true rfl, Nat.le_of_ble_eq_true rfl⟩) ⟨rd_blind, rd_pre trivial hK2⟩ rfl rfl hl.1 rfl (lv_room (Nat.le_of_ble_eq_true rfl)) dF_inside_15 ⟨Nat.le_of_ble_eq_true rfl, Nat.le_of_ble_eq_true rfl⟩)) (fun _ => ?_)
  cases h
theorem dF_nearer_0 : decode cF_nearer 0 = .ok (.aload_n 0, 1) := by decide +kernel
theorem dF_nearer_1 : decode cF_nearer 1 = .ok (.iload_n 1, 1) := by decide +kernel
theorem dF_nearer_2 : decode cF_nearer 2 = .ok (.invokevirtual 55, 3) := by decide +kernel
theorem dF_nearer_5 : decode cF_nearer 5 = .ok (.astore 5, 2) := by decide +kernel
theorem dF_nearer_7 : decode cF_nearer 7 = .ok (.aload_n 0, 1) := by decide +kernel
theorem dF_nearer_8 : decode cF_nearer 8 = .ok (.iload_n 2, 1) := by decide +kernel
theorem dF_nearer_9 : decode cF_nearer 9 = .ok (.invokevirtual 55, 3) := by decide +kernel
theorem dF_nearer_12 : decode cF_nearer 12 = .ok (.astore 6, 2) := by decide +kernel
theorem dF_nearer_14 : decode cF_nearer 14 = .ok (.aload 5, 2) := by decide +kernel
theorem dF_nearer_16 : decode cF_nearer 16 = .ok (.invokestatic 76, 3) := by decide +kernel
theorem dF_nearer_19 : decode cF_nearer 19 = .ok (.aload 6, 2) := by decide +kernel
theorem dF_nearer_21 : decode cF_nearer 21 = .ok (.invokestatic 76, 3) := by decide +kernel
theorem dF_nearer_24 : decode cF_nearer 24 = .ok (.lload_n 3, 1) := by decide +kernel
theorem dF_nearer_25 : decode cF_nearer 25 = .ok (.invokestatic 23, 3) := by decide +kernel
theorem dF_nearer_28 : decode cF_nearer 28 = .ok (.aload 5, 2) := by decide +kernel
theorem dF_nearer_30 : decode cF_nearer 30 = .ok (.aload 6, 2) := by decide +kernel
theorem dF_nearer_32 : decode cF_nearer 32 = .ok (.aload 5, 2) := by decide +kernel
theorem dF_nearer_34 : decode cF_nearer 34 = .ok (.getfield 86, 3) := by decide +kernel
theorem dF_nearer_37 : decode cF_nearer 37 = .ok (.aload 6, 2) := by decide +kernel
theorem dF_nearer_39 : decode cF_nearer 39 = .ok (.getfield 86, 3) := by decide +kernel
theorem dF_nearer_42 : decode cF_nearer 42 = .ok (.ladd, 1) := by decide +kernel
theorem dF_nearer_43 : decode cF_nearer 43 = .ok (.lload_n 3, 1) := by decide +kernel
theorem dF_nearer_44 : decode cF_nearer 44 = .ok (.ladd, 1) := by decide +kernel
theorem dF_nearer_45 : decode cF_nearer 45 = .ok (.invokestatic 105, 3) := by decide +kernel
theorem dF_nearer_48 : decode cF_nearer 48 = .ok (.istore 7, 2) := by decide +kernel
theorem dF_nearer_50 : decode cF_nearer 50 = .ok (.lload_n 3, 1) := by decide +kernel
theorem dF_nearer_51 : decode cF_nearer 51 = .ok (.lconst 0, 1) := by decide +kernel
theorem dF_nearer_52 : decode cF_nearer 52 = .ok (.lcmp, 1) := by decide +kernel
theorem dF_nearer_53 : decode cF_nearer 53 = .ok (.ifCond .ne 14, 3) := by decide +kernel
theorem dF_nearer_56 : decode cF_nearer 56 = .ok (.iload 7, 2) := by decide +kernel
theorem dF_nearer_58 : decode cF_nearer 58 = .ok (.ifCond .gt 7, 3) := by decide +kernel
theorem dF_nearer_61 : decode cF_nearer 61 = .ok (.iconst 0, 1) := by decide +kernel
theorem dF_nearer_62 : decode cF_nearer 62 = .ok (.goto 4, 3) := by decide +kernel
theorem dF_nearer_65 : decode cF_nearer 65 = .ok (.iconst (-1), 1) := by decide +kernel
theorem dF_nearer_66 : decode cF_nearer 66 = .ok (.ireturn, 1) := by decide +kernel
theorem dF_nearer_67 : decode cF_nearer 67 = .ok (.iload 7, 2) := by decide +kernel
theorem dF_nearer_69 : decode cF_nearer 69 = .ok (.ineg, 1) := by decide +kernel
theorem dF_nearer_70 : decode cF_nearer 70 = .ok (.ireturn, 1) := by decide +kernel
def f_F_nearer_j66 (v : CV) (s0 : Int32) : Option Int32 := some s0
def f_F_nearer (v : CV) (x1 : Int32) (x2 : Int32) (x3 : Int64) : Option Int32 := (f_F_find v x1).bind fun u1 => (f_F_find v x2).bind fun u2 => (f_F_needWhole (v.2 u1)).bind fun u3 => (f_F_needWhole (v.2 u2)).bind fun u4 => (f_F_needLength x3).bind fun u5 => (f_P_compareCores (v.2 u1) (v.2 u2) (((sR (v.2 u1)) + (sR (v.2 u2))) + x3)).bind fun u6 => (if (lg_cmp x3 (0 : Int64)) = 0 then (if 0 < u6 then (f_F_nearer_j66 v (-1 : Int32)) else (f_F_nearer_j66 v (0 : Int32))) else some (-u6))
set_option maxHeartbeats 4000000 in
set_option maxRecDepth 100000 in
theorem k_F_nearer (l : Launch) (dC : Nat → ClassId) (dI : Nat → Nat → Nat) (cL cI cO : ClassId) (x0 xa : Nat) (ad : Nat → Nat → Nat) (v : CV) (x1 : Int32) (x2 : Int32) (x3 : Int64) (r : Int32) (h : f_F_nearer v x1 x2 x3 = some r) : Met l yF_nearer wsF_nearer ({ frames := 6, cells := 0, slots := 0, locals := 177 }) (rd_Pc [.ref x0, .int x1, .int x2, .long x3] (fun H => SFH (dC, dI) cL cI cO x0 xa ad v H) (dC, dI) cls3 (ty3 cL cI cO)) (vp_Si (fun z => z = r)) 0 0 (fun _ => False) := by
  refine Met.ofW (cc := cF_nearer) (maxL := 8) (ret := (some .int)) (by decide) rfl ?_
  intro p e s m args below meth c s₁ B hml hv
  obtain ⟨rfl, hPx, hK⟩ := hv
  have hx := B.exec
  have hb := B.bytes
  have hr := B.returns
  have hw : ∀ w ∈ wG, w.before ([.ref x0, .int x1, .int x2, .long x3] : List Value).toArray s = true := fun w hq => atoms_spec (ws := wsF_nearer) B.pre w (List.mem_cons_of_mem _ hq)
  have hown : s.vm.findClass R_F = some m.cls := findClass_of_methodNamed B.named
  have hlocks := B.notSynchronized
  have hK2 := hK.sub (tys' := [(cL, .long), (cI, .int)]) [0, 1] rfl
  have hl := lv_entry ([.ref x0, .int x1, .int x2, .long x3] : List Value) (n := 8) (Nat.le_of_ble_eq_true rfl)
  rw [lg_entry_eq]
  generalize (lg_sl ([.ref x0, .int x1, .int x2, .long x3] : List Value) ++ List.replicate (8 - (lg_sl ([.ref x0, .int x1, .int x2, .long x3] : List Value)).length) Slot.unset).toArray = ls at hl ⊢
  have hl : lv_has ls 8 [(0, .ref x0), (1, .int x1), (2, .int x2), (3, .long x3)] := hl
  have k66 : ∀ (s0 : Int32), f_F_nearer_j66 v s0 = some r →  ∀ (ls : Array Slot), lv_has ls 8 [] → W p l e (headSpec wsF_nearer ({ frames := 6, cells := 0, slots := 0, locals := 177 })).room s m ([.ref x0, .int x1, .int x2, .long x3] : List Value).toArray below meth c s.heap [] 0 0 (MQ below (vp_Si (fun z => z = r)) ([.ref x0, .int x1, .int x2, .long x3] : List Value).toArray s 0 0 (fun _ => False)) (F0 m 66 ls [.int s0]) := by
    intro s0 h  ls hl
    unfold f_F_nearer_j66 at h
    exact W.iret hx hb hr (fun t ht hW => ⟨_, rfl, Option.some.inj h, ht⟩) nil_locs dF_nearer_66
  unfold f_F_nearer at h
  refine lv_aload_n hx hb dF_nearer_0 rfl (lv_at hl 0 rfl) ?_
  refine lv_iload_n hx hb dF_nearer_1 rfl (lv_at hl 1 rfl) ?_
  obtain ⟨u1, hu1, h⟩ := ob_some h
  refine va_csr (va_Run.run (va_runV (As := [.int x1]) (rest := []) ⟨hx, hb, hml, hown, hw⟩ (k_F_find l dC dI cL cI cO x0 xa ad v x1 u1 hu1) (cwV 1 hw (gV w_204 w_206 wp_2 w_1 w_207) rfl rfl rfl (by decide +kernel) ⟨Nat.le_of_ble_eq_true rfl, Nat.le_of_ble_eq_true rfl⟩) ⟨rd_blind, va_recv hK hPx.1 (ci := 1) (q0 := 0) rfl rfl, rd_pre hPx hK⟩ rfl rfl hl.1 rfl (lv_room (Nat.le_of_ble_eq_true rfl)) dF_nearer_2 ⟨Nat.le_of_ble_eq_true rfl, Nat.le_of_ble_eq_true rfl⟩)) (fun z hz => ?_)
  rw [hz]; clear hz
  have hltu1 := (find_lt hPx.2.2 hu1).1
  refine lv_astore (lv' := [(5, .ref (ad u1 0)), (0, .ref x0), (1, .int x1), (2, .int x2), (3, .long x3)]) hx hb dF_nearer_5 hl (by decide) rfl (fun ls hl => ?_)
  refine lv_aload_n hx hb dF_nearer_7 rfl (lv_at hl 1 rfl) ?_
  refine lv_iload_n hx hb dF_nearer_8 rfl (lv_at hl 3 rfl) ?_
  obtain ⟨u2, hu2, h⟩ := ob_some h
  refine va_csr (va_Run.run (va_runV (As := [.int x2]) (rest := []) ⟨hx, hb, hml, hown, hw⟩ (k_F_find l dC dI cL cI cO x0 xa ad v x2 u2 hu2) (cwV 1 hw (gV w_204 w_206 wp_2 w_1 w_207) rfl rfl rfl (by decide +kernel) ⟨Nat.le_of_ble_eq_true rfl, Nat.le_of_ble_eq_true rfl⟩) ⟨rd_blind, va_recv hK hPx.1 (ci := 1) (q0 := 0) rfl rfl, rd_pre hPx hK⟩ rfl rfl hl.1 rfl (lv_room (Nat.le_of_ble_eq_true rfl)) dF_nearer_9 ⟨Nat.le_of_ble_eq_true rfl, Nat.le_of_ble_eq_true rfl⟩)) (fun z hz => ?_)
  rw [hz]; clear hz
  have hltu2 := (find_lt hPx.2.2 hu2).1
  refine lv_astore (lv' := [(6, .ref (ad u2 0)), (5, .ref (ad u1 0)), (0, .ref x0), (1, .int x1), (2, .int x2), (3, .long x3)]) hx hb dF_nearer_12 hl (by decide) rfl (fun ls hl => ?_)
  refine lv_aload hx hb dF_nearer_14 (lv_at hl 1 rfl) ?_
  obtain ⟨u3, hu3, h⟩ := ob_some h
  refine va_csv (va_Run.run (va_runS (As := [.ref (ad u1 0)]) (rest := []) ⟨hx, hb, hml, hown, hw⟩ (k_F_needWhole l dC dI cL cI (ad u1 0) (ad u1 1) (ad u1 2) (ad u1 3) (v.2 u1) u3 hu3) (va_cwS 1 hw (gS w_295 w_296 w_1 w_297) rfl rfl rfl (by decide +kernel) ⟨Nat.le_of_ble_eq_true rfl, Nat.le_of_ble_eq_true rfl⟩) ⟨rd_blind, rd_pre (hPx.2.1 u1 hltu1) hK2⟩ rfl rfl hl.1 rfl (lv_room (Nat.le_of_ble_eq_true rfl)) dF_nearer_16 ⟨Nat.le_of_ble_eq_true rfl, Nat.le_of_ble_eq_true rfl⟩)) (fun _ => ?_)
  refine lv_aload hx hb dF_nearer_19 (lv_at hl 0 rfl) ?_
  obtain ⟨u4, hu4, h⟩ := ob_some h
  refine va_csv (va_Run.run (va_runS (As := [.ref (ad u2 0)]) (rest := []) ⟨hx, hb, hml, hown, hw⟩ (k_F_needWhole l dC dI cL cI (ad u2 0) (ad u2 1) (ad u2 2) (ad u2 3) (v.2 u2) u4 hu4) (va_cwS 1 hw (gS w_295 w_296 w_1 w_297) rfl rfl rfl (by decide +kernel) ⟨Nat.le_of_ble_eq_true rfl, Nat.le_of_ble_eq_true rfl⟩) ⟨rd_blind, rd_pre (hPx.2.1 u2 hltu2) hK2⟩ rfl rfl hl.1 rfl (lv_room (Nat.le_of_ble_eq_true rfl)) dF_nearer_21 ⟨Nat.le_of_ble_eq_true rfl, Nat.le_of_ble_eq_true rfl⟩)) (fun _ => ?_)
  refine lv_lload_n hx hb dF_nearer_24 rfl (lv_at hl 5 rfl) ?_
  obtain ⟨u5, hu5, h⟩ := ob_some h
  refine va_csv (va_Run.run (va_runS (As := [.long x3]) (rest := []) ⟨hx, hb, hml, hown, hw⟩ (k_F_needLength l dC dI cL cI x3 u5 hu5) (va_cwS 1 hw (gS w_162 w_163 w_1 w_164) rfl rfl rfl (by decide +kernel) ⟨Nat.le_of_ble_eq_true rfl, Nat.le_of_ble_eq_true rfl⟩) ⟨rd_blind, rd_pre trivial hK2⟩ rfl rfl hl.1 rfl (lv_room (Nat.le_of_ble_eq_true rfl)) dF_nearer_25 ⟨Nat.le_of_ble_eq_true rfl, Nat.le_of_ble_eq_true rfl⟩)) (fun _ => ?_)
  refine lv_aload hx hb dF_nearer_28 (lv_at hl 1 rfl) ?_
  refine lv_aload hx hb dF_nearer_30 (lv_at hl 0 rfl) ?_
  refine lv_aload hx hb dF_nearer_32 (lv_at hl 1 rfl) ?_
  refine va_get (D := (dC, dI)) (ci := 0) (v := .long (sR (v.2 u1))) (C := R_S) (T := T_S) (N := 8) hx hb hw in_S hown hK (hPx.2.1 u1 hltu1) 0 rfl rfl 2 (by decide) (hw _ w_45) (fun _ h9 => h9) rfl dF_nearer_34 ?_
  refine lv_aload hx hb dF_nearer_37 (lv_at hl 0 rfl) ?_
  refine va_get (D := (dC, dI)) (ci := 0) (v := .long (sR (v.2 u2))) (C := R_S) (T := T_S) (N := 8) hx hb hw in_S hown hK (hPx.2.1 u2 hltu2) 0 rfl rfl 2 (by decide) (hw _ w_45) (fun _ h9 => h9) rfl dF_nearer_39 ?_
  refine lv_ladd hx hb dF_nearer_42 ?_
  refine lv_lload_n hx hb dF_nearer_43 rfl (lv_at hl 5 rfl) ?_
  refine lv_ladd hx hb dF_nearer_44 ?_
  obtain ⟨u6, hu6, h⟩ := ob_some h
  refine vp_callSi (va_Run.run (va_runS (As := [.ref (ad u1 0), .ref (ad u2 0), .long (((sR (v.2 u1)) + (sR (v.2 u2))) + x3)]) (rest := []) ⟨hx, hb, hml, hown, hw⟩ (k_P_compareCores l dC dI cL cI (ad u1 0) (ad u1 1) (ad u1 2) (ad u1 3) (v.2 u1) (ad u2 0) (ad u2 1) (ad u2 2) (ad u2 3) (v.2 u2) (((sR (v.2 u1)) + (sR (v.2 u2))) + x3) u6 hu6) (va_cwS 3 hw (gS w_360 w_361 w_10 w_362) rfl rfl rfl (by decide +kernel) ⟨Nat.le_of_ble_eq_true rfl, Nat.le_of_ble_eq_true rfl⟩) ⟨rd_blind, rd_pre ⟨(hPx.2.1 u1 hltu1), (hPx.2.1 u2 hltu2)⟩ hK2⟩ rfl rfl hl.1 rfl (lv_room (Nat.le_of_ble_eq_true rfl)) dF_nearer_45 ⟨Nat.le_of_ble_eq_true rfl, Nat.le_of_ble_eq_true rfl⟩)) (fun z hz => ?_)
  rw [hz]; clear hz
  refine lv_istore (lv' := [(7, .int u6), (6, .ref (ad u2 0)), (5, .ref (ad u1 0)), (0, .ref x0), (1, .int x1), (2, .int x2), (3, .long x3)]) hx hb dF_nearer_48 hl (by decide) rfl (fun ls hl => ?_)
  refine lv_lload_n hx hb dF_nearer_50 rfl (lv_at hl 6 rfl) ?_
  refine lv_lconst (v := 0) hx hb dF_nearer_51 (by decide) ?_
  refine W.lcmp hx hb dF_nearer_52 ?_
  refine lv_if_ne (tgt := 67) hx hb dF_nearer_53 (by decide) (fun c7 => ?_) (fun c7 => ?_)
  · have h := it_f c7 h
    refine lv_iload hx hb dF_nearer_67 (lv_at hl 0 rfl) ?_
    refine lv_ineg hx hb dF_nearer_69 ?_
    exact W.iret hx hb hr (fun t ht hW => ⟨_, rfl, Option.some.inj h, ht⟩) nil_locs dF_nearer_70
  · have h := it_t c7 h
    refine lv_iload hx hb dF_nearer_56 (lv_at hl 0 rfl) ?_
    refine lv_if_gt (tgt := 65) hx hb dF_nearer_58 (by decide) (fun c8 => ?_) (fun c8 => ?_)
    · have h := it_t c8 h
      refine lv_iconst (v := -1) hx hb dF_nearer_65 (by decide) ?_
      exact k66 (-1 : Int32) h ls (lv_sub hl [] rfl)
    · have h := it_f c8 h
      refine lv_iconst (v := 0) hx hb dF_nearer_61 (by decide) ?_
      refine lv_goto (tgt := 66) hx hb dF_nearer_62 (by decide) ?_
      exact k66 (0 : Int32) h ls (lv_sub hl [] rfl)
def g_F_nearer (v : CV) (x1 : Int32) (x2 : Int32) (x3 : Int64) : Option String := xthen (g_F_find v x1) <| (f_F_find v x1).bind fun u1 => xthen (g_F_find v x2) <| (f_F_find v x2).bind fun u2 => xthen (g_F_needWhole (v.2 u1)) <| (f_F_needWhole (v.2 u1)).bind fun u3 => xthen (g_F_needWhole (v.2 u2)) <| (f_F_needWhole (v.2 u2)).bind fun u4 => xthen (g_F_needLength x3) <| (f_F_needLength x3).bind fun u5 => none
set_option maxHeartbeats 4000000 in
set_option maxRecDepth 100000 in
theorem kt_F_nearer (l : Launch) (hl0 : l.stackTraces = false) (N0 : Nat) (dC : Nat → ClassId) (dI : Nat → Nat → Nat) (cL cI cO : ClassId) (x0 xa : Nat) (ad : Nat → Nat → Nat) (v : CV) (x1 : Int32) (x2 : Int32) (x3 : Int64) (E : String) (h : g_F_nearer v x1 x2 x3 = some E) : vx_Met l yF_nearer wsF_nearer ({ frames := 7, cells := 1, slots := 6, locals := 177 }) (ev_Pc N0 [.ref x0, .int x1, .int x2, .long x3] (fun H => SFH (dC, dI) cL cI cO x0 xa ad v H) (dC, dI) cls3 (ty3 cL cI cO)) NoQ (XE E) 1 6 (fun _ => False) := by
  refine vx_ofW (cc := cF_nearer) (maxL := 8) (ret := (some .int)) (by decide) rfl ?_
  intro p e s m args below meth c s₁ B hml htab hv
  obtain ⟨rfl, hPx, hK, hev⟩ := hv
  have hx := B.exec
  have hb := B.bytes
  have hr := B.returns
  have hw : ∀ w ∈ wG, w.before ([.ref x0, .int x1, .int x2, .long x3] : List Value).toArray s = true := fun w hq => atoms_spec (ws := wsF_nearer) B.pre w (List.mem_cons_of_mem _ hq)
  have hown : s.vm.findClass R_F = some m.cls := findClass_of_methodNamed B.named
  have hlocks := B.notSynchronized
  have hK2 := hK.sub (tys' := [(cL, .long), (cI, .int)]) [0, 1] rfl
  have hl := lv_entry ([.ref x0, .int x1, .int x2, .long x3] : List Value) (n := 8) (Nat.le_of_ble_eq_true rfl)
  rw [lg_entry_eq]
  generalize (lg_sl ([.ref x0, .int x1, .int x2, .long x3] : List Value) ++ List.replicate (8 - (lg_sl ([.ref x0, .int x1, .int x2, .long x3] : List Value)).length) Slot.unset).toArray = ls at hl ⊢
  have hl : lv_has ls 8 [(0, .ref x0), (1, .int x1), (2, .int x2), (3, .long x3)] := hl
  unfold g_F_nearer at h
  refine lv_aload_n hx hb dF_nearer_0 rfl (lv_at hl 0 rfl) ?_
  refine lv_iload_n hx hb dF_nearer_1 rfl (lv_at hl 1 rfl) ?_
  rcases xt h with hE | ⟨hN, h⟩
  · exact thr_pass (vx_runV (As := [.int x1]) (rest := []) ⟨hx, hb, hml, hown, hw⟩ (kt_F_find l hl0 N0 dC dI cL cI cO x0 xa ad v x1 E hE) (cwV 1 hw (gV w_204 w_206 wp_2 w_1 w_207) rfl rfl rfl (by decide +kernel) ⟨Nat.le_of_ble_eq_true rfl, Nat.le_of_ble_eq_true rfl⟩) ⟨ev_blind, va_recv hK hPx.1 (ci := 1) (q0 := 0) rfl rfl, ev_pre hPx hK hev⟩ rfl rfl hl.1 rfl (lv_room (Nat.le_of_ble_eq_true rfl)) dF_nearer_2 ⟨Nat.le_of_ble_eq_true rfl, Nat.le_of_ble_eq_true rfl⟩) htab hlocks
  obtain ⟨u1, hu1, h⟩ := ob_some h
  refine va_csr (va_Run.run (va_runV (As := [.int x1]) (rest := []) ⟨hx, hb, hml, hown, hw⟩ (k_F_find l dC dI cL cI cO x0 xa ad v x1 u1 hu1) (cwV 1 hw (gV w_204 w_206 wp_2 w_1 w_207) rfl rfl rfl (by decide +kernel) ⟨Nat.le_of_ble_eq_true rfl, Nat.le_of_ble_eq_true rfl⟩) ⟨rd_blind, va_recv hK hPx.1 (ci := 1) (q0 := 0) rfl rfl, rd_pre hPx hK⟩ rfl rfl hl.1 rfl (lv_room (Nat.le_of_ble_eq_true rfl)) dF_nearer_2 ⟨Nat.le_of_ble_eq_true rfl, Nat.le_of_ble_eq_true rfl⟩)) (fun z hz => ?_)
  rw [hz]; clear hz
  have hltu1 := (find_lt hPx.2.2 hu1).1
  refine lv_astore (lv' := [(5, .ref (ad u1 0)), (0, .ref x0), (1, .int x1), (2, .int x2), (3, .long x3)]) hx hb dF_nearer_5 hl (by decide) rfl (fun ls hl => ?_)
  refine lv_aload_n hx hb dF_nearer_7 rfl (lv_at hl 1 rfl) ?_
  refine lv_iload_n hx hb dF_nearer_8 rfl (lv_at hl 3 rfl) ?_
  rcases xt h with hE | ⟨hN, h⟩
  · exact thr_pass (vx_runV (As := [.int x2]) (rest := []) ⟨hx, hb, hml, hown, hw⟩ (kt_F_find l hl0 N0 dC dI cL cI cO x0 xa ad v x2 E hE) (cwV 1 hw (gV w_204 w_206 wp_2 w_1 w_207) rfl rfl rfl (by decide +kernel) ⟨Nat.le_of_ble_eq_true rfl, Nat.le_of_ble_eq_true rfl⟩) ⟨ev_blind, va_recv hK hPx.1 (ci := 1) (q0 := 0) rfl rfl, ev_pre hPx hK hev⟩ rfl rfl hl.1 rfl (lv_room (Nat.le_of_ble_eq_true rfl)) dF_nearer_9 ⟨Nat.le_of_ble_eq_true rfl, Nat.le_of_ble_eq_true rfl⟩) htab hlocks
  obtain ⟨u2, hu2, h⟩ := ob_some h
  refine va_csr (va_Run.run (va_runV (As := [.int x2]) (rest := []) ⟨hx, hb, hml, hown, hw⟩ (k_F_find l dC dI cL cI cO x0 xa ad v x2 u2 hu2) (cwV 1 hw (gV w_204 w_206 wp_2 w_1 w_207) rfl rfl rfl (by decide +kernel) ⟨Nat.le_of_ble_eq_true rfl, Nat.le_of_ble_eq_true rfl⟩) ⟨rd_blind, va_recv hK hPx.1 (ci := 1) (q0 := 0) rfl rfl, rd_pre hPx hK⟩ rfl rfl hl.1 rfl (lv_room (Nat.le_of_ble_eq_true rfl)) dF_nearer_9 ⟨Nat.le_of_ble_eq_true rfl, Nat.le_of_ble_eq_true rfl⟩)) (fun z hz => ?_)
  rw [hz]; clear hz
  have hltu2 := (find_lt hPx.2.2 hu2).1
  refine lv_astore (lv' := [(6, .ref (ad u2 0)), (5, .ref (ad u1 0)), (0, .ref x0), (1, .int x1), (2, .int x2), (3, .long x3)]) hx hb dF_nearer_12 hl (by decide) rfl (fun ls hl => ?_)
  refine lv_aload hx hb dF_nearer_14 (lv_at hl 1 rfl) ?_
  rcases xt h with hE | ⟨hN, h⟩
  · exact thr_pass (vx_runS (As := [.ref (ad u1 0)]) (rest := []) ⟨hx, hb, hml, hown, hw⟩ (kt_F_needWhole l hl0 N0 dC dI cL cI (ad u1 0) (ad u1 1) (ad u1 2) (ad u1 3) (v.2 u1) E hE) (va_cwS 1 hw (gS w_295 w_296 w_1 w_297) rfl rfl rfl (by decide +kernel) ⟨Nat.le_of_ble_eq_true rfl, Nat.le_of_ble_eq_true rfl⟩) ⟨ev_blind, ev_pre (hPx.2.1 u1 hltu1) hK2 hev⟩ rfl rfl hl.1 rfl (lv_room (Nat.le_of_ble_eq_true rfl)) dF_nearer_16 ⟨Nat.le_of_ble_eq_true rfl, Nat.le_of_ble_eq_true rfl⟩) htab hlocks
  obtain ⟨u3, hu3, h⟩ := ob_some h
  refine va_csv (va_Run.run (va_runS (As := [.ref (ad u1 0)]) (rest := []) ⟨hx, hb, hml, hown, hw⟩ (k_F_needWhole l dC dI cL cI (ad u1 0) (ad u1 1) (ad u1 2) (ad u1 3) (v.2 u1) u3 hu3) (va_cwS 1 hw (gS w_295 w_296 w_1 w_297) rfl rfl rfl (by decide +kernel) ⟨Nat.le_of_ble_eq_true rfl, Nat.le_of_ble_eq_true rfl⟩) ⟨rd_blind, rd_pre (hPx.2.1 u1 hltu1) hK2⟩ rfl rfl hl.1 rfl (lv_room (Nat.le_of_ble_eq_true rfl)) dF_nearer_16 ⟨Nat.le_of_ble_eq_true rfl, Nat.le_of_ble_eq_true rfl⟩)) (fun _ => ?_)
  refine lv_aload hx hb dF_nearer_19 (lv_at hl 0 rfl) ?_
  rcases xt h with hE | ⟨hN, h⟩
  · exact thr_pass (vx_runS (As := [.ref (ad u2 0)]) (rest := []) ⟨hx, hb, hml, hown, hw⟩ (kt_F_needWhole l hl0 N0 dC dI cL cI (ad u2 0) (ad u2 1) (ad u2 2) (ad u2 3) (v.2 u2) E hE) (va_cwS 1 hw (gS w_295 w_296 w_1 w_297) rfl rfl rfl (by decide +kernel) ⟨Nat.le_of_ble_eq_true rfl, Nat.le_of_ble_eq_true rfl⟩) ⟨ev_blind, ev_pre (hPx.2.1 u2 hltu2) hK2 hev⟩ rfl rfl hl.1 rfl (lv_room (Nat.le_of_ble_eq_true rfl)) dF_nearer_21 ⟨Nat.le_of_ble_eq_true rfl, Nat.le_of_ble_eq_true rfl⟩) htab hlocks
  obtain ⟨u4, hu4, h⟩ := ob_some h
  refine va_csv (va_Run.run (va_runS (As := [.ref (ad u2 0)]) (rest := []) ⟨hx, hb, hml, hown, hw⟩ (k_F_needWhole l dC dI cL cI (ad u2 0) (ad u2 1) (ad u2 2) (ad u2 3) (v.2 u2) u4 hu4) (va_cwS 1 hw (gS w_295 w_296 w_1 w_297) rfl rfl rfl (by decide +kernel) ⟨Nat.le_of_ble_eq_true rfl, Nat.le_of_ble_eq_true rfl⟩) ⟨rd_blind, rd_pre (hPx.2.1 u2 hltu2) hK2⟩ rfl rfl hl.1 rfl (lv_room (Nat.le_of_ble_eq_true rfl)) dF_nearer_21 ⟨Nat.le_of_ble_eq_true rfl, Nat.le_of_ble_eq_true rfl⟩)) (fun _ => ?_)
  refine lv_lload_n hx hb dF_nearer_24 rfl (lv_at hl 5 rfl) ?_
  rcases xt h with hE | ⟨hN, h⟩
  · exact thr_pass (vx_runS (As := [.long x3]) (rest := []) ⟨hx, hb, hml, hown, hw⟩ (kt_F_needLength l hl0 N0 dC dI cL cI x3 E hE) (va_cwS 1 hw (gS w_162 w_163 w_1 w_164) rfl rfl rfl (by decide +kernel) ⟨Nat.le_of_ble_eq_true rfl, Nat.le_of_ble_eq_true rfl⟩) ⟨ev_blind, ev_pre trivial hK2 hev⟩ rfl rfl hl.1 rfl (lv_room (Nat.le_of_ble_eq_true rfl)) dF_nearer_25 ⟨Nat.le_of_ble_eq_true rfl, Nat.le_of_ble_eq_true rfl⟩) htab hlocks
  obtain ⟨u5, hu5, h⟩ := ob_some h
  refine va_csv (va_Run.run (va_runS (As := [.long x3]) (rest := []) ⟨hx, hb, hml, hown, hw⟩ (k_F_needLength l dC dI cL cI x3 u5 hu5) (va_cwS 1 hw (gS w_162 w_163 w_1 w_164) rfl rfl rfl (by decide +kernel) ⟨Nat.le_of_ble_eq_true rfl, Nat.le_of_ble_eq_true rfl⟩) ⟨rd_blind, rd_pre trivial hK2⟩ rfl rfl hl.1 rfl (lv_room (Nat.le_of_ble_eq_true rfl)) dF_nearer_25 ⟨Nat.le_of_ble_eq_true rfl, Nat.le_of_ble_eq_true rfl⟩)) (fun _ => ?_)
  cases h
theorem dF_boxOf_0 : decode cF_boxOf 0 = .ok (.aload_n 0, 1) := by decide +kernel
theorem dF_boxOf_1 : decode cF_boxOf 1 = .ok (.iload_n 1, 1) := by decide +kernel
theorem dF_boxOf_2 : decode cF_boxOf 2 = .ok (.invokevirtual 55, 3) := by decide +kernel
theorem dF_boxOf_5 : decode cF_boxOf 5 = .ok (.astore_n 3, 1) := by decide +kernel
theorem dF_boxOf_6 : decode cF_boxOf 6 = .ok (.iload_n 2, 1) := by decide +kernel
theorem dF_boxOf_7 : decode cF_boxOf 7 = .ok (.ifCond .lt 8, 3) := by decide +kernel
theorem dF_boxOf_10 : decode cF_boxOf 10 = .ok (.iload_n 2, 1) := by decide +kernel
theorem dF_boxOf_11 : decode cF_boxOf 11 = .ok (.iconst 4, 1) := by decide +kernel
theorem dF_boxOf_12 : decode cF_boxOf 12 = .ok (.if_icmp .lt 13, 3) := by decide +kernel
theorem dF_boxOf_15 : decode cF_boxOf 15 = .ok (.new 111, 3) := by decide +kernel
theorem dF_boxOf_18 : decode cF_boxOf 18 = .ok (.dup, 1) := by decide +kernel
theorem dF_boxOf_19 : decode cF_boxOf 19 = .ok (.ldc 113, 2) := by decide +kernel
theorem dF_boxOf_21 : decode cF_boxOf 21 = .ok (.invokespecial 115, 3) := by decide +kernel
theorem dF_boxOf_24 : decode cF_boxOf 24 = .ok (.athrow, 1) := by decide +kernel
theorem dF_boxOf_25 : decode cF_boxOf 25 = .ok (.aload_n 3, 1) := by decide +kernel
theorem dF_boxOf_26 : decode cF_boxOf 26 = .ok (.invokestatic 76, 3) := by decide +kernel
theorem dF_boxOf_29 : decode cF_boxOf 29 = .ok (.aload_n 3, 1) := by decide +kernel
theorem dF_boxOf_30 : decode cF_boxOf 30 = .ok (.iload_n 2, 1) := by decide +kernel
theorem dF_boxOf_31 : decode cF_boxOf 31 = .ok (.invokevirtual 116, 3) := by decide +kernel
theorem dF_boxOf_34 : decode cF_boxOf 34 = .ok (.lreturn, 1) := by decide +kernel
def f_F_boxOf_j15 (v : CV) : Option Int64 := none
def f_F_boxOf (v : CV) (x1 : Int32) (x2 : Int32) : Option Int64 := (f_F_find v x1).bind fun u1 => (if x2 < 0 then (f_F_boxOf_j15 v) else (if x2 < (4 : Int32) then (f_F_needWhole (v.2 u1)).bind fun u4 => (f_S_outermost (v.2 u1) x2).bind fun u5 => some u5 else (f_F_boxOf_j15 v)))
set_option maxHeartbeats 4000000 in
set_option maxRecDepth 100000 in
theorem k_F_boxOf (l : Launch) (dC : Nat → ClassId) (dI : Nat → Nat → Nat) (cL cI cO : ClassId) (x0 xa : Nat) (ad : Nat → Nat → Nat) (v : CV) (x1 : Int32) (x2 : Int32) (r : Int64) (h : f_F_boxOf v x1 x2 = some r) : Met l yF_boxOf wsF_boxOf ({ frames := 3, cells := 0, slots := 0, locals := 60 }) (rd_Pc [.ref x0, .int x1, .int x2] (fun H => SFH (dC, dI) cL cI cO x0 xa ad v H) (dC, dI) cls3 (ty3 cL cI cO)) (vp_Sl (fun z => z = r)) 0 0 (fun _ => False) := by
  refine Met.ofW (cc := cF_boxOf) (maxL := 4) (ret := (some .long)) (by decide) rfl ?_
  intro p e s m args below meth c s₁ B hml hv
  obtain ⟨rfl, hPx, hK⟩ := hv
  have hx := B.exec
  have hb := B.bytes
  have hr := B.returns
  have hw : ∀ w ∈ wG, w.before ([.ref x0, .int x1, .int x2] : List Value).toArray s = true := fun w hq => atoms_spec (ws := wsF_boxOf) B.pre w (List.mem_cons_of_mem _ hq)
  have hown : s.vm.findClass R_F = some m.cls := findClass_of_methodNamed B.named
  have hlocks := B.notSynchronized
  have hK2 := hK.sub (tys' := [(cL, .long), (cI, .int)]) [0, 1] rfl
  have hl := lv_entry ([.ref x0, .int x1, .int x2] : List Value) (n := 4) (Nat.le_of_ble_eq_true rfl)
  rw [lg_entry_eq]
  generalize (lg_sl ([.ref x0, .int x1, .int x2] : List Value) ++ List.replicate (4 - (lg_sl ([.ref x0, .int x1, .int x2] : List Value)).length) Slot.unset).toArray = ls at hl ⊢
  have hl : lv_has ls 4 [(0, .ref x0), (1, .int x1), (2, .int x2)] := hl
  have k15 : f_F_boxOf_j15 v = some r →  ∀ (ls : Array Slot), lv_has ls 4 [] → W p l e (headSpec wsF_boxOf ({ frames := 3, cells := 0, slots := 0, locals := 60 })).room s m ([.ref x0, .int x1, .int x2] : List Value).toArray below meth c s.heap [] 0 0 (MQ below (vp_Sl (fun z => z = r)) ([.ref x0, .int x1, .int x2] : List Value).toArray s 0 0 (fun _ => False)) (F0 m 15 ls []) := by
    intro  h  ls hl
    unfold f_F_boxOf_j15 at h
    cases h
  unfold f_F_boxOf at h
  refine lv_aload_n hx hb dF_boxOf_0 rfl (lv_at hl 0 rfl) ?_
  refine lv_iload_n hx hb dF_boxOf_1 rfl (lv_at hl 1 rfl) ?_
  obtain ⟨u1, hu1, h⟩ := ob_some h
  refine va_csr (va_Run.run (va_runV (As := [.int x1]) (rest := []) ⟨hx, hb, hml, hown, hw⟩ (k_F_find l dC dI cL cI cO x0 xa ad v x1 u1 hu1) (cwV 1 hw (gV w_204 w_206 wp_2 w_1 w_207) rfl rfl rfl (by decide +kernel) ⟨Nat.le_of_ble_eq_true rfl, Nat.le_of_ble_eq_true rfl⟩) ⟨rd_blind, va_recv hK hPx.1 (ci := 1) (q0 := 0) rfl rfl, rd_pre hPx hK⟩ rfl rfl hl.1 rfl (lv_room (Nat.le_of_ble_eq_true rfl)) dF_boxOf_2 ⟨Nat.le_of_ble_eq_true rfl, Nat.le_of_ble_eq_true rfl⟩)) (fun z hz => ?_)
  rw [hz]; clear hz
  have hltu1 := (find_lt hPx.2.2 hu1).1
  refine lv_astore_n (lv' := [(3, .ref (ad u1 0)), (0, .ref x0), (1, .int x1), (2, .int x2)]) hx hb dF_boxOf_5 rfl hl (by decide) rfl (fun ls hl => ?_)
  refine lv_iload_n hx hb dF_boxOf_6 rfl (lv_at hl 3 rfl) ?_
  refine lv_if_lt (tgt := 15) hx hb dF_boxOf_7 (by decide) (fun c2 => ?_) (fun c2 => ?_)
  · have h := it_t c2 h
    exact k15 h ls (lv_sub hl [] rfl)
  · have h := it_f c2 h
    refine lv_iload_n hx hb dF_boxOf_10 rfl (lv_at hl 3 rfl) ?_
    refine lv_iconst (v := 4) hx hb dF_boxOf_11 (by decide) ?_
    refine lv_icmp_lt (tgt := 25) hx hb dF_boxOf_12 (by decide) (fun c3 => ?_) (fun c3 => ?_)
    · have h := it_t c3 h
      refine lv_aload_n hx hb dF_boxOf_25 rfl (lv_at hl 0 rfl) ?_
      obtain ⟨u4, hu4, h⟩ := ob_some h
      refine va_csv (va_Run.run (va_runS (As := [.ref (ad u1 0)]) (rest := []) ⟨hx, hb, hml, hown, hw⟩ (k_F_needWhole l dC dI cL cI (ad u1 0) (ad u1 1) (ad u1 2) (ad u1 3) (v.2 u1) u4 hu4) (va_cwS 1 hw (gS w_295 w_296 w_1 w_297) rfl rfl rfl (by decide +kernel) ⟨Nat.le_of_ble_eq_true rfl, Nat.le_of_ble_eq_true rfl⟩) ⟨rd_blind, rd_pre (hPx.2.1 u1 hltu1) hK2⟩ rfl rfl hl.1 rfl (lv_room (Nat.le_of_ble_eq_true rfl)) dF_boxOf_26 ⟨Nat.le_of_ble_eq_true rfl, Nat.le_of_ble_eq_true rfl⟩)) (fun _ => ?_)
      refine lv_aload_n hx hb dF_boxOf_29 rfl (lv_at hl 0 rfl) ?_
      refine lv_iload_n hx hb dF_boxOf_30 rfl (lv_at hl 3 rfl) ?_
      obtain ⟨u5, hu5, h⟩ := ob_some h
      refine vp_callSl (va_Run.run (va_runV (As := [.int x2]) (rest := []) ⟨hx, hb, hml, hown, hw⟩ (k_S_outermost l dC dI cL cI (ad u1 0) (ad u1 1) (ad u1 2) (ad u1 3) (v.2 u1) x2 u5 hu5) (cwV 1 hw (gV w_386 w_387 w_388 w_7 w_389) rfl rfl rfl (by decide +kernel) ⟨Nat.le_of_ble_eq_true rfl, Nat.le_of_ble_eq_true rfl⟩) ⟨rd_blind, va_recv hK (hPx.2.1 u1 hltu1) (ci := 0) (q0 := 0) rfl rfl, rd_pre (hPx.2.1 u1 hltu1) hK2⟩ rfl rfl hl.1 rfl (lv_room (Nat.le_of_ble_eq_true rfl)) dF_boxOf_31 ⟨Nat.le_of_ble_eq_true rfl, Nat.le_of_ble_eq_true rfl⟩)) (fun z hz => ?_)
      rw [hz]; clear hz
      exact W.lret hx hb hr (fun t ht hW => ⟨_, rfl, Option.some.inj h, ht⟩) nil_locs dF_boxOf_34
    · have h := it_f c3 h
      exact k15 h ls (lv_sub hl [] rfl)
def g_F_boxOf_j15 (v : CV) : Option String := some "java/lang/IndexOutOfBoundsException"
def g_F_boxOf (v : CV) (x1 : Int32) (x2 : Int32) : Option String := xthen (g_F_find v x1) <| (f_F_find v x1).bind fun u1 => (if x2 < 0 then (g_F_boxOf_j15 v) else (if x2 < (4 : Int32) then xthen (g_F_needWhole (v.2 u1)) <| (f_F_needWhole (v.2 u1)).bind fun u4 => none else (g_F_boxOf_j15 v)))
set_option maxHeartbeats 4000000 in
set_option maxRecDepth 100000 in
theorem kt_F_boxOf (l : Launch) (hl0 : l.stackTraces = false) (N0 : Nat) (dC : Nat → ClassId) (dI : Nat → Nat → Nat) (cL cI cO : ClassId) (x0 xa : Nat) (ad : Nat → Nat → Nat) (v : CV) (x1 : Int32) (x2 : Int32) (E : String) (h : g_F_boxOf v x1 x2 = some E) : vx_Met l yF_boxOf wsF_boxOf ({ frames := 7, cells := 1, slots := 6, locals := 112 }) (ev_Pc N0 [.ref x0, .int x1, .int x2] (fun H => SFH (dC, dI) cL cI cO x0 xa ad v H) (dC, dI) cls3 (ty3 cL cI cO)) NoQ (XE E) 1 6 (fun _ => False) := by
  refine vx_ofW (cc := cF_boxOf) (maxL := 4) (ret := (some .long)) (by decide) rfl ?_
  intro p e s m args below meth c s₁ B hml htab hv
  obtain ⟨rfl, hPx, hK, hev⟩ := hv
  have hx := B.exec
  have hb := B.bytes
  have hr := B.returns
  have hw : ∀ w ∈ wG, w.before ([.ref x0, .int x1, .int x2] : List Value).toArray s = true := fun w hq => atoms_spec (ws := wsF_boxOf) B.pre w (List.mem_cons_of_mem _ hq)
  have hown : s.vm.findClass R_F = some m.cls := findClass_of_methodNamed B.named
  have hlocks := B.notSynchronized
  have hK2 := hK.sub (tys' := [(cL, .long), (cI, .int)]) [0, 1] rfl
  have hl := lv_entry ([.ref x0, .int x1, .int x2] : List Value) (n := 4) (Nat.le_of_ble_eq_true rfl)
  rw [lg_entry_eq]
  generalize (lg_sl ([.ref x0, .int x1, .int x2] : List Value) ++ List.replicate (4 - (lg_sl ([.ref x0, .int x1, .int x2] : List Value)).length) Slot.unset).toArray = ls at hl ⊢
  have hl : lv_has ls 4 [(0, .ref x0), (1, .int x1), (2, .int x2)] := hl
  have k15 : g_F_boxOf_j15 v = some E →  ∀ (ls : Array Slot), lv_has ls 4 [] → W p l e (headSpec wsF_boxOf ({ frames := 7, cells := 1, slots := 6, locals := 112 })).room s m ([.ref x0, .int x1, .int x2] : List Value).toArray below meth c s.heap [] 0 0 (vx_MQ below NoQ (XE E) ([.ref x0, .int x1, .int x2] : List Value).toArray s 1 6 (fun _ => False)) (F0 m 15 ls []) := by
    intro  h  ls hl
    unfold g_F_boxOf_j15 at h
    have h := Option.some.inj h
    subst h
    exact thr_F (text := "no such side") hx hb hl0 hown hev hw tIOB_fit w_208 w_8 (by decide +kernel) tIOB_good tIOB_bad tIOB_ot (hl.1.trans hml.symm) htab hlocks dF_boxOf_15 dF_boxOf_18 dF_boxOf_19 dF_boxOf_21 dF_boxOf_24 (Nat.le_of_ble_eq_true rfl) (Nat.le_of_ble_eq_true rfl) (Nat.le_of_ble_eq_true rfl) (Nat.le_of_ble_eq_true rfl)
  unfold g_F_boxOf at h
  refine lv_aload_n hx hb dF_boxOf_0 rfl (lv_at hl 0 rfl) ?_
  refine lv_iload_n hx hb dF_boxOf_1 rfl (lv_at hl 1 rfl) ?_
  rcases xt h with hE | ⟨hN, h⟩
  · exact thr_pass (vx_runV (As := [.int x1]) (rest := []) ⟨hx, hb, hml, hown, hw⟩ (kt_F_find l hl0 N0 dC dI cL cI cO x0 xa ad v x1 E hE) (cwV 1 hw (gV w_204 w_206 wp_2 w_1 w_207) rfl rfl rfl (by decide +kernel) ⟨Nat.le_of_ble_eq_true rfl, Nat.le_of_ble_eq_true rfl⟩) ⟨ev_blind, va_recv hK hPx.1 (ci := 1) (q0 := 0) rfl rfl, ev_pre hPx hK hev⟩ rfl rfl hl.1 rfl (lv_room (Nat.le_of_ble_eq_true rfl)) dF_boxOf_2 ⟨Nat.le_of_ble_eq_true rfl, Nat.le_of_ble_eq_true rfl⟩) htab hlocks
  obtain ⟨u1, hu1, h⟩ := ob_some h
  refine va_csr (va_Run.run (va_runV (As := [.int x1]) (rest := []) ⟨hx, hb, hml, hown, hw⟩ (k_F_find l dC dI cL cI cO x0 xa ad v x1 u1 hu1) (cwV 1 hw (gV w_204 w_206 wp_2 w_1 w_207) rfl rfl rfl (by decide +kernel) ⟨Nat.le_of_ble_eq_true rfl, Nat.le_of_ble_eq_true rfl⟩) ⟨rd_blind, va_recv hK hPx.1 (ci := 1) (q0 := 0) rfl rfl, rd_pre hPx hK⟩ rfl rfl hl.1 rfl (lv_room (Nat.le_of_ble_eq_true rfl)) dF_boxOf_2 ⟨Nat.le_of_ble_eq_true rfl, Nat.le_of_ble_eq_true rfl⟩)) (fun z hz => ?_)
  rw [hz]; clear hz
  have hltu1 := (find_lt hPx.2.2 hu1).1
  refine lv_astore_n (lv' := [(3, .ref (ad u1 0)), (0, .ref x0), (1, .int x1), (2, .int x2)]) hx hb dF_boxOf_5 rfl hl (by decide) rfl (fun ls hl => ?_)
  refine lv_iload_n hx hb dF_boxOf_6 rfl (lv_at hl 3 rfl) ?_
  refine lv_if_lt (tgt := 15) hx hb dF_boxOf_7 (by decide) (fun c2 => ?_) (fun c2 => ?_)
  · have h := it_t c2 h
    exact k15 h ls (lv_sub hl [] rfl)
  · have h := it_f c2 h
    refine lv_iload_n hx hb dF_boxOf_10 rfl (lv_at hl 3 rfl) ?_
    refine lv_iconst (v := 4) hx hb dF_boxOf_11 (by decide) ?_
    refine lv_icmp_lt (tgt := 25) hx hb dF_boxOf_12 (by decide) (fun c3 => ?_) (fun c3 => ?_)
    · have h := it_t c3 h
      refine lv_aload_n hx hb dF_boxOf_25 rfl (lv_at hl 0 rfl) ?_
      rcases xt h with hE | ⟨hN, h⟩
      · exact thr_pass (vx_runS (As := [.ref (ad u1 0)]) (rest := []) ⟨hx, hb, hml, hown, hw⟩ (kt_F_needWhole l hl0 N0 dC dI cL cI (ad u1 0) (ad u1 1) (ad u1 2) (ad u1 3) (v.2 u1) E hE) (va_cwS 1 hw (gS w_295 w_296 w_1 w_297) rfl rfl rfl (by decide +kernel) ⟨Nat.le_of_ble_eq_true rfl, Nat.le_of_ble_eq_true rfl⟩) ⟨ev_blind, ev_pre (hPx.2.1 u1 hltu1) hK2 hev⟩ rfl rfl hl.1 rfl (lv_room (Nat.le_of_ble_eq_true rfl)) dF_boxOf_26 ⟨Nat.le_of_ble_eq_true rfl, Nat.le_of_ble_eq_true rfl⟩) htab hlocks
      obtain ⟨u4, hu4, h⟩ := ob_some h
      refine va_csv (va_Run.run (va_runS (As := [.ref (ad u1 0)]) (rest := []) ⟨hx, hb, hml, hown, hw⟩ (k_F_needWhole l dC dI cL cI (ad u1 0) (ad u1 1) (ad u1 2) (ad u1 3) (v.2 u1) u4 hu4) (va_cwS 1 hw (gS w_295 w_296 w_1 w_297) rfl rfl rfl (by decide +kernel) ⟨Nat.le_of_ble_eq_true rfl, Nat.le_of_ble_eq_true rfl⟩) ⟨rd_blind, rd_pre (hPx.2.1 u1 hltu1) hK2⟩ rfl rfl hl.1 rfl (lv_room (Nat.le_of_ble_eq_true rfl)) dF_boxOf_26 ⟨Nat.le_of_ble_eq_true rfl, Nat.le_of_ble_eq_true rfl⟩)) (fun _ => ?_)
      cases h
    · have h := it_f c3 h
      exact k15 h ls (lv_sub hl [] rfl)
theorem dF_same_0 : decode cF_same 0 = .ok (.aload_n 0, 1) := by decide +kernel
theorem dF_same_1 : decode cF_same 1 = .ok (.iload_n 1, 1) := by decide +kernel
theorem dF_same_2 : decode cF_same 2 = .ok (.invokevirtual 55, 3) := by decide +kernel
theorem dF_same_5 : decode cF_same 5 = .ok (.astore_n 3, 1) := by decide +kernel
theorem dF_same_6 : decode cF_same 6 = .ok (.aload_n 0, 1) := by decide +kernel
theorem dF_same_7 : decode cF_same 7 = .ok (.iload_n 2, 1) := by decide +kernel
theorem dF_same_8 : decode cF_same 8 = .ok (.invokevirtual 55, 3) := by decide +kernel
theorem dF_same_11 : decode cF_same 11 = .ok (.astore 4, 2) := by decide +kernel
theorem dF_same_13 : decode cF_same 13 = .ok (.aload_n 3, 1) := by decide +kernel
theorem dF_same_14 : decode cF_same 14 = .ok (.invokestatic 76, 3) := by decide +kernel
theorem dF_same_17 : decode cF_same 17 = .ok (.aload 4, 2) := by decide +kernel
theorem dF_same_19 : decode cF_same 19 = .ok (.invokestatic 76, 3) := by decide +kernel
theorem dF_same_22 : decode cF_same 22 = .ok (.aload_n 3, 1) := by decide +kernel
theorem dF_same_23 : decode cF_same 23 = .ok (.getfield 86, 3) := by decide +kernel
theorem dF_same_26 : decode cF_same 26 = .ok (.aload 4, 2) := by decide +kernel
theorem dF_same_28 : decode cF_same 28 = .ok (.getfield 86, 3) := by decide +kernel
theorem dF_same_31 : decode cF_same 31 = .ok (.lcmp, 1) := by decide +kernel
theorem dF_same_32 : decode cF_same 32 = .ok (.ifCond .ne 16, 3) := by decide +kernel
theorem dF_same_35 : decode cF_same 35 = .ok (.aload_n 3, 1) := by decide +kernel
theorem dF_same_36 : decode cF_same 36 = .ok (.aload 4, 2) := by decide +kernel
theorem dF_same_38 : decode cF_same 38 = .ok (.invokestatic 135, 3) := by decide +kernel
theorem dF_same_41 : decode cF_same 41 = .ok (.ifCond .eq 7, 3) := by decide +kernel
theorem dF_same_44 : decode cF_same 44 = .ok (.iconst 1, 1) := by decide +kernel
theorem dF_same_45 : decode cF_same 45 = .ok (.goto 4, 3) := by decide +kernel
theorem dF_same_48 : decode cF_same 48 = .ok (.iconst 0, 1) := by decide +kernel
theorem dF_same_49 : decode cF_same 49 = .ok (.ireturn, 1) := by decide +kernel
def f_F_same_j49 (v : CV) (s0 : Int32) : Option Int32 := rb s0
def f_F_same_j48 (v : CV) : Option Int32 := (f_F_same_j49 v (0 : Int32))
def f_F_same (v : CV) (x1 : Int32) (x2 : Int32) : Option Int32 := (f_F_find v x1).bind fun u1 => (f_F_find v x2).bind fun u2 => (f_F_needWhole (v.2 u1)).bind fun u3 => (f_F_needWhole (v.2 u2)).bind fun u4 => (if (lg_cmp (sR (v.2 u1)) (sR (v.2 u2))) = 0 then (f_P_haveOneCore (v.2 u1) (v.2 u2)).bind fun u6 => (if u6 = 0 then (f_F_same_j48 v) else (f_F_same_j49 v (1 : Int32))) else (f_F_same_j48 v))
set_option maxHeartbeats 4000000 in
set_option maxRecDepth 100000 in
theorem k_F_same (l : Launch) (dC : Nat → ClassId) (dI : Nat → Nat → Nat) (cL cI cO : ClassId) (x0 xa : Nat) (ad : Nat → Nat → Nat) (v : CV) (x1 : Int32) (x2 : Int32) (r : Int32) (h : f_F_same v x1 x2 = some r) : Met l yF_same wsF_same ({ frames := 7, cells := 0, slots := 0, locals := 205 }) (rd_Pc [.ref x0, .int x1, .int x2] (fun H => SFH (dC, dI) cL cI cO x0 xa ad v H) (dC, dI) cls3 (ty3 cL cI cO)) (vp_Si (fun z => z = r)) 0 0 (fun _ => False) := by
  refine Met.ofW (cc := cF_same) (maxL := 5) (ret := (some .boolean)) (by decide) rfl ?_
  intro p e s m args below meth c s₁ B hml hv
  obtain ⟨rfl, hPx, hK⟩ := hv
  have hx := B.exec
  have hb := B.bytes
  have hr := B.returns
  have hw : ∀ w ∈ wG, w.before ([.ref x0, .int x1, .int x2] : List Value).toArray s = true := fun w hq => atoms_spec (ws := wsF_same) B.pre w (List.mem_cons_of_mem _ hq)
  have hown : s.vm.findClass R_F = some m.cls := findClass_of_methodNamed B.named
  have hlocks := B.notSynchronized
  have hK2 := hK.sub (tys' := [(cL, .long), (cI, .int)]) [0, 1] rfl
  have hl := lv_entry ([.ref x0, .int x1, .int x2] : List Value) (n := 5) (Nat.le_of_ble_eq_true rfl)
  rw [lg_entry_eq]
  generalize (lg_sl ([.ref x0, .int x1, .int x2] : List Value) ++ List.replicate (5 - (lg_sl ([.ref x0, .int x1, .int x2] : List Value)).length) Slot.unset).toArray = ls at hl ⊢
  have hl : lv_has ls 5 [(0, .ref x0), (1, .int x1), (2, .int x2)] := hl
  have k49 : ∀ (s0 : Int32), f_F_same_j49 v s0 = some r →  ∀ (ls : Array Slot), lv_has ls 5 [] → W p l e (headSpec wsF_same ({ frames := 7, cells := 0, slots := 0, locals := 205 })).room s m ([.ref x0, .int x1, .int x2] : List Value).toArray below meth c s.heap [] 0 0 (MQ below (vp_Si (fun z => z = r)) ([.ref x0, .int x1, .int x2] : List Value).toArray s 0 0 (fun _ => False)) (F0 m 49 ls [.int s0]) := by
    intro s0 h  ls hl
    unfold f_F_same_j49 at h
    obtain ⟨hz, hr9⟩ := rb_of h
    exact W.zret hx hb hr hz (fun t ht hW => ⟨_, rfl, hr9, ht⟩) nil_locs dF_same_49
  have k48 : f_F_same_j48 v = some r →  ∀ (ls : Array Slot), lv_has ls 5 [] → W p l e (headSpec wsF_same ({ frames := 7, cells := 0, slots := 0, locals := 205 })).room s m ([.ref x0, .int x1, .int x2] : List Value).toArray below meth c s.heap [] 0 0 (MQ below (vp_Si (fun z => z = r)) ([.ref x0, .int x1, .int x2] : List Value).toArray s 0 0 (fun _ => False)) (F0 m 48 ls []) := by
    intro  h  ls hl
    unfold f_F_same_j48 at h
    refine lv_iconst (v := 0) hx hb dF_same_48 (by decide) ?_
    exact k49 (0 : Int32) h ls (lv_sub hl [] rfl)
  unfold f_F_same at h
  refine lv_aload_n hx hb dF_same_0 rfl (lv_at hl 0 rfl) ?_
  refine lv_iload_n hx hb dF_same_1 rfl (lv_at hl 1 rfl) ?_
  obtain ⟨u1, hu1, h⟩ := ob_some h
  refine va_csr (va_Run.run (va_runV (As := [.int x1]) (rest := []) ⟨hx, hb, hml, hown, hw⟩ (k_F_find l dC dI cL cI cO x0 xa ad v x1 u1 hu1) (cwV 1 hw (gV w_204 w_206 wp_2 w_1 w_207) rfl rfl rfl (by decide +kernel) ⟨Nat.le_of_ble_eq_true rfl, Nat.le_of_ble_eq_true rfl⟩) ⟨rd_blind, va_recv hK hPx.1 (ci := 1) (q0 := 0) rfl rfl, rd_pre hPx hK⟩ rfl rfl hl.1 rfl (lv_room (Nat.le_of_ble_eq_true rfl)) dF_same_2 ⟨Nat.le_of_ble_eq_true rfl, Nat.le_of_ble_eq_true rfl⟩)) (fun z hz => ?_)
  rw [hz]; clear hz
  have hltu1 := (find_lt hPx.2.2 hu1).1
  refine lv_astore_n (lv' := [(3, .ref (ad u1 0)), (0, .ref x0), (1, .int x1), (2, .int x2)]) hx hb dF_same_5 rfl hl (by decide) rfl (fun ls hl => ?_)
  refine lv_aload_n hx hb dF_same_6 rfl (lv_at hl 1 rfl) ?_
  refine lv_iload_n hx hb dF_same_7 rfl (lv_at hl 3 rfl) ?_
  obtain ⟨u2, hu2, h⟩ := ob_some h
  refine va_csr (va_Run.run (va_runV (As := [.int x2]) (rest := []) ⟨hx, hb, hml, hown, hw⟩ (k_F_find l dC dI cL cI cO x0 xa ad v x2 u2 hu2) (cwV 1 hw (gV w_204 w_206 wp_2 w_1 w_207) rfl rfl rfl (by decide +kernel) ⟨Nat.le_of_ble_eq_true rfl, Nat.le_of_ble_eq_true rfl⟩) ⟨rd_blind, va_recv hK hPx.1 (ci := 1) (q0 := 0) rfl rfl, rd_pre hPx hK⟩ rfl rfl hl.1 rfl (lv_room (Nat.le_of_ble_eq_true rfl)) dF_same_8 ⟨Nat.le_of_ble_eq_true rfl, Nat.le_of_ble_eq_true rfl⟩)) (fun z hz => ?_)
  rw [hz]; clear hz
  have hltu2 := (find_lt hPx.2.2 hu2).1
  refine lv_astore (lv' := [(4, .ref (ad u2 0)), (3, .ref (ad u1 0)), (0, .ref x0), (1, .int x1), (2, .int x2)]) hx hb dF_same_11 hl (by decide) rfl (fun ls hl => ?_)
  refine lv_aload_n hx hb dF_same_13 rfl (lv_at hl 1 rfl) ?_
  obtain ⟨u3, hu3, h⟩ := ob_some h
  refine va_csv (va_Run.run (va_runS (As := [.ref (ad u1 0)]) (rest := []) ⟨hx, hb, hml, hown, hw⟩ (k_F_needWhole l dC dI cL cI (ad u1 0) (ad u1 1) (ad u1 2) (ad u1 3) (v.2 u1) u3 hu3) (va_cwS 1 hw (gS w_295 w_296 w_1 w_297) rfl rfl rfl (by decide +kernel) ⟨Nat.le_of_ble_eq_true rfl, Nat.le_of_ble_eq_true rfl⟩) ⟨rd_blind, rd_pre (hPx.2.1 u1 hltu1) hK2⟩ rfl rfl hl.1 rfl (lv_room (Nat.le_of_ble_eq_true rfl)) dF_same_14 ⟨Nat.le_of_ble_eq_true rfl, Nat.le_of_ble_eq_true rfl⟩)) (fun _ => ?_)
  refine lv_aload hx hb dF_same_17 (lv_at hl 0 rfl) ?_
  obtain ⟨u4, hu4, h⟩ := ob_some h
  refine va_csv (va_Run.run (va_runS (As := [.ref (ad u2 0)]) (rest := []) ⟨hx, hb, hml, hown, hw⟩ (k_F_needWhole l dC dI cL cI (ad u2 0) (ad u2 1) (ad u2 2) (ad u2 3) (v.2 u2) u4 hu4) (va_cwS 1 hw (gS w_295 w_296 w_1 w_297) rfl rfl rfl (by decide +kernel) ⟨Nat.le_of_ble_eq_true rfl, Nat.le_of_ble_eq_true rfl⟩) ⟨rd_blind, rd_pre (hPx.2.1 u2 hltu2) hK2⟩ rfl rfl hl.1 rfl (lv_room (Nat.le_of_ble_eq_true rfl)) dF_same_19 ⟨Nat.le_of_ble_eq_true rfl, Nat.le_of_ble_eq_true rfl⟩)) (fun _ => ?_)
  refine lv_aload_n hx hb dF_same_22 rfl (lv_at hl 1 rfl) ?_
  refine va_get (D := (dC, dI)) (ci := 0) (v := .long (sR (v.2 u1))) (C := R_S) (T := T_S) (N := 8) hx hb hw in_S hown hK (hPx.2.1 u1 hltu1) 0 rfl rfl 2 (by decide) (hw _ w_45) (fun _ h9 => h9) rfl dF_same_23 ?_
  refine lv_aload hx hb dF_same_26 (lv_at hl 0 rfl) ?_
  refine va_get (D := (dC, dI)) (ci := 0) (v := .long (sR (v.2 u2))) (C := R_S) (T := T_S) (N := 8) hx hb hw in_S hown hK (hPx.2.1 u2 hltu2) 0 rfl rfl 2 (by decide) (hw _ w_45) (fun _ h9 => h9) rfl dF_same_28 ?_
  refine W.lcmp hx hb dF_same_31 ?_
  refine lv_if_ne (tgt := 48) hx hb dF_same_32 (by decide) (fun c5 => ?_) (fun c5 => ?_)
  · have h := it_f c5 h
    exact k48 h ls (lv_sub hl [] rfl)
  · have h := it_t c5 h
    refine lv_aload_n hx hb dF_same_35 rfl (lv_at hl 1 rfl) ?_
    refine lv_aload hx hb dF_same_36 (lv_at hl 0 rfl) ?_
    obtain ⟨u6, hu6, h⟩ := ob_some h
    refine vp_callSi (va_Run.run (va_runS (As := [.ref (ad u1 0), .ref (ad u2 0)]) (rest := []) ⟨hx, hb, hml, hown, hw⟩ (k_P_haveOneCore l dC dI cL cI (ad u1 0) (ad u1 1) (ad u1 2) (ad u1 3) (v.2 u1) (ad u2 0) (ad u2 1) (ad u2 2) (ad u2 3) (v.2 u2) u6 hu6) (va_cwS 2 hw (gS w_424 w_425 w_10 w_426) rfl rfl rfl (by decide +kernel) ⟨Nat.le_of_ble_eq_true rfl, Nat.le_of_ble_eq_true rfl⟩) ⟨rd_blind, rd_pre ⟨(hPx.2.1 u1 hltu1), (hPx.2.1 u2 hltu2)⟩ hK2⟩ rfl rfl hl.1 rfl (lv_room (Nat.le_of_ble_eq_true rfl)) dF_same_38 ⟨Nat.le_of_ble_eq_true rfl, Nat.le_of_ble_eq_true rfl⟩)) (fun z hz => ?_)
    rw [hz]; clear hz
    refine lv_if_eq (tgt := 48) hx hb dF_same_41 (by decide) (fun c7 => ?_) (fun c7 => ?_)
    · have h := it_t c7 h
      exact k48 h ls (lv_sub hl [] rfl)
    · have h := it_f c7 h
      refine lv_iconst (v := 1) hx hb dF_same_44 (by decide) ?_
      refine lv_goto (tgt := 49) hx hb dF_same_45 (by decide) ?_
      exact k49 (1 : Int32) h ls (lv_sub hl [] rfl)
def g_F_same (v : CV) (x1 : Int32) (x2 : Int32) : Option String := xthen (g_F_find v x1) <| (f_F_find v x1).bind fun u1 => xthen (g_F_find v x2) <| (f_F_find v x2).bind fun u2 => xthen (g_F_needWhole (v.2 u1)) <| (f_F_needWhole (v.2 u1)).bind fun u3 => xthen (g_F_needWhole (v.2 u2)) <| (f_F_needWhole (v.2 u2)).bind fun u4 => none
set_option maxHeartbeats 4000000 in
set_option maxRecDepth 100000 in
theorem kt_F_same (l : Launch) (hl0 : l.stackTraces = false) (N0 : Nat) (dC : Nat → ClassId) (dI : Nat → Nat → Nat) (cL cI cO : ClassId) (x0 xa : Nat) (ad : Nat → Nat → Nat) (v : CV) (x1 : Int32) (x2 : Int32) (E : String) (h : g_F_same v x1 x2 = some E) : vx_Met l yF_same wsF_same ({ frames := 7, cells := 1, slots := 6, locals := 205 }) (ev_Pc N0 [.ref x0, .int x1, .int x2] (fun H => SFH (dC, dI) cL cI cO x0 xa ad v H) (dC, dI) cls3 (ty3 cL cI cO)) NoQ (XE E) 1 6 (fun _ => False) := by
  refine vx_ofW (cc := cF_same) (maxL := 5) (ret := (some .boolean)) (by decide) rfl ?_
  intro p e s m args below meth c s₁ B hml htab hv
  obtain ⟨rfl, hPx, hK, hev⟩ := hv
  have hx := B.exec
  have hb := B.bytes
  have hr := B.returns
  have hw : ∀ w ∈ wG, w.before ([.ref x0, .int x1, .int x2] : List Value).toArray s = true := fun w hq => atoms_spec (ws := wsF_same) B.pre w (List.mem_cons_of_mem _ hq)
  have hown : s.vm.findClass R_F = some m.cls := findClass_of_methodNamed B.named
  have hlocks := B.notSynchronized
  have hK2 := hK.sub (tys' := [(cL, .long), (cI, .int)]) [0, 1] rfl
  have hl := lv_entry ([.ref x0, .int x1, .int x2] : List Value) (n := 5) (Nat.le_of_ble_eq_true rfl)
  rw [lg_entry_eq]
  generalize (lg_sl ([.ref x0, .int x1, .int x2] : List Value) ++ List.replicate (5 - (lg_sl ([.ref x0, .int x1, .int x2] : List Value)).length) Slot.unset).toArray = ls at hl ⊢
  have hl : lv_has ls 5 [(0, .ref x0), (1, .int x1), (2, .int x2)] := hl
  unfold g_F_same at h
  refine lv_aload_n hx hb dF_same_0 rfl (lv_at hl 0 rfl) ?_
  refine lv_iload_n hx hb dF_same_1 rfl (lv_at hl 1 rfl) ?_
  rcases xt h with hE | ⟨hN, h⟩
  · exact thr_pass (vx_runV (As := [.int x1]) (rest := []) ⟨hx, hb, hml, hown, hw⟩ (kt_F_find l hl0 N0 dC dI cL cI cO x0 xa ad v x1 E hE) (cwV 1 hw (gV w_204 w_206 wp_2 w_1 w_207) rfl rfl rfl (by decide +kernel) ⟨Nat.le_of_ble_eq_true rfl, Nat.le_of_ble_eq_true rfl⟩) ⟨ev_blind, va_recv hK hPx.1 (ci := 1) (q0 := 0) rfl rfl, ev_pre hPx hK hev⟩ rfl rfl hl.1 rfl (lv_room (Nat.le_of_ble_eq_true rfl)) dF_same_2 ⟨Nat.le_of_ble_eq_true rfl, Nat.le_of_ble_eq_true rfl⟩) htab hlocks
  obtain ⟨u1, hu1, h⟩ := ob_some h
  refine va_csr (va_Run.run (va_runV (As := [.int x1]) (rest := []) ⟨hx, hb, hml, hown, hw⟩ (k_F_find l dC dI cL cI cO x0 xa ad v x1 u1 hu1) (cwV 1 hw (gV w_204 w_206 wp_2 w_1 w_207) rfl rfl rfl (by decide +kernel) ⟨Nat.le_of_ble_eq_true rfl, Nat.le_of_ble_eq_true rfl⟩) ⟨rd_blind, va_recv hK hPx.1 (ci := 1) (q0 := 0) rfl rfl, rd_pre hPx hK⟩ rfl rfl hl.1 rfl (lv_room (Nat.le_of_ble_eq_true rfl)) dF_same_2 ⟨Nat.le_of_ble_eq_true rfl, Nat.le_of_ble_eq_true rfl⟩)) (fun z hz => ?_)
  rw [hz]; clear hz
  have hltu1 := (find_lt hPx.2.2 hu1).1
  refine lv_astore_n (lv' := [(3, .ref (ad u1 0)), (0, .ref x0), (1, .int x1), (2, .int x2)]) hx hb dF_same_5 rfl hl (by decide) rfl (fun ls hl => ?_)
  refine lv_aload_n hx hb dF_same_6 rfl (lv_at hl 1 rfl) ?_
  refine lv_iload_n hx hb dF_same_7 rfl (lv_at hl 3 rfl) ?_
  rcases xt h with hE | ⟨hN, h⟩
  · exact thr_pass (vx_runV (As := [.int x2]) (rest := []) ⟨hx, hb, hml, hown, hw⟩ (kt_F_find l hl0 N0 dC dI cL cI cO x0 xa ad v x2 E hE) (cwV 1 hw (gV w_204 w_206 wp_2 w_1 w_207) rfl rfl rfl (by decide +kernel) ⟨Nat.le_of_ble_eq_true rfl, Nat.le_of_ble_eq_true rfl⟩) ⟨ev_blind, va_recv hK hPx.1 (ci := 1) (q0 := 0) rfl rfl, ev_pre hPx hK hev⟩ rfl rfl hl.1 rfl (lv_room (Nat.le_of_ble_eq_true rfl)) dF_same_8 ⟨Nat.le_of_ble_eq_true rfl, Nat.le_of_ble_eq_true rfl⟩) htab hlocks
  obtain ⟨u2, hu2, h⟩ := ob_some h
  refine va_csr (va_Run.run (va_runV (As := [.int x2]) (rest := []) ⟨hx, hb, hml, hown, hw⟩ (k_F_find l dC dI cL cI cO x0 xa ad v x2 u2 hu2) (cwV 1 hw (gV w_204 w_206 wp_2 w_1 w_207) rfl rfl rfl (by decide +kernel) ⟨Nat.le_of_ble_eq_true rfl, Nat.le_of_ble_eq_true rfl⟩) ⟨rd_blind, va_recv hK hPx.1 (ci := 1) (q0 := 0) rfl rfl, rd_pre hPx hK⟩ rfl rfl hl.1 rfl (lv_room (Nat.le_of_ble_eq_true rfl)) dF_same_8 ⟨Nat.le_of_ble_eq_true rfl, Nat.le_of_ble_eq_true rfl⟩)) (fun z hz => ?_)
  rw [hz]; clear hz
  have hltu2 := (find_lt hPx.2.2 hu2).1
  refine lv_astore (lv' := [(4, .ref (ad u2 0)), (3, .ref (ad u1 0)), (0, .ref x0), (1, .int x1), (2, .int x2)]) hx hb dF_same_11 hl (by decide) rfl (fun ls hl => ?_)
  refine lv_aload_n hx hb dF_same_13 rfl (lv_at hl 1 rfl) ?_
  rcases xt h with hE | ⟨hN, h⟩
  · exact thr_pass (vx_runS (As := [.ref (ad u1 0)]) (rest := []) ⟨hx, hb, hml, hown, hw⟩ (kt_F_needWhole l hl0 N0 dC dI cL cI (ad u1 0) (ad u1 1) (ad u1 2) (ad u1 3) (v.2 u1) E hE) (va_cwS 1 hw (gS w_295 w_296 w_1 w_297) rfl rfl rfl (by decide +kernel) ⟨Nat.le_of_ble_eq_true rfl, Nat.le_of_ble_eq_true rfl⟩) ⟨ev_blind, ev_pre (hPx.2.1 u1 hltu1) hK2 hev⟩ rfl rfl hl.1 rfl (lv_room (Nat.le_of_ble_eq_true rfl)) dF_same_14 ⟨Nat.le_of_ble_eq_true rfl, Nat.le_of_ble_eq_true rfl⟩) htab hlocks
  obtain ⟨u3, hu3, h⟩ := ob_some h
  refine va_csv (va_Run.run (va_runS (As := [.ref (ad u1 0)]) (rest := []) ⟨hx, hb, hml, hown, hw⟩ (k_F_needWhole l dC dI cL cI (ad u1 0) (ad u1 1) (ad u1 2) (ad u1 3) (v.2 u1) u3 hu3) (va_cwS 1 hw (gS w_295 w_296 w_1 w_297) rfl rfl rfl (by decide +kernel) ⟨Nat.le_of_ble_eq_true rfl, Nat.le_of_ble_eq_true rfl⟩) ⟨rd_blind, rd_pre (hPx.2.1 u1 hltu1) hK2⟩ rfl rfl hl.1 rfl (lv_room (Nat.le_of_ble_eq_true rfl)) dF_same_14 ⟨Nat.le_of_ble_eq_true rfl, Nat.le_of_ble_eq_true rfl⟩)) (fun _ => ?_)
  refine lv_aload hx hb dF_same_17 (lv_at hl 0 rfl) ?_
  rcases xt h with hE | ⟨hN, h⟩
  · exact thr_pass (vx_runS (As := [.ref (ad u2 0)]) (rest := []) ⟨hx, hb, hml, hown, hw⟩ (kt_F_needWhole l hl0 N0 dC dI cL cI (ad u2 0) (ad u2 1) (ad u2 2) (ad u2 3) (v.2 u2) E hE) (va_cwS 1 hw (gS w_295 w_296 w_1 w_297) rfl rfl rfl (by decide +kernel) ⟨Nat.le_of_ble_eq_true rfl, Nat.le_of_ble_eq_true rfl⟩) ⟨ev_blind, ev_pre (hPx.2.1 u2 hltu2) hK2 hev⟩ rfl rfl hl.1 rfl (lv_room (Nat.le_of_ble_eq_true rfl)) dF_same_19 ⟨Nat.le_of_ble_eq_true rfl, Nat.le_of_ble_eq_true rfl⟩) htab hlocks
  obtain ⟨u4, hu4, h⟩ := ob_some h
  refine va_csv (va_Run.run (va_runS (As := [.ref (ad u2 0)]) (rest := []) ⟨hx, hb, hml, hown, hw⟩ (k_F_needWhole l dC dI cL cI (ad u2 0) (ad u2 1) (ad u2 2) (ad u2 3) (v.2 u2) u4 hu4) (va_cwS 1 hw (gS w_295 w_296 w_1 w_297) rfl rfl rfl (by decide +kernel) ⟨Nat.le_of_ble_eq_true rfl, Nat.le_of_ble_eq_true rfl⟩) ⟨rd_blind, rd_pre (hPx.2.1 u2 hltu2) hK2⟩ rfl rfl hl.1 rfl (lv_room (Nat.le_of_ble_eq_true rfl)) dF_same_19 ⟨Nat.le_of_ble_eq_true rfl, Nat.le_of_ble_eq_true rfl⟩)) (fun _ => ?_)
  cases h
