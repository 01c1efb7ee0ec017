/-! the reference: reading methods, laid by program -/
theorem dM_isPlace_0 : decode cM_isPlace 0 = .ok (.lload_n 0, 1) := by decide +kernel
theorem dM_isPlace_1 : decode cM_isPlace 1 = .ok (.ldc2_w 54, 3) := by decide +kernel
theorem dM_isPlace_4 : decode cM_isPlace 4 = .ok (.lcmp, 1) := by decide +kernel
theorem dM_isPlace_5 : decode cM_isPlace 5 = .ok (.ifCond .lt 31, 3) := by decide +kernel
theorem dM_isPlace_8 : decode cM_isPlace 8 = .ok (.lload_n 0, 1) := by decide +kernel
theorem dM_isPlace_9 : decode cM_isPlace 9 = .ok (.ldc2_w 56, 3) := by decide +kernel
theorem dM_isPlace_12 : decode cM_isPlace 12 = .ok (.lcmp, 1) := by decide +kernel
theorem dM_isPlace_13 : decode cM_isPlace 13 = .ok (.ifCond .gt 23, 3) := by decide +kernel
theorem dM_isPlace_16 : decode cM_isPlace 16 = .ok (.lload_n 2, 1) := by decide +kernel
theorem dM_isPlace_17 : decode cM_isPlace 17 = .ok (.ldc2_w 54, 3) := by decide +kernel
theorem dM_isPlace_20 : decode cM_isPlace 20 = .ok (.lcmp, 1) := by decide +kernel
theorem dM_isPlace_21 : decode cM_isPlace 21 = .ok (.ifCond .lt 15, 3) := by decide +kernel
theorem dM_isPlace_24 : decode cM_isPlace 24 = .ok (.lload_n 2, 1) := by decide +kernel
theorem dM_isPlace_25 : decode cM_isPlace 25 = .ok (.ldc2_w 56, 3) := by decide +kernel
theorem dM_isPlace_28 : decode cM_isPlace 28 = .ok (.lcmp, 1) := by decide +kernel
theorem dM_isPlace_29 : decode cM_isPlace 29 = .ok (.ifCond .gt 7, 3) := by decide +kernel
theorem dM_isPlace_32 : decode cM_isPlace 32 = .ok (.iconst 1, 1) := by decide +kernel
theorem dM_isPlace_33 : decode cM_isPlace 33 = .ok (.goto 4, 3) := by decide +kernel
theorem dM_isPlace_36 : decode cM_isPlace 36 = .ok (.iconst 0, 1) := by decide +kernel
theorem dM_isPlace_37 : decode cM_isPlace 37 = .ok (.ireturn, 1) := by decide +kernel
def f_M_isPlace_j37 (s0 : Int32) : Option Int32 := rb s0
def f_M_isPlace_j36 : Option Int32 := (f_M_isPlace_j37 (0 : Int32))
def f_M_isPlace (x0 : Int64) (x2 : Int64) : Option Int32 := (if (lg_cmp x0 (-500000000 : Int64)) < 0 then f_M_isPlace_j36 else (if 0 < (lg_cmp x0 (500000000 : Int64)) then f_M_isPlace_j36 else (if (lg_cmp x2 (-500000000 : Int64)) < 0 then f_M_isPlace_j36 else (if 0 < (lg_cmp x2 (500000000 : Int64)) then f_M_isPlace_j36 else (f_M_isPlace_j37 (1 : Int32))))))
set_option maxHeartbeats 4000000 in
set_option maxRecDepth 100000 in
theorem k_M_isPlace (l : Launch) (dC : Nat → ClassId) (dI : Nat → Nat → Nat) (cL cI : ClassId) (x0 : Int64) (x2 : Int64) (r : Int32) (h : f_M_isPlace x0 x2 = some r) : Met l yM_isPlace wsM_isPlace ({ frames := 0, cells := 0, slots := 0, locals := 0 }) (rd_Pc [.long x0, .long x2] (fun _ => True) (dC, dI) cls3 [(cL, .long), (cI, .int)]) (vp_Si (fun z => z = r)) 0 0 (fun _ => False) := by
  refine Met.ofW (cc := cM_isPlace) (maxL := 4) (ret := (some .boolean)) (by decide) rfl ?_
  intro p e s m args below meth c s₁ B hml hv
  obtain ⟨rfl, hF, hK⟩ := hv
  have hx := B.exec
  have hb := B.bytes
  have hr := B.returns
  have hw : ∀ w ∈ wG, w.before ([.long x0, .long x2] : List Value).toArray s = true := fun w hq => atoms_spec (ws := wsM_isPlace) B.pre w (List.mem_cons_of_mem _ hq)
  have hown : s.vm.findClass R_M = some m.cls := findClass_of_methodNamed B.named
  have hlocks := B.notSynchronized
  have hl := lv_entry ([.long x0, .long x2] : List Value) (n := 4) (Nat.le_of_ble_eq_true rfl)
  rw [lg_entry_eq]
  generalize (lg_sl ([.long x0, .long x2] : List Value) ++ List.replicate (4 - (lg_sl ([.long x0, .long x2] : List Value)).length) Slot.unset).toArray = ls at hl ⊢
  have hl : lv_has ls 4 [(0, .long x0), (2, .long x2)] := hl
  have k37 : ∀ (s0 : Int32), f_M_isPlace_j37 s0 = some r →  ∀ (ls : Array Slot), lv_has ls 4 [] → W p l e (headSpec wsM_isPlace ({ frames := 0, cells := 0, slots := 0, locals := 0 })).room s m ([.long x0, .long x2] : List Value).toArray below meth c s.heap [] 0 0 (MQ below (vp_Si (fun z => z = r)) ([.long x0, .long x2] : List Value).toArray s 0 0 (fun _ => False)) (F0 m 37 ls [.int s0]) := by
    intro s0 h  ls hl
    unfold f_M_isPlace_j37 at h
    obtain ⟨hz, hr9⟩ := rb_of h
    exact W.zret hx hb hr hz (fun t ht hW => ⟨_, rfl, hr9, ht⟩) nil_locs dM_isPlace_37
  have k36 : f_M_isPlace_j36 = some r →  ∀ (ls : Array Slot), lv_has ls 4 [] → W p l e (headSpec wsM_isPlace ({ frames := 0, cells := 0, slots := 0, locals := 0 })).room s m ([.long x0, .long x2] : List Value).toArray below meth c s.heap [] 0 0 (MQ below (vp_Si (fun z => z = r)) ([.long x0, .long x2] : List Value).toArray s 0 0 (fun _ => False)) (F0 m 36 ls []) := by
    intro  h  ls hl
    unfold f_M_isPlace_j36 at h
    refine lv_iconst (v := 0) hx hb dM_isPlace_36 (by decide) ?_
    exact k37 (0 : Int32) h ls (lv_sub hl [] rfl)
  unfold f_M_isPlace at h
  refine lv_lload_n hx hb dM_isPlace_0 rfl (lv_at hl 0 rfl) ?_
  refine lv_ldc2 (v := (-500000000)) hx hb hown (hw _ w_502) dM_isPlace_1 ?_
  refine W.lcmp hx hb dM_isPlace_4 ?_
  refine lv_if_lt (tgt := 36) hx hb dM_isPlace_5 (by decide) (fun c1 => ?_) (fun c1 => ?_)
  · have h := it_t c1 h
    exact k36 h ls (lv_sub hl [] rfl)
  · have h := it_f c1 h
    refine lv_lload_n hx hb dM_isPlace_8 rfl (lv_at hl 0 rfl) ?_
    refine lv_ldc2 (v := 500000000) hx hb hown (hw _ w_503) dM_isPlace_9 ?_
    refine W.lcmp hx hb dM_isPlace_12 ?_
    refine lv_if_gt (tgt := 36) hx hb dM_isPlace_13 (by decide) (fun c2 => ?_) (fun c2 => ?_)
    · have h := it_t c2 h
      exact k36 h ls (lv_sub hl [] rfl)
    · have h := it_f c2 h
      refine lv_lload_n hx hb dM_isPlace_16 rfl (lv_at hl 1 rfl) ?_
      refine lv_ldc2 (v := (-500000000)) hx hb hown (hw _ w_502) dM_isPlace_17 ?_
      refine W.lcmp hx hb dM_isPlace_20 ?_
      refine lv_if_lt (tgt := 36) hx hb dM_isPlace_21 (by decide) (fun c3 => ?_) (fun c3 => ?_)
      · have h := it_t c3 h
        exact k36 h ls (lv_sub hl [] rfl)
      · have h := it_f c3 h
        refine lv_lload_n hx hb dM_isPlace_24 rfl (lv_at hl 1 rfl) ?_
        refine lv_ldc2 (v := 500000000) hx hb hown (hw _ w_503) dM_isPlace_25 ?_
        refine W.lcmp hx hb dM_isPlace_28 ?_
        refine lv_if_gt (tgt := 36) hx hb dM_isPlace_29 (by decide) (fun c4 => ?_) (fun c4 => ?_)
        · have h := it_t c4 h
          exact k36 h ls (lv_sub hl [] rfl)
        · have h := it_f c4 h
          refine lv_iconst (v := 1) hx hb dM_isPlace_32 (by decide) ?_
          refine lv_goto (tgt := 37) hx hb dM_isPlace_33 (by decide) ?_
          exact k37 (1 : Int32) h ls (lv_sub hl [] rfl)
theorem dM_isRadius_0 : decode cM_isRadius 0 = .ok (.lload_n 0, 1) := by decide +kernel
theorem dM_isRadius_1 : decode cM_isRadius 1 = .ok (.lconst 0, 1) := by decide +kernel
theorem dM_isRadius_2 : decode cM_isRadius 2 = .ok (.lcmp, 1) := by decide +kernel
theorem dM_isRadius_3 : decode cM_isRadius 3 = .ok (.ifCond .lt 15, 3) := by decide +kernel
theorem dM_isRadius_6 : decode cM_isRadius 6 = .ok (.lload_n 0, 1) := by decide +kernel
theorem dM_isRadius_7 : decode cM_isRadius 7 = .ok (.ldc2_w 58, 3) := by decide +kernel
theorem dM_isRadius_10 : decode cM_isRadius 10 = .ok (.lcmp, 1) := by decide +kernel
theorem dM_isRadius_11 : decode cM_isRadius 11 = .ok (.ifCond .gt 7, 3) := by decide +kernel
theorem dM_isRadius_14 : decode cM_isRadius 14 = .ok (.iconst 1, 1) := by decide +kernel
theorem dM_isRadius_15 : decode cM_isRadius 15 = .ok (.goto 4, 3) := by decide +kernel
theorem dM_isRadius_18 : decode cM_isRadius 18 = .ok (.iconst 0, 1) := by decide +kernel
theorem dM_isRadius_19 : decode cM_isRadius 19 = .ok (.ireturn, 1) := by decide +kernel
def f_M_isRadius_j19 (s0 : Int32) : Option Int32 := rb s0
def f_M_isRadius_j18 : Option Int32 := (f_M_isRadius_j19 (0 : Int32))
def f_M_isRadius (x0 : Int64) : Option Int32 := (if (lg_cmp x0 (0 : Int64)) < 0 then f_M_isRadius_j18 else (if 0 < (lg_cmp x0 (1000000000 : Int64)) then f_M_isRadius_j18 else (f_M_isRadius_j19 (1 : Int32))))
set_option maxHeartbeats 4000000 in
set_option maxRecDepth 100000 in
theorem k_M_isRadius (l : Launch) (dC : Nat → ClassId) (dI : Nat → Nat → Nat) (cL cI : ClassId) (x0 : Int64) (r : Int32) (h : f_M_isRadius x0 = some r) : Met l yM_isRadius wsM_isRadius ({ frames := 0, cells := 0, slots := 0, locals := 0 }) (rd_Pc [.long x0] (fun _ => True) (dC, dI) cls3 [(cL, .long), (cI, .int)]) (vp_Si (fun z => z = r)) 0 0 (fun _ => False) := by
  refine Met.ofW (cc := cM_isRadius) (maxL := 2) (ret := (some .boolean)) (by decide) rfl ?_
  intro p e s m args below meth c s₁ B hml hv
  obtain ⟨rfl, hF, hK⟩ := hv
  have hx := B.exec
  have hb := B.bytes
  have hr := B.returns
  have hw : ∀ w ∈ wG, w.before ([.long x0] : List Value).toArray s = true := fun w hq => atoms_spec (ws := wsM_isRadius) B.pre w (List.mem_cons_of_mem _ hq)
  have hown : s.vm.findClass R_M = some m.cls := findClass_of_methodNamed B.named
  have hlocks := B.notSynchronized
  have hl := lv_entry ([.long x0] : List Value) (n := 2) (Nat.le_of_ble_eq_true rfl)
  rw [lg_entry_eq]
  generalize (lg_sl ([.long x0] : List Value) ++ List.replicate (2 - (lg_sl ([.long x0] : List Value)).length) Slot.unset).toArray = ls at hl ⊢
  have hl : lv_has ls 2 [(0, .long x0)] := hl
  have k19 : ∀ (s0 : Int32), f_M_isRadius_j19 s0 = some r →  ∀ (ls : Array Slot), lv_has ls 2 [] → W p l e (headSpec wsM_isRadius ({ frames := 0, cells := 0, slots := 0, locals := 0 })).room s m ([.long x0] : List Value).toArray below meth c s.heap [] 0 0 (MQ below (vp_Si (fun z => z = r)) ([.long x0] : List Value).toArray s 0 0 (fun _ => False)) (F0 m 19 ls [.int s0]) := by
    intro s0 h  ls hl
    unfold f_M_isRadius_j19 at h
    obtain ⟨hz, hr9⟩ := rb_of h
    exact W.zret hx hb hr hz (fun t ht hW => ⟨_, rfl, hr9, ht⟩) nil_locs dM_isRadius_19
  have k18 : f_M_isRadius_j18 = some r →  ∀ (ls : Array Slot), lv_has ls 2 [] → W p l e (headSpec wsM_isRadius ({ frames := 0, cells := 0, slots := 0, locals := 0 })).room s m ([.long x0] : List Value).toArray below meth c s.heap [] 0 0 (MQ below (vp_Si (fun z => z = r)) ([.long x0] : List Value).toArray s 0 0 (fun _ => False)) (F0 m 18 ls []) := by
    intro  h  ls hl
    unfold f_M_isRadius_j18 at h
    refine lv_iconst (v := 0) hx hb dM_isRadius_18 (by decide) ?_
    exact k19 (0 : Int32) h ls (lv_sub hl [] rfl)
  unfold f_M_isRadius at h
  refine lv_lload_n hx hb dM_isRadius_0 rfl (lv_at hl 0 rfl) ?_
  refine lv_lconst (v := 0) hx hb dM_isRadius_1 (by decide) ?_
  refine W.lcmp hx hb dM_isRadius_2 ?_
  refine lv_if_lt (tgt := 18) hx hb dM_isRadius_3 (by decide) (fun c1 => ?_) (fun c1 => ?_)
  · have h := it_t c1 h
    exact k18 h ls (lv_sub hl [] rfl)
  · have h := it_f c1 h
    refine lv_lload_n hx hb dM_isRadius_6 rfl (lv_at hl 0 rfl) ?_
    refine lv_ldc2 (v := 1000000000) hx hb hown (hw _ w_507) dM_isRadius_7 ?_
    refine W.lcmp hx hb dM_isRadius_10 ?_
    refine lv_if_gt (tgt := 18) hx hb dM_isRadius_11 (by decide) (fun c2 => ?_) (fun c2 => ?_)
    · have h := it_t c2 h
      exact k18 h ls (lv_sub hl [] rfl)
    · have h := it_f c2 h
      refine lv_iconst (v := 1) hx hb dM_isRadius_14 (by decide) ?_
      refine lv_goto (tgt := 19) hx hb dM_isRadius_15 (by decide) ?_
      exact k19 (1 : Int32) h ls (lv_sub hl [] rfl)
theorem dM_thrown_0 : decode cM_thrown 0 = .ok (.aload_n 0, 1) := by decide +kernel
theorem dM_thrown_1 : decode cM_thrown 1 = .ok (.getfield 50, 3) := by decide +kernel
theorem dM_thrown_4 : decode cM_thrown 4 = .ok (.ireturn, 1) := by decide +kernel
def f_M_thrown (v : MV) : Option Int32 := some (md_thrown v)
set_option maxHeartbeats 4000000 in
set_option maxRecDepth 100000 in
theorem k_M_thrown (l : Launch) (dC : Nat → ClassId) (dI : Nat → Nat → Nat) (cL cI : ClassId) (qm : Nat → Nat) (v : MV) (r : Int32) (h : f_M_thrown v = some r) : Met l yM_thrown wsM_thrown ({ frames := 0, cells := 0, slots := 0, locals := 0 }) (rd_Pc [.ref (qm 0)] (fun H => va_P (dC, dI) cls3 (mdW cL cI qm v) H) (dC, dI) cls3 [(cL, .long), (cI, .int)]) (vp_Si (fun z => z = r)) 0 0 (fun _ => False) := by
  refine Met.ofW (cc := cM_thrown) (maxL := 1) (ret := (some .int)) (by decide) rfl ?_
  intro p e s m args below meth c s₁ B hml hv
  obtain ⟨rfl, hPm, hK⟩ := hv
  have hx := B.exec
  have hb := B.bytes
  have hr := B.returns
  have hw : ∀ w ∈ wG, w.before ([.ref (qm 0)] : List Value).toArray s = true := fun w hq => atoms_spec (ws := wsM_thrown) B.pre w (List.mem_cons_of_mem _ hq)
  have hown : s.vm.findClass R_M = some m.cls := findClass_of_methodNamed B.named
  have hlocks := B.notSynchronized
  have hl := lv_entry ([.ref (qm 0)] : List Value) (n := 1) (Nat.le_of_ble_eq_true rfl)
  rw [lg_entry_eq]
  generalize (lg_sl ([.ref (qm 0)] : List Value) ++ List.replicate (1 - (lg_sl ([.ref (qm 0)] : List Value)).length) Slot.unset).toArray = ls at hl ⊢
  have hl : lv_has ls 1 [(0, .ref (qm 0))] := hl
  unfold f_M_thrown at h
  refine lv_aload_n hx hb dM_thrown_0 rfl (lv_at hl 0 rfl) ?_
  refine va_get (D := (dC, dI)) (ci := 2) (v := .int (md_thrown v)) (C := R_M) (T := T_M) (N := 15) hx hb hw in_M hown hK hPm 0 rfl rfl 0 (by decide) (hw _ w_445) (fun _ h9 => h9) rfl dM_thrown_1 ?_
  exact W.iret hx hb hr (fun t ht hW => ⟨_, rfl, Option.some.inj h, ht⟩) nil_locs dM_thrown_4
theorem dM_isShape_0 : decode cM_isShape 0 = .ok (.iload_n 1, 1) := by decide +kernel
theorem dM_isShape_1 : decode cM_isShape 1 = .ok (.ifCond .lt 15, 3) := by decide +kernel
theorem dM_isShape_4 : decode cM_isShape 4 = .ok (.iload_n 1, 1) := by decide +kernel
theorem dM_isShape_5 : decode cM_isShape 5 = .ok (.aload_n 0, 1) := by decide +kernel
theorem dM_isShape_6 : decode cM_isShape 6 = .ok (.getfield 60, 3) := by decide +kernel
theorem dM_isShape_9 : decode cM_isShape 9 = .ok (.if_icmp .ge 7, 3) := by decide +kernel
theorem dM_isShape_12 : decode cM_isShape 12 = .ok (.iconst 1, 1) := by decide +kernel
theorem dM_isShape_13 : decode cM_isShape 13 = .ok (.goto 4, 3) := by decide +kernel
theorem dM_isShape_16 : decode cM_isShape 16 = .ok (.iconst 0, 1) := by decide +kernel
theorem dM_isShape_17 : decode cM_isShape 17 = .ok (.ireturn, 1) := by decide +kernel
def f_M_isShape_j17 (v : MV) (s0 : Int32) : Option Int32 := rb s0
def f_M_isShape_j16 (v : MV) : Option Int32 := (f_M_isShape_j17 v (0 : Int32))
def f_M_isShape (v : MV) (x1 : Int32) : Option Int32 := (if x1 < 0 then (f_M_isShape_j16 v) else (if (md_shapes v) ≤ x1 then (f_M_isShape_j16 v) else (f_M_isShape_j17 v (1 : Int32))))
set_option maxHeartbeats 4000000 in
set_option maxRecDepth 100000 in
theorem k_M_isShape (l : Launch) (dC : Nat → ClassId) (dI : Nat → Nat → Nat) (cL cI : ClassId) (qm : Nat → Nat) (v : MV) (x1 : Int32) (r : Int32) (h : f_M_isShape v x1 = some r) : Met l yM_isShape wsM_isShape ({ frames := 0, cells := 0, slots := 0, locals := 0 }) (rd_Pc [.ref (qm 0), .int x1] (fun H => va_P (dC, dI) cls3 (mdW cL cI qm v) H) (dC, dI) cls3 [(cL, .long), (cI, .int)]) (vp_Si (fun z => z = r)) 0 0 (fun _ => False) := by
  refine Met.ofW (cc := cM_isShape) (maxL := 2) (ret := (some .boolean)) (by decide) rfl ?_
  intro p e s m args below meth c s₁ B hml hv
  obtain ⟨rfl, hPm, hK⟩ := hv
  have hx := B.exec
  have hb := B.bytes
  have hr := B.returns
  have hw : ∀ w ∈ wG, w.before ([.ref (qm 0), .int x1] : List Value).toArray s = true := fun w hq => atoms_spec (ws := wsM_isShape) B.pre w (List.mem_cons_of_mem _ hq)
  have hown : s.vm.findClass R_M = some m.cls := findClass_of_methodNamed B.named
  have hlocks := B.notSynchronized
  have hl := lv_entry ([.ref (qm 0), .int x1] : List Value) (n := 2) (Nat.le_of_ble_eq_true rfl)
  rw [lg_entry_eq]
  generalize (lg_sl ([.ref (qm 0), .int x1] : List Value) ++ List.replicate (2 - (lg_sl ([.ref (qm 0), .int x1] : List Value)).length) Slot.unset).toArray = ls at hl ⊢
  have hl : lv_has ls 2 [(0, .ref (qm 0)), (1, .int x1)] := hl
  have k17 : ∀ (s0 : Int32), f_M_isShape_j17 v s0 = some r →  ∀ (ls : Array Slot), lv_has ls 2 [] → W p l e (headSpec wsM_isShape ({ frames := 0, cells := 0, slots := 0, locals := 0 })).room s m ([.ref (qm 0), .int x1] : List Value).toArray below meth c s.heap [] 0 0 (MQ below (vp_Si (fun z => z = r)) ([.ref (qm 0), .int x1] : List Value).toArray s 0 0 (fun _ => False)) (F0 m 17 ls [.int s0]) := by
    intro s0 h  ls hl
    unfold f_M_isShape_j17 at h
    obtain ⟨hz, hr9⟩ := rb_of h
    exact W.zret hx hb hr hz (fun t ht hW => ⟨_, rfl, hr9, ht⟩) nil_locs dM_isShape_17
  have k16 : f_M_isShape_j16 v = some r →  ∀ (ls : Array Slot), lv_has ls 2 [] → W p l e (headSpec wsM_isShape ({ frames := 0, cells := 0, slots := 0, locals := 0 })).room s m ([.ref (qm 0), .int x1] : List Value).toArray below meth c s.heap [] 0 0 (MQ below (vp_Si (fun z => z = r)) ([.ref (qm 0), .int x1] : List Value).toArray s 0 0 (fun _ => False)) (F0 m 16 ls []) := by
    intro  h  ls hl
    unfold f_M_isShape_j16 at h
    refine lv_iconst (v := 0) hx hb dM_isShape_16 (by decide) ?_
    exact k17 (0 : Int32) h ls (lv_sub hl [] rfl)
  unfold f_M_isShape at h
  refine lv_iload_n hx hb dM_isShape_0 rfl (lv_at hl 1 rfl) ?_
  refine lv_if_lt (tgt := 16) hx hb dM_isShape_1 (by decide) (fun c1 => ?_) (fun c1 => ?_)
  · have h := it_t c1 h
    exact k16 h ls (lv_sub hl [] rfl)
  · have h := it_f c1 h
    refine lv_iload_n hx hb dM_isShape_4 rfl (lv_at hl 1 rfl) ?_
    refine lv_aload_n hx hb dM_isShape_5 rfl (lv_at hl 0 rfl) ?_
    refine va_get (D := (dC, dI)) (ci := 2) (v := .int (md_shapes v)) (C := R_M) (T := T_M) (N := 15) hx hb hw in_M hown hK hPm 0 rfl rfl 1 (by decide) (hw _ w_446) (fun _ h9 => h9) rfl dM_isShape_6 ?_
    refine lv_icmp_ge (tgt := 16) hx hb dM_isShape_9 (by decide) (fun c2 => ?_) (fun c2 => ?_)
    · have h := it_t c2 h
      exact k16 h ls (lv_sub hl [] rfl)
    · have h := it_f c2 h
      refine lv_iconst (v := 1) hx hb dM_isShape_12 (by decide) ?_
      refine lv_goto (tgt := 17) hx hb dM_isShape_13 (by decide) ?_
      exact k17 (1 : Int32) h ls (lv_sub hl [] rfl)
theorem dM_closed_0 : decode cM_closed 0 = .ok (.aload_n 0, 1) := by decide +kernel
theorem dM_closed_1 : decode cM_closed 1 = .ok (.getfield 29, 3) := by decide +kernel
theorem dM_closed_4 : decode cM_closed 4 = .ok (.iload_n 1, 1) := by decide +kernel
theorem dM_closed_5 : decode cM_closed 5 = .ok (.iaload, 1) := by decide +kernel
theorem dM_closed_6 : decode cM_closed 6 = .ok (.ifCond .ne 7, 3) := by decide +kernel
theorem dM_closed_9 : decode cM_closed 9 = .ok (.iconst 0, 1) := by decide +kernel
theorem dM_closed_10 : decode cM_closed 10 = .ok (.goto 21, 3) := by decide +kernel
theorem dM_closed_13 : decode cM_closed 13 = .ok (.aload_n 0, 1) := by decide +kernel
theorem dM_closed_14 : decode cM_closed 14 = .ok (.getfield 26, 3) := by decide +kernel
theorem dM_closed_17 : decode cM_closed 17 = .ok (.bipush 16, 2) := by decide +kernel
theorem dM_closed_19 : decode cM_closed 19 = .ok (.iload_n 1, 1) := by decide +kernel
theorem dM_closed_20 : decode cM_closed 20 = .ok (.imul, 1) := by decide +kernel
theorem dM_closed_21 : decode cM_closed 21 = .ok (.aload_n 0, 1) := by decide +kernel
theorem dM_closed_22 : decode cM_closed 22 = .ok (.getfield 29, 3) := by decide +kernel
theorem dM_closed_25 : decode cM_closed 25 = .ok (.iload_n 1, 1) := by decide +kernel
theorem dM_closed_26 : decode cM_closed 26 = .ok (.iaload, 1) := by decide +kernel
theorem dM_closed_27 : decode cM_closed 27 = .ok (.iadd, 1) := by decide +kernel
theorem dM_closed_28 : decode cM_closed 28 = .ok (.iconst 1, 1) := by decide +kernel
theorem dM_closed_29 : decode cM_closed 29 = .ok (.isub, 1) := by decide +kernel
theorem dM_closed_30 : decode cM_closed 30 = .ok (.iaload, 1) := by decide +kernel
theorem dM_closed_31 : decode cM_closed 31 = .ok (.ireturn, 1) := by decide +kernel
def f_M_closed_j31 (v : MV) (s0 : Int32) : Option Int32 := some s0
def f_M_closed (v : MV) (x1 : Int32) : Option Int32 := (ld 40 (md_rings v) x1).bind fun u1 => (if u1 = 0 then (f_M_closed_j31 v (0 : Int32)) else (ld 40 (md_rings v) x1).bind fun u3 => (ld 640 (md_ends v) ((((16 : Int32) * x1) + u3) - (1 : Int32))).bind fun u4 => (f_M_closed_j31 v u4))
set_option maxHeartbeats 4000000 in
set_option maxRecDepth 100000 in
theorem k_M_closed (l : Launch) (dC : Nat → ClassId) (dI : Nat → Nat → Nat) (cL cI : ClassId) (qm : Nat → Nat) (v : MV) (x1 : Int32) (r : Int32) (h : f_M_closed v x1 = some r) : Met l yM_closed wsM_closed ({ frames := 0, cells := 0, slots := 0, locals := 0 }) (rd_Pc [.ref (qm 0), .int x1] (fun H => va_P (dC, dI) cls3 (mdW cL cI qm v) H) (dC, dI) cls3 [(cL, .long), (cI, .int)]) (vp_Si (fun z => z = r)) 0 0 (fun _ => False) := by
  refine Met.ofW (cc := cM_closed) (maxL := 2) (ret := (some .int)) (by decide) rfl ?_
  intro p e s m args below meth c s₁ B hml hv
  obtain ⟨rfl, hPm, hK⟩ := hv
  have hx := B.exec
  have hb := B.bytes
  have hr := B.returns
  have hw : ∀ w ∈ wG, w.before ([.ref (qm 0), .int x1] : List Value).toArray s = true := fun w hq => atoms_spec (ws := wsM_closed) B.pre w (List.mem_cons_of_mem _ hq)
  have hown : s.vm.findClass R_M = some m.cls := findClass_of_methodNamed B.named
  have hlocks := B.notSynchronized
  have hl := lv_entry ([.ref (qm 0), .int x1] : List Value) (n := 2) (Nat.le_of_ble_eq_true rfl)
  rw [lg_entry_eq]
  generalize (lg_sl ([.ref (qm 0), .int x1] : List Value) ++ List.replicate (2 - (lg_sl ([.ref (qm 0), .int x1] : List Value)).length) Slot.unset).toArray = ls at hl ⊢
  have hl : lv_has ls 2 [(0, .ref (qm 0)), (1, .int x1)] := hl
  have k31 : ∀ (s0 : Int32), f_M_closed_j31 v s0 = some r →  ∀ (ls : Array Slot), lv_has ls 2 [] → W p l e (headSpec wsM_closed ({ frames := 0, cells := 0, slots := 0, locals := 0 })).room s m ([.ref (qm 0), .int x1] : List Value).toArray below meth c s.heap [] 0 0 (MQ below (vp_Si (fun z => z = r)) ([.ref (qm 0), .int x1] : List Value).toArray s 0 0 (fun _ => False)) (F0 m 31 ls [.int s0]) := by
    intro s0 h  ls hl
    unfold f_M_closed_j31 at h
    exact W.iret hx hb hr (fun t ht hW => ⟨_, rfl, Option.some.inj h, ht⟩) nil_locs dM_closed_31
  unfold f_M_closed at h
  refine lv_aload_n hx hb dM_closed_0 rfl (lv_at hl 0 rfl) ?_
  refine va_get (D := (dC, dI)) (ci := 2) (v := .ref (qm 7)) (C := R_M) (T := T_M) (N := 15) hx hb hw in_M hown hK hPm 0 rfl rfl 8 (by decide) (hw _ w_453) (fun _ h9 => h9) rfl dM_closed_1 ?_
  refine lv_iload_n hx hb dM_closed_4 rfl (lv_at hl 1 rfl) ?_
  obtain ⟨u1, hu1, h⟩ := ob_some h
  obtain ⟨hiu1, eu1⟩ := ld_of hu1
  refine va_iald hx hb hK hPm 7 1 rfl rfl hiu1 dM_closed_5 ?_
  rw [eu1]
  refine lv_if_ne (tgt := 13) hx hb dM_closed_6 (by decide) (fun c2 => ?_) (fun c2 => ?_)
  · have h := it_f c2 h
    refine lv_aload_n hx hb dM_closed_13 rfl (lv_at hl 0 rfl) ?_
    refine va_get (D := (dC, dI)) (ci := 2) (v := .ref (qm 6)) (C := R_M) (T := T_M) (N := 15) hx hb hw in_M hown hK hPm 0 rfl rfl 7 (by decide) (hw _ w_452) (fun _ h9 => h9) rfl dM_closed_14 ?_
    refine lv_bipush (v := 16) hx hb dM_closed_17 (by decide) ?_
    refine lv_iload_n hx hb dM_closed_19 rfl (lv_at hl 1 rfl) ?_
    refine lv_imul hx hb dM_closed_20 ?_
    refine lv_aload_n hx hb dM_closed_21 rfl (lv_at hl 0 rfl) ?_
    refine va_get (D := (dC, dI)) (ci := 2) (v := .ref (qm 7)) (C := R_M) (T := T_M) (N := 15) hx hb hw in_M hown hK hPm 0 rfl rfl 8 (by decide) (hw _ w_453) (fun _ h9 => h9) rfl dM_closed_22 ?_
    refine lv_iload_n hx hb dM_closed_25 rfl (lv_at hl 1 rfl) ?_
    obtain ⟨u3, hu3, h⟩ := ob_some h
    obtain ⟨hiu3, eu3⟩ := ld_of hu3
    refine va_iald hx hb hK hPm 7 1 rfl rfl hiu3 dM_closed_26 ?_
    rw [eu3]
    refine lv_iadd hx hb dM_closed_27 ?_
    refine lv_iconst (v := 1) hx hb dM_closed_28 (by decide) ?_
    refine lv_isub hx hb dM_closed_29 ?_
    obtain ⟨u4, hu4, h⟩ := ob_some h
    obtain ⟨hiu4, eu4⟩ := ld_of hu4
    refine va_iald hx hb hK hPm 6 1 rfl rfl hiu4 dM_closed_30 ?_
    rw [eu4]
    exact k31 u4 h ls (lv_sub hl [] rfl)
  · have h := it_t c2 h
    refine lv_iconst (v := 0) hx hb dM_closed_9 (by decide) ?_
    refine lv_goto (tgt := 31) hx hb dM_closed_10 (by decide) ?_
    exact k31 (0 : Int32) h ls (lv_sub hl [] rfl)
theorem dM_isWhole_0 : decode cM_isWhole 0 = .ok (.aload_n 0, 1) := by decide +kernel
theorem dM_isWhole_1 : decode cM_isWhole 1 = .ok (.getfield 7, 3) := by decide +kernel
theorem dM_isWhole_4 : decode cM_isWhole 4 = .ok (.iload_n 1, 1) := by decide +kernel
theorem dM_isWhole_5 : decode cM_isWhole 5 = .ok (.iaload, 1) := by decide +kernel
theorem dM_isWhole_6 : decode cM_isWhole 6 = .ok (.iconst 2, 1) := by decide +kernel
theorem dM_isWhole_7 : decode cM_isWhole 7 = .ok (.if_icmp .ne 32, 3) := by decide +kernel
theorem dM_isWhole_10 : decode cM_isWhole 10 = .ok (.aload_n 0, 1) := by decide +kernel
theorem dM_isWhole_11 : decode cM_isWhole 11 = .ok (.getfield 29, 3) := by decide +kernel
theorem dM_isWhole_14 : decode cM_isWhole 14 = .ok (.iload_n 1, 1) := by decide +kernel
theorem dM_isWhole_15 : decode cM_isWhole 15 = .ok (.iaload, 1) := by decide +kernel
theorem dM_isWhole_16 : decode cM_isWhole 16 = .ok (.ifCond .le 21, 3) := by decide +kernel
theorem dM_isWhole_19 : decode cM_isWhole 19 = .ok (.aload_n 0, 1) := by decide +kernel
theorem dM_isWhole_20 : decode cM_isWhole 20 = .ok (.iload_n 1, 1) := by decide +kernel
theorem dM_isWhole_21 : decode cM_isWhole 21 = .ok (.invokevirtual 63, 3) := by decide +kernel
theorem dM_isWhole_24 : decode cM_isWhole 24 = .ok (.aload_n 0, 1) := by decide +kernel
theorem dM_isWhole_25 : decode cM_isWhole 25 = .ok (.getfield 23, 3) := by decide +kernel
theorem dM_isWhole_28 : decode cM_isWhole 28 = .ok (.iload_n 1, 1) := by decide +kernel
theorem dM_isWhole_29 : decode cM_isWhole 29 = .ok (.iaload, 1) := by decide +kernel
theorem dM_isWhole_30 : decode cM_isWhole 30 = .ok (.if_icmp .ne 7, 3) := by decide +kernel
theorem dM_isWhole_33 : decode cM_isWhole 33 = .ok (.iconst 1, 1) := by decide +kernel
theorem dM_isWhole_34 : decode cM_isWhole 34 = .ok (.goto 4, 3) := by decide +kernel
theorem dM_isWhole_37 : decode cM_isWhole 37 = .ok (.iconst 0, 1) := by decide +kernel
theorem dM_isWhole_38 : decode cM_isWhole 38 = .ok (.ireturn, 1) := by decide +kernel
theorem dM_isWhole_39 : decode cM_isWhole 39 = .ok (.aload_n 0, 1) := by decide +kernel
theorem dM_isWhole_40 : decode cM_isWhole 40 = .ok (.getfield 7, 3) := by decide +kernel
theorem dM_isWhole_43 : decode cM_isWhole 43 = .ok (.iload_n 1, 1) := by decide +kernel
theorem dM_isWhole_44 : decode cM_isWhole 44 = .ok (.iaload, 1) := by decide +kernel
theorem dM_isWhole_45 : decode cM_isWhole 45 = .ok (.iconst 3, 1) := by decide +kernel
theorem dM_isWhole_46 : decode cM_isWhole 46 = .ok (.if_icmp .ne 12, 3) := by decide +kernel
theorem dM_isWhole_49 : decode cM_isWhole 49 = .ok (.aload_n 0, 1) := by decide +kernel
theorem dM_isWhole_50 : decode cM_isWhole 50 = .ok (.getfield 23, 3) := by decide +kernel
theorem dM_isWhole_53 : decode cM_isWhole 53 = .ok (.iload_n 1, 1) := by decide +kernel
theorem dM_isWhole_54 : decode cM_isWhole 54 = .ok (.iaload, 1) := by decide +kernel
theorem dM_isWhole_55 : decode cM_isWhole 55 = .ok (.ifCond .le 7, 3) := by decide +kernel
theorem dM_isWhole_58 : decode cM_isWhole 58 = .ok (.iconst 1, 1) := by decide +kernel
theorem dM_isWhole_59 : decode cM_isWhole 59 = .ok (.goto 4, 3) := by decide +kernel
theorem dM_isWhole_62 : decode cM_isWhole 62 = .ok (.iconst 0, 1) := by decide +kernel
theorem dM_isWhole_63 : decode cM_isWhole 63 = .ok (.ireturn, 1) := by decide +kernel
def f_M_isWhole_j63 (v : MV) (s0 : Int32) : Option Int32 := rb s0
def f_M_isWhole_j58 (v : MV) : Option Int32 := (f_M_isWhole_j63 v (1 : Int32))
def f_M_isWhole_j38 (v : MV) (s0 : Int32) : Option Int32 := rb s0
def f_M_isWhole_j37 (v : MV) : Option Int32 := (f_M_isWhole_j38 v (0 : Int32))
def f_M_isWhole (v : MV) (x1 : Int32) : Option Int32 := (ld 40 (md_kinds v) x1).bind fun u1 => (if u1 = (2 : Int32) then (ld 40 (md_rings v) x1).bind fun u7 => (if u7 ≤ 0 then (f_M_isWhole_j37 v) else (f_M_closed v x1).bind fun u9 => (ld 40 (md_many v) x1).bind fun u10 => (if u9 = u10 then (f_M_isWhole_j38 v (1 : Int32)) else (f_M_isWhole_j37 v))) else (ld 40 (md_kinds v) x1).bind fun u3 => (if u3 = (3 : Int32) then (ld 40 (md_many v) x1).bind fun u5 => (if u5 ≤ 0 then (f_M_isWhole_j63 v (0 : Int32)) else (f_M_isWhole_j58 v)) else (f_M_isWhole_j58 v)))
set_option maxHeartbeats 4000000 in
set_option maxRecDepth 100000 in
theorem k_M_isWhole (l : Launch) (dC : Nat → ClassId) (dI : Nat → Nat → Nat) (cL cI : ClassId) (qm : Nat → Nat) (v : MV) (x1 : Int32) (r : Int32) (h : f_M_isWhole v x1 = some r) : Met l yM_isWhole wsM_isWhole ({ frames := 1, cells := 0, slots := 0, locals := 21 }) (rd_Pc [.ref (qm 0), .int x1] (fun H => va_P (dC, dI) cls3 (mdW cL cI qm v) H) (dC, dI) cls3 [(cL, .long), (cI, .int)]) (vp_Si (fun z => z = r)) 0 0 (fun _ => False) := by
  refine Met.ofW (cc := cM_isWhole) (maxL := 2) (ret := (some .boolean)) (by decide) rfl ?_
  intro p e s m args below meth c s₁ B hml hv
  obtain ⟨rfl, hPm, hK⟩ := hv
  have hx := B.exec
  have hb := B.bytes
  have hr := B.returns
  have hw : ∀ w ∈ wG, w.before ([.ref (qm 0), .int x1] : List Value).toArray s = true := fun w hq => atoms_spec (ws := wsM_isWhole) B.pre w (List.mem_cons_of_mem _ hq)
  have hown : s.vm.findClass R_M = some m.cls := findClass_of_methodNamed B.named
  have hlocks := B.notSynchronized
  have hl := lv_entry ([.ref (qm 0), .int x1] : List Value) (n := 2) (Nat.le_of_ble_eq_true rfl)
  rw [lg_entry_eq]
  generalize (lg_sl ([.ref (qm 0), .int x1] : List Value) ++ List.replicate (2 - (lg_sl ([.ref (qm 0), .int x1] : List Value)).length) Slot.unset).toArray = ls at hl ⊢
  have hl : lv_has ls 2 [(0, .ref (qm 0)), (1, .int x1)] := hl
  have k63 : ∀ (s0 : Int32), f_M_isWhole_j63 v s0 = some r →  ∀ (ls : Array Slot), lv_has ls 2 [] → W p l e (headSpec wsM_isWhole ({ frames := 1, cells := 0, slots := 0, locals := 21 })).room s m ([.ref (qm 0), .int x1] : List Value).toArray below meth c s.heap [] 0 0 (MQ below (vp_Si (fun z => z = r)) ([.ref (qm 0), .int x1] : List Value).toArray s 0 0 (fun _ => False)) (F0 m 63 ls [.int s0]) := by
    intro s0 h  ls hl
    unfold f_M_isWhole_j63 at h
    obtain ⟨hz, hr9⟩ := rb_of h
    exact W.zret hx hb hr hz (fun t ht hW => ⟨_, rfl, hr9, ht⟩) nil_locs dM_isWhole_63
  have k58 : f_M_isWhole_j58 v = some r →  ∀ (ls : Array Slot), lv_has ls 2 [] → W p l e (headSpec wsM_isWhole ({ frames := 1, cells := 0, slots := 0, locals := 21 })).room s m ([.ref (qm 0), .int x1] : List Value).toArray below meth c s.heap [] 0 0 (MQ below (vp_Si (fun z => z = r)) ([.ref (qm 0), .int x1] : List Value).toArray s 0 0 (fun _ => False)) (F0 m 58 ls []) := by
    intro  h  ls hl
    unfold f_M_isWhole_j58 at h
    refine lv_iconst (v := 1) hx hb dM_isWhole_58 (by decide) ?_
    refine lv_goto (tgt := 63) hx hb dM_isWhole_59 (by decide) ?_
    exact k63 (1 : Int32) h ls (lv_sub hl [] rfl)
  have k38 : ∀ (s0 : Int32), f_M_isWhole_j38 v s0 = some r →  ∀ (ls : Array Slot), lv_has ls 2 [] → W p l e (headSpec wsM_isWhole ({ frames := 1, cells := 0, slots := 0, locals := 21 })).room s m ([.ref (qm 0), .int x1] : List Value).toArray below meth c s.heap [] 0 0 (MQ below (vp_Si (fun z => z = r)) ([.ref (qm 0), .int x1] : List Value).toArray s 0 0 (fun _ => False)) (F0 m 38 ls [.int s0]) := by
    intro s0 h  ls hl
    unfold f_M_isWhole_j38 at h
    obtain ⟨hz, hr9⟩ := rb_of h
    exact W.zret hx hb hr hz (fun t ht hW => ⟨_, rfl, hr9, ht⟩) nil_locs dM_isWhole_38
  have k37 : f_M_isWhole_j37 v = some r →  ∀ (ls : Array Slot), lv_has ls 2 [] → W p l e (headSpec wsM_isWhole ({ frames := 1, cells := 0, slots := 0, locals := 21 })).room s m ([.ref (qm 0), .int x1] : List Value).toArray below meth c s.heap [] 0 0 (MQ below (vp_Si (fun z => z = r)) ([.ref (qm 0), .int x1] : List Value).toArray s 0 0 (fun _ => False)) (F0 m 37 ls []) := by
    intro  h  ls hl
    unfold f_M_isWhole_j37 at h
    refine lv_iconst (v := 0) hx hb dM_isWhole_37 (by decide) ?_
    exact k38 (0 : Int32) h ls (lv_sub hl [] rfl)
  unfold f_M_isWhole at h
  refine lv_aload_n hx hb dM_isWhole_0 rfl (lv_at hl 0 rfl) ?_
  refine va_get (D := (dC, dI)) (ci := 2) (v := .ref (qm 1)) (C := R_M) (T := T_M) (N := 15) hx hb hw in_M hown hK hPm 0 rfl rfl 2 (by decide) (hw _ w_447) (fun _ h9 => h9) rfl dM_isWhole_1 ?_
  refine lv_iload_n hx hb dM_isWhole_4 rfl (lv_at hl 1 rfl) ?_
  obtain ⟨u1, hu1, h⟩ := ob_some h
  obtain ⟨hiu1, eu1⟩ := ld_of hu1
  refine va_iald hx hb hK hPm 1 1 rfl rfl hiu1 dM_isWhole_5 ?_
  rw [eu1]
  refine lv_iconst (v := 2) hx hb dM_isWhole_6 (by decide) ?_
  refine lv_icmp_ne (tgt := 39) hx hb dM_isWhole_7 (by decide) (fun c2 => ?_) (fun c2 => ?_)
  · have h := it_f c2 h
    refine lv_aload_n hx hb dM_isWhole_39 rfl (lv_at hl 0 rfl) ?_
    refine va_get (D := (dC, dI)) (ci := 2) (v := .ref (qm 1)) (C := R_M) (T := T_M) (N := 15) hx hb hw in_M hown hK hPm 0 rfl rfl 2 (by decide) (hw _ w_447) (fun _ h9 => h9) rfl dM_isWhole_40 ?_
    refine lv_iload_n hx hb dM_isWhole_43 rfl (lv_at hl 1 rfl) ?_
    obtain ⟨u3, hu3, h⟩ := ob_some h
    obtain ⟨hiu3, eu3⟩ := ld_of hu3
    refine va_iald hx hb hK hPm 1 1 rfl rfl hiu3 dM_isWhole_44 ?_
    rw [eu3]
    refine lv_iconst (v := 3) hx hb dM_isWhole_45 (by decide) ?_
    refine lv_icmp_ne (tgt := 58) hx hb dM_isWhole_46 (by decide) (fun c4 => ?_) (fun c4 => ?_)
    · have h := it_f c4 h
      exact k58 h ls (lv_sub hl [] rfl)
    · have h := it_t c4 h
      refine lv_aload_n hx hb dM_isWhole_49 rfl (lv_at hl 0 rfl) ?_
      refine va_get (D := (dC, dI)) (ci := 2) (v := .ref (qm 5)) (C := R_M) (T := T_M) (N := 15) hx hb hw in_M hown hK hPm 0 rfl rfl 6 (by decide) (hw _ w_451) (fun _ h9 => h9) rfl dM_isWhole_50 ?_
      refine lv_iload_n hx hb dM_isWhole_53 rfl (lv_at hl 1 rfl) ?_
      obtain ⟨u5, hu5, h⟩ := ob_some h
      obtain ⟨hiu5, eu5⟩ := ld_of hu5
      refine va_iald hx hb hK hPm 5 1 rfl rfl hiu5 dM_isWhole_54 ?_
      rw [eu5]
      refine lv_if_le (tgt := 62) hx hb dM_isWhole_55 (by decide) (fun c6 => ?_) (fun c6 => ?_)
      · have h := it_t c6 h
        refine lv_iconst (v := 0) hx hb dM_isWhole_62 (by decide) ?_
        exact k63 (0 : Int32) h ls (lv_sub hl [] rfl)
      · have h := it_f c6 h
        exact k58 h ls (lv_sub hl [] rfl)
  · have h := it_t c2 h
    refine lv_aload_n hx hb dM_isWhole_10 rfl (lv_at hl 0 rfl) ?_
    refine va_get (D := (dC, dI)) (ci := 2) (v := .ref (qm 7)) (C := R_M) (T := T_M) (N := 15) hx hb hw in_M hown hK hPm 0 rfl rfl 8 (by decide) (hw _ w_453) (fun _ h9 => h9) rfl dM_isWhole_11 ?_
    refine lv_iload_n hx hb dM_isWhole_14 rfl (lv_at hl 1 rfl) ?_
    obtain ⟨u7, hu7, h⟩ := ob_some h
    obtain ⟨hiu7, eu7⟩ := ld_of hu7
    refine va_iald hx hb hK hPm 7 1 rfl rfl hiu7 dM_isWhole_15 ?_
    rw [eu7]
    refine lv_if_le (tgt := 37) hx hb dM_isWhole_16 (by decide) (fun c8 => ?_) (fun c8 => ?_)
    · have h := it_t c8 h
      exact k37 h ls (lv_sub hl [] rfl)
    · have h := it_f c8 h
      refine lv_aload_n hx hb dM_isWhole_19 rfl (lv_at hl 0 rfl) ?_
      refine lv_iload_n hx hb dM_isWhole_20 rfl (lv_at hl 1 rfl) ?_
      obtain ⟨u9, hu9, h⟩ := ob_some h
      refine vp_callSi (va_Run.run (va_runV (As := [.int x1]) (rest := []) ⟨hx, hb, hml, hown, hw⟩ (k_M_closed l dC dI cL cI qm v x1 u9 hu9) (cwV 1 hw (gV w_538 w_540 wp_9 w_2 w_541) rfl rfl rfl (by decide +kernel) ⟨Nat.le_of_ble_eq_true rfl, Nat.le_of_ble_eq_true rfl⟩) ⟨rd_blind, va_recv hK hPm (ci := 2) (q0 := 0) rfl rfl, rd_pre hPm hK⟩ rfl rfl hl.1 rfl (lv_room (Nat.le_of_ble_eq_true rfl)) dM_isWhole_21 ⟨Nat.le_of_ble_eq_true rfl, Nat.le_of_ble_eq_true rfl⟩)) (fun z hz => ?_)
      rw [hz]; clear hz
      refine lv_aload_n hx hb dM_isWhole_24 rfl (lv_at hl 0 rfl) ?_
      refine va_get (D := (dC, dI)) (ci := 2) (v := .ref (qm 5)) (C := R_M) (T := T_M) (N := 15) hx hb hw in_M hown hK hPm 0 rfl rfl 6 (by decide) (hw _ w_451) (fun _ h9 => h9) rfl dM_isWhole_25 ?_
      refine lv_iload_n hx hb dM_isWhole_28 rfl (lv_at hl 1 rfl) ?_
      obtain ⟨u10, hu10, h⟩ := ob_some h
      obtain ⟨hiu10, eu10⟩ := ld_of hu10
      refine va_iald hx hb hK hPm 5 1 rfl rfl hiu10 dM_isWhole_29 ?_
      rw [eu10]
      refine lv_icmp_ne (tgt := 37) hx hb dM_isWhole_30 (by decide) (fun c11 => ?_) (fun c11 => ?_)
      · have h := it_f c11 h
        exact k37 h ls (lv_sub hl [] rfl)
      · have h := it_t c11 h
        refine lv_iconst (v := 1) hx hb dM_isWhole_33 (by decide) ?_
        refine lv_goto (tgt := 38) hx hb dM_isWhole_34 (by decide) ?_
        exact k38 (1 : Int32) h ls (lv_sub hl [] rfl)
theorem dM_cross_0 : decode cM_cross 0 = .ok (.lload_n 0, 1) := by decide +kernel
theorem dM_cross_1 : decode cM_cross 1 = .ok (.lload 6, 2) := by decide +kernel
theorem dM_cross_3 : decode cM_cross 3 = .ok (.lmul, 1) := by decide +kernel
theorem dM_cross_4 : decode cM_cross 4 = .ok (.lload_n 2, 1) := by decide +kernel
theorem dM_cross_5 : decode cM_cross 5 = .ok (.lload 4, 2) := by decide +kernel
theorem dM_cross_7 : decode cM_cross 7 = .ok (.lmul, 1) := by decide +kernel
theorem dM_cross_8 : decode cM_cross 8 = .ok (.lsub, 1) := by decide +kernel
theorem dM_cross_9 : decode cM_cross 9 = .ok (.lreturn, 1) := by decide +kernel
def f_M_cross (x0 : Int64) (x2 : Int64) (x4 : Int64) (x6 : Int64) : Option Int64 := some ((x0 * x6) - (x2 * x4))
set_option maxHeartbeats 4000000 in
set_option maxRecDepth 100000 in
theorem k_M_cross (l : Launch) (dC : Nat → ClassId) (dI : Nat → Nat → Nat) (cL cI : ClassId) (x0 : Int64) (x2 : Int64) (x4 : Int64) (x6 : Int64) (r : Int64) (h : f_M_cross x0 x2 x4 x6 = some r) : Met l yM_cross wsM_cross ({ frames := 0, cells := 0, slots := 0, locals := 0 }) (rd_Pc [.long x0, .long x2, .long x4, .long x6] (fun _ => True) (dC, dI) cls3 [(cL, .long), (cI, .int)]) (vp_Sl (fun z => z = r)) 0 0 (fun _ => False) := by
  refine Met.ofW (cc := cM_cross) (maxL := 8) (ret := (some .long)) (by decide) rfl ?_
  intro p e s m args below meth c s₁ B hml hv
  obtain ⟨rfl, hF, hK⟩ := hv
  have hx := B.exec
  have hb := B.bytes
  have hr := B.returns
  have hw : ∀ w ∈ wG, w.before ([.long x0, .long x2, .long x4, .long x6] : List Value).toArray s = true := fun w hq => atoms_spec (ws := wsM_cross) B.pre w (List.mem_cons_of_mem _ hq)
  have hown : s.vm.findClass R_M = some m.cls := findClass_of_methodNamed B.named
  have hlocks := B.notSynchronized
  have hl := lv_entry ([.long x0, .long x2, .long x4, .long x6] : List Value) (n := 8) (Nat.le_of_ble_eq_true rfl)
  rw [lg_entry_eq]
  generalize (lg_sl ([.long x0, .long x2, .long x4, .long x6] : List Value) ++ List.replicate (8 - (lg_sl ([.long x0, .long x2, .long x4, .long x6] : List Value)).length) Slot.unset).toArray = ls at hl ⊢
  have hl : lv_has ls 8 [(0, .long x0), (2, .long x2), (4, .long x4), (6, .long x6)] := hl
  unfold f_M_cross at h
  refine lv_lload_n hx hb dM_cross_0 rfl (lv_at hl 0 rfl) ?_
  refine lv_lload hx hb dM_cross_1 (lv_at hl 3 rfl) ?_
  refine lv_lmul hx hb dM_cross_3 ?_
  refine lv_lload_n hx hb dM_cross_4 rfl (lv_at hl 1 rfl) ?_
  refine lv_lload hx hb dM_cross_5 (lv_at hl 2 rfl) ?_
  refine lv_lmul hx hb dM_cross_7 ?_
  refine lv_lsub hx hb dM_cross_8 ?_
  exact W.lret hx hb hr (fun t ht hW => ⟨_, rfl, Option.some.inj h, ht⟩) nil_locs dM_cross_9
theorem dM_sign_0 : decode cM_sign 0 = .ok (.lload_n 0, 1) := by decide +kernel
theorem dM_sign_1 : decode cM_sign 1 = .ok (.lconst 0, 1) := by decide +kernel
theorem dM_sign_2 : decode cM_sign 2 = .ok (.lcmp, 1) := by decide +kernel
theorem dM_sign_3 : decode cM_sign 3 = .ok (.ifCond .ge 7, 3) := by decide +kernel
theorem dM_sign_6 : decode cM_sign 6 = .ok (.iconst (-1), 1) := by decide +kernel
theorem dM_sign_7 : decode cM_sign 7 = .ok (.goto 14, 3) := by decide +kernel
theorem dM_sign_10 : decode cM_sign 10 = .ok (.lload_n 0, 1) := by decide +kernel
theorem dM_sign_11 : decode cM_sign 11 = .ok (.lconst 0, 1) := by decide +kernel
theorem dM_sign_12 : decode cM_sign 12 = .ok (.lcmp, 1) := by decide +kernel
theorem dM_sign_13 : decode cM_sign 13 = .ok (.ifCond .le 7, 3) := by decide +kernel
theorem dM_sign_16 : decode cM_sign 16 = .ok (.iconst 1, 1) := by decide +kernel
theorem dM_sign_17 : decode cM_sign 17 = .ok (.goto 4, 3) := by decide +kernel
theorem dM_sign_20 : decode cM_sign 20 = .ok (.iconst 0, 1) := by decide +kernel
theorem dM_sign_21 : decode cM_sign 21 = .ok (.ireturn, 1) := by decide +kernel
def f_M_sign_j21 (s0 : Int32) : Option Int32 := some s0
def f_M_sign (x0 : Int64) : Option Int32 := (if 0 ≤ (lg_cmp x0 (0 : Int64)) then (if (lg_cmp x0 (0 : Int64)) ≤ 0 then (f_M_sign_j21 (0 : Int32)) else (f_M_sign_j21 (1 : Int32))) else (f_M_sign_j21 (-1 : Int32)))
set_option maxHeartbeats 4000000 in
set_option maxRecDepth 100000 in
theorem k_M_sign (l : Launch) (dC : Nat → ClassId) (dI : Nat → Nat → Nat) (cL cI : ClassId) (x0 : Int64) (r : Int32) (h : f_M_sign x0 = some r) : Met l yM_sign wsM_sign ({ frames := 0, cells := 0, slots := 0, locals := 0 }) (rd_Pc [.long x0] (fun _ => True) (dC, dI) cls3 [(cL, .long), (cI, .int)]) (vp_Si (fun z => z = r)) 0 0 (fun _ => False) := by
  refine Met.ofW (cc := cM_sign) (maxL := 2) (ret := (some .int)) (by decide) rfl ?_
  intro p e s m args below meth c s₁ B hml hv
  obtain ⟨rfl, hF, hK⟩ := hv
  have hx := B.exec
  have hb := B.bytes
  have hr := B.returns
  have hw : ∀ w ∈ wG, w.before ([.long x0] : List Value).toArray s = true := fun w hq => atoms_spec (ws := wsM_sign) B.pre w (List.mem_cons_of_mem _ hq)
  have hown : s.vm.findClass R_M = some m.cls := findClass_of_methodNamed B.named
  have hlocks := B.notSynchronized
  have hl := lv_entry ([.long x0] : List Value) (n := 2) (Nat.le_of_ble_eq_true rfl)
  rw [lg_entry_eq]
  generalize (lg_sl ([.long x0] : List Value) ++ List.replicate (2 - (lg_sl ([.long x0] : List Value)).length) Slot.unset).toArray = ls at hl ⊢
  have hl : lv_has ls 2 [(0, .long x0)] := hl
  have k21 : ∀ (s0 : Int32), f_M_sign_j21 s0 = some r →  ∀ (ls : Array Slot), lv_has ls 2 [] → W p l e (headSpec wsM_sign ({ frames := 0, cells := 0, slots := 0, locals := 0 })).room s m ([.long x0] : List Value).toArray below meth c s.heap [] 0 0 (MQ below (vp_Si (fun z => z = r)) ([.long x0] : List Value).toArray s 0 0 (fun _ => False)) (F0 m 21 ls [.int s0]) := by
    intro s0 h  ls hl
    unfold f_M_sign_j21 at h
    exact W.iret hx hb hr (fun t ht hW => ⟨_, rfl, Option.some.inj h, ht⟩) nil_locs dM_sign_21
  unfold f_M_sign at h
  refine lv_lload_n hx hb dM_sign_0 rfl (lv_at hl 0 rfl) ?_
  refine lv_lconst (v := 0) hx hb dM_sign_1 (by decide) ?_
  refine W.lcmp hx hb dM_sign_2 ?_
  refine lv_if_ge (tgt := 10) hx hb dM_sign_3 (by decide) (fun c1 => ?_) (fun c1 => ?_)
  · have h := it_t c1 h
    refine lv_lload_n hx hb dM_sign_10 rfl (lv_at hl 0 rfl) ?_
    refine lv_lconst (v := 0) hx hb dM_sign_11 (by decide) ?_
    refine W.lcmp hx hb dM_sign_12 ?_
    refine lv_if_le (tgt := 20) hx hb dM_sign_13 (by decide) (fun c2 => ?_) (fun c2 => ?_)
    · have h := it_t c2 h
      refine lv_iconst (v := 0) hx hb dM_sign_20 (by decide) ?_
      exact k21 (0 : Int32) h ls (lv_sub hl [] rfl)
    · have h := it_f c2 h
      refine lv_iconst (v := 1) hx hb dM_sign_16 (by decide) ?_
      refine lv_goto (tgt := 21) hx hb dM_sign_17 (by decide) ?_
      exact k21 (1 : Int32) h ls (lv_sub hl [] rfl)
  · have h := it_f c1 h
    refine lv_iconst (v := -1) hx hb dM_sign_6 (by decide) ?_
    refine lv_goto (tgt := 21) hx hb dM_sign_7 (by decide) ?_
    exact k21 (-1 : Int32) h ls (lv_sub hl [] rfl)
theorem dM_turnOf_0 : decode cM_turnOf 0 = .ok (.lload 4, 2) := by decide +kernel
theorem dM_turnOf_2 : decode cM_turnOf 2 = .ok (.lload_n 0, 1) := by decide +kernel
theorem dM_turnOf_3 : decode cM_turnOf 3 = .ok (.lsub, 1) := by decide +kernel
theorem dM_turnOf_4 : decode cM_turnOf 4 = .ok (.lload 6, 2) := by decide +kernel
theorem dM_turnOf_6 : decode cM_turnOf 6 = .ok (.lload_n 2, 1) := by decide +kernel
theorem dM_turnOf_7 : decode cM_turnOf 7 = .ok (.lsub, 1) := by decide +kernel
theorem dM_turnOf_8 : decode cM_turnOf 8 = .ok (.lload 8, 2) := by decide +kernel
theorem dM_turnOf_10 : decode cM_turnOf 10 = .ok (.lload_n 0, 1) := by decide +kernel
theorem dM_turnOf_11 : decode cM_turnOf 11 = .ok (.lsub, 1) := by decide +kernel
theorem dM_turnOf_12 : decode cM_turnOf 12 = .ok (.lload 10, 2) := by decide +kernel
theorem dM_turnOf_14 : decode cM_turnOf 14 = .ok (.lload_n 2, 1) := by decide +kernel
theorem dM_turnOf_15 : decode cM_turnOf 15 = .ok (.lsub, 1) := by decide +kernel
theorem dM_turnOf_16 : decode cM_turnOf 16 = .ok (.invokestatic 91, 3) := by decide +kernel
theorem dM_turnOf_19 : decode cM_turnOf 19 = .ok (.invokestatic 95, 3) := by decide +kernel
theorem dM_turnOf_22 : decode cM_turnOf 22 = .ok (.ireturn, 1) := by decide +kernel
def f_M_turnOf (x0 : Int64) (x2 : Int64) (x4 : Int64) (x6 : Int64) (x8 : Int64) (x10 : Int64) : Option Int32 := (f_M_cross (x4 - x0) (x6 - x2) (x8 - x0) (x10 - x2)).bind fun u1 => (f_M_sign u1).bind fun u2 => some u2
set_option maxHeartbeats 4000000 in
set_option maxRecDepth 100000 in
theorem k_M_turnOf (l : Launch) (dC : Nat → ClassId) (dI : Nat → Nat → Nat) (cL cI : ClassId) (x0 : Int64) (x2 : Int64) (x4 : Int64) (x6 : Int64) (x8 : Int64) (x10 : Int64) (r : Int32) (h : f_M_turnOf x0 x2 x4 x6 x8 x10 = some r) : Met l yM_turnOf wsM_turnOf ({ frames := 1, cells := 0, slots := 0, locals := 27 }) (rd_Pc [.long x0, .long x2, .long x4, .long x6, .long x8, .long x10] (fun _ => True) (dC, dI) cls3 [(cL, .long), (cI, .int)]) (vp_Si (fun z => z = r)) 0 0 (fun _ => False) := by
  refine Met.ofW (cc := cM_turnOf) (maxL := 12) (ret := (some .int)) (by decide) rfl ?_
  intro p e s m args below meth c s₁ B hml hv
  obtain ⟨rfl, hF, hK⟩ := hv
  have hx := B.exec
  have hb := B.bytes
  have hr := B.returns
  have hw : ∀ w ∈ wG, w.before ([.long x0, .long x2, .long x4, .long x6, .long x8, .long x10] : List Value).toArray s = true := fun w hq => atoms_spec (ws := wsM_turnOf) B.pre w (List.mem_cons_of_mem _ hq)
  have hown : s.vm.findClass R_M = some m.cls := findClass_of_methodNamed B.named
  have hlocks := B.notSynchronized
  have hl := lv_entry ([.long x0, .long x2, .long x4, .long x6, .long x8, .long x10] : List Value) (n := 12) (Nat.le_of_ble_eq_true rfl)
  rw [lg_entry_eq]
  generalize (lg_sl ([.long x0, .long x2, .long x4, .long x6, .long x8, .long x10] : List Value) ++ List.replicate (12 - (lg_sl ([.long x0, .long x2, .long x4, .long x6, .long x8, .long x10] : List Value)).length) Slot.unset).toArray = ls at hl ⊢
  have hl : lv_has ls 12 [(0, .long x0), (2, .long x2), (4, .long x4), (6, .long x6), (8, .long x8), (10, .long x10)] := hl
  unfold f_M_turnOf at h
  refine lv_lload hx hb dM_turnOf_0 (lv_at hl 2 rfl) ?_
  refine lv_lload_n hx hb dM_turnOf_2 rfl (lv_at hl 0 rfl) ?_
  refine lv_lsub hx hb dM_turnOf_3 ?_
  refine lv_lload hx hb dM_turnOf_4 (lv_at hl 3 rfl) ?_
  refine lv_lload_n hx hb dM_turnOf_6 rfl (lv_at hl 1 rfl) ?_
  refine lv_lsub hx hb dM_turnOf_7 ?_
  refine lv_lload hx hb dM_turnOf_8 (lv_at hl 4 rfl) ?_
  refine lv_lload_n hx hb dM_turnOf_10 rfl (lv_at hl 0 rfl) ?_
  refine lv_lsub hx hb dM_turnOf_11 ?_
  refine lv_lload hx hb dM_turnOf_12 (lv_at hl 5 rfl) ?_
  refine lv_lload_n hx hb dM_turnOf_14 rfl (lv_at hl 1 rfl) ?_
  refine lv_lsub hx hb dM_turnOf_15 ?_
  obtain ⟨u1, hu1, h⟩ := ob_some h
  refine vp_callSl (va_Run.run (va_runS (As := [.long (x4 - x0), .long (x6 - x2), .long (x8 - x0), .long (x10 - x2)]) (rest := []) ⟨hx, hb, hml, hown, hw⟩ (k_M_cross l dC dI cL cI (x4 - x0) (x6 - x2) (x8 - x0) (x10 - x2) u1 hu1) (va_cwS 4 hw (gS w_561 w_562 w_2 w_563) rfl rfl rfl (by decide +kernel) ⟨Nat.le_of_ble_eq_true rfl, Nat.le_of_ble_eq_true rfl⟩) ⟨rd_blind, rd_pre trivial hK⟩ rfl rfl hl.1 rfl (lv_room (Nat.le_of_ble_eq_true rfl)) dM_turnOf_16 ⟨Nat.le_of_ble_eq_true rfl, Nat.le_of_ble_eq_true rfl⟩)) (fun z hz => ?_)
  rw [hz]; clear hz
  obtain ⟨u2, hu2, h⟩ := ob_some h
  refine vp_callSi (va_Run.run (va_runS (As := [.long u1]) (rest := []) ⟨hx, hb, hml, hown, hw⟩ (k_M_sign l dC dI cL cI u1 u2 hu2) (va_cwS 1 hw (gS w_564 w_565 w_2 w_566) rfl rfl rfl (by decide +kernel) ⟨Nat.le_of_ble_eq_true rfl, Nat.le_of_ble_eq_true rfl⟩) ⟨rd_blind, rd_pre trivial hK⟩ rfl rfl hl.1 rfl (lv_room (Nat.le_of_ble_eq_true rfl)) dM_turnOf_19 ⟨Nat.le_of_ble_eq_true rfl, Nat.le_of_ble_eq_true rfl⟩)) (fun z hz => ?_)
  rw [hz]; clear hz
  exact W.iret hx hb hr (fun t ht hW => ⟨_, rfl, Option.some.inj h, ht⟩) nil_locs dM_turnOf_22
theorem dM_between_0 : decode cM_between 0 = .ok (.lload_n 0, 1) := by decide +kernel
theorem dM_between_1 : decode cM_between 1 = .ok (.lload_n 2, 1) := by decide +kernel
theorem dM_between_2 : decode cM_between 2 = .ok (.lcmp, 1) := by decide +kernel
theorem dM_between_3 : decode cM_between 3 = .ok (.ifCond .lt 10, 3) := by decide +kernel
theorem dM_between_6 : decode cM_between 6 = .ok (.lload_n 0, 1) := by decide +kernel
theorem dM_between_7 : decode cM_between 7 = .ok (.lload 4, 2) := by decide +kernel
theorem dM_between_9 : decode cM_between 9 = .ok (.lcmp, 1) := by decide +kernel
theorem dM_between_10 : decode cM_between 10 = .ok (.ifCond .le 16, 3) := by decide +kernel
theorem dM_between_13 : decode cM_between 13 = .ok (.lload_n 0, 1) := by decide +kernel
theorem dM_between_14 : decode cM_between 14 = .ok (.lload 4, 2) := by decide +kernel
theorem dM_between_16 : decode cM_between 16 = .ok (.lcmp, 1) := by decide +kernel
theorem dM_between_17 : decode cM_between 17 = .ok (.ifCond .lt 13, 3) := by decide +kernel
theorem dM_between_20 : decode cM_between 20 = .ok (.lload_n 0, 1) := by decide +kernel
theorem dM_between_21 : decode cM_between 21 = .ok (.lload_n 2, 1) := by decide +kernel
theorem dM_between_22 : decode cM_between 22 = .ok (.lcmp, 1) := by decide +kernel
theorem dM_between_23 : decode cM_between 23 = .ok (.ifCond .gt 7, 3) := by decide +kernel
theorem dM_between_26 : decode cM_between 26 = .ok (.iconst 1, 1) := by decide +kernel
theorem dM_between_27 : decode cM_between 27 = .ok (.goto 4, 3) := by decide +kernel
theorem dM_between_30 : decode cM_between 30 = .ok (.iconst 0, 1) := by decide +kernel
theorem dM_between_31 : decode cM_between 31 = .ok (.ireturn, 1) := by decide +kernel
def f_M_between_j31 (s0 : Int32) : Option Int32 := rb s0
def f_M_between_j30 : Option Int32 := (f_M_between_j31 (0 : Int32))
def f_M_between_j26 : Option Int32 := (f_M_between_j31 (1 : Int32))
def f_M_between_j13 (p0 : Int64) (p2 : Int64) (p4 : Int64) : Option Int32 := (if (lg_cmp p0 p4) < 0 then f_M_between_j30 else (if 0 < (lg_cmp p0 p2) then f_M_between_j30 else f_M_between_j26))
def f_M_between (x0 : Int64) (x2 : Int64) (x4 : Int64) : Option Int32 := (if (lg_cmp x0 x2) < 0 then (f_M_between_j13 x0 x2 x4) else (if (lg_cmp x0 x4) ≤ 0 then f_M_between_j26 else (f_M_between_j13 x0 x2 x4)))
set_option maxHeartbeats 4000000 in
set_option maxRecDepth 100000 in
theorem k_M_between (l : Launch) (dC : Nat → ClassId) (dI : Nat → Nat → Nat) (cL cI : ClassId) (x0 : Int64) (x2 : Int64) (x4 : Int64) (r : Int32) (h : f_M_between x0 x2 x4 = some r) : Met l yM_between wsM_between ({ frames := 0, cells := 0, slots := 0, locals := 0 }) (rd_Pc [.long x0, .long x2, .long x4] (fun _ => True) (dC, dI) cls3 [(cL, .long), (cI, .int)]) (vp_Si (fun z => z = r)) 0 0 (fun _ => False) := by
  refine Met.ofW (cc := cM_between) (maxL := 6) (ret := (some .boolean)) (by decide) rfl ?_
  intro p e s m args below meth c s₁ B hml hv
  obtain ⟨rfl, hF, hK⟩ := hv
  have hx := B.exec
  have hb := B.bytes
  have hr := B.returns
  have hw : ∀ w ∈ wG, w.before ([.long x0, .long x2, .long x4] : List Value).toArray s = true := fun w hq => atoms_spec (ws := wsM_between) B.pre w (List.mem_cons_of_mem _ hq)
  have hown : s.vm.findClass R_M = some m.cls := findClass_of_methodNamed B.named
  have hlocks := B.notSynchronized
  have hl := lv_entry ([.long x0, .long x2, .long x4] : List Value) (n := 6) (Nat.le_of_ble_eq_true rfl)
  rw [lg_entry_eq]
  generalize (lg_sl ([.long x0, .long x2, .long x4] : List Value) ++ List.replicate (6 - (lg_sl ([.long x0, .long x2, .long x4] : List Value)).length) Slot.unset).toArray = ls at hl ⊢
  have hl : lv_has ls 6 [(0, .long x0), (2, .long x2), (4, .long x4)] := hl
  have k31 : ∀ (s0 : Int32), f_M_between_j31 s0 = some r →  ∀ (ls : Array Slot), lv_has ls 6 [] → W p l e (headSpec wsM_between ({ frames := 0, cells := 0, slots := 0, locals := 0 })).room s m ([.long x0, .long x2, .long x4] : List Value).toArray below meth c s.heap [] 0 0 (MQ below (vp_Si (fun z => z = r)) ([.long x0, .long x2, .long x4] : List Value).toArray s 0 0 (fun _ => False)) (F0 m 31 ls [.int s0]) := by
    intro s0 h  ls hl
    unfold f_M_between_j31 at h
    obtain ⟨hz, hr9⟩ := rb_of h
    exact W.zret hx hb hr hz (fun t ht hW => ⟨_, rfl, hr9, ht⟩) nil_locs dM_between_31
  have k30 : f_M_between_j30 = some r →  ∀ (ls : Array Slot), lv_has ls 6 [] → W p l e (headSpec wsM_between ({ frames := 0, cells := 0, slots := 0, locals := 0 })).room s m ([.long x0, .long x2, .long x4] : List Value).toArray below meth c s.heap [] 0 0 (MQ below (vp_Si (fun z => z = r)) ([.long x0, .long x2, .long x4] : List Value).toArray s 0 0 (fun _ => False)) (F0 m 30 ls []) := by
    intro  h  ls hl
    unfold f_M_between_j30 at h
    refine lv_iconst (v := 0) hx hb dM_between_30 (by decide) ?_
    exact k31 (0 : Int32) h ls (lv_sub hl [] rfl)
  have k26 : f_M_between_j26 = some r →  ∀ (ls : Array Slot), lv_has ls 6 [] → W p l e (headSpec wsM_between ({ frames := 0, cells := 0, slots := 0, locals := 0 })).room s m ([.long x0, .long x2, .long x4] : List Value).toArray below meth c s.heap [] 0 0 (MQ below (vp_Si (fun z => z = r)) ([.long x0, .long x2, .long x4] : List Value).toArray s 0 0 (fun _ => False)) (F0 m 26 ls []) := by
    intro  h  ls hl
    unfold f_M_between_j26 at h
    refine lv_iconst (v := 1) hx hb dM_between_26 (by decide) ?_
    refine lv_goto (tgt := 31) hx hb dM_between_27 (by decide) ?_
    exact k31 (1 : Int32) h ls (lv_sub hl [] rfl)
  have k13 : ∀ (p0 : Int64) (p2 : Int64) (p4 : Int64), f_M_between_j13 p0 p2 p4 = some r →  ∀ (ls : Array Slot), lv_has ls 6 [(0, .long p0), (2, .long p2), (4, .long p4)] → W p l e (headSpec wsM_between ({ frames := 0, cells := 0, slots := 0, locals := 0 })).room s m ([.long x0, .long x2, .long x4] : List Value).toArray below meth c s.heap [] 0 0 (MQ below (vp_Si (fun z => z = r)) ([.long x0, .long x2, .long x4] : List Value).toArray s 0 0 (fun _ => False)) (F0 m 13 ls []) := by
    intro p0 p2 p4 h  ls hl
    unfold f_M_between_j13 at h
    refine lv_lload_n hx hb dM_between_13 rfl (lv_at hl 0 rfl) ?_
    refine lv_lload hx hb dM_between_14 (lv_at hl 2 rfl) ?_
    refine W.lcmp hx hb dM_between_16 ?_
    refine lv_if_lt (tgt := 30) hx hb dM_between_17 (by decide) (fun c3 => ?_) (fun c3 => ?_)
    · have h := it_t c3 h
      exact k30 h ls (lv_sub hl [] rfl)
    · have h := it_f c3 h
      refine lv_lload_n hx hb dM_between_20 rfl (lv_at hl 0 rfl) ?_
      refine lv_lload_n hx hb dM_between_21 rfl (lv_at hl 1 rfl) ?_
      refine W.lcmp hx hb dM_between_22 ?_
      refine lv_if_gt (tgt := 30) hx hb dM_between_23 (by decide) (fun c4 => ?_) (fun c4 => ?_)
      · have h := it_t c4 h
        exact k30 h ls (lv_sub hl [] rfl)
      · have h := it_f c4 h
        exact k26 h ls (lv_sub hl [] rfl)
  unfold f_M_between at h
  refine lv_lload_n hx hb dM_between_0 rfl (lv_at hl 0 rfl) ?_
  refine lv_lload_n hx hb dM_between_1 rfl (lv_at hl 1 rfl) ?_
  refine W.lcmp hx hb dM_between_2 ?_
  refine lv_if_lt (tgt := 13) hx hb dM_between_3 (by decide) (fun c1 => ?_) (fun c1 => ?_)
  · have h := it_t c1 h
    exact k13 x0 x2 x4 h ls (lv_sub hl [0, 1, 2] rfl)
  · have h := it_f c1 h
    refine lv_lload_n hx hb dM_between_6 rfl (lv_at hl 0 rfl) ?_
    refine lv_lload hx hb dM_between_7 (lv_at hl 2 rfl) ?_
    refine W.lcmp hx hb dM_between_9 ?_
    refine lv_if_le (tgt := 26) hx hb dM_between_10 (by decide) (fun c2 => ?_) (fun c2 => ?_)
    · have h := it_t c2 h
      exact k26 h ls (lv_sub hl [] rfl)
    · have h := it_f c2 h
      exact k13 x0 x2 x4 h ls (lv_sub hl [0, 1, 2] rfl)
theorem dM_isOn_0 : decode cM_isOn 0 = .ok (.lload_n 0, 1) := by decide +kernel
theorem dM_isOn_1 : decode cM_isOn 1 = .ok (.lload 4, 2) := by decide +kernel
theorem dM_isOn_3 : decode cM_isOn 3 = .ok (.lload 8, 2) := by decide +kernel
theorem dM_isOn_5 : decode cM_isOn 5 = .ok (.invokestatic 99, 3) := by decide +kernel
theorem dM_isOn_8 : decode cM_isOn 8 = .ok (.ifCond .eq 34, 3) := by decide +kernel
theorem dM_isOn_11 : decode cM_isOn 11 = .ok (.lload_n 2, 1) := by decide +kernel
theorem dM_isOn_12 : decode cM_isOn 12 = .ok (.lload 6, 2) := by decide +kernel
theorem dM_isOn_14 : decode cM_isOn 14 = .ok (.lload 10, 2) := by decide +kernel
theorem dM_isOn_16 : decode cM_isOn 16 = .ok (.invokestatic 99, 3) := by decide +kernel
theorem dM_isOn_19 : decode cM_isOn 19 = .ok (.ifCond .eq 23, 3) := by decide +kernel
theorem dM_isOn_22 : decode cM_isOn 22 = .ok (.lload 4, 2) := by decide +kernel
theorem dM_isOn_24 : decode cM_isOn 24 = .ok (.lload 6, 2) := by decide +kernel
theorem dM_isOn_26 : decode cM_isOn 26 = .ok (.lload 8, 2) := by decide +kernel
theorem dM_isOn_28 : decode cM_isOn 28 = .ok (.lload 10, 2) := by decide +kernel
theorem dM_isOn_30 : decode cM_isOn 30 = .ok (.lload_n 0, 1) := by decide +kernel
theorem dM_isOn_31 : decode cM_isOn 31 = .ok (.lload_n 2, 1) := by decide +kernel
theorem dM_isOn_32 : decode cM_isOn 32 = .ok (.invokestatic 103, 3) := by decide +kernel
theorem dM_isOn_35 : decode cM_isOn 35 = .ok (.ifCond .ne 7, 3) := by decide +kernel
theorem dM_isOn_38 : decode cM_isOn 38 = .ok (.iconst 1, 1) := by decide +kernel
theorem dM_isOn_39 : decode cM_isOn 39 = .ok (.goto 4, 3) := by decide +kernel
theorem dM_isOn_42 : decode cM_isOn 42 = .ok (.iconst 0, 1) := by decide +kernel
theorem dM_isOn_43 : decode cM_isOn 43 = .ok (.ireturn, 1) := by decide +kernel
def f_M_isOn_j43 (s0 : Int32) : Option Int32 := rb s0
def f_M_isOn_j42 : Option Int32 := (f_M_isOn_j43 (0 : Int32))
def f_M_isOn (x0 : Int64) (x2 : Int64) (x4 : Int64) (x6 : Int64) (x8 : Int64) (x10 : Int64) : Option Int32 := (f_M_between x0 x4 x8).bind fun u1 => (if u1 = 0 then f_M_isOn_j42 else (f_M_between x2 x6 x10).bind fun u3 => (if u3 = 0 then f_M_isOn_j42 else (f_M_turnOf x4 x6 x8 x10 x0 x2).bind fun u5 => (if u5 = 0 then (f_M_isOn_j43 (1 : Int32)) else f_M_isOn_j42)))
set_option maxHeartbeats 4000000 in
set_option maxRecDepth 100000 in
theorem k_M_isOn (l : Launch) (dC : Nat → ClassId) (dI : Nat → Nat → Nat) (cL cI : ClassId) (x0 : Int64) (x2 : Int64) (x4 : Int64) (x6 : Int64) (x8 : Int64) (x10 : Int64) (r : Int32) (h : f_M_isOn x0 x2 x4 x6 x8 x10 = some r) : Met l yM_isOn wsM_isOn ({ frames := 2, cells := 0, slots := 0, locals := 58 }) (rd_Pc [.long x0, .long x2, .long x4, .long x6, .long x8, .long x10] (fun _ => True) (dC, dI) cls3 [(cL, .long), (cI, .int)]) (vp_Si (fun z => z = r)) 0 0 (fun _ => False) := by
  refine Met.ofW (cc := cM_isOn) (maxL := 12) (ret := (some .boolean)) (by decide) rfl ?_
  intro p e s m args below meth c s₁ B hml hv
  obtain ⟨rfl, hF, hK⟩ := hv
  have hx := B.exec
  have hb := B.bytes
  have hr := B.returns
  have hw : ∀ w ∈ wG, w.before ([.long x0, .long x2, .long x4, .long x6, .long x8, .long x10] : List Value).toArray s = true := fun w hq => atoms_spec (ws := wsM_isOn) B.pre w (List.mem_cons_of_mem _ hq)
  have hown : s.vm.findClass R_M = some m.cls := findClass_of_methodNamed B.named
  have hlocks := B.notSynchronized
  have hl := lv_entry ([.long x0, .long x2, .long x4, .long x6, .long x8, .long x10] : List Value) (n := 12) (Nat.le_of_ble_eq_true rfl)
  rw [lg_entry_eq]
  generalize (lg_sl ([.long x0, .long x2, .long x4, .long x6, .long x8, .long x10] : List Value) ++ List.replicate (12 - (lg_sl ([.long x0, .long x2, .long x4, .long x6, .long x8, .long x10] : List Value)).length) Slot.unset).toArray = ls at hl ⊢
  have hl : lv_has ls 12 [(0, .long x0), (2, .long x2), (4, .long x4), (6, .long x6), (8, .long x8), (10, .long x10)] := hl
  have k43 : ∀ (s0 : Int32), f_M_isOn_j43 s0 = some r →  ∀ (ls : Array Slot), lv_has ls 12 [] → W p l e (headSpec wsM_isOn ({ frames := 2, cells := 0, slots := 0, locals := 58 })).room s m ([.long x0, .long x2, .long x4, .long x6, .long x8, .long x10] : List Value).toArray below meth c s.heap [] 0 0 (MQ below (vp_Si (fun z => z = r)) ([.long x0, .long x2, .long x4, .long x6, .long x8, .long x10] : List Value).toArray s 0 0 (fun _ => False)) (F0 m 43 ls [.int s0]) := by
    intro s0 h  ls hl
    unfold f_M_isOn_j43 at h
    obtain ⟨hz, hr9⟩ := rb_of h
    exact W.zret hx hb hr hz (fun t ht hW => ⟨_, rfl, hr9, ht⟩) nil_locs dM_isOn_43
  have k42 : f_M_isOn_j42 = some r →  ∀ (ls : Array Slot), lv_has ls 12 [] → W p l e (headSpec wsM_isOn ({ frames := 2, cells := 0, slots := 0, locals := 58 })).room s m ([.long x0, .long x2, .long x4, .long x6, .long x8, .long x10] : List Value).toArray below meth c s.heap [] 0 0 (MQ below (vp_Si (fun z => z = r)) ([.long x0, .long x2, .long x4, .long x6, .long x8, .long x10] : List Value).toArray s 0 0 (fun _ => False)) (F0 m 42 ls []) := by
    intro  h  ls hl
    unfold f_M_isOn_j42 at h
    refine lv_iconst (v := 0) hx hb dM_isOn_42 (by decide) ?_
    exact k43 (0 : Int32) h ls (lv_sub hl [] rfl)
  unfold f_M_isOn at h
  refine lv_lload_n hx hb dM_isOn_0 rfl (lv_at hl 0 rfl) ?_
  refine lv_lload hx hb dM_isOn_1 (lv_at hl 2 rfl) ?_
  refine lv_lload hx hb dM_isOn_3 (lv_at hl 4 rfl) ?_
  obtain ⟨u1, hu1, h⟩ := ob_some h
  refine vp_callSi (va_Run.run (va_runS (As := [.long x0, .long x4, .long x8]) (rest := []) ⟨hx, hb, hml, hown, hw⟩ (k_M_between l dC dI cL cI x0 x4 x8 u1 hu1) (va_cwS 3 hw (gS w_581 w_582 w_2 w_583) rfl rfl rfl (by decide +kernel) ⟨Nat.le_of_ble_eq_true rfl, Nat.le_of_ble_eq_true rfl⟩) ⟨rd_blind, rd_pre trivial hK⟩ rfl rfl hl.1 rfl (lv_room (Nat.le_of_ble_eq_true rfl)) dM_isOn_5 ⟨Nat.le_of_ble_eq_true rfl, Nat.le_of_ble_eq_true rfl⟩)) (fun z hz => ?_)
  rw [hz]; clear hz
  refine lv_if_eq (tgt := 42) hx hb dM_isOn_8 (by decide) (fun c2 => ?_) (fun c2 => ?_)
  · have h := it_t c2 h
    exact k42 h ls (lv_sub hl [] rfl)
  · have h := it_f c2 h
    refine lv_lload_n hx hb dM_isOn_11 rfl (lv_at hl 1 rfl) ?_
    refine lv_lload hx hb dM_isOn_12 (lv_at hl 3 rfl) ?_
    refine lv_lload hx hb dM_isOn_14 (lv_at hl 5 rfl) ?_
    obtain ⟨u3, hu3, h⟩ := ob_some h
    refine vp_callSi (va_Run.run (va_runS (As := [.long x2, .long x6, .long x10]) (rest := []) ⟨hx, hb, hml, hown, hw⟩ (k_M_between l dC dI cL cI x2 x6 x10 u3 hu3) (va_cwS 3 hw (gS w_581 w_582 w_2 w_583) rfl rfl rfl (by decide +kernel) ⟨Nat.le_of_ble_eq_true rfl, Nat.le_of_ble_eq_true rfl⟩) ⟨rd_blind, rd_pre trivial hK⟩ rfl rfl hl.1 rfl (lv_room (Nat.le_of_ble_eq_true rfl)) dM_isOn_16 ⟨Nat.le_of_ble_eq_true rfl, Nat.le_of_ble_eq_true rfl⟩)) (fun z hz => ?_)
    rw [hz]; clear hz
    refine lv_if_eq (tgt := 42) hx hb dM_isOn_19 (by decide) (fun c4 => ?_) (fun c4 => ?_)
    · have h := it_t c4 h
      exact k42 h ls (lv_sub hl [] rfl)
    · have h := it_f c4 h
      refine lv_lload hx hb dM_isOn_22 (lv_at hl 2 rfl) ?_
      refine lv_lload hx hb dM_isOn_24 (lv_at hl 3 rfl) ?_
      refine lv_lload hx hb dM_isOn_26 (lv_at hl 4 rfl) ?_
      refine lv_lload hx hb dM_isOn_28 (lv_at hl 5 rfl) ?_
      refine lv_lload_n hx hb dM_isOn_30 rfl (lv_at hl 0 rfl) ?_
      refine lv_lload_n hx hb dM_isOn_31 rfl (lv_at hl 1 rfl) ?_
      obtain ⟨u5, hu5, h⟩ := ob_some h
      refine vp_callSi (va_Run.run (va_runS (As := [.long x4, .long x6, .long x8, .long x10, .long x0, .long x2]) (rest := []) ⟨hx, hb, hml, hown, hw⟩ (k_M_turnOf l dC dI cL cI x4 x6 x8 x10 x0 x2 u5 hu5) (va_cwS 6 hw (gS w_558 w_559 w_2 w_560) rfl rfl rfl (by decide +kernel) ⟨Nat.le_of_ble_eq_true rfl, Nat.le_of_ble_eq_true rfl⟩) ⟨rd_blind, rd_pre trivial hK⟩ rfl rfl hl.1 rfl (lv_room (Nat.le_of_ble_eq_true rfl)) dM_isOn_32 ⟨Nat.le_of_ble_eq_true rfl, Nat.le_of_ble_eq_true rfl⟩)) (fun z hz => ?_)
      rw [hz]; clear hz
      refine lv_if_ne (tgt := 42) hx hb dM_isOn_35 (by decide) (fun c6 => ?_) (fun c6 => ?_)
      · have h := it_f c6 h
        exact k42 h ls (lv_sub hl [] rfl)
      · have h := it_t c6 h
        refine lv_iconst (v := 1) hx hb dM_isOn_38 (by decide) ?_
        refine lv_goto (tgt := 43) hx hb dM_isOn_39 (by decide) ?_
        exact k43 (1 : Int32) h ls (lv_sub hl [] rfl)
theorem dM_meet_0 : decode cM_meet 0 = .ok (.lload_n 0, 1) := by decide +kernel
theorem dM_meet_1 : decode cM_meet 1 = .ok (.lload_n 2, 1) := by decide +kernel
theorem dM_meet_2 : decode cM_meet 2 = .ok (.lload 8, 2) := by decide +kernel
theorem dM_meet_4 : decode cM_meet 4 = .ok (.lload 10, 2) := by decide +kernel
theorem dM_meet_6 : decode cM_meet 6 = .ok (.lload 12, 2) := by decide +kernel
theorem dM_meet_8 : decode cM_meet 8 = .ok (.lload 14, 2) := by decide +kernel
theorem dM_meet_10 : decode cM_meet 10 = .ok (.invokestatic 107, 3) := by decide +kernel
theorem dM_meet_13 : decode cM_meet 13 = .ok (.ifCond .ne 53, 3) := by decide +kernel
theorem dM_meet_16 : decode cM_meet 16 = .ok (.lload 4, 2) := by decide +kernel
theorem dM_meet_18 : decode cM_meet 18 = .ok (.lload 6, 2) := by decide +kernel
theorem dM_meet_20 : decode cM_meet 20 = .ok (.lload 8, 2) := by decide +kernel
theorem dM_meet_22 : decode cM_meet 22 = .ok (.lload 10, 2) := by decide +kernel
theorem dM_meet_24 : decode cM_meet 24 = .ok (.lload 12, 2) := by decide +kernel
theorem dM_meet_26 : decode cM_meet 26 = .ok (.lload 14, 2) := by decide +kernel
theorem dM_meet_28 : decode cM_meet 28 = .ok (.invokestatic 107, 3) := by decide +kernel
theorem dM_meet_31 : decode cM_meet 31 = .ok (.ifCond .ne 35, 3) := by decide +kernel
theorem dM_meet_34 : decode cM_meet 34 = .ok (.lload 8, 2) := by decide +kernel
theorem dM_meet_36 : decode cM_meet 36 = .ok (.lload 10, 2) := by decide +kernel
theorem dM_meet_38 : decode cM_meet 38 = .ok (.lload_n 0, 1) := by decide +kernel
theorem dM_meet_39 : decode cM_meet 39 = .ok (.lload_n 2, 1) := by decide +kernel
theorem dM_meet_40 : decode cM_meet 40 = .ok (.lload 4, 2) := by decide +kernel
theorem dM_meet_42 : decode cM_meet 42 = .ok (.lload 6, 2) := by decide +kernel
theorem dM_meet_44 : decode cM_meet 44 = .ok (.invokestatic 107, 3) := by decide +kernel
theorem dM_meet_47 : decode cM_meet 47 = .ok (.ifCond .ne 19, 3) := by decide +kernel
theorem dM_meet_50 : decode cM_meet 50 = .ok (.lload 12, 2) := by decide +kernel
theorem dM_meet_52 : decode cM_meet 52 = .ok (.lload 14, 2) := by decide +kernel
theorem dM_meet_54 : decode cM_meet 54 = .ok (.lload_n 0, 1) := by decide +kernel
theorem dM_meet_55 : decode cM_meet 55 = .ok (.lload_n 2, 1) := by decide +kernel
theorem dM_meet_56 : decode cM_meet 56 = .ok (.lload 4, 2) := by decide +kernel
theorem dM_meet_58 : decode cM_meet 58 = .ok (.lload 6, 2) := by decide +kernel
theorem dM_meet_60 : decode cM_meet 60 = .ok (.invokestatic 107, 3) := by decide +kernel
theorem dM_meet_63 : decode cM_meet 63 = .ok (.ifCond .eq 7, 3) := by decide +kernel
theorem dM_meet_66 : decode cM_meet 66 = .ok (.iconst 1, 1) := by decide +kernel
theorem dM_meet_67 : decode cM_meet 67 = .ok (.goto 4, 3) := by decide +kernel
theorem dM_meet_70 : decode cM_meet 70 = .ok (.iconst 0, 1) := by decide +kernel
theorem dM_meet_71 : decode cM_meet 71 = .ok (.istore 16, 2) := by decide +kernel
theorem dM_meet_73 : decode cM_meet 73 = .ok (.lload_n 0, 1) := by decide +kernel
theorem dM_meet_74 : decode cM_meet 74 = .ok (.lload_n 2, 1) := by decide +kernel
theorem dM_meet_75 : decode cM_meet 75 = .ok (.lload 4, 2) := by decide +kernel
theorem dM_meet_77 : decode cM_meet 77 = .ok (.lload 6, 2) := by decide +kernel
theorem dM_meet_79 : decode cM_meet 79 = .ok (.lload 8, 2) := by decide +kernel
theorem dM_meet_81 : decode cM_meet 81 = .ok (.lload 10, 2) := by decide +kernel
theorem dM_meet_83 : decode cM_meet 83 = .ok (.invokestatic 103, 3) := by decide +kernel
theorem dM_meet_86 : decode cM_meet 86 = .ok (.lload_n 0, 1) := by decide +kernel
theorem dM_meet_87 : decode cM_meet 87 = .ok (.lload_n 2, 1) := by decide +kernel
theorem dM_meet_88 : decode cM_meet 88 = .ok (.lload 4, 2) := by decide +kernel
theorem dM_meet_90 : decode cM_meet 90 = .ok (.lload 6, 2) := by decide +kernel
theorem dM_meet_92 : decode cM_meet 92 = .ok (.lload 12, 2) := by decide +kernel
theorem dM_meet_94 : decode cM_meet 94 = .ok (.lload 14, 2) := by decide +kernel
theorem dM_meet_96 : decode cM_meet 96 = .ok (.invokestatic 103, 3) := by decide +kernel
theorem dM_meet_99 : decode cM_meet 99 = .ok (.imul, 1) := by decide +kernel
theorem dM_meet_100 : decode cM_meet 100 = .ok (.ifCond .ge 7, 3) := by decide +kernel
theorem dM_meet_103 : decode cM_meet 103 = .ok (.iconst 1, 1) := by decide +kernel
theorem dM_meet_104 : decode cM_meet 104 = .ok (.goto 4, 3) := by decide +kernel
theorem dM_meet_107 : decode cM_meet 107 = .ok (.iconst 0, 1) := by decide +kernel
theorem dM_meet_108 : decode cM_meet 108 = .ok (.istore 17, 2) := by decide +kernel
theorem dM_meet_110 : decode cM_meet 110 = .ok (.iload 16, 2) := by decide +kernel
theorem dM_meet_112 : decode cM_meet 112 = .ok (.ifCond .ne 40, 3) := by decide +kernel
theorem dM_meet_115 : decode cM_meet 115 = .ok (.iload 17, 2) := by decide +kernel
theorem dM_meet_117 : decode cM_meet 117 = .ok (.ifCond .eq 39, 3) := by decide +kernel
theorem dM_meet_120 : decode cM_meet 120 = .ok (.lload 8, 2) := by decide +kernel
theorem dM_meet_122 : decode cM_meet 122 = .ok (.lload 10, 2) := by decide +kernel
theorem dM_meet_124 : decode cM_meet 124 = .ok (.lload 12, 2) := by decide +kernel
theorem dM_meet_126 : decode cM_meet 126 = .ok (.lload 14, 2) := by decide +kernel
theorem dM_meet_128 : decode cM_meet 128 = .ok (.lload_n 0, 1) := by decide +kernel
theorem dM_meet_129 : decode cM_meet 129 = .ok (.lload_n 2, 1) := by decide +kernel
theorem dM_meet_130 : decode cM_meet 130 = .ok (.invokestatic 103, 3) := by decide +kernel
theorem dM_meet_133 : decode cM_meet 133 = .ok (.lload 8, 2) := by decide +kernel
theorem dM_meet_135 : decode cM_meet 135 = .ok (.lload 10, 2) := by decide +kernel
theorem dM_meet_137 : decode cM_meet 137 = .ok (.lload 12, 2) := by decide +kernel
theorem dM_meet_139 : decode cM_meet 139 = .ok (.lload 14, 2) := by decide +kernel
theorem dM_meet_141 : decode cM_meet 141 = .ok (.lload 4, 2) := by decide +kernel
theorem dM_meet_143 : decode cM_meet 143 = .ok (.lload 6, 2) := by decide +kernel
theorem dM_meet_145 : decode cM_meet 145 = .ok (.invokestatic 103, 3) := by decide +kernel
theorem dM_meet_148 : decode cM_meet 148 = .ok (.imul, 1) := by decide +kernel
theorem dM_meet_149 : decode cM_meet 149 = .ok (.ifCond .ge 7, 3) := by decide +kernel
theorem dM_meet_152 : decode cM_meet 152 = .ok (.iconst 1, 1) := by decide +kernel
theorem dM_meet_153 : decode cM_meet 153 = .ok (.goto 4, 3) := by decide +kernel
theorem dM_meet_156 : decode cM_meet 156 = .ok (.iconst 0, 1) := by decide +kernel
theorem dM_meet_157 : decode cM_meet 157 = .ok (.ireturn, 1) := by decide +kernel
def f_M_meet_j157 (s0 : Int32) : Option Int32 := rb s0
def f_M_meet_j156 : Option Int32 := (f_M_meet_j157 (0 : Int32))
def f_M_meet_j152 : Option Int32 := (f_M_meet_j157 (1 : Int32))
def f_M_meet_j108 (p0 : Int64) (p2 : Int64) (p4 : Int64) (p6 : Int64) (p8 : Int64) (p10 : Int64) (p12 : Int64) (p14 : Int64) (p16 : Int32) (s0 : Int32) : Option Int32 := (if p16 = 0 then (if s0 = 0 then f_M_meet_j156 else (f_M_turnOf p8 p10 p12 p14 p0 p2).bind fun u14 => (f_M_turnOf p8 p10 p12 p14 p4 p6).bind fun u15 => (if 0 ≤ (u14 * u15) then f_M_meet_j156 else f_M_meet_j152)) else f_M_meet_j152)
def f_M_meet_j71 (p0 : Int64) (p2 : Int64) (p4 : Int64) (p6 : Int64) (p8 : Int64) (p10 : Int64) (p12 : Int64) (p14 : Int64) (s0 : Int32) : Option Int32 := (f_M_turnOf p0 p2 p4 p6 p8 p10).bind fun u9 => (f_M_turnOf p0 p2 p4 p6 p12 p14).bind fun u10 => (if 0 ≤ (u9 * u10) then (f_M_meet_j108 p0 p2 p4 p6 p8 p10 p12 p14 s0 (0 : Int32)) else (f_M_meet_j108 p0 p2 p4 p6 p8 p10 p12 p14 s0 (1 : Int32)))
def f_M_meet_j66 (p0 : Int64) (p2 : Int64) (p4 : Int64) (p6 : Int64) (p8 : Int64) (p10 : Int64) (p12 : Int64) (p14 : Int64) : Option Int32 := (f_M_meet_j71 p0 p2 p4 p6 p8 p10 p12 p14 (1 : Int32))
def f_M_meet (x0 : Int64) (x2 : Int64) (x4 : Int64) (x6 : Int64) (x8 : Int64) (x10 : Int64) (x12 : Int64) (x14 : Int64) : Option Int32 := (f_M_isOn x0 x2 x8 x10 x12 x14).bind fun u1 => (if u1 = 0 then (f_M_isOn x4 x6 x8 x10 x12 x14).bind fun u3 => (if u3 = 0 then (f_M_isOn x8 x10 x0 x2 x4 x6).bind fun u5 => (if u5 = 0 then (f_M_isOn x12 x14 x0 x2 x4 x6).bind fun u7 => (if u7 = 0 then (f_M_meet_j71 x0 x2 x4 x6 x8 x10 x12 x14 (0 : Int32)) else (f_M_meet_j66 x0 x2 x4 x6 x8 x10 x12 x14)) else (f_M_meet_j66 x0 x2 x4 x6 x8 x10 x12 x14)) else (f_M_meet_j66 x0 x2 x4 x6 x8 x10 x12 x14)) else (f_M_meet_j66 x0 x2 x4 x6 x8 x10 x12 x14))
set_option maxHeartbeats 4000000 in
set_option maxRecDepth 100000 in
theorem k_M_meet (l : Launch) (dC : Nat → ClassId) (dI : Nat → Nat → Nat) (cL cI : ClassId) (x0 : Int64) (x2 : Int64) (x4 : Int64) (x6 : Int64) (x8 : Int64) (x10 : Int64) (x12 : Int64) (x14 : Int64) (r : Int32) (h : f_M_meet x0 x2 x4 x6 x8 x10 x12 x14 = some r) : Met l yM_meet wsM_meet ({ frames := 3, cells := 0, slots := 0, locals := 89 }) (rd_Pc [.long x0, .long x2, .long x4, .long x6, .long x8, .long x10, .long x12, .long x14] (fun _ => True) (dC, dI) cls3 [(cL, .long), (cI, .int)]) (vp_Si (fun z => z = r)) 0 0 (fun _ => False) := by
  refine Met.ofW (cc := cM_meet) (maxL := 18) (ret := (some .boolean)) (by decide) rfl ?_
  intro p e s m args below meth c s₁ B hml hv
  obtain ⟨rfl, hF, hK⟩ := hv
  have hx := B.exec
  have hb := B.bytes
  have hr := B.returns
  have hw : ∀ w ∈ wG, w.before ([.long x0, .long x2, .long x4, .long x6, .long x8, .long x10, .long x12, .long x14] : List Value).toArray s = true := fun w hq => atoms_spec (ws := wsM_meet) B.pre w (List.mem_cons_of_mem _ hq)
  have hown : s.vm.findClass R_M = some m.cls := findClass_of_methodNamed B.named
  have hlocks := B.notSynchronized
  have hl := lv_entry ([.long x0, .long x2, .long x4, .long x6, .long x8, .long x10, .long x12, .long x14] : List Value) (n := 18) (Nat.le_of_ble_eq_true rfl)
  rw [lg_entry_eq]
  generalize (lg_sl ([.long x0, .long x2, .long x4, .long x6, .long x8, .long x10, .long x12, .long x14] : List Value) ++ List.replicate (18 - (lg_sl ([.long x0, .long x2, .long x4, .long x6, .long x8, .long x10, .long x12, .long x14] : List Value)).length) Slot.unset).toArray = ls at hl ⊢
  have hl : lv_has ls 18 [(0, .long x0), (2, .long x2), (4, .long x4), (6, .long x6), (8, .long x8), (10, .long x10), (12, .long x12), (14, .long x14)] := hl
  have k157 : ∀ (s0 : Int32), f_M_meet_j157 s0 = some r →  ∀ (ls : Array Slot), lv_has ls 18 [] → W p l e (headSpec wsM_meet ({ frames := 3, cells := 0, slots := 0, locals := 89 })).room s m ([.long x0, .long x2, .long x4, .long x6, .long x8, .long x10, .long x12, .long x14] : List Value).toArray below meth c s.heap [] 0 0 (MQ below (vp_Si (fun z => z = r)) ([.long x0, .long x2, .long x4, .long x6, .long x8, .long x10, .long x12, .long x14] : List Value).toArray s 0 0 (fun _ => False)) (F0 m 157 ls [.int s0]) := by
    intro s0 h  ls hl
    unfold f_M_meet_j157 at h
    obtain ⟨hz, hr9⟩ := rb_of h
    exact W.zret hx hb hr hz (fun t ht hW => ⟨_, rfl, hr9, ht⟩) nil_locs dM_meet_157
  have k156 : f_M_meet_j156 = some r →  ∀ (ls : Array Slot), lv_has ls 18 [] → W p l e (headSpec wsM_meet ({ frames := 3, cells := 0, slots := 0, locals := 89 })).room s m ([.long x0, .long x2, .long x4, .long x6, .long x8, .long x10, .long x12, .long x14] : List Value).toArray below meth c s.heap [] 0 0 (MQ below (vp_Si (fun z => z = r)) ([.long x0, .long x2, .long x4, .long x6, .long x8, .long x10, .long x12, .long x14] : List Value).toArray s 0 0 (fun _ => False)) (F0 m 156 ls []) := by
    intro  h  ls hl
    unfold f_M_meet_j156 at h
    refine lv_iconst (v := 0) hx hb dM_meet_156 (by decide) ?_
    exact k157 (0 : Int32) h ls (lv_sub hl [] rfl)
  have k152 : f_M_meet_j152 = some r →  ∀ (ls : Array Slot), lv_has ls 18 [] → W p l e (headSpec wsM_meet ({ frames := 3, cells := 0, slots := 0, locals := 89 })).room s m ([.long x0, .long x2, .long x4, .long x6, .long x8, .long x10, .long x12, .long x14] : List Value).toArray below meth c s.heap [] 0 0 (MQ below (vp_Si (fun z => z = r)) ([.long x0, .long x2, .long x4, .long x6, .long x8, .long x10, .long x12, .long x14] : List Value).toArray s 0 0 (fun _ => False)) (F0 m 152 ls []) := by
    intro  h  ls hl
    unfold f_M_meet_j152 at h
    refine lv_iconst (v := 1) hx hb dM_meet_152 (by decide) ?_
    refine lv_goto (tgt := 157) hx hb dM_meet_153 (by decide) ?_
    exact k157 (1 : Int32) h ls (lv_sub hl [] rfl)
  have k108 : ∀ (p0 : Int64) (p2 : Int64) (p4 : Int64) (p6 : Int64) (p8 : Int64) (p10 : Int64) (p12 : Int64) (p14 : Int64) (p16 : Int32) (s0 : Int32), f_M_meet_j108 p0 p2 p4 p6 p8 p10 p12 p14 p16 s0 = some r →  ∀ (ls : Array Slot), lv_has ls 18 [(0, .long p0), (2, .long p2), (4, .long p4), (6, .long p6), (8, .long p8), (10, .long p10), (12, .long p12), (14, .long p14), (16, .int p16)] → W p l e (headSpec wsM_meet ({ frames := 3, cells := 0, slots := 0, locals := 89 })).room s m ([.long x0, .long x2, .long x4, .long x6, .long x8, .long x10, .long x12, .long x14] : List Value).toArray below meth c s.heap [] 0 0 (MQ below (vp_Si (fun z => z = r)) ([.long x0, .long x2, .long x4, .long x6, .long x8, .long x10, .long x12, .long x14] : List Value).toArray s 0 0 (fun _ => False)) (F0 m 108 ls [.int s0]) := by
    intro p0 p2 p4 p6 p8 p10 p12 p14 p16 s0 h  ls hl
    unfold f_M_meet_j108 at h
    refine lv_istore (lv' := [(17, .int s0), (0, .long p0), (2, .long p2), (4, .long p4), (6, .long p6), (8, .long p8), (10, .long p10), (12, .long p12), (14, .long p14), (16, .int p16)]) hx hb dM_meet_108 hl (by decide) rfl (fun ls hl => ?_)
    refine lv_iload hx hb dM_meet_110 (lv_at hl 9 rfl) ?_
    refine lv_if_ne (tgt := 152) hx hb dM_meet_112 (by decide) (fun c12 => ?_) (fun c12 => ?_)
    · have h := it_f c12 h
      exact k152 h ls (lv_sub hl [] rfl)
    · have h := it_t c12 h
      refine lv_iload hx hb dM_meet_115 (lv_at hl 0 rfl) ?_
      refine lv_if_eq (tgt := 156) hx hb dM_meet_117 (by decide) (fun c13 => ?_) (fun c13 => ?_)
      · have h := it_t c13 h
        exact k156 h ls (lv_sub hl [] rfl)
      · have h := it_f c13 h
        refine lv_lload hx hb dM_meet_120 (lv_at hl 5 rfl) ?_
        refine lv_lload hx hb dM_meet_122 (lv_at hl 6 rfl) ?_
        refine lv_lload hx hb dM_meet_124 (lv_at hl 7 rfl) ?_
        refine lv_lload hx hb dM_meet_126 (lv_at hl 8 rfl) ?_
        refine lv_lload_n hx hb dM_meet_128 rfl (lv_at hl 1 rfl) ?_
        refine lv_lload_n hx hb dM_meet_129 rfl (lv_at hl 2 rfl) ?_
        obtain ⟨u14, hu14, h⟩ := ob_some h
        refine vp_callSi (va_Run.run (va_runS (As := [.long p8, .long p10, .long p12, .long p14, .long p0, .long p2]) (rest := []) ⟨hx, hb, hml, hown, hw⟩ (k_M_turnOf l dC dI cL cI p8 p10 p12 p14 p0 p2 u14 hu14) (va_cwS 6 hw (gS w_558 w_559 w_2 w_560) rfl rfl rfl (by decide +kernel) ⟨Nat.le_of_ble_eq_true rfl, Nat.le_of_ble_eq_true rfl⟩) ⟨rd_blind, rd_pre trivial hK⟩ rfl rfl hl.1 rfl (lv_room (Nat.le_of_ble_eq_true rfl)) dM_meet_130 ⟨Nat.le_of_ble_eq_true rfl, Nat.le_of_ble_eq_true rfl⟩)) (fun z hz => ?_)
        rw [hz]; clear hz
        refine lv_lload hx hb dM_meet_133 (lv_at hl 5 rfl) ?_
        refine lv_lload hx hb dM_meet_135 (lv_at hl 6 rfl) ?_
        refine lv_lload hx hb dM_meet_137 (lv_at hl 7 rfl) ?_
        refine lv_lload hx hb dM_meet_139 (lv_at hl 8 rfl) ?_
        refine lv_lload hx hb dM_meet_141 (lv_at hl 3 rfl) ?_
        refine lv_lload hx hb dM_meet_143 (lv_at hl 4 rfl) ?_
        obtain ⟨u15, hu15, h⟩ := ob_some h
        refine vp_callSi (va_Run.run (va_runS (As := [.long p8, .long p10, .long p12, .long p14, .long p4, .long p6]) (rest := [.int u14]) ⟨hx, hb, hml, hown, hw⟩ (k_M_turnOf l dC dI cL cI p8 p10 p12 p14 p4 p6 u15 hu15) (va_cwS 6 hw (gS w_558 w_559 w_2 w_560) rfl rfl rfl (by decide +kernel) ⟨Nat.le_of_ble_eq_true rfl, Nat.le_of_ble_eq_true rfl⟩) ⟨rd_blind, rd_pre trivial hK⟩ rfl rfl hl.1 rfl (lv_room (Nat.le_of_ble_eq_true rfl)) dM_meet_145 ⟨Nat.le_of_ble_eq_true rfl, Nat.le_of_ble_eq_true rfl⟩)) (fun z hz => ?_)
        rw [hz]; clear hz
        refine lv_imul hx hb dM_meet_148 ?_
        refine lv_if_ge (tgt := 156) hx hb dM_meet_149 (by decide) (fun c16 => ?_) (fun c16 => ?_)
        · have h := it_t c16 h
          exact k156 h ls (lv_sub hl [] rfl)
        · have h := it_f c16 h
          exact k152 h ls (lv_sub hl [] rfl)
  have k71 : ∀ (p0 : Int64) (p2 : Int64) (p4 : Int64) (p6 : Int64) (p8 : Int64) (p10 : Int64) (p12 : Int64) (p14 : Int64) (s0 : Int32), f_M_meet_j71 p0 p2 p4 p6 p8 p10 p12 p14 s0 = some r →  ∀ (ls : Array Slot), lv_has ls 18 [(0, .long p0), (2, .long p2), (4, .long p4), (6, .long p6), (8, .long p8), (10, .long p10), (12, .long p12), (14, .long p14)] → W p l e (headSpec wsM_meet ({ frames := 3, cells := 0, slots := 0, locals := 89 })).room s m ([.long x0, .long x2, .long x4, .long x6, .long x8, .long x10, .long x12, .long x14] : List Value).toArray below meth c s.heap [] 0 0 (MQ below (vp_Si (fun z => z = r)) ([.long x0, .long x2, .long x4, .long x6, .long x8, .long x10, .long x12, .long x14] : List Value).toArray s 0 0 (fun _ => False)) (F0 m 71 ls [.int s0]) := by
    intro p0 p2 p4 p6 p8 p10 p12 p14 s0 h  ls hl
    unfold f_M_meet_j71 at h
    refine lv_istore (lv' := [(16, .int s0), (0, .long p0), (2, .long p2), (4, .long p4), (6, .long p6), (8, .long p8), (10, .long p10), (12, .long p12), (14, .long p14)]) hx hb dM_meet_71 hl (by decide) rfl (fun ls hl => ?_)
    refine lv_lload_n hx hb dM_meet_73 rfl (lv_at hl 1 rfl) ?_
    refine lv_lload_n hx hb dM_meet_74 rfl (lv_at hl 2 rfl) ?_
    refine lv_lload hx hb dM_meet_75 (lv_at hl 3 rfl) ?_
    refine lv_lload hx hb dM_meet_77 (lv_at hl 4 rfl) ?_
    refine lv_lload hx hb dM_meet_79 (lv_at hl 5 rfl) ?_
    refine lv_lload hx hb dM_meet_81 (lv_at hl 6 rfl) ?_
    obtain ⟨u9, hu9, h⟩ := ob_some h
    refine vp_callSi (va_Run.run (va_runS (As := [.long p0, .long p2, .long p4, .long p6, .long p8, .long p10]) (rest := []) ⟨hx, hb, hml, hown, hw⟩ (k_M_turnOf l dC dI cL cI p0 p2 p4 p6 p8 p10 u9 hu9) (va_cwS 6 hw (gS w_558 w_559 w_2 w_560) rfl rfl rfl (by decide +kernel) ⟨Nat.le_of_ble_eq_true rfl, Nat.le_of_ble_eq_true rfl⟩) ⟨rd_blind, rd_pre trivial hK⟩ rfl rfl hl.1 rfl (lv_room (Nat.le_of_ble_eq_true rfl)) dM_meet_83 ⟨Nat.le_of_ble_eq_true rfl, Nat.le_of_ble_eq_true rfl⟩)) (fun z hz => ?_)
    rw [hz]; clear hz
    refine lv_lload_n hx hb dM_meet_86 rfl (lv_at hl 1 rfl) ?_
    refine lv_lload_n hx hb dM_meet_87 rfl (lv_at hl 2 rfl) ?_
    refine lv_lload hx hb dM_meet_88 (lv_at hl 3 rfl) ?_
    refine lv_lload hx hb dM_meet_90 (lv_at hl 4 rfl) ?_
    refine lv_lload hx hb dM_meet_92 (lv_at hl 7 rfl) ?_
    refine lv_lload hx hb dM_meet_94 (lv_at hl 8 rfl) ?_
    obtain ⟨u10, hu10, h⟩ := ob_some h
    refine vp_callSi (va_Run.run (va_runS (As := [.long p0, .long p2, .long p4, .long p6, .long p12, .long p14]) (rest := [.int u9]) ⟨hx, hb, hml, hown, hw⟩ (k_M_turnOf l dC dI cL cI p0 p2 p4 p6 p12 p14 u10 hu10) (va_cwS 6 hw (gS w_558 w_559 w_2 w_560) rfl rfl rfl (by decide +kernel) ⟨Nat.le_of_ble_eq_true rfl, Nat.le_of_ble_eq_true rfl⟩) ⟨rd_blind, rd_pre trivial hK⟩ rfl rfl hl.1 rfl (lv_room (Nat.le_of_ble_eq_true rfl)) dM_meet_96 ⟨Nat.le_of_ble_eq_true rfl, Nat.le_of_ble_eq_true rfl⟩)) (fun z hz => ?_)
    rw [hz]; clear hz
    refine lv_imul hx hb dM_meet_99 ?_
    refine lv_if_ge (tgt := 107) hx hb dM_meet_100 (by decide) (fun c11 => ?_) (fun c11 => ?_)
    · have h := it_t c11 h
      refine lv_iconst (v := 0) hx hb dM_meet_107 (by decide) ?_
      exact k108 p0 p2 p4 p6 p8 p10 p12 p14 s0 (0 : Int32) h ls (lv_sub hl [1, 2, 3, 4, 5, 6, 7, 8, 0] rfl)
    · have h := it_f c11 h
      refine lv_iconst (v := 1) hx hb dM_meet_103 (by decide) ?_
      refine lv_goto (tgt := 108) hx hb dM_meet_104 (by decide) ?_
      exact k108 p0 p2 p4 p6 p8 p10 p12 p14 s0 (1 : Int32) h ls (lv_sub hl [1, 2, 3, 4, 5, 6, 7, 8, 0] rfl)
  have k66 : ∀ (p0 : Int64) (p2 : Int64) (p4 : Int64) (p6 : Int64) (p8 : Int64) (p10 : Int64) (p12 : Int64) (p14 : Int64), f_M_meet_j66 p0 p2 p4 p6 p8 p10 p12 p14 = some r →  ∀ (ls : Array Slot), lv_has ls 18 [(0, .long p0), (2, .long p2), (4, .long p4), (6, .long p6), (8, .long p8), (10, .long p10), (12, .long p12), (14, .long p14)] → W p l e (headSpec wsM_meet ({ frames := 3, cells := 0, slots := 0, locals := 89 })).room s m ([.long x0, .long x2, .long x4, .long x6, .long x8, .long x10, .long x12, .long x14] : List Value).toArray below meth c s.heap [] 0 0 (MQ below (vp_Si (fun z => z = r)) ([.long x0, .long x2, .long x4, .long x6, .long x8, .long x10, .long x12, .long x14] : List Value).toArray s 0 0 (fun _ => False)) (F0 m 66 ls []) := by
    intro p0 p2 p4 p6 p8 p10 p12 p14 h  ls hl
    unfold f_M_meet_j66 at h
    refine lv_iconst (v := 1) hx hb dM_meet_66 (by decide) ?_
    refine lv_goto (tgt := 71) hx hb dM_meet_67 (by decide) ?_
    exact k71 p0 p2 p4 p6 p8 p10 p12 p14 (1 : Int32) h ls (lv_sub hl [0, 1, 2, 3, 4, 5, 6, 7] rfl)
  unfold f_M_meet at h
  refine lv_lload_n hx hb dM_meet_0 rfl (lv_at hl 0 rfl) ?_
  refine lv_lload_n hx hb dM_meet_1 rfl (lv_at hl 1 rfl) ?_
  refine lv_lload hx hb dM_meet_2 (lv_at hl 4 rfl) ?_
  refine lv_lload hx hb dM_meet_4 (lv_at hl 5 rfl) ?_
  refine lv_lload hx hb dM_meet_6 (lv_at hl 6 rfl) ?_
  refine lv_lload hx hb dM_meet_8 (lv_at hl 7 rfl) ?_
  obtain ⟨u1, hu1, h⟩ := ob_some h
  refine vp_callSi (va_Run.run (va_runS (As := [.long x0, .long x2, .long x8, .long x10, .long x12, .long x14]) (rest := []) ⟨hx, hb, hml, hown, hw⟩ (k_M_isOn l dC dI cL cI x0 x2 x8 x10 x12 x14 u1 hu1) (va_cwS 6 hw (gS w_578 w_579 w_2 w_580) rfl rfl rfl (by decide +kernel) ⟨Nat.le_of_ble_eq_true rfl, Nat.le_of_ble_eq_true rfl⟩) ⟨rd_blind, rd_pre trivial hK⟩ rfl rfl hl.1 rfl (lv_room (Nat.le_of_ble_eq_true rfl)) dM_meet_10 ⟨Nat.le_of_ble_eq_true rfl, Nat.le_of_ble_eq_true rfl⟩)) (fun z hz => ?_)
  rw [hz]; clear hz
  refine lv_if_ne (tgt := 66) hx hb dM_meet_13 (by decide) (fun c2 => ?_) (fun c2 => ?_)
  · have h := it_f c2 h
    exact k66 x0 x2 x4 x6 x8 x10 x12 x14 h ls (lv_sub hl [0, 1, 2, 3, 4, 5, 6, 7] rfl)
  · have h := it_t c2 h
    refine lv_lload hx hb dM_meet_16 (lv_at hl 2 rfl) ?_
    refine lv_lload hx hb dM_meet_18 (lv_at hl 3 rfl) ?_
    refine lv_lload hx hb dM_meet_20 (lv_at hl 4 rfl) ?_
    refine lv_lload hx hb dM_meet_22 (lv_at hl 5 rfl) ?_
    refine lv_lload hx hb dM_meet_24 (lv_at hl 6 rfl) ?_
    refine lv_lload hx hb dM_meet_26 (lv_at hl 7 rfl) ?_
    obtain ⟨u3, hu3, h⟩ := ob_some h
    refine vp_callSi (va_Run.run (va_runS (As := [.long x4, .long x6, .long x8, .long x10, .long x12, .long x14]) (rest := []) ⟨hx, hb, hml, hown, hw⟩ (k_M_isOn l dC dI cL cI x4 x6 x8 x10 x12 x14 u3 hu3) (va_cwS 6 hw (gS w_578 w_579 w_2 w_580) rfl rfl rfl (by decide +kernel) ⟨Nat.le_of_ble_eq_true rfl, Nat.le_of_ble_eq_true rfl⟩) ⟨rd_blind, rd_pre trivial hK⟩ rfl rfl hl.1 rfl (lv_room (Nat.le_of_ble_eq_true rfl)) dM_meet_28 ⟨Nat.le_of_ble_eq_true rfl, Nat.le_of_ble_eq_true rfl⟩)) (fun z hz => ?_)
    rw [hz]; clear hz
    refine lv_if_ne (tgt := 66) hx hb dM_meet_31 (by decide) (fun c4 => ?_) (fun c4 => ?_)
    · have h := it_f c4 h
      exact k66 x0 x2 x4 x6 x8 x10 x12 x14 h ls (lv_sub hl [0, 1, 2, 3, 4, 5, 6, 7] rfl)
    · have h := it_t c4 h
      refine lv_lload hx hb dM_meet_34 (lv_at hl 4 rfl) ?_
      refine lv_lload hx hb dM_meet_36 (lv_at hl 5 rfl) ?_
      refine lv_lload_n hx hb dM_meet_38 rfl (lv_at hl 0 rfl) ?_
      refine lv_lload_n hx hb dM_meet_39 rfl (lv_at hl 1 rfl) ?_
      refine lv_lload hx hb dM_meet_40 (lv_at hl 2 rfl) ?_
      refine lv_lload hx hb dM_meet_42 (lv_at hl 3 rfl) ?_
      obtain ⟨u5, hu5, h⟩ := ob_some h
      refine vp_callSi (va_Run.run (va_runS (As := [.long x8, .long x10, .long x0, .long x2, .long x4, .long x6]) (rest := []) ⟨hx, hb, hml, hown, hw⟩ (k_M_isOn l dC dI cL cI x8 x10 x0 x2 x4 x6 u5 hu5) (va_cwS 6 hw (gS w_578 w_579 w_2 w_580) rfl rfl rfl (by decide +kernel) ⟨Nat.le_of_ble_eq_true rfl, Nat.le_of_ble_eq_true rfl⟩) ⟨rd_blind, rd_pre trivial hK⟩ rfl rfl hl.1 rfl (lv_room (Nat.le_of_ble_eq_true rfl)) dM_meet_44 ⟨Nat.le_of_ble_eq_true rfl, Nat.le_of_ble_eq_true rfl⟩)) (fun z hz => ?_)
      rw [hz]; clear hz
      refine lv_if_ne (tgt := 66) hx hb dM_meet_47 (by decide) (fun c6 => ?_) (fun c6 => ?_)
      · have h := it_f c6 h
        exact k66 x0 x2 x4 x6 x8 x10 x12 x14 h ls (lv_sub hl [0, 1, 2, 3, 4, 5, 6, 7] rfl)
      · have h := it_t c6 h
        refine lv_lload hx hb dM_meet_50 (lv_at hl 6 rfl) ?_
        refine lv_lload hx hb dM_meet_52 (lv_at hl 7 rfl) ?_
        refine lv_lload_n hx hb dM_meet_54 rfl (lv_at hl 0 rfl) ?_
        refine lv_lload_n hx hb dM_meet_55 rfl (lv_at hl 1 rfl) ?_
        refine lv_lload hx hb dM_meet_56 (lv_at hl 2 rfl) ?_
        refine lv_lload hx hb dM_meet_58 (lv_at hl 3 rfl) ?_
        obtain ⟨u7, hu7, h⟩ := ob_some h
        refine vp_callSi (va_Run.run (va_runS (As := [.long x12, .long x14, .long x0, .long x2, .long x4, .long x6]) (rest := []) ⟨hx, hb, hml, hown, hw⟩ (k_M_isOn l dC dI cL cI x12 x14 x0 x2 x4 x6 u7 hu7) (va_cwS 6 hw (gS w_578 w_579 w_2 w_580) rfl rfl rfl (by decide +kernel) ⟨Nat.le_of_ble_eq_true rfl, Nat.le_of_ble_eq_true rfl⟩) ⟨rd_blind, rd_pre trivial hK⟩ rfl rfl hl.1 rfl (lv_room (Nat.le_of_ble_eq_true rfl)) dM_meet_60 ⟨Nat.le_of_ble_eq_true rfl, Nat.le_of_ble_eq_true rfl⟩)) (fun z hz => ?_)
        rw [hz]; clear hz
        refine lv_if_eq (tgt := 70) hx hb dM_meet_63 (by decide) (fun c8 => ?_) (fun c8 => ?_)
        · have h := it_t c8 h
          refine lv_iconst (v := 0) hx hb dM_meet_70 (by decide) ?_
          exact k71 x0 x2 x4 x6 x8 x10 x12 x14 (0 : Int32) h ls (lv_sub hl [0, 1, 2, 3, 4, 5, 6, 7] rfl)
        · have h := it_f c8 h
          exact k66 x0 x2 x4 x6 x8 x10 x12 x14 h ls (lv_sub hl [0, 1, 2, 3, 4, 5, 6, 7] rfl)
theorem dM_x_0 : decode cM_x 0 = .ok (.aload_n 0, 1) := by decide +kernel
theorem dM_x_1 : decode cM_x 1 = .ok (.getfield 17, 3) := by decide +kernel
theorem dM_x_4 : decode cM_x 4 = .ok (.bipush 48, 2) := by decide +kernel
theorem dM_x_6 : decode cM_x 6 = .ok (.iload_n 1, 1) := by decide +kernel
theorem dM_x_7 : decode cM_x 7 = .ok (.imul, 1) := by decide +kernel
theorem dM_x_8 : decode cM_x 8 = .ok (.iload_n 2, 1) := by decide +kernel
theorem dM_x_9 : decode cM_x 9 = .ok (.iadd, 1) := by decide +kernel
theorem dM_x_10 : decode cM_x 10 = .ok (.laload, 1) := by decide +kernel
theorem dM_x_11 : decode cM_x 11 = .ok (.lreturn, 1) := by decide +kernel
def f_M_x (v : MV) (x1 : Int32) (x2 : Int32) : Option Int64 := (ld 1920 (md_cornerX v) (((48 : Int32) * x1) + x2)).bind fun u1 => some u1
set_option maxHeartbeats 4000000 in
set_option maxRecDepth 100000 in
theorem k_M_x (l : Launch) (dC : Nat → ClassId) (dI : Nat → Nat → Nat) (cL cI : ClassId) (qm : Nat → Nat) (v : MV) (x1 : Int32) (x2 : Int32) (r : Int64) (h : f_M_x v x1 x2 = some r) : Met l yM_x wsM_x ({ frames := 0, cells := 0, slots := 0, locals := 0 }) (rd_Pc [.ref (qm 0), .int x1, .int x2] (fun H => va_P (dC, dI) cls3 (mdW cL cI qm v) H) (dC, dI) cls3 [(cL, .long), (cI, .int)]) (vp_Sl (fun z => z = r)) 0 0 (fun _ => False) := by
  refine Met.ofW (cc := cM_x) (maxL := 3) (ret := (some .long)) (by decide) rfl ?_
  intro p e s m args below meth c s₁ B hml hv
  obtain ⟨rfl, hPm, hK⟩ := hv
  have hx := B.exec
  have hb := B.bytes
  have hr := B.returns
  have hw : ∀ w ∈ wG, w.before ([.ref (qm 0), .int x1, .int x2] : List Value).toArray s = true := fun w hq => atoms_spec (ws := wsM_x) B.pre w (List.mem_cons_of_mem _ hq)
  have hown : s.vm.findClass R_M = some m.cls := findClass_of_methodNamed B.named
  have hlocks := B.notSynchronized
  have hl := lv_entry ([.ref (qm 0), .int x1, .int x2] : List Value) (n := 3) (Nat.le_of_ble_eq_true rfl)
  rw [lg_entry_eq]
  generalize (lg_sl ([.ref (qm 0), .int x1, .int x2] : List Value) ++ List.replicate (3 - (lg_sl ([.ref (qm 0), .int x1, .int x2] : List Value)).length) Slot.unset).toArray = ls at hl ⊢
  have hl : lv_has ls 3 [(0, .ref (qm 0)), (1, .int x1), (2, .int x2)] := hl
  unfold f_M_x at h
  refine lv_aload_n hx hb dM_x_0 rfl (lv_at hl 0 rfl) ?_
  refine va_get (D := (dC, dI)) (ci := 2) (v := .ref (qm 3)) (C := R_M) (T := T_M) (N := 15) hx hb hw in_M hown hK hPm 0 rfl rfl 4 (by decide) (hw _ w_449) (fun _ h9 => h9) rfl dM_x_1 ?_
  refine lv_bipush (v := 48) hx hb dM_x_4 (by decide) ?_
  refine lv_iload_n hx hb dM_x_6 rfl (lv_at hl 1 rfl) ?_
  refine lv_imul hx hb dM_x_7 ?_
  refine lv_iload_n hx hb dM_x_8 rfl (lv_at hl 2 rfl) ?_
  refine lv_iadd hx hb dM_x_9 ?_
  obtain ⟨u1, hu1, h⟩ := ob_some h
  obtain ⟨hiu1, eu1⟩ := ld_of hu1
  refine va_lald hx hb hK hPm 3 0 rfl rfl hiu1 dM_x_10 ?_
  rw [eu1]
  exact W.lret hx hb hr (fun t ht hW => ⟨_, rfl, Option.some.inj h, ht⟩) nil_locs dM_x_11
theorem dM_y_0 : decode cM_y 0 = .ok (.aload_n 0, 1) := by decide +kernel
theorem dM_y_1 : decode cM_y 1 = .ok (.getfield 20, 3) := by decide +kernel
theorem dM_y_4 : decode cM_y 4 = .ok (.bipush 48, 2) := by decide +kernel
theorem dM_y_6 : decode cM_y 6 = .ok (.iload_n 1, 1) := by decide +kernel
theorem dM_y_7 : decode cM_y 7 = .ok (.imul, 1) := by decide +kernel
theorem dM_y_8 : decode cM_y 8 = .ok (.iload_n 2, 1) := by decide +kernel
theorem dM_y_9 : decode cM_y 9 = .ok (.iadd, 1) := by decide +kernel
theorem dM_y_10 : decode cM_y 10 = .ok (.laload, 1) := by decide +kernel
theorem dM_y_11 : decode cM_y 11 = .ok (.lreturn, 1) := by decide +kernel
def f_M_y (v : MV) (x1 : Int32) (x2 : Int32) : Option Int64 := (ld 1920 (md_cornerY v) (((48 : Int32) * x1) + x2)).bind fun u1 => some u1
set_option maxHeartbeats 4000000 in
set_option maxRecDepth 100000 in
theorem k_M_y (l : Launch) (dC : Nat → ClassId) (dI : Nat → Nat → Nat) (cL cI : ClassId) (qm : Nat → Nat) (v : MV) (x1 : Int32) (x2 : Int32) (r : Int64) (h : f_M_y v x1 x2 = some r) : Met l yM_y wsM_y ({ frames := 0, cells := 0, slots := 0, locals := 0 }) (rd_Pc [.ref (qm 0), .int x1, .int x2] (fun H => va_P (dC, dI) cls3 (mdW cL cI qm v) H) (dC, dI) cls3 [(cL, .long), (cI, .int)]) (vp_Sl (fun z => z = r)) 0 0 (fun _ => False) := by
  refine Met.ofW (cc := cM_y) (maxL := 3) (ret := (some .long)) (by decide) rfl ?_
  intro p e s m args below meth c s₁ B hml hv
  obtain ⟨rfl, hPm, hK⟩ := hv
  have hx := B.exec
  have hb := B.bytes
  have hr := B.returns
  have hw : ∀ w ∈ wG, w.before ([.ref (qm 0), .int x1, .int x2] : List Value).toArray s = true := fun w hq => atoms_spec (ws := wsM_y) B.pre w (List.mem_cons_of_mem _ hq)
  have hown : s.vm.findClass R_M = some m.cls := findClass_of_methodNamed B.named
  have hlocks := B.notSynchronized
  have hl := lv_entry ([.ref (qm 0), .int x1, .int x2] : List Value) (n := 3) (Nat.le_of_ble_eq_true rfl)
  rw [lg_entry_eq]
  generalize (lg_sl ([.ref (qm 0), .int x1, .int x2] : List Value) ++ List.replicate (3 - (lg_sl ([.ref (qm 0), .int x1, .int x2] : List Value)).length) Slot.unset).toArray = ls at hl ⊢
  have hl : lv_has ls 3 [(0, .ref (qm 0)), (1, .int x1), (2, .int x2)] := hl
  unfold f_M_y at h
  refine lv_aload_n hx hb dM_y_0 rfl (lv_at hl 0 rfl) ?_
  refine va_get (D := (dC, dI)) (ci := 2) (v := .ref (qm 4)) (C := R_M) (T := T_M) (N := 15) hx hb hw in_M hown hK hPm 0 rfl rfl 5 (by decide) (hw _ w_450) (fun _ h9 => h9) rfl dM_y_1 ?_
  refine lv_bipush (v := 48) hx hb dM_y_4 (by decide) ?_
  refine lv_iload_n hx hb dM_y_6 rfl (lv_at hl 1 rfl) ?_
  refine lv_imul hx hb dM_y_7 ?_
  refine lv_iload_n hx hb dM_y_8 rfl (lv_at hl 2 rfl) ?_
  refine lv_iadd hx hb dM_y_9 ?_
  obtain ⟨u1, hu1, h⟩ := ob_some h
  obtain ⟨hiu1, eu1⟩ := ld_of hu1
  refine va_lald hx hb hK hPm 4 0 rfl rfl hiu1 dM_y_10 ?_
  rw [eu1]
  exact W.lret hx hb hr (fun t ht hW => ⟨_, rfl, Option.some.inj h, ht⟩) nil_locs dM_y_11
theorem dM_behind_0 : decode cM_behind 0 = .ok (.iload_n 0, 1) := by decide +kernel
theorem dM_behind_1 : decode cM_behind 1 = .ok (.iconst 1, 1) := by decide +kernel
theorem dM_behind_2 : decode cM_behind 2 = .ok (.iadd, 1) := by decide +kernel
theorem dM_behind_3 : decode cM_behind 3 = .ok (.iload_n 2, 1) := by decide +kernel
theorem dM_behind_4 : decode cM_behind 4 = .ok (.if_icmp .ge 9, 3) := by decide +kernel
theorem dM_behind_7 : decode cM_behind 7 = .ok (.iload_n 0, 1) := by decide +kernel
theorem dM_behind_8 : decode cM_behind 8 = .ok (.iconst 1, 1) := by decide +kernel
theorem dM_behind_9 : decode cM_behind 9 = .ok (.iadd, 1) := by decide +kernel
theorem dM_behind_10 : decode cM_behind 10 = .ok (.goto 4, 3) := by decide +kernel
theorem dM_behind_13 : decode cM_behind 13 = .ok (.iload_n 1, 1) := by decide +kernel
theorem dM_behind_14 : decode cM_behind 14 = .ok (.ireturn, 1) := by decide +kernel
def f_M_behind_j14 (s0 : Int32) : Option Int32 := some s0
def f_M_behind (x0 : Int32) (x1 : Int32) (x2 : Int32) : Option Int32 := (if x2 ≤ (x0 + (1 : Int32)) then (f_M_behind_j14 x1) else (f_M_behind_j14 (x0 + (1 : Int32))))
set_option maxHeartbeats 4000000 in
set_option maxRecDepth 100000 in
theorem k_M_behind (l : Launch) (dC : Nat → ClassId) (dI : Nat → Nat → Nat) (cL cI : ClassId) (x0 : Int32) (x1 : Int32) (x2 : Int32) (r : Int32) (h : f_M_behind x0 x1 x2 = some r) : Met l yM_behind wsM_behind ({ frames := 0, cells := 0, slots := 0, locals := 0 }) (rd_Pc [.int x0, .int x1, .int x2] (fun _ => True) (dC, dI) cls3 [(cL, .long), (cI, .int)]) (vp_Si (fun z => z = r)) 0 0 (fun _ => False) := by
  refine Met.ofW (cc := cM_behind) (maxL := 3) (ret := (some .int)) (by decide) rfl ?_
  intro p e s m args below meth c s₁ B hml hv
  obtain ⟨rfl, hF, hK⟩ := hv
  have hx := B.exec
  have hb := B.bytes
  have hr := B.returns
  have hw : ∀ w ∈ wG, w.before ([.int x0, .int x1, .int x2] : List Value).toArray s = true := fun w hq => atoms_spec (ws := wsM_behind) B.pre w (List.mem_cons_of_mem _ hq)
  have hown : s.vm.findClass R_M = some m.cls := findClass_of_methodNamed B.named
  have hlocks := B.notSynchronized
  have hl := lv_entry ([.int x0, .int x1, .int x2] : List Value) (n := 3) (Nat.le_of_ble_eq_true rfl)
  rw [lg_entry_eq]
  generalize (lg_sl ([.int x0, .int x1, .int x2] : List Value) ++ List.replicate (3 - (lg_sl ([.int x0, .int x1, .int x2] : List Value)).length) Slot.unset).toArray = ls at hl ⊢
  have hl : lv_has ls 3 [(0, .int x0), (1, .int x1), (2, .int x2)] := hl
  have k14 : ∀ (s0 : Int32), f_M_behind_j14 s0 = some r →  ∀ (ls : Array Slot), lv_has ls 3 [] → W p l e (headSpec wsM_behind ({ frames := 0, cells := 0, slots := 0, locals := 0 })).room s m ([.int x0, .int x1, .int x2] : List Value).toArray below meth c s.heap [] 0 0 (MQ below (vp_Si (fun z => z = r)) ([.int x0, .int x1, .int x2] : List Value).toArray s 0 0 (fun _ => False)) (F0 m 14 ls [.int s0]) := by
    intro s0 h  ls hl
    unfold f_M_behind_j14 at h
    exact W.iret hx hb hr (fun t ht hW => ⟨_, rfl, Option.some.inj h, ht⟩) nil_locs dM_behind_14
  unfold f_M_behind at h
  refine lv_iload_n hx hb dM_behind_0 rfl (lv_at hl 0 rfl) ?_
  refine lv_iconst (v := 1) hx hb dM_behind_1 (by decide) ?_
  refine lv_iadd hx hb dM_behind_2 ?_
  refine lv_iload_n hx hb dM_behind_3 rfl (lv_at hl 2 rfl) ?_
  refine lv_icmp_ge (tgt := 13) hx hb dM_behind_4 (by decide) (fun c1 => ?_) (fun c1 => ?_)
  · have h := it_t c1 h
    refine lv_iload_n hx hb dM_behind_13 rfl (lv_at hl 1 rfl) ?_
    exact k14 x1 h ls (lv_sub hl [] rfl)
  · have h := it_f c1 h
    refine lv_iload_n hx hb dM_behind_7 rfl (lv_at hl 0 rfl) ?_
    refine lv_iconst (v := 1) hx hb dM_behind_8 (by decide) ?_
    refine lv_iadd hx hb dM_behind_9 ?_
    refine lv_goto (tgt := 14) hx hb dM_behind_10 (by decide) ?_
    exact k14 (x0 + (1 : Int32)) h ls (lv_sub hl [] rfl)
