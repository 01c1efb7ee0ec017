/-! ShapeForms: isPlace, isLength -/
theorem dF_isPlace_0 : decode cF_isPlace 0 = .ok (.lload_n 0, 1) := by decide +kernel
theorem dF_isPlace_1 : decode cF_isPlace 1 = .ok (.ldc2_w 139, 3) := by decide +kernel
theorem dF_isPlace_4 : decode cF_isPlace 4 = .ok (.lcmp, 1) := by decide +kernel
theorem dF_isPlace_5 : decode cF_isPlace 5 = .ok (.ifCond .lt 31, 3) := by decide +kernel
theorem dF_isPlace_8 : decode cF_isPlace 8 = .ok (.lload_n 0, 1) := by decide +kernel
theorem dF_isPlace_9 : decode cF_isPlace 9 = .ok (.ldc2_w 141, 3) := by decide +kernel
theorem dF_isPlace_12 : decode cF_isPlace 12 = .ok (.lcmp, 1) := by decide +kernel
theorem dF_isPlace_13 : decode cF_isPlace 13 = .ok (.ifCond .gt 23, 3) := by decide +kernel
theorem dF_isPlace_16 : decode cF_isPlace 16 = .ok (.lload_n 2, 1) := by decide +kernel
theorem dF_isPlace_17 : decode cF_isPlace 17 = .ok (.ldc2_w 139, 3) := by decide +kernel
theorem dF_isPlace_20 : decode cF_isPlace 20 = .ok (.lcmp, 1) := by decide +kernel
theorem dF_isPlace_21 : decode cF_isPlace 21 = .ok (.ifCond .lt 15, 3) := by decide +kernel
theorem dF_isPlace_24 : decode cF_isPlace 24 = .ok (.lload_n 2, 1) := by decide +kernel
theorem dF_isPlace_25 : decode cF_isPlace 25 = .ok (.ldc2_w 141, 3) := by decide +kernel
theorem dF_isPlace_28 : decode cF_isPlace 28 = .ok (.lcmp, 1) := by decide +kernel
theorem dF_isPlace_29 : decode cF_isPlace 29 = .ok (.ifCond .gt 7, 3) := by decide +kernel
theorem dF_isPlace_32 : decode cF_isPlace 32 = .ok (.iconst 1, 1) := by decide +kernel
theorem dF_isPlace_33 : decode cF_isPlace 33 = .ok (.goto 4, 3) := by decide +kernel
theorem dF_isPlace_36 : decode cF_isPlace 36 = .ok (.iconst 0, 1) := by decide +kernel
theorem dF_isPlace_37 : decode cF_isPlace 37 = .ok (.ireturn, 1) := by decide +kernel
def f_F_isPlace_j37 (s0 : Int32) : Option Int32 := rb s0
def f_F_isPlace_j36 : Option Int32 := (f_F_isPlace_j37 (0 : Int32))
def f_F_isPlace (x0 : Int64) (x2 : Int64) : Option Int32 := (if (lg_cmp x0 (-500000000 : Int64)) < 0 then f_F_isPlace_j36 else (if 0 < (lg_cmp x0 (500000000 : Int64)) then f_F_isPlace_j36 else (if (lg_cmp x2 (-500000000 : Int64)) < 0 then f_F_isPlace_j36 else (if 0 < (lg_cmp x2 (500000000 : Int64)) then f_F_isPlace_j36 else (f_F_isPlace_j37 (1 : Int32))))))
set_option maxHeartbeats 4000000 in
set_option maxRecDepth 100000 in
theorem k_F_isPlace (l : Launch) (dC : Nat → ClassId) (dI : Nat → Nat → Nat) (cL cI : ClassId) (x0 : Int64) (x2 : Int64) (r : Int32) (h : f_F_isPlace x0 x2 = some r) : Met l yF_isPlace wsF_isPlace ({ frames := 0, cells := 0, slots := 0, locals := 0 }) (rd_Pc [.long x0, .long x2] (fun _ => True) (dC, dI) cls3 [(cL, .long), (cI, .int)]) (vp_Si (fun z => z = r)) 0 0 (fun _ => False) := by
  refine Met.ofW (cc := cF_isPlace) (maxL := 4) (ret := (some .boolean)) (by decide) rfl ?_
  intro p e s m args below meth c s₁ B hml hv
  obtain ⟨rfl, hF, hK⟩ := hv
  have hx := B.exec
  have hb := B.bytes
  have hr := B.returns
  have hw : ∀ w ∈ wG, w.before ([.long x0, .long x2] : List Value).toArray s = true := fun w hq => atoms_spec (ws := wsF_isPlace) B.pre w (List.mem_cons_of_mem _ hq)
  have hown : s.vm.findClass R_F = some m.cls := findClass_of_methodNamed B.named
  have hlocks := B.notSynchronized
  have hl := lv_entry ([.long x0, .long x2] : List Value) (n := 4) (Nat.le_of_ble_eq_true rfl)
  rw [lg_entry_eq]
  generalize (lg_sl ([.long x0, .long x2] : List Value) ++ List.replicate (4 - (lg_sl ([.long x0, .long x2] : List Value)).length) Slot.unset).toArray = ls at hl ⊢
  have hl : lv_has ls 4 [(0, .long x0), (2, .long x2)] := hl
  have k37 : ∀ (s0 : Int32), f_F_isPlace_j37 s0 = some r →  ∀ (ls : Array Slot), lv_has ls 4 [] → W p l e (headSpec wsF_isPlace ({ frames := 0, cells := 0, slots := 0, locals := 0 })).room s m ([.long x0, .long x2] : List Value).toArray below meth c s.heap [] 0 0 (MQ below (vp_Si (fun z => z = r)) ([.long x0, .long x2] : List Value).toArray s 0 0 (fun _ => False)) (F0 m 37 ls [.int s0]) := by
    intro s0 h  ls hl
    unfold f_F_isPlace_j37 at h
    obtain ⟨hz, hr9⟩ := rb_of h
    exact W.zret hx hb hr hz (fun t ht hW => ⟨_, rfl, hr9, ht⟩) nil_locs dF_isPlace_37
  have k36 : f_F_isPlace_j36 = some r →  ∀ (ls : Array Slot), lv_has ls 4 [] → W p l e (headSpec wsF_isPlace ({ frames := 0, cells := 0, slots := 0, locals := 0 })).room s m ([.long x0, .long x2] : List Value).toArray below meth c s.heap [] 0 0 (MQ below (vp_Si (fun z => z = r)) ([.long x0, .long x2] : List Value).toArray s 0 0 (fun _ => False)) (F0 m 36 ls []) := by
    intro  h  ls hl
    unfold f_F_isPlace_j36 at h
    refine lv_iconst (v := 0) hx hb dF_isPlace_36 (by decide) ?_
    exact k37 (0 : Int32) h ls (lv_sub hl [] rfl)
  unfold f_F_isPlace at h
  refine lv_lload_n hx hb dF_isPlace_0 rfl (lv_at hl 0 rfl) ?_
  refine lv_ldc2 (v := (-500000000)) hx hb hown (hw _ w_92) dF_isPlace_1 ?_
  refine W.lcmp hx hb dF_isPlace_4 ?_
  refine lv_if_lt (tgt := 36) hx hb dF_isPlace_5 (by decide) (fun c1 => ?_) (fun c1 => ?_)
  · have h := it_t c1 h
    exact k36 h ls (lv_sub hl [] rfl)
  · have h := it_f c1 h
    refine lv_lload_n hx hb dF_isPlace_8 rfl (lv_at hl 0 rfl) ?_
    refine lv_ldc2 (v := 500000000) hx hb hown (hw _ w_93) dF_isPlace_9 ?_
    refine W.lcmp hx hb dF_isPlace_12 ?_
    refine lv_if_gt (tgt := 36) hx hb dF_isPlace_13 (by decide) (fun c2 => ?_) (fun c2 => ?_)
    · have h := it_t c2 h
      exact k36 h ls (lv_sub hl [] rfl)
    · have h := it_f c2 h
      refine lv_lload_n hx hb dF_isPlace_16 rfl (lv_at hl 1 rfl) ?_
      refine lv_ldc2 (v := (-500000000)) hx hb hown (hw _ w_92) dF_isPlace_17 ?_
      refine W.lcmp hx hb dF_isPlace_20 ?_
      refine lv_if_lt (tgt := 36) hx hb dF_isPlace_21 (by decide) (fun c3 => ?_) (fun c3 => ?_)
      · have h := it_t c3 h
        exact k36 h ls (lv_sub hl [] rfl)
      · have h := it_f c3 h
        refine lv_lload_n hx hb dF_isPlace_24 rfl (lv_at hl 1 rfl) ?_
        refine lv_ldc2 (v := 500000000) hx hb hown (hw _ w_93) dF_isPlace_25 ?_
        refine W.lcmp hx hb dF_isPlace_28 ?_
        refine lv_if_gt (tgt := 36) hx hb dF_isPlace_29 (by decide) (fun c4 => ?_) (fun c4 => ?_)
        · have h := it_t c4 h
          exact k36 h ls (lv_sub hl [] rfl)
        · have h := it_f c4 h
          refine lv_iconst (v := 1) hx hb dF_isPlace_32 (by decide) ?_
          refine lv_goto (tgt := 37) hx hb dF_isPlace_33 (by decide) ?_
          exact k37 (1 : Int32) h ls (lv_sub hl [] rfl)
theorem dF_isLength_0 : decode cF_isLength 0 = .ok (.lload_n 0, 1) := by decide +kernel
theorem dF_isLength_1 : decode cF_isLength 1 = .ok (.lconst 0, 1) := by decide +kernel
theorem dF_isLength_2 : decode cF_isLength 2 = .ok (.lcmp, 1) := by decide +kernel
theorem dF_isLength_3 : decode cF_isLength 3 = .ok (.ifCond .lt 15, 3) := by decide +kernel
theorem dF_isLength_6 : decode cF_isLength 6 = .ok (.lload_n 0, 1) := by decide +kernel
theorem dF_isLength_7 : decode cF_isLength 7 = .ok (.ldc2_w 82, 3) := by decide +kernel
theorem dF_isLength_10 : decode cF_isLength 10 = .ok (.lcmp, 1) := by decide +kernel
theorem dF_isLength_11 : decode cF_isLength 11 = .ok (.ifCond .gt 7, 3) := by decide +kernel
theorem dF_isLength_14 : decode cF_isLength 14 = .ok (.iconst 1, 1) := by decide +kernel
theorem dF_isLength_15 : decode cF_isLength 15 = .ok (.goto 4, 3) := by decide +kernel
theorem dF_isLength_18 : decode cF_isLength 18 = .ok (.iconst 0, 1) := by decide +kernel
theorem dF_isLength_19 : decode cF_isLength 19 = .ok (.ireturn, 1) := by decide +kernel
def f_F_isLength_j19 (s0 : Int32) : Option Int32 := rb s0
def f_F_isLength_j18 : Option Int32 := (f_F_isLength_j19 (0 : Int32))
def f_F_isLength (x0 : Int64) : Option Int32 := (if (lg_cmp x0 (0 : Int64)) < 0 then f_F_isLength_j18 else (if 0 < (lg_cmp x0 (1000000000 : Int64)) then f_F_isLength_j18 else (f_F_isLength_j19 (1 : Int32))))
set_option maxHeartbeats 4000000 in
set_option maxRecDepth 100000 in
theorem k_F_isLength (l : Launch) (dC : Nat → ClassId) (dI : Nat → Nat → Nat) (cL cI : ClassId) (x0 : Int64) (r : Int32) (h : f_F_isLength x0 = some r) : Met l yF_isLength wsF_isLength ({ frames := 0, cells := 0, slots := 0, locals := 0 }) (rd_Pc [.long x0] (fun _ => True) (dC, dI) cls3 [(cL, .long), (cI, .int)]) (vp_Si (fun z => z = r)) 0 0 (fun _ => False) := by
  refine Met.ofW (cc := cF_isLength) (maxL := 2) (ret := (some .boolean)) (by decide) rfl ?_
  intro p e s m args below meth c s₁ B hml hv
  obtain ⟨rfl, hF, hK⟩ := hv
  have hx := B.exec
  have hb := B.bytes
  have hr := B.returns
  have hw : ∀ w ∈ wG, w.before ([.long x0] : List Value).toArray s = true := fun w hq => atoms_spec (ws := wsF_isLength) B.pre w (List.mem_cons_of_mem _ hq)
  have hown : s.vm.findClass R_F = some m.cls := findClass_of_methodNamed B.named
  have hlocks := B.notSynchronized
  have hl := lv_entry ([.long x0] : List Value) (n := 2) (Nat.le_of_ble_eq_true rfl)
  rw [lg_entry_eq]
  generalize (lg_sl ([.long x0] : List Value) ++ List.replicate (2 - (lg_sl ([.long x0] : List Value)).length) Slot.unset).toArray = ls at hl ⊢
  have hl : lv_has ls 2 [(0, .long x0)] := hl
  have k19 : ∀ (s0 : Int32), f_F_isLength_j19 s0 = some r →  ∀ (ls : Array Slot), lv_has ls 2 [] → W p l e (headSpec wsF_isLength ({ frames := 0, cells := 0, slots := 0, locals := 0 })).room s m ([.long x0] : List Value).toArray below meth c s.heap [] 0 0 (MQ below (vp_Si (fun z => z = r)) ([.long x0] : List Value).toArray s 0 0 (fun _ => False)) (F0 m 19 ls [.int s0]) := by
    intro s0 h  ls hl
    unfold f_F_isLength_j19 at h
    obtain ⟨hz, hr9⟩ := rb_of h
    exact W.zret hx hb hr hz (fun t ht hW => ⟨_, rfl, hr9, ht⟩) nil_locs dF_isLength_19
  have k18 : f_F_isLength_j18 = some r →  ∀ (ls : Array Slot), lv_has ls 2 [] → W p l e (headSpec wsF_isLength ({ frames := 0, cells := 0, slots := 0, locals := 0 })).room s m ([.long x0] : List Value).toArray below meth c s.heap [] 0 0 (MQ below (vp_Si (fun z => z = r)) ([.long x0] : List Value).toArray s 0 0 (fun _ => False)) (F0 m 18 ls []) := by
    intro  h  ls hl
    unfold f_F_isLength_j18 at h
    refine lv_iconst (v := 0) hx hb dF_isLength_18 (by decide) ?_
    exact k19 (0 : Int32) h ls (lv_sub hl [] rfl)
  unfold f_F_isLength at h
  refine lv_lload_n hx hb dF_isLength_0 rfl (lv_at hl 0 rfl) ?_
  refine lv_lconst (v := 0) hx hb dF_isLength_1 (by decide) ?_
  refine W.lcmp hx hb dF_isLength_2 ?_
  refine lv_if_lt (tgt := 18) hx hb dF_isLength_3 (by decide) (fun c1 => ?_) (fun c1 => ?_)
  · have h := it_t c1 h
    exact k18 h ls (lv_sub hl [] rfl)
  · have h := it_f c1 h
    refine lv_lload_n hx hb dF_isLength_6 rfl (lv_at hl 0 rfl) ?_
    refine lv_ldc2 (v := 1000000000) hx hb hown (hw _ w_168) dF_isLength_7 ?_
    refine W.lcmp hx hb dF_isLength_10 ?_
    refine lv_if_gt (tgt := 18) hx hb dF_isLength_11 (by decide) (fun c2 => ?_) (fun c2 => ?_)
    · have h := it_t c2 h
      exact k18 h ls (lv_sub hl [] rfl)
    · have h := it_f c2 h
      refine lv_iconst (v := 1) hx hb dF_isLength_14 (by decide) ?_
      refine lv_goto (tgt := 19) hx hb dF_isLength_15 (by decide) ?_
      exact k19 (1 : Int32) h ls (lv_sub hl [] rfl)
