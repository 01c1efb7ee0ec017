/-! Long.compare, Math, the class Wide: reading methods, laid by program -/
theorem wm_min_I : Cond.code Lib.Math.min.name Lib.Math.min.code 2 (some .int) ∈ wG := w_348
theorem wm_min_J : Cond.code Lib.MathLoose.min_long.x Lib.MathLoose.min_long.code 4 (some .long) ∈ wG := w_280
theorem wm_max_J : Cond.code Lib.MathLoose.max_long.x Lib.MathLoose.max_long.code 4 (some .long) ∈ wG := w_283
theorem wm_abs_J : Cond.code Lib.MathLoose.abs_long.x Lib.MathLoose.abs_long.code 2 (some .long) ∈ wG := w_336
theorem dJL_compare_JJ_0 : decode cJL_compare_JJ 0 = .ok (.lload_n 0, 1) := by decide +kernel
theorem dJL_compare_JJ_1 : decode cJL_compare_JJ 1 = .ok (.lload_n 2, 1) := by decide +kernel
theorem dJL_compare_JJ_2 : decode cJL_compare_JJ 2 = .ok (.lcmp, 1) := by decide +kernel
theorem dJL_compare_JJ_3 : decode cJL_compare_JJ 3 = .ok (.ifCond .ge 7, 3) := by decide +kernel
theorem dJL_compare_JJ_6 : decode cJL_compare_JJ 6 = .ok (.iconst (-1), 1) := by decide +kernel
theorem dJL_compare_JJ_7 : decode cJL_compare_JJ 7 = .ok (.goto 14, 3) := by decide +kernel
theorem dJL_compare_JJ_10 : decode cJL_compare_JJ 10 = .ok (.lload_n 0, 1) := by decide +kernel
theorem dJL_compare_JJ_11 : decode cJL_compare_JJ 11 = .ok (.lload_n 2, 1) := by decide +kernel
theorem dJL_compare_JJ_12 : decode cJL_compare_JJ 12 = .ok (.lcmp, 1) := by decide +kernel
theorem dJL_compare_JJ_13 : decode cJL_compare_JJ 13 = .ok (.ifCond .ne 7, 3) := by decide +kernel
theorem dJL_compare_JJ_16 : decode cJL_compare_JJ 16 = .ok (.iconst 0, 1) := by decide +kernel
theorem dJL_compare_JJ_17 : decode cJL_compare_JJ 17 = .ok (.goto 4, 3) := by decide +kernel
theorem dJL_compare_JJ_20 : decode cJL_compare_JJ 20 = .ok (.iconst 1, 1) := by decide +kernel
theorem dJL_compare_JJ_21 : decode cJL_compare_JJ 21 = .ok (.ireturn, 1) := by decide +kernel
def f_JL_compare_JJ_j21 (s0 : Int32) : Option Int32 := some s0
def f_JL_compare_JJ (x0 : Int64) (x2 : Int64) : Option Int32 := (if 0 ≤ (lg_cmp x0 x2) then (if (lg_cmp x0 x2) = 0 then (f_JL_compare_JJ_j21 (0 : Int32)) else (f_JL_compare_JJ_j21 (1 : Int32))) else (f_JL_compare_JJ_j21 (-1 : Int32)))
set_option maxHeartbeats 4000000 in
set_option maxRecDepth 100000 in
theorem k_JL_compare_JJ (l : Launch) (dC : Nat → ClassId) (dI : Nat → Nat → Nat) (cL cI : ClassId) (x0 : Int64) (x2 : Int64) (r : Int32) (h : f_JL_compare_JJ x0 x2 = some r) : Met l yJL_compare_JJ wsJL_compare_JJ ({ frames := 0, cells := 0, slots := 0, locals := 0 }) (rd_Pc [.long x0, .long x2] (fun _ => True) (dC, dI) cls3 [(cL, .long), (cI, .int)]) (vp_Si (fun z => z = r)) 0 0 (fun _ => False) := by
  refine Met.ofW (cc := cJL_compare_JJ) (maxL := 4) (ret := (some .int)) (by decide) rfl ?_
  intro p e s m args below meth c s₁ B hml hv
  obtain ⟨rfl, hF, hK⟩ := hv
  have hx := B.exec
  have hb := B.bytes
  have hr := B.returns
  have hw : ∀ w ∈ wG, w.before ([.long x0, .long x2] : List Value).toArray s = true := fun w hq => atoms_spec (ws := wsJL_compare_JJ) B.pre w (List.mem_cons_of_mem _ hq)
  have hown : s.vm.findClass R_JL = some m.cls := findClass_of_methodNamed B.named
  have hlocks := B.notSynchronized
  have hl := lv_entry ([.long x0, .long x2] : List Value) (n := 4) (Nat.le_of_ble_eq_true rfl)
  rw [lg_entry_eq]
  generalize (lg_sl ([.long x0, .long x2] : List Value) ++ List.replicate (4 - (lg_sl ([.long x0, .long x2] : List Value)).length) Slot.unset).toArray = ls at hl ⊢
  have hl : lv_has ls 4 [(0, .long x0), (2, .long x2)] := hl
  have k21 : ∀ (s0 : Int32), f_JL_compare_JJ_j21 s0 = some r →  ∀ (ls : Array Slot), lv_has ls 4 [] → W p l e (headSpec wsJL_compare_JJ ({ frames := 0, cells := 0, slots := 0, locals := 0 })).room s m ([.long x0, .long x2] : List Value).toArray below meth c s.heap [] 0 0 (MQ below (vp_Si (fun z => z = r)) ([.long x0, .long x2] : List Value).toArray s 0 0 (fun _ => False)) (F0 m 21 ls [.int s0]) := by
    intro s0 h  ls hl
    unfold f_JL_compare_JJ_j21 at h
    exact W.iret hx hb hr (fun t ht hW => ⟨_, rfl, Option.some.inj h, ht⟩) nil_locs dJL_compare_JJ_21
  unfold f_JL_compare_JJ at h
  refine lv_lload_n hx hb dJL_compare_JJ_0 rfl (lv_at hl 0 rfl) ?_
  refine lv_lload_n hx hb dJL_compare_JJ_1 rfl (lv_at hl 1 rfl) ?_
  refine W.lcmp hx hb dJL_compare_JJ_2 ?_
  refine lv_if_ge (tgt := 10) hx hb dJL_compare_JJ_3 (by decide) (fun c1 => ?_) (fun c1 => ?_)
  · have h := it_t c1 h
    refine lv_lload_n hx hb dJL_compare_JJ_10 rfl (lv_at hl 0 rfl) ?_
    refine lv_lload_n hx hb dJL_compare_JJ_11 rfl (lv_at hl 1 rfl) ?_
    refine W.lcmp hx hb dJL_compare_JJ_12 ?_
    refine lv_if_ne (tgt := 20) hx hb dJL_compare_JJ_13 (by decide) (fun c2 => ?_) (fun c2 => ?_)
    · have h := it_f c2 h
      refine lv_iconst (v := 1) hx hb dJL_compare_JJ_20 (by decide) ?_
      exact k21 (1 : Int32) h ls (lv_sub hl [] rfl)
    · have h := it_t c2 h
      refine lv_iconst (v := 0) hx hb dJL_compare_JJ_16 (by decide) ?_
      refine lv_goto (tgt := 21) hx hb dJL_compare_JJ_17 (by decide) ?_
      exact k21 (0 : Int32) h ls (lv_sub hl [] rfl)
  · have h := it_f c1 h
    refine lv_iconst (v := -1) hx hb dJL_compare_JJ_6 (by decide) ?_
    refine lv_goto (tgt := 21) hx hb dJL_compare_JJ_7 (by decide) ?_
    exact k21 (-1 : Int32) h ls (lv_sub hl [] rfl)
theorem dW_highPart_0 : decode cW_highPart 0 = .ok (.lload_n 0, 1) := by decide +kernel
theorem dW_highPart_1 : decode cW_highPart 1 = .ok (.ldc2_w 21, 3) := by decide +kernel
theorem dW_highPart_4 : decode cW_highPart 4 = .ok (.land, 1) := by decide +kernel
theorem dW_highPart_5 : decode cW_highPart 5 = .ok (.lstore 4, 2) := by decide +kernel
theorem dW_highPart_7 : decode cW_highPart 7 = .ok (.lload_n 0, 1) := by decide +kernel
theorem dW_highPart_8 : decode cW_highPart 8 = .ok (.bipush 32, 2) := by decide +kernel
theorem dW_highPart_10 : decode cW_highPart 10 = .ok (.lushr, 1) := by decide +kernel
theorem dW_highPart_11 : decode cW_highPart 11 = .ok (.lstore 6, 2) := by decide +kernel
theorem dW_highPart_13 : decode cW_highPart 13 = .ok (.lload_n 2, 1) := by decide +kernel
theorem dW_highPart_14 : decode cW_highPart 14 = .ok (.ldc2_w 21, 3) := by decide +kernel
theorem dW_highPart_17 : decode cW_highPart 17 = .ok (.land, 1) := by decide +kernel
theorem dW_highPart_18 : decode cW_highPart 18 = .ok (.lstore 8, 2) := by decide +kernel
theorem dW_highPart_20 : decode cW_highPart 20 = .ok (.lload_n 2, 1) := by decide +kernel
theorem dW_highPart_21 : decode cW_highPart 21 = .ok (.bipush 32, 2) := by decide +kernel
theorem dW_highPart_23 : decode cW_highPart 23 = .ok (.lushr, 1) := by decide +kernel
theorem dW_highPart_24 : decode cW_highPart 24 = .ok (.lstore 10, 2) := by decide +kernel
theorem dW_highPart_26 : decode cW_highPart 26 = .ok (.lload 6, 2) := by decide +kernel
theorem dW_highPart_28 : decode cW_highPart 28 = .ok (.lload 8, 2) := by decide +kernel
theorem dW_highPart_30 : decode cW_highPart 30 = .ok (.lmul, 1) := by decide +kernel
theorem dW_highPart_31 : decode cW_highPart 31 = .ok (.lload 4, 2) := by decide +kernel
theorem dW_highPart_33 : decode cW_highPart 33 = .ok (.lload 8, 2) := by decide +kernel
theorem dW_highPart_35 : decode cW_highPart 35 = .ok (.lmul, 1) := by decide +kernel
theorem dW_highPart_36 : decode cW_highPart 36 = .ok (.bipush 32, 2) := by decide +kernel
theorem dW_highPart_38 : decode cW_highPart 38 = .ok (.lushr, 1) := by decide +kernel
theorem dW_highPart_39 : decode cW_highPart 39 = .ok (.ladd, 1) := by decide +kernel
theorem dW_highPart_40 : decode cW_highPart 40 = .ok (.lstore 12, 2) := by decide +kernel
theorem dW_highPart_42 : decode cW_highPart 42 = .ok (.lload 4, 2) := by decide +kernel
theorem dW_highPart_44 : decode cW_highPart 44 = .ok (.lload 10, 2) := by decide +kernel
theorem dW_highPart_46 : decode cW_highPart 46 = .ok (.lmul, 1) := by decide +kernel
theorem dW_highPart_47 : decode cW_highPart 47 = .ok (.lload 12, 2) := by decide +kernel
theorem dW_highPart_49 : decode cW_highPart 49 = .ok (.ldc2_w 21, 3) := by decide +kernel
theorem dW_highPart_52 : decode cW_highPart 52 = .ok (.land, 1) := by decide +kernel
theorem dW_highPart_53 : decode cW_highPart 53 = .ok (.ladd, 1) := by decide +kernel
theorem dW_highPart_54 : decode cW_highPart 54 = .ok (.lstore 14, 2) := by decide +kernel
theorem dW_highPart_56 : decode cW_highPart 56 = .ok (.lload 6, 2) := by decide +kernel
theorem dW_highPart_58 : decode cW_highPart 58 = .ok (.lload 10, 2) := by decide +kernel
theorem dW_highPart_60 : decode cW_highPart 60 = .ok (.lmul, 1) := by decide +kernel
theorem dW_highPart_61 : decode cW_highPart 61 = .ok (.lload 12, 2) := by decide +kernel
theorem dW_highPart_63 : decode cW_highPart 63 = .ok (.bipush 32, 2) := by decide +kernel
theorem dW_highPart_65 : decode cW_highPart 65 = .ok (.lushr, 1) := by decide +kernel
theorem dW_highPart_66 : decode cW_highPart 66 = .ok (.ladd, 1) := by decide +kernel
theorem dW_highPart_67 : decode cW_highPart 67 = .ok (.lload 14, 2) := by decide +kernel
theorem dW_highPart_69 : decode cW_highPart 69 = .ok (.bipush 32, 2) := by decide +kernel
theorem dW_highPart_71 : decode cW_highPart 71 = .ok (.lushr, 1) := by decide +kernel
theorem dW_highPart_72 : decode cW_highPart 72 = .ok (.ladd, 1) := by decide +kernel
theorem dW_highPart_73 : decode cW_highPart 73 = .ok (.lreturn, 1) := by decide +kernel
def f_W_highPart (x0 : Int64) (x2 : Int64) : Option Int64 := (some (x0 &&& (4294967295 : Int64))).bind fun u1 => (some ((x0.toUInt64 >>> ((32 : Int32).toInt64.toUInt64 &&& Int64.toUInt64 63)).toInt64)).bind fun u2 => (some (x2 &&& (4294967295 : Int64))).bind fun u3 => (some ((x2.toUInt64 >>> ((32 : Int32).toInt64.toUInt64 &&& Int64.toUInt64 63)).toInt64)).bind fun u4 => (some ((u2 * u3) + (((u1 * u3).toUInt64 >>> ((32 : Int32).toInt64.toUInt64 &&& Int64.toUInt64 63)).toInt64))).bind fun u5 => (some ((u1 * u4) + (u5 &&& (4294967295 : Int64)))).bind fun u6 => some (((u2 * u4) + ((u5.toUInt64 >>> ((32 : Int32).toInt64.toUInt64 &&& Int64.toUInt64 63)).toInt64)) + ((u6.toUInt64 >>> ((32 : Int32).toInt64.toUInt64 &&& Int64.toUInt64 63)).toInt64))
set_option maxHeartbeats 4000000 in
set_option maxRecDepth 100000 in
theorem k_W_highPart (l : Launch) (dC : Nat → ClassId) (dI : Nat → Nat → Nat) (cL cI : ClassId) (x0 : Int64) (x2 : Int64) (r : Int64) (h : f_W_highPart x0 x2 = some r) : Met l yW_highPart wsW_highPart ({ frames := 0, cells := 0, slots := 0, locals := 0 }) (rd_Pc [.long x0, .long x2] (fun _ => True) (dC, dI) cls3 [(cL, .long), (cI, .int)]) (vp_Sl (fun z => z = r)) 0 0 (fun _ => False) := by
  refine Met.ofW (cc := cW_highPart) (maxL := 16) (ret := (some .long)) (by decide) rfl ?_
  intro p e s m args below meth c s₁ B hml hv
  obtain ⟨rfl, hF, hK⟩ := hv
  have hx := B.exec
  have hb := B.bytes
  have hr := B.returns
  have hw : ∀ w ∈ wG, w.before ([.long x0, .long x2] : List Value).toArray s = true := fun w hq => atoms_spec (ws := wsW_highPart) B.pre w (List.mem_cons_of_mem _ hq)
  have hown : s.vm.findClass R_W = some m.cls := findClass_of_methodNamed B.named
  have hlocks := B.notSynchronized
  have hl := lv_entry ([.long x0, .long x2] : List Value) (n := 16) (Nat.le_of_ble_eq_true rfl)
  rw [lg_entry_eq]
  generalize (lg_sl ([.long x0, .long x2] : List Value) ++ List.replicate (16 - (lg_sl ([.long x0, .long x2] : List Value)).length) Slot.unset).toArray = ls at hl ⊢
  have hl : lv_has ls 16 [(0, .long x0), (2, .long x2)] := hl
  unfold f_W_highPart at h
  refine lv_lload_n hx hb dW_highPart_0 rfl (lv_at hl 0 rfl) ?_
  refine lv_ldc2 (v := 4294967295) hx hb hown (hw _ w_343) dW_highPart_1 ?_
  refine lv_land hx hb dW_highPart_4 ?_
  obtain ⟨u1, hu1, h⟩ := ob_some h
  rw [Option.some.inj hu1]
  refine lv_lstore (lv' := [(4, .long u1), (0, .long x0), (2, .long x2)]) hx hb dW_highPart_5 hl (by decide) rfl (fun ls hl => ?_)
  refine lv_lload_n hx hb dW_highPart_7 rfl (lv_at hl 1 rfl) ?_
  refine lv_bipush (v := 32) hx hb dW_highPart_8 (by decide) ?_
  refine lv_lushr hx hb dW_highPart_10 rfl ?_
  obtain ⟨u2, hu2, h⟩ := ob_some h
  rw [Option.some.inj hu2]
  refine lv_lstore (lv' := [(6, .long u2), (4, .long u1), (0, .long x0), (2, .long x2)]) hx hb dW_highPart_11 hl (by decide) rfl (fun ls hl => ?_)
  refine lv_lload_n hx hb dW_highPart_13 rfl (lv_at hl 3 rfl) ?_
  refine lv_ldc2 (v := 4294967295) hx hb hown (hw _ w_343) dW_highPart_14 ?_
  refine lv_land hx hb dW_highPart_17 ?_
  obtain ⟨u3, hu3, h⟩ := ob_some h
  rw [Option.some.inj hu3]
  refine lv_lstore (lv' := [(8, .long u3), (6, .long u2), (4, .long u1), (0, .long x0), (2, .long x2)]) hx hb dW_highPart_18 hl (by decide) rfl (fun ls hl => ?_)
  refine lv_lload_n hx hb dW_highPart_20 rfl (lv_at hl 4 rfl) ?_
  refine lv_bipush (v := 32) hx hb dW_highPart_21 (by decide) ?_
  refine lv_lushr hx hb dW_highPart_23 rfl ?_
  obtain ⟨u4, hu4, h⟩ := ob_some h
  rw [Option.some.inj hu4]
  refine lv_lstore (lv' := [(10, .long u4), (8, .long u3), (6, .long u2), (4, .long u1), (0, .long x0), (2, .long x2)]) hx hb dW_highPart_24 hl (by decide) rfl (fun ls hl => ?_)
  refine lv_lload hx hb dW_highPart_26 (lv_at hl 2 rfl) ?_
  refine lv_lload hx hb dW_highPart_28 (lv_at hl 1 rfl) ?_
  refine lv_lmul hx hb dW_highPart_30 ?_
  refine lv_lload hx hb dW_highPart_31 (lv_at hl 3 rfl) ?_
  refine lv_lload hx hb dW_highPart_33 (lv_at hl 1 rfl) ?_
  refine lv_lmul hx hb dW_highPart_35 ?_
  refine lv_bipush (v := 32) hx hb dW_highPart_36 (by decide) ?_
  refine lv_lushr hx hb dW_highPart_38 rfl ?_
  refine lv_ladd hx hb dW_highPart_39 ?_
  obtain ⟨u5, hu5, h⟩ := ob_some h
  rw [Option.some.inj hu5]
  refine lv_lstore (lv' := [(12, .long u5), (10, .long u4), (8, .long u3), (6, .long u2), (4, .long u1), (0, .long x0), (2, .long x2)]) hx hb dW_highPart_40 hl (by decide) rfl (fun ls hl => ?_)
  refine lv_lload hx hb dW_highPart_42 (lv_at hl 4 rfl) ?_
  refine lv_lload hx hb dW_highPart_44 (lv_at hl 1 rfl) ?_
  refine lv_lmul hx hb dW_highPart_46 ?_
  refine lv_lload hx hb dW_highPart_47 (lv_at hl 0 rfl) ?_
  refine lv_ldc2 (v := 4294967295) hx hb hown (hw _ w_343) dW_highPart_49 ?_
  refine lv_land hx hb dW_highPart_52 ?_
  refine lv_ladd hx hb dW_highPart_53 ?_
  obtain ⟨u6, hu6, h⟩ := ob_some h
  rw [Option.some.inj hu6]
  refine lv_lstore (lv' := [(14, .long u6), (12, .long u5), (10, .long u4), (8, .long u3), (6, .long u2), (4, .long u1), (0, .long x0), (2, .long x2)]) hx hb dW_highPart_54 hl (by decide) rfl (fun ls hl => ?_)
  refine lv_lload hx hb dW_highPart_56 (lv_at hl 4 rfl) ?_
  refine lv_lload hx hb dW_highPart_58 (lv_at hl 2 rfl) ?_
  refine lv_lmul hx hb dW_highPart_60 ?_
  refine lv_lload hx hb dW_highPart_61 (lv_at hl 1 rfl) ?_
  refine lv_bipush (v := 32) hx hb dW_highPart_63 (by decide) ?_
  refine lv_lushr hx hb dW_highPart_65 rfl ?_
  refine lv_ladd hx hb dW_highPart_66 ?_
  refine lv_lload hx hb dW_highPart_67 (lv_at hl 0 rfl) ?_
  refine lv_bipush (v := 32) hx hb dW_highPart_69 (by decide) ?_
  refine lv_lushr hx hb dW_highPart_71 rfl ?_
  refine lv_ladd hx hb dW_highPart_72 ?_
  exact W.lret hx hb hr (fun t ht hW => ⟨_, rfl, Option.some.inj h, ht⟩) nil_locs dW_highPart_73
theorem dW_compareProducts_0 : decode cW_compareProducts 0 = .ok (.lload_n 0, 1) := by decide +kernel
theorem dW_compareProducts_1 : decode cW_compareProducts 1 = .ok (.lload_n 2, 1) := by decide +kernel
theorem dW_compareProducts_2 : decode cW_compareProducts 2 = .ok (.invokestatic 7, 3) := by decide +kernel
theorem dW_compareProducts_5 : decode cW_compareProducts 5 = .ok (.lload 4, 2) := by decide +kernel
theorem dW_compareProducts_7 : decode cW_compareProducts 7 = .ok (.lload 6, 2) := by decide +kernel
theorem dW_compareProducts_9 : decode cW_compareProducts 9 = .ok (.invokestatic 7, 3) := by decide +kernel
theorem dW_compareProducts_12 : decode cW_compareProducts 12 = .ok (.invokestatic 13, 3) := by decide +kernel
theorem dW_compareProducts_15 : decode cW_compareProducts 15 = .ok (.istore 8, 2) := by decide +kernel
theorem dW_compareProducts_17 : decode cW_compareProducts 17 = .ok (.iload 8, 2) := by decide +kernel
theorem dW_compareProducts_19 : decode cW_compareProducts 19 = .ok (.ifCond .eq 6, 3) := by decide +kernel
theorem dW_compareProducts_22 : decode cW_compareProducts 22 = .ok (.iload 8, 2) := by decide +kernel
theorem dW_compareProducts_24 : decode cW_compareProducts 24 = .ok (.ireturn, 1) := by decide +kernel
theorem dW_compareProducts_25 : decode cW_compareProducts 25 = .ok (.lload_n 0, 1) := by decide +kernel
theorem dW_compareProducts_26 : decode cW_compareProducts 26 = .ok (.lload_n 2, 1) := by decide +kernel
theorem dW_compareProducts_27 : decode cW_compareProducts 27 = .ok (.lmul, 1) := by decide +kernel
theorem dW_compareProducts_28 : decode cW_compareProducts 28 = .ok (.ldc2_w 19, 3) := by decide +kernel
theorem dW_compareProducts_31 : decode cW_compareProducts 31 = .ok (.ladd, 1) := by decide +kernel
theorem dW_compareProducts_32 : decode cW_compareProducts 32 = .ok (.lload 4, 2) := by decide +kernel
theorem dW_compareProducts_34 : decode cW_compareProducts 34 = .ok (.lload 6, 2) := by decide +kernel
theorem dW_compareProducts_36 : decode cW_compareProducts 36 = .ok (.lmul, 1) := by decide +kernel
theorem dW_compareProducts_37 : decode cW_compareProducts 37 = .ok (.ldc2_w 19, 3) := by decide +kernel
theorem dW_compareProducts_40 : decode cW_compareProducts 40 = .ok (.ladd, 1) := by decide +kernel
theorem dW_compareProducts_41 : decode cW_compareProducts 41 = .ok (.invokestatic 13, 3) := by decide +kernel
theorem dW_compareProducts_44 : decode cW_compareProducts 44 = .ok (.ireturn, 1) := by decide +kernel
def f_W_compareProducts (x0 : Int64) (x2 : Int64) (x4 : Int64) (x6 : Int64) : Option Int32 := (f_W_highPart x0 x2).bind fun u1 => (f_W_highPart x4 x6).bind fun u2 => (f_JL_compare_JJ u1 u2).bind fun u3 => (if u3 = 0 then (f_JL_compare_JJ ((x0 * x2) + (-9223372036854775808 : Int64)) ((x4 * x6) + (-9223372036854775808 : Int64))).bind fun u5 => some u5 else some u3)
set_option maxHeartbeats 4000000 in
set_option maxRecDepth 100000 in
theorem k_W_compareProducts (l : Launch) (dC : Nat → ClassId) (dI : Nat → Nat → Nat) (cL cI : ClassId) (x0 : Int64) (x2 : Int64) (x4 : Int64) (x6 : Int64) (r : Int32) (h : f_W_compareProducts x0 x2 x4 x6 = some r) : Met l yW_compareProducts wsW_compareProducts ({ frames := 1, cells := 0, slots := 0, locals := 35 }) (rd_Pc [.long x0, .long x2, .long x4, .long x6] (fun _ => True) (dC, dI) cls3 [(cL, .long), (cI, .int)]) (vp_Si (fun z => z = r)) 0 0 (fun _ => False) := by
  refine Met.ofW (cc := cW_compareProducts) (maxL := 9) (ret := (some .int)) (by decide) rfl ?_
  intro p e s m args below meth c s₁ B hml hv
  obtain ⟨rfl, hF, hK⟩ := hv
  have hx := B.exec
  have hb := B.bytes
  have hr := B.returns
  have hw : ∀ w ∈ wG, w.before ([.long x0, .long x2, .long x4, .long x6] : List Value).toArray s = true := fun w hq => atoms_spec (ws := wsW_compareProducts) B.pre w (List.mem_cons_of_mem _ hq)
  have hown : s.vm.findClass R_W = some m.cls := findClass_of_methodNamed B.named
  have hlocks := B.notSynchronized
  have hl := lv_entry ([.long x0, .long x2, .long x4, .long x6] : List Value) (n := 9) (Nat.le_of_ble_eq_true rfl)
  rw [lg_entry_eq]
  generalize (lg_sl ([.long x0, .long x2, .long x4, .long x6] : List Value) ++ List.replicate (9 - (lg_sl ([.long x0, .long x2, .long x4, .long x6] : List Value)).length) Slot.unset).toArray = ls at hl ⊢
  have hl : lv_has ls 9 [(0, .long x0), (2, .long x2), (4, .long x4), (6, .long x6)] := hl
  unfold f_W_compareProducts at h
  refine lv_lload_n hx hb dW_compareProducts_0 rfl (lv_at hl 0 rfl) ?_
  refine lv_lload_n hx hb dW_compareProducts_1 rfl (lv_at hl 1 rfl) ?_
  obtain ⟨u1, hu1, h⟩ := ob_some h
  refine vp_callSl (va_Run.run (va_runS (As := [.long x0, .long x2]) (rest := []) ⟨hx, hb, hml, hown, hw⟩ (k_W_highPart l dC dI cL cI x0 x2 u1 hu1) (va_cwS 2 hw (gS w_340 w_341 w_13 w_342) rfl rfl rfl (by decide +kernel) ⟨Nat.le_of_ble_eq_true rfl, Nat.le_of_ble_eq_true rfl⟩) ⟨rd_blind, rd_pre trivial hK⟩ rfl rfl hl.1 rfl (lv_room (Nat.le_of_ble_eq_true rfl)) dW_compareProducts_2 ⟨Nat.le_of_ble_eq_true rfl, Nat.le_of_ble_eq_true rfl⟩)) (fun z hz => ?_)
  rw [hz]; clear hz
  refine lv_lload hx hb dW_compareProducts_5 (lv_at hl 2 rfl) ?_
  refine lv_lload hx hb dW_compareProducts_7 (lv_at hl 3 rfl) ?_
  obtain ⟨u2, hu2, h⟩ := ob_some h
  refine vp_callSl (va_Run.run (va_runS (As := [.long x4, .long x6]) (rest := [.long u1]) ⟨hx, hb, hml, hown, hw⟩ (k_W_highPart l dC dI cL cI x4 x6 u2 hu2) (va_cwS 2 hw (gS w_340 w_341 w_13 w_342) rfl rfl rfl (by decide +kernel) ⟨Nat.le_of_ble_eq_true rfl, Nat.le_of_ble_eq_true rfl⟩) ⟨rd_blind, rd_pre trivial hK⟩ rfl rfl hl.1 rfl (lv_room (Nat.le_of_ble_eq_true rfl)) dW_compareProducts_9 ⟨Nat.le_of_ble_eq_true rfl, Nat.le_of_ble_eq_true rfl⟩)) (fun z hz => ?_)
  rw [hz]; clear hz
  obtain ⟨u3, hu3, h⟩ := ob_some h
  refine vp_callSi (va_Run.run (va_runS (As := [.long u1, .long u2]) (rest := []) ⟨hx, hb, hml, hown, hw⟩ (k_JL_compare_JJ l dC dI cL cI u1 u2 u3 hu3) (va_cwS 2 hw (gS w_344 w_332 w_12 w_333) rfl rfl rfl (by decide +kernel) ⟨Nat.le_of_ble_eq_true rfl, Nat.le_of_ble_eq_true rfl⟩) ⟨rd_blind, rd_pre trivial hK⟩ rfl rfl hl.1 rfl (lv_room (Nat.le_of_ble_eq_true rfl)) dW_compareProducts_12 ⟨Nat.le_of_ble_eq_true rfl, Nat.le_of_ble_eq_true rfl⟩)) (fun z hz => ?_)
  rw [hz]; clear hz
  refine lv_istore (lv' := [(8, .int u3), (0, .long x0), (2, .long x2), (4, .long x4), (6, .long x6)]) hx hb dW_compareProducts_15 hl (by decide) rfl (fun ls hl => ?_)
  refine lv_iload hx hb dW_compareProducts_17 (lv_at hl 0 rfl) ?_
  refine lv_if_eq (tgt := 25) hx hb dW_compareProducts_19 (by decide) (fun c4 => ?_) (fun c4 => ?_)
  · have h := it_t c4 h
    refine lv_lload_n hx hb dW_compareProducts_25 rfl (lv_at hl 1 rfl) ?_
    refine lv_lload_n hx hb dW_compareProducts_26 rfl (lv_at hl 2 rfl) ?_
    refine lv_lmul hx hb dW_compareProducts_27 ?_
    refine lv_ldc2 (v := (-9223372036854775808)) hx hb hown (hw _ w_345) dW_compareProducts_28 ?_
    refine lv_ladd hx hb dW_compareProducts_31 ?_
    refine lv_lload hx hb dW_compareProducts_32 (lv_at hl 3 rfl) ?_
    refine lv_lload hx hb dW_compareProducts_34 (lv_at hl 4 rfl) ?_
    refine lv_lmul hx hb dW_compareProducts_36 ?_
    refine lv_ldc2 (v := (-9223372036854775808)) hx hb hown (hw _ w_345) dW_compareProducts_37 ?_
    refine lv_ladd hx hb dW_compareProducts_40 ?_
    obtain ⟨u5, hu5, h⟩ := ob_some h
    refine vp_callSi (va_Run.run (va_runS (As := [.long ((x0 * x2) + (-9223372036854775808 : Int64)), .long ((x4 * x6) + (-9223372036854775808 : Int64))]) (rest := []) ⟨hx, hb, hml, hown, hw⟩ (k_JL_compare_JJ l dC dI cL cI ((x0 * x2) + (-9223372036854775808 : Int64)) ((x4 * x6) + (-9223372036854775808 : Int64)) u5 hu5) (va_cwS 2 hw (gS w_344 w_332 w_12 w_333) rfl rfl rfl (by decide +kernel) ⟨Nat.le_of_ble_eq_true rfl, Nat.le_of_ble_eq_true rfl⟩) ⟨rd_blind, rd_pre trivial hK⟩ rfl rfl hl.1 rfl (lv_room (Nat.le_of_ble_eq_true rfl)) dW_compareProducts_41 ⟨Nat.le_of_ble_eq_true rfl, Nat.le_of_ble_eq_true rfl⟩)) (fun z hz => ?_)
    rw [hz]; clear hz
    exact W.iret hx hb hr (fun t ht hW => ⟨_, rfl, Option.some.inj h, ht⟩) nil_locs dW_compareProducts_44
  · have h := it_f c4 h
    refine lv_iload hx hb dW_compareProducts_22 (lv_at hl 0 rfl) ?_
    exact W.iret hx hb hr (fun t ht hW => ⟨_, rfl, Option.some.inj h, ht⟩) nil_locs dW_compareProducts_24
