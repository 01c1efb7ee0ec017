/-! ShapeForms: where the writing methods throw, laid by program -/
theorem dF_circle_0 : decode cF_circle 0 = .ok (.lload_n 1, 1) := by decide +kernel
theorem dF_circle_1 : decode cF_circle 1 = .ok (.lload_n 3, 1) := by decide +kernel
theorem dF_circle_2 : decode cF_circle 2 = .ok (.invokestatic 19, 3) := by decide +kernel
theorem dF_circle_5 : decode cF_circle 5 = .ok (.lload 5, 2) := by decide +kernel
theorem dF_circle_7 : decode cF_circle 7 = .ok (.invokestatic 23, 3) := by decide +kernel
theorem dF_circle_10 : decode cF_circle 10 = .ok (.new 9, 3) := by decide +kernel
theorem dF_circle_13 : decode cF_circle 13 = .ok (.dup, 1) := by decide +kernel
theorem dF_circle_14 : decode cF_circle 14 = .ok (.iconst 0, 1) := by decide +kernel
theorem dF_circle_15 : decode cF_circle 15 = .ok (.iconst 0, 1) := by decide +kernel
theorem dF_circle_16 : decode cF_circle 16 = .ok (.lload 5, 2) := by decide +kernel
theorem dF_circle_18 : decode cF_circle 18 = .ok (.invokespecial 27, 3) := by decide +kernel
theorem dF_circle_21 : decode cF_circle 21 = .ok (.astore 7, 2) := by decide +kernel
theorem dF_circle_23 : decode cF_circle 23 = .ok (.aload 7, 2) := by decide +kernel
theorem dF_circle_25 : decode cF_circle 25 = .ok (.lload_n 1, 1) := by decide +kernel
theorem dF_circle_26 : decode cF_circle 26 = .ok (.lload_n 3, 1) := by decide +kernel
theorem dF_circle_27 : decode cF_circle 27 = .ok (.invokevirtual 30, 3) := by decide +kernel
theorem dF_circle_30 : decode cF_circle 30 = .ok (.pop, 1) := by decide +kernel
theorem dF_circle_31 : decode cF_circle 31 = .ok (.aload_n 0, 1) := by decide +kernel
theorem dF_circle_32 : decode cF_circle 32 = .ok (.aload 7, 2) := by decide +kernel
theorem dF_circle_34 : decode cF_circle 34 = .ok (.invokevirtual 34, 3) := by decide +kernel
theorem dF_circle_37 : decode cF_circle 37 = .ok (.ireturn, 1) := by decide +kernel
def g_F_circle (v : CV) (x1 : Int64) (x3 : Int64) (x5 : Int64) : Option String := xthen (g_F_needPlace x1 x3) <| (f_F_needPlace x1 x3).bind fun u1 => xthen (g_F_needLength x5) <| (f_F_needLength x5).bind fun u2 => none
set_option maxHeartbeats 4000000 in
set_option maxRecDepth 100000 in
theorem kt_F_circle (l : Launch) (hl0 : l.stackTraces = false) (N0 : Nat) (dC : Nat → ClassId) (dI : Nat → Nat → Nat) (cL cI cO : ClassId) (x0 xa : Nat) (ad : Nat → Nat → Nat) (v : CV) (x1 : Int64) (x3 : Int64) (x5 : Int64) (E : String) (h : g_F_circle v x1 x3 x5 = some E) : vx_Met l yF_circle wsF_circle ({ frames := 7, cells := 1, slots := 6, locals := 113 }) (ev_Pc N0 [.ref x0, .long x1, .long x3, .long x5] (fun H => SFH (dC, dI) cL cI cO x0 xa ad v H) (dC, dI) cls3 (ty3 cL cI cO)) NoQ (XE E) 1 6 (fun _ => False) := by
  refine vx_ofW (cc := cF_circle) (maxL := 8) (ret := (some .int)) (by decide) rfl ?_
  intro p e s m args below meth c s₁ B hml htab hv
  obtain ⟨rfl, hPx, hK, hev⟩ := hv
  have hx := B.exec
  have hb := B.bytes
  have hr := B.returns
  have hw : ∀ w ∈ wG, w.before ([.ref x0, .long x1, .long x3, .long x5] : List Value).toArray s = true := fun w hq => atoms_spec (ws := wsF_circle) B.pre w (List.mem_cons_of_mem _ hq)
  have hown : s.vm.findClass R_F = some m.cls := findClass_of_methodNamed B.named
  have hlocks := B.notSynchronized
  have hK2 := hK.sub (tys' := [(cL, .long), (cI, .int)]) [0, 1] rfl
  have hl := lv_entry ([.ref x0, .long x1, .long x3, .long x5] : List Value) (n := 8) (Nat.le_of_ble_eq_true rfl)
  rw [lg_entry_eq]
  generalize (lg_sl ([.ref x0, .long x1, .long x3, .long x5] : List Value) ++ List.replicate (8 - (lg_sl ([.ref x0, .long x1, .long x3, .long x5] : List Value)).length) Slot.unset).toArray = ls at hl ⊢
  have hl : lv_has ls 8 [(0, .ref x0), (1, .long x1), (3, .long x3), (5, .long x5)] := hl
  unfold g_F_circle at h
  refine lv_lload_n hx hb dF_circle_0 rfl (lv_at hl 1 rfl) ?_
  refine lv_lload_n hx hb dF_circle_1 rfl (lv_at hl 2 rfl) ?_
  rcases xt h with hE | ⟨hN, h⟩
  · exact thr_pass (vx_runS (As := [.long x1, .long x3]) (rest := []) ⟨hx, hb, hml, hown, hw⟩ (kt_F_needPlace l hl0 N0 dC dI cL cI x1 x3 E hE) (va_cwS 2 hw (gS w_86 w_87 w_1 w_88) rfl rfl rfl (by decide +kernel) ⟨Nat.le_of_ble_eq_true rfl, Nat.le_of_ble_eq_true rfl⟩) ⟨ev_blind, ev_pre trivial hK2 hev⟩ rfl rfl hl.1 rfl (lv_room (Nat.le_of_ble_eq_true rfl)) dF_circle_2 ⟨Nat.le_of_ble_eq_true rfl, Nat.le_of_ble_eq_true rfl⟩) htab hlocks
  obtain ⟨u1, hu1, h⟩ := ob_some h
  refine va_csv (va_Run.run (va_runS (As := [.long x1, .long x3]) (rest := []) ⟨hx, hb, hml, hown, hw⟩ (k_F_needPlace l dC dI cL cI x1 x3 u1 hu1) (va_cwS 2 hw (gS w_86 w_87 w_1 w_88) rfl rfl rfl (by decide +kernel) ⟨Nat.le_of_ble_eq_true rfl, Nat.le_of_ble_eq_true rfl⟩) ⟨rd_blind, rd_pre trivial hK2⟩ rfl rfl hl.1 rfl (lv_room (Nat.le_of_ble_eq_true rfl)) dF_circle_2 ⟨Nat.le_of_ble_eq_true rfl, Nat.le_of_ble_eq_true rfl⟩)) (fun _ => ?_)
  refine lv_lload hx hb dF_circle_5 (lv_at hl 3 rfl) ?_
  rcases xt h with hE | ⟨hN, h⟩
  · exact thr_pass (vx_runS (As := [.long x5]) (rest := []) ⟨hx, hb, hml, hown, hw⟩ (kt_F_needLength l hl0 N0 dC dI cL cI x5 E hE) (va_cwS 1 hw (gS w_162 w_163 w_1 w_164) rfl rfl rfl (by decide +kernel) ⟨Nat.le_of_ble_eq_true rfl, Nat.le_of_ble_eq_true rfl⟩) ⟨ev_blind, ev_pre trivial hK2 hev⟩ rfl rfl hl.1 rfl (lv_room (Nat.le_of_ble_eq_true rfl)) dF_circle_7 ⟨Nat.le_of_ble_eq_true rfl, Nat.le_of_ble_eq_true rfl⟩) htab hlocks
  obtain ⟨u2, hu2, h⟩ := ob_some h
  refine va_csv (va_Run.run (va_runS (As := [.long x5]) (rest := []) ⟨hx, hb, hml, hown, hw⟩ (k_F_needLength l dC dI cL cI x5 u2 hu2) (va_cwS 1 hw (gS w_162 w_163 w_1 w_164) rfl rfl rfl (by decide +kernel) ⟨Nat.le_of_ble_eq_true rfl, Nat.le_of_ble_eq_true rfl⟩) ⟨rd_blind, rd_pre trivial hK2⟩ rfl rfl hl.1 rfl (lv_room (Nat.le_of_ble_eq_true rfl)) dF_circle_7 ⟨Nat.le_of_ble_eq_true rfl, Nat.le_of_ble_eq_true rfl⟩)) (fun _ => ?_)
  cases h
theorem dF_box_0 : decode cF_box 0 = .ok (.lload_n 1, 1) := by decide +kernel
theorem dF_box_1 : decode cF_box 1 = .ok (.lload_n 3, 1) := by decide +kernel
theorem dF_box_2 : decode cF_box 2 = .ok (.invokestatic 19, 3) := by decide +kernel
theorem dF_box_5 : decode cF_box 5 = .ok (.lload 5, 2) := by decide +kernel
theorem dF_box_7 : decode cF_box 7 = .ok (.invokestatic 23, 3) := by decide +kernel
theorem dF_box_10 : decode cF_box 10 = .ok (.lload 7, 2) := by decide +kernel
theorem dF_box_12 : decode cF_box 12 = .ok (.invokestatic 23, 3) := by decide +kernel
theorem dF_box_15 : decode cF_box 15 = .ok (.lload_n 1, 1) := by decide +kernel
theorem dF_box_16 : decode cF_box 16 = .ok (.lload 5, 2) := by decide +kernel
theorem dF_box_18 : decode cF_box 18 = .ok (.ladd, 1) := by decide +kernel
theorem dF_box_19 : decode cF_box 19 = .ok (.lload_n 3, 1) := by decide +kernel
theorem dF_box_20 : decode cF_box 20 = .ok (.lload 7, 2) := by decide +kernel
theorem dF_box_22 : decode cF_box 22 = .ok (.ladd, 1) := by decide +kernel
theorem dF_box_23 : decode cF_box 23 = .ok (.invokestatic 19, 3) := by decide +kernel
theorem dF_box_26 : decode cF_box 26 = .ok (.lload 9, 2) := by decide +kernel
theorem dF_box_28 : decode cF_box 28 = .ok (.lconst 0, 1) := by decide +kernel
theorem dF_box_29 : decode cF_box 29 = .ok (.lcmp, 1) := by decide +kernel
theorem dF_box_30 : decode cF_box 30 = .ok (.ifCond .lt 27, 3) := by decide +kernel
theorem dF_box_33 : decode cF_box 33 = .ok (.lload 9, 2) := by decide +kernel
theorem dF_box_35 : decode cF_box 35 = .ok (.lload 5, 2) := by decide +kernel
theorem dF_box_37 : decode cF_box 37 = .ok (.ldc2_w 38, 3) := by decide +kernel
theorem dF_box_40 : decode cF_box 40 = .ok (.ldiv, 1) := by decide +kernel
theorem dF_box_41 : decode cF_box 41 = .ok (.lcmp, 1) := by decide +kernel
theorem dF_box_42 : decode cF_box 42 = .ok (.ifCond .gt 15, 3) := by decide +kernel
theorem dF_box_45 : decode cF_box 45 = .ok (.lload 9, 2) := by decide +kernel
theorem dF_box_47 : decode cF_box 47 = .ok (.lload 7, 2) := by decide +kernel
theorem dF_box_49 : decode cF_box 49 = .ok (.ldc2_w 38, 3) := by decide +kernel
theorem dF_box_52 : decode cF_box 52 = .ok (.ldiv, 1) := by decide +kernel
theorem dF_box_53 : decode cF_box 53 = .ok (.lcmp, 1) := by decide +kernel
theorem dF_box_54 : decode cF_box 54 = .ok (.ifCond .le 13, 3) := by decide +kernel
theorem dF_box_57 : decode cF_box 57 = .ok (.new 40, 3) := by decide +kernel
theorem dF_box_60 : decode cF_box 60 = .ok (.dup, 1) := by decide +kernel
theorem dF_box_61 : decode cF_box 61 = .ok (.ldc 42, 2) := by decide +kernel
theorem dF_box_63 : decode cF_box 63 = .ok (.invokespecial 44, 3) := by decide +kernel
theorem dF_box_66 : decode cF_box 66 = .ok (.athrow, 1) := by decide +kernel
theorem dF_box_67 : decode cF_box 67 = .ok (.aload_n 0, 1) := by decide +kernel
theorem dF_box_68 : decode cF_box 68 = .ok (.lload_n 1, 1) := by decide +kernel
theorem dF_box_69 : decode cF_box 69 = .ok (.lload 9, 2) := by decide +kernel
theorem dF_box_71 : decode cF_box 71 = .ok (.ladd, 1) := by decide +kernel
theorem dF_box_72 : decode cF_box 72 = .ok (.lload_n 3, 1) := by decide +kernel
theorem dF_box_73 : decode cF_box 73 = .ok (.lload 9, 2) := by decide +kernel
theorem dF_box_75 : decode cF_box 75 = .ok (.ladd, 1) := by decide +kernel
theorem dF_box_76 : decode cF_box 76 = .ok (.lload_n 1, 1) := by decide +kernel
theorem dF_box_77 : decode cF_box 77 = .ok (.lload 5, 2) := by decide +kernel
theorem dF_box_79 : decode cF_box 79 = .ok (.ladd, 1) := by decide +kernel
theorem dF_box_80 : decode cF_box 80 = .ok (.lload 9, 2) := by decide +kernel
theorem dF_box_82 : decode cF_box 82 = .ok (.lsub, 1) := by decide +kernel
theorem dF_box_83 : decode cF_box 83 = .ok (.lload_n 3, 1) := by decide +kernel
theorem dF_box_84 : decode cF_box 84 = .ok (.lload 7, 2) := by decide +kernel
theorem dF_box_86 : decode cF_box 86 = .ok (.ladd, 1) := by decide +kernel
theorem dF_box_87 : decode cF_box 87 = .ok (.lload 9, 2) := by decide +kernel
theorem dF_box_89 : decode cF_box 89 = .ok (.lsub, 1) := by decide +kernel
theorem dF_box_90 : decode cF_box 90 = .ok (.lload 9, 2) := by decide +kernel
theorem dF_box_92 : decode cF_box 92 = .ok (.invokestatic 47, 3) := by decide +kernel
theorem dF_box_95 : decode cF_box 95 = .ok (.invokevirtual 34, 3) := by decide +kernel
theorem dF_box_98 : decode cF_box 98 = .ok (.ireturn, 1) := by decide +kernel
def g_F_box_j57 (v : CV) : Option String := some "java/lang/IllegalArgumentException"
def g_F_box (v : CV) (x1 : Int64) (x3 : Int64) (x5 : Int64) (x7 : Int64) (x9 : Int64) : Option String := xthen (g_F_needPlace x1 x3) <| (f_F_needPlace x1 x3).bind fun u1 => xthen (g_F_needLength x5) <| (f_F_needLength x5).bind fun u2 => xthen (g_F_needLength x7) <| (f_F_needLength x7).bind fun u3 => xthen (g_F_needPlace (x1 + x5) (x3 + x7)) <| (f_F_needPlace (x1 + x5) (x3 + x7)).bind fun u4 => (if (lg_cmp x9 (0 : Int64)) < 0 then (g_F_box_j57 v) else (if 0 < (lg_cmp x9 (x5 / (2 : Int64))) then (g_F_box_j57 v) else (if (lg_cmp x9 (x7 / (2 : Int64))) ≤ 0 then none else (g_F_box_j57 v))))
set_option maxHeartbeats 4000000 in
set_option maxRecDepth 100000 in
theorem kt_F_box (l : Launch) (hl0 : l.stackTraces = false) (N0 : Nat) (dC : Nat → ClassId) (dI : Nat → Nat → Nat) (cL cI cO : ClassId) (x0 xa : Nat) (ad : Nat → Nat → Nat) (v : CV) (x1 : Int64) (x3 : Int64) (x5 : Int64) (x7 : Int64) (x9 : Int64) (E : String) (h : g_F_box v x1 x3 x5 x7 x9 = some E) : vx_Met l yF_box wsF_box ({ frames := 7, cells := 1, slots := 6, locals := 113 }) (ev_Pc N0 [.ref x0, .long x1, .long x3, .long x5, .long x7, .long x9] (fun H => SFH (dC, dI) cL cI cO x0 xa ad v H) (dC, dI) cls3 (ty3 cL cI cO)) NoQ (XE E) 1 6 (fun _ => False) := by
  refine vx_ofW (cc := cF_box) (maxL := 11) (ret := (some .int)) (by decide) rfl ?_
  intro p e s m args below meth c s₁ B hml htab hv
  obtain ⟨rfl, hPx, hK, hev⟩ := hv
  have hx := B.exec
  have hb := B.bytes
  have hr := B.returns
  have hw : ∀ w ∈ wG, w.before ([.ref x0, .long x1, .long x3, .long x5, .long x7, .long x9] : List Value).toArray s = true := fun w hq => atoms_spec (ws := wsF_box) B.pre w (List.mem_cons_of_mem _ hq)
  have hown : s.vm.findClass R_F = some m.cls := findClass_of_methodNamed B.named
  have hlocks := B.notSynchronized
  have hK2 := hK.sub (tys' := [(cL, .long), (cI, .int)]) [0, 1] rfl
  have hl := lv_entry ([.ref x0, .long x1, .long x3, .long x5, .long x7, .long x9] : List Value) (n := 11) (Nat.le_of_ble_eq_true rfl)
  rw [lg_entry_eq]
  generalize (lg_sl ([.ref x0, .long x1, .long x3, .long x5, .long x7, .long x9] : List Value) ++ List.replicate (11 - (lg_sl ([.ref x0, .long x1, .long x3, .long x5, .long x7, .long x9] : List Value)).length) Slot.unset).toArray = ls at hl ⊢
  have hl : lv_has ls 11 [(0, .ref x0), (1, .long x1), (3, .long x3), (5, .long x5), (7, .long x7), (9, .long x9)] := hl
  have k57 : g_F_box_j57 v = some E →  ∀ (ls : Array Slot), lv_has ls 11 [] → W p l e (headSpec wsF_box ({ frames := 7, cells := 1, slots := 6, locals := 113 })).room s m ([.ref x0, .long x1, .long x3, .long x5, .long x7, .long x9] : List Value).toArray below meth c s.heap [] 0 0 (vx_MQ below NoQ (XE E) ([.ref x0, .long x1, .long x3, .long x5, .long x7, .long x9] : List Value).toArray s 1 6 (fun _ => False)) (F0 m 57 ls []) := by
    intro  h  ls hl
    unfold g_F_box_j57 at h
    have h := Option.some.inj h
    subst h
    exact thr_F (text := "the rounding is not 0 to the half of both sides") hx hb hl0 hown hev hw tIAE_fit w_94 w_6 (by decide +kernel) tIAE_good tIAE_bad tIAE_ot (hl.1.trans hml.symm) htab hlocks dF_box_57 dF_box_60 dF_box_61 dF_box_63 dF_box_66 (Nat.le_of_ble_eq_true rfl) (Nat.le_of_ble_eq_true rfl) (Nat.le_of_ble_eq_true rfl) (Nat.le_of_ble_eq_true rfl)
  unfold g_F_box at h
  refine lv_lload_n hx hb dF_box_0 rfl (lv_at hl 1 rfl) ?_
  refine lv_lload_n hx hb dF_box_1 rfl (lv_at hl 2 rfl) ?_
  rcases xt h with hE | ⟨hN, h⟩
  · exact thr_pass (vx_runS (As := [.long x1, .long x3]) (rest := []) ⟨hx, hb, hml, hown, hw⟩ (kt_F_needPlace l hl0 N0 dC dI cL cI x1 x3 E hE) (va_cwS 2 hw (gS w_86 w_87 w_1 w_88) rfl rfl rfl (by decide +kernel) ⟨Nat.le_of_ble_eq_true rfl, Nat.le_of_ble_eq_true rfl⟩) ⟨ev_blind, ev_pre trivial hK2 hev⟩ rfl rfl hl.1 rfl (lv_room (Nat.le_of_ble_eq_true rfl)) dF_box_2 ⟨Nat.le_of_ble_eq_true rfl, Nat.le_of_ble_eq_true rfl⟩) htab hlocks
  obtain ⟨u1, hu1, h⟩ := ob_some h
  refine va_csv (va_Run.run (va_runS (As := [.long x1, .long x3]) (rest := []) ⟨hx, hb, hml, hown, hw⟩ (k_F_needPlace l dC dI cL cI x1 x3 u1 hu1) (va_cwS 2 hw (gS w_86 w_87 w_1 w_88) rfl rfl rfl (by decide +kernel) ⟨Nat.le_of_ble_eq_true rfl, Nat.le_of_ble_eq_true rfl⟩) ⟨rd_blind, rd_pre trivial hK2⟩ rfl rfl hl.1 rfl (lv_room (Nat.le_of_ble_eq_true rfl)) dF_box_2 ⟨Nat.le_of_ble_eq_true rfl, Nat.le_of_ble_eq_true rfl⟩)) (fun _ => ?_)
  refine lv_lload hx hb dF_box_5 (lv_at hl 3 rfl) ?_
  rcases xt h with hE | ⟨hN, h⟩
  · exact thr_pass (vx_runS (As := [.long x5]) (rest := []) ⟨hx, hb, hml, hown, hw⟩ (kt_F_needLength l hl0 N0 dC dI cL cI x5 E hE) (va_cwS 1 hw (gS w_162 w_163 w_1 w_164) rfl rfl rfl (by decide +kernel) ⟨Nat.le_of_ble_eq_true rfl, Nat.le_of_ble_eq_true rfl⟩) ⟨ev_blind, ev_pre trivial hK2 hev⟩ rfl rfl hl.1 rfl (lv_room (Nat.le_of_ble_eq_true rfl)) dF_box_7 ⟨Nat.le_of_ble_eq_true rfl, Nat.le_of_ble_eq_true rfl⟩) htab hlocks
  obtain ⟨u2, hu2, h⟩ := ob_some h
  refine va_csv (va_Run.run (va_runS (As := [.long x5]) (rest := []) ⟨hx, hb, hml, hown, hw⟩ (k_F_needLength l dC dI cL cI x5 u2 hu2) (va_cwS 1 hw (gS w_162 w_163 w_1 w_164) rfl rfl rfl (by decide +kernel) ⟨Nat.le_of_ble_eq_true rfl, Nat.le_of_ble_eq_true rfl⟩) ⟨rd_blind, rd_pre trivial hK2⟩ rfl rfl hl.1 rfl (lv_room (Nat.le_of_ble_eq_true rfl)) dF_box_7 ⟨Nat.le_of_ble_eq_true rfl, Nat.le_of_ble_eq_true rfl⟩)) (fun _ => ?_)
  refine lv_lload hx hb dF_box_10 (lv_at hl 4 rfl) ?_
  rcases xt h with hE | ⟨hN, h⟩
  · exact thr_pass (vx_runS (As := [.long x7]) (rest := []) ⟨hx, hb, hml, hown, hw⟩ (kt_F_needLength l hl0 N0 dC dI cL cI x7 E hE) (va_cwS 1 hw (gS w_162 w_163 w_1 w_164) rfl rfl rfl (by decide +kernel) ⟨Nat.le_of_ble_eq_true rfl, Nat.le_of_ble_eq_true rfl⟩) ⟨ev_blind, ev_pre trivial hK2 hev⟩ rfl rfl hl.1 rfl (lv_room (Nat.le_of_ble_eq_true rfl)) dF_box_12 ⟨Nat.le_of_ble_eq_true rfl, Nat.le_of_ble_eq_true rfl⟩) htab hlocks
  obtain ⟨u3, hu3, h⟩ := ob_some h
  refine va_csv (va_Run.run (va_runS (As := [.long x7]) (rest := []) ⟨hx, hb, hml, hown, hw⟩ (k_F_needLength l dC dI cL cI x7 u3 hu3) (va_cwS 1 hw (gS w_162 w_163 w_1 w_164) rfl rfl rfl (by decide +kernel) ⟨Nat.le_of_ble_eq_true rfl, Nat.le_of_ble_eq_true rfl⟩) ⟨rd_blind, rd_pre trivial hK2⟩ rfl rfl hl.1 rfl (lv_room (Nat.le_of_ble_eq_true rfl)) dF_box_12 ⟨Nat.le_of_ble_eq_true rfl, Nat.le_of_ble_eq_true rfl⟩)) (fun _ => ?_)
  refine lv_lload_n hx hb dF_box_15 rfl (lv_at hl 1 rfl) ?_
  refine lv_lload hx hb dF_box_16 (lv_at hl 3 rfl) ?_
  refine lv_ladd hx hb dF_box_18 ?_
  refine lv_lload_n hx hb dF_box_19 rfl (lv_at hl 2 rfl) ?_
  refine lv_lload hx hb dF_box_20 (lv_at hl 4 rfl) ?_
  refine lv_ladd hx hb dF_box_22 ?_
  rcases xt h with hE | ⟨hN, h⟩
  · exact thr_pass (vx_runS (As := [.long (x1 + x5), .long (x3 + x7)]) (rest := []) ⟨hx, hb, hml, hown, hw⟩ (kt_F_needPlace l hl0 N0 dC dI cL cI (x1 + x5) (x3 + x7) E hE) (va_cwS 2 hw (gS w_86 w_87 w_1 w_88) rfl rfl rfl (by decide +kernel) ⟨Nat.le_of_ble_eq_true rfl, Nat.le_of_ble_eq_true rfl⟩) ⟨ev_blind, ev_pre trivial hK2 hev⟩ rfl rfl hl.1 rfl (lv_room (Nat.le_of_ble_eq_true rfl)) dF_box_23 ⟨Nat.le_of_ble_eq_true rfl, Nat.le_of_ble_eq_true rfl⟩) htab hlocks
  obtain ⟨u4, hu4, h⟩ := ob_some h
  refine va_csv (va_Run.run (va_runS (As := [.long (x1 + x5), .long (x3 + x7)]) (rest := []) ⟨hx, hb, hml, hown, hw⟩ (k_F_needPlace l dC dI cL cI (x1 + x5) (x3 + x7) u4 hu4) (va_cwS 2 hw (gS w_86 w_87 w_1 w_88) rfl rfl rfl (by decide +kernel) ⟨Nat.le_of_ble_eq_true rfl, Nat.le_of_ble_eq_true rfl⟩) ⟨rd_blind, rd_pre trivial hK2⟩ rfl rfl hl.1 rfl (lv_room (Nat.le_of_ble_eq_true rfl)) dF_box_23 ⟨Nat.le_of_ble_eq_true rfl, Nat.le_of_ble_eq_true rfl⟩)) (fun _ => ?_)
  refine lv_lload hx hb dF_box_26 (lv_at hl 5 rfl) ?_
  refine lv_lconst (v := 0) hx hb dF_box_28 (by decide) ?_
  refine W.lcmp hx hb dF_box_29 ?_
  refine lv_if_lt (tgt := 57) hx hb dF_box_30 (by decide) (fun c5 => ?_) (fun c5 => ?_)
  · have h := it_t c5 h
    exact k57 h ls (lv_sub hl [] rfl)
  · have h := it_f c5 h
    refine lv_lload hx hb dF_box_33 (lv_at hl 5 rfl) ?_
    refine lv_lload hx hb dF_box_35 (lv_at hl 3 rfl) ?_
    refine lv_ldc2 (v := 2) hx hb hown (hw _ w_181) dF_box_37 ?_
    refine lv_ldiv hx hb dF_box_40 (by decide) ?_
    refine W.lcmp hx hb dF_box_41 ?_
    refine lv_if_gt (tgt := 57) hx hb dF_box_42 (by decide) (fun c6 => ?_) (fun c6 => ?_)
    · have h := it_t c6 h
      exact k57 h ls (lv_sub hl [] rfl)
    · have h := it_f c6 h
      refine lv_lload hx hb dF_box_45 (lv_at hl 5 rfl) ?_
      refine lv_lload hx hb dF_box_47 (lv_at hl 4 rfl) ?_
      refine lv_ldc2 (v := 2) hx hb hown (hw _ w_181) dF_box_49 ?_
      refine lv_ldiv hx hb dF_box_52 (by decide) ?_
      refine W.lcmp hx hb dF_box_53 ?_
      refine lv_if_le (tgt := 67) hx hb dF_box_54 (by decide) (fun c7 => ?_) (fun c7 => ?_)
      · have h := it_t c7 h
        cases h
      · have h := it_f c7 h
        exact k57 h ls (lv_sub hl [] rfl)
theorem dF_trace_0 : decode cF_trace 0 = .ok (.lload_n 1, 1) := by decide +kernel
theorem dF_trace_1 : decode cF_trace 1 = .ok (.lconst 0, 1) := by decide +kernel
theorem dF_trace_2 : decode cF_trace 2 = .ok (.lcmp, 1) := by decide +kernel
theorem dF_trace_3 : decode cF_trace 3 = .ok (.ifCond .lt 21, 3) := by decide +kernel
theorem dF_trace_6 : decode cF_trace 6 = .ok (.lload_n 1, 1) := by decide +kernel
theorem dF_trace_7 : decode cF_trace 7 = .ok (.ldc2_w 51, 3) := by decide +kernel
theorem dF_trace_10 : decode cF_trace 10 = .ok (.lcmp, 1) := by decide +kernel
theorem dF_trace_11 : decode cF_trace 11 = .ok (.ifCond .gt 13, 3) := by decide +kernel
theorem dF_trace_14 : decode cF_trace 14 = .ok (.lload_n 1, 1) := by decide +kernel
theorem dF_trace_15 : decode cF_trace 15 = .ok (.ldc2_w 38, 3) := by decide +kernel
theorem dF_trace_18 : decode cF_trace 18 = .ok (.lrem, 1) := by decide +kernel
theorem dF_trace_19 : decode cF_trace 19 = .ok (.lconst 0, 1) := by decide +kernel
theorem dF_trace_20 : decode cF_trace 20 = .ok (.lcmp, 1) := by decide +kernel
theorem dF_trace_21 : decode cF_trace 21 = .ok (.ifCond .eq 13, 3) := by decide +kernel
theorem dF_trace_24 : decode cF_trace 24 = .ok (.new 40, 3) := by decide +kernel
theorem dF_trace_27 : decode cF_trace 27 = .ok (.dup, 1) := by decide +kernel
theorem dF_trace_28 : decode cF_trace 28 = .ok (.ldc 53, 2) := by decide +kernel
theorem dF_trace_30 : decode cF_trace 30 = .ok (.invokespecial 44, 3) := by decide +kernel
theorem dF_trace_33 : decode cF_trace 33 = .ok (.athrow, 1) := by decide +kernel
theorem dF_trace_34 : decode cF_trace 34 = .ok (.aload_n 0, 1) := by decide +kernel
theorem dF_trace_35 : decode cF_trace 35 = .ok (.new 9, 3) := by decide +kernel
theorem dF_trace_38 : decode cF_trace 38 = .ok (.dup, 1) := by decide +kernel
theorem dF_trace_39 : decode cF_trace 39 = .ok (.iconst 3, 1) := by decide +kernel
theorem dF_trace_40 : decode cF_trace 40 = .ok (.iconst 0, 1) := by decide +kernel
theorem dF_trace_41 : decode cF_trace 41 = .ok (.lload_n 1, 1) := by decide +kernel
theorem dF_trace_42 : decode cF_trace 42 = .ok (.ldc2_w 38, 3) := by decide +kernel
theorem dF_trace_45 : decode cF_trace 45 = .ok (.ldiv, 1) := by decide +kernel
theorem dF_trace_46 : decode cF_trace 46 = .ok (.invokespecial 27, 3) := by decide +kernel
theorem dF_trace_49 : decode cF_trace 49 = .ok (.invokevirtual 34, 3) := by decide +kernel
theorem dF_trace_52 : decode cF_trace 52 = .ok (.ireturn, 1) := by decide +kernel
def g_F_trace_j24 (v : CV) : Option String := some "java/lang/IllegalArgumentException"
def g_F_trace (v : CV) (x1 : Int64) : Option String := (if (lg_cmp x1 (0 : Int64)) < 0 then (g_F_trace_j24 v) else (if 0 < (lg_cmp x1 (2000000000 : Int64)) then (g_F_trace_j24 v) else (if (lg_cmp (x1 - x1 / (2 : Int64) * (2 : Int64)) (0 : Int64)) = 0 then none else (g_F_trace_j24 v))))
set_option maxHeartbeats 4000000 in
set_option maxRecDepth 100000 in
theorem kt_F_trace (l : Launch) (hl0 : l.stackTraces = false) (N0 : Nat) (dC : Nat → ClassId) (dI : Nat → Nat → Nat) (cL cI cO : ClassId) (x0 xa : Nat) (ad : Nat → Nat → Nat) (v : CV) (x1 : Int64) (E : String) (h : g_F_trace v x1 = some E) : vx_Met l yF_trace wsF_trace ({ frames := 6, cells := 1, slots := 6, locals := 90 }) (ev_Pc N0 [.ref x0, .long x1] (fun H => SFH (dC, dI) cL cI cO x0 xa ad v H) (dC, dI) cls3 (ty3 cL cI cO)) NoQ (XE E) 1 6 (fun _ => False) := by
  refine vx_ofW (cc := cF_trace) (maxL := 3) (ret := (some .int)) (by decide) rfl ?_
  intro p e s m args below meth c s₁ B hml htab hv
  obtain ⟨rfl, hPx, hK, hev⟩ := hv
  have hx := B.exec
  have hb := B.bytes
  have hr := B.returns
  have hw : ∀ w ∈ wG, w.before ([.ref x0, .long x1] : List Value).toArray s = true := fun w hq => atoms_spec (ws := wsF_trace) B.pre w (List.mem_cons_of_mem _ hq)
  have hown : s.vm.findClass R_F = some m.cls := findClass_of_methodNamed B.named
  have hlocks := B.notSynchronized
  have hK2 := hK.sub (tys' := [(cL, .long), (cI, .int)]) [0, 1] rfl
  have hl := lv_entry ([.ref x0, .long x1] : List Value) (n := 3) (Nat.le_of_ble_eq_true rfl)
  rw [lg_entry_eq]
  generalize (lg_sl ([.ref x0, .long x1] : List Value) ++ List.replicate (3 - (lg_sl ([.ref x0, .long x1] : List Value)).length) Slot.unset).toArray = ls at hl ⊢
  have hl : lv_has ls 3 [(0, .ref x0), (1, .long x1)] := hl
  have k24 : g_F_trace_j24 v = some E →  ∀ (ls : Array Slot), lv_has ls 3 [] → W p l e (headSpec wsF_trace ({ frames := 6, cells := 1, slots := 6, locals := 90 })).room s m ([.ref x0, .long x1] : List Value).toArray below meth c s.heap [] 0 0 (vx_MQ below NoQ (XE E) ([.ref x0, .long x1] : List Value).toArray s 1 6 (fun _ => False)) (F0 m 24 ls []) := by
    intro  h  ls hl
    unfold g_F_trace_j24 at h
    have h := Option.some.inj h
    subst h
    exact thr_F (text := "no even width from 0 to 2,000,000,000") hx hb hl0 hown hev hw tIAE_fit w_94 w_6 (by decide +kernel) tIAE_good tIAE_bad tIAE_ot (hl.1.trans hml.symm) htab hlocks dF_trace_24 dF_trace_27 dF_trace_28 dF_trace_30 dF_trace_33 (Nat.le_of_ble_eq_true rfl) (Nat.le_of_ble_eq_true rfl) (Nat.le_of_ble_eq_true rfl) (Nat.le_of_ble_eq_true rfl)
  unfold g_F_trace at h
  refine lv_lload_n hx hb dF_trace_0 rfl (lv_at hl 1 rfl) ?_
  refine lv_lconst (v := 0) hx hb dF_trace_1 (by decide) ?_
  refine W.lcmp hx hb dF_trace_2 ?_
  refine lv_if_lt (tgt := 24) hx hb dF_trace_3 (by decide) (fun c1 => ?_) (fun c1 => ?_)
  · have h := it_t c1 h
    exact k24 h ls (lv_sub hl [] rfl)
  · have h := it_f c1 h
    refine lv_lload_n hx hb dF_trace_6 rfl (lv_at hl 1 rfl) ?_
    refine lv_ldc2 (v := 2000000000) hx hb hown (hw _ w_193) dF_trace_7 ?_
    refine W.lcmp hx hb dF_trace_10 ?_
    refine lv_if_gt (tgt := 24) hx hb dF_trace_11 (by decide) (fun c2 => ?_) (fun c2 => ?_)
    · have h := it_t c2 h
      exact k24 h ls (lv_sub hl [] rfl)
    · have h := it_f c2 h
      refine lv_lload_n hx hb dF_trace_14 rfl (lv_at hl 1 rfl) ?_
      refine lv_ldc2 (v := 2) hx hb hown (hw _ w_181) dF_trace_15 ?_
      refine lv_lrem hx hb dF_trace_18 (by decide) ?_
      refine lv_lconst (v := 0) hx hb dF_trace_19 (by decide) ?_
      refine W.lcmp hx hb dF_trace_20 ?_
      refine lv_if_eq (tgt := 34) hx hb dF_trace_21 (by decide) (fun c3 => ?_) (fun c3 => ?_)
      · have h := it_t c3 h
        cases h
      · have h := it_f c3 h
        exact k24 h ls (lv_sub hl [] rfl)
theorem dF_corner_0 : decode cF_corner 0 = .ok (.aload_n 0, 1) := by decide +kernel
theorem dF_corner_1 : decode cF_corner 1 = .ok (.iload_n 1, 1) := by decide +kernel
theorem dF_corner_2 : decode cF_corner 2 = .ok (.invokevirtual 55, 3) := by decide +kernel
theorem dF_corner_5 : decode cF_corner 5 = .ok (.astore 6, 2) := by decide +kernel
theorem dF_corner_7 : decode cF_corner 7 = .ok (.aload 6, 2) := by decide +kernel
theorem dF_corner_9 : decode cF_corner 9 = .ok (.invokevirtual 59, 3) := by decide +kernel
theorem dF_corner_12 : decode cF_corner 12 = .ok (.ifCond .ne 13, 3) := by decide +kernel
theorem dF_corner_15 : decode cF_corner 15 = .ok (.new 63, 3) := by decide +kernel
theorem dF_corner_18 : decode cF_corner 18 = .ok (.dup, 1) := by decide +kernel
theorem dF_corner_19 : decode cF_corner 19 = .ok (.ldc 65, 2) := by decide +kernel
theorem dF_corner_21 : decode cF_corner 21 = .ok (.invokespecial 67, 3) := by decide +kernel
theorem dF_corner_24 : decode cF_corner 24 = .ok (.athrow, 1) := by decide +kernel
theorem dF_corner_25 : decode cF_corner 25 = .ok (.lload_n 2, 1) := by decide +kernel
theorem dF_corner_26 : decode cF_corner 26 = .ok (.lload 4, 2) := by decide +kernel
theorem dF_corner_28 : decode cF_corner 28 = .ok (.invokestatic 19, 3) := by decide +kernel
theorem dF_corner_31 : decode cF_corner 31 = .ok (.aload 6, 2) := by decide +kernel
theorem dF_corner_33 : decode cF_corner 33 = .ok (.lload_n 2, 1) := by decide +kernel
theorem dF_corner_34 : decode cF_corner 34 = .ok (.lload 4, 2) := by decide +kernel
theorem dF_corner_36 : decode cF_corner 36 = .ok (.invokevirtual 30, 3) := by decide +kernel
theorem dF_corner_39 : decode cF_corner 39 = .ok (.ireturn, 1) := by decide +kernel
def g_F_corner (v : CV) (x1 : Int32) (x2 : Int64) (x4 : Int64) : Option String := xthen (g_F_find v x1) <| (f_F_find v x1).bind fun u1 => (f_S_takesCorners (v.2 u1)).bind fun u2 => (if u2 = 0 then some "java/lang/IllegalStateException" else xthen (g_F_needPlace x2 x4) <| (f_F_needPlace x2 x4).bind fun u4 => none)
set_option maxHeartbeats 4000000 in
set_option maxRecDepth 100000 in
theorem kt_F_corner (l : Launch) (hl0 : l.stackTraces = false) (N0 : Nat) (dC : Nat → ClassId) (dI : Nat → Nat → Nat) (cL cI cO : ClassId) (x0 xa : Nat) (ad : Nat → Nat → Nat) (v : CV) (x1 : Int32) (x2 : Int64) (x4 : Int64) (E : String) (h : g_F_corner v x1 x2 x4 = some E) : vx_Met l yF_corner wsF_corner ({ frames := 7, cells := 1, slots := 6, locals := 113 }) (ev_Pc N0 [.ref x0, .int x1, .long x2, .long x4] (fun H => SFH (dC, dI) cL cI cO x0 xa ad v H) (dC, dI) cls3 (ty3 cL cI cO)) NoQ (XE E) 1 6 (fun _ => False) := by
  refine vx_ofW (cc := cF_corner) (maxL := 7) (ret := (some .boolean)) (by decide) rfl ?_
  intro p e s m args below meth c s₁ B hml htab hv
  obtain ⟨rfl, hPx, hK, hev⟩ := hv
  have hx := B.exec
  have hb := B.bytes
  have hr := B.returns
  have hw : ∀ w ∈ wG, w.before ([.ref x0, .int x1, .long x2, .long x4] : List Value).toArray s = true := fun w hq => atoms_spec (ws := wsF_corner) B.pre w (List.mem_cons_of_mem _ hq)
  have hown : s.vm.findClass R_F = some m.cls := findClass_of_methodNamed B.named
  have hlocks := B.notSynchronized
  have hK2 := hK.sub (tys' := [(cL, .long), (cI, .int)]) [0, 1] rfl
  have hl := lv_entry ([.ref x0, .int x1, .long x2, .long x4] : List Value) (n := 7) (Nat.le_of_ble_eq_true rfl)
  rw [lg_entry_eq]
  generalize (lg_sl ([.ref x0, .int x1, .long x2, .long x4] : List Value) ++ List.replicate (7 - (lg_sl ([.ref x0, .int x1, .long x2, .long x4] : List Value)).length) Slot.unset).toArray = ls at hl ⊢
  have hl : lv_has ls 7 [(0, .ref x0), (1, .int x1), (2, .long x2), (4, .long x4)] := hl
  unfold g_F_corner at h
  refine lv_aload_n hx hb dF_corner_0 rfl (lv_at hl 0 rfl) ?_
  refine lv_iload_n hx hb dF_corner_1 rfl (lv_at hl 1 rfl) ?_
  rcases xt h with hE | ⟨hN, h⟩
  · exact thr_pass (vx_runV (As := [.int x1]) (rest := []) ⟨hx, hb, hml, hown, hw⟩ (kt_F_find l hl0 N0 dC dI cL cI cO x0 xa ad v x1 E hE) (cwV 1 hw (gV w_204 w_206 wp_2 w_1 w_207) rfl rfl rfl (by decide +kernel) ⟨Nat.le_of_ble_eq_true rfl, Nat.le_of_ble_eq_true rfl⟩) ⟨ev_blind, va_recv hK hPx.1 (ci := 1) (q0 := 0) rfl rfl, ev_pre hPx hK hev⟩ rfl rfl hl.1 rfl (lv_room (Nat.le_of_ble_eq_true rfl)) dF_corner_2 ⟨Nat.le_of_ble_eq_true rfl, Nat.le_of_ble_eq_true rfl⟩) htab hlocks
  obtain ⟨u1, hu1, h⟩ := ob_some h
  refine va_csr (va_Run.run (va_runV (As := [.int x1]) (rest := []) ⟨hx, hb, hml, hown, hw⟩ (k_F_find l dC dI cL cI cO x0 xa ad v x1 u1 hu1) (cwV 1 hw (gV w_204 w_206 wp_2 w_1 w_207) rfl rfl rfl (by decide +kernel) ⟨Nat.le_of_ble_eq_true rfl, Nat.le_of_ble_eq_true rfl⟩) ⟨rd_blind, va_recv hK hPx.1 (ci := 1) (q0 := 0) rfl rfl, rd_pre hPx hK⟩ rfl rfl hl.1 rfl (lv_room (Nat.le_of_ble_eq_true rfl)) dF_corner_2 ⟨Nat.le_of_ble_eq_true rfl, Nat.le_of_ble_eq_true rfl⟩)) (fun z hz => ?_)
  rw [hz]; clear hz
  have hltu1 := (find_lt hPx.2.2 hu1).1
  refine lv_astore (lv' := [(6, .ref (ad u1 0)), (0, .ref x0), (1, .int x1), (2, .long x2), (4, .long x4)]) hx hb dF_corner_5 hl (by decide) rfl (fun ls hl => ?_)
  refine lv_aload hx hb dF_corner_7 (lv_at hl 0 rfl) ?_
  obtain ⟨u2, hu2, h⟩ := ob_some h
  refine vp_callSi (va_Run.run (va_runV (As := []) (rest := []) ⟨hx, hb, hml, hown, hw⟩ (k_S_takesCorners l dC dI cL cI (ad u1 0) (ad u1 1) (ad u1 2) (ad u1 3) (v.2 u1) u2 hu2) (cwV 0 hw (gV w_224 w_225 w_226 w_7 w_227) rfl rfl rfl (by decide +kernel) ⟨Nat.le_of_ble_eq_true rfl, Nat.le_of_ble_eq_true rfl⟩) ⟨rd_blind, va_recv hK (hPx.2.1 u1 hltu1) (ci := 0) (q0 := 0) rfl rfl, rd_pre (hPx.2.1 u1 hltu1) hK2⟩ rfl rfl hl.1 rfl (lv_room (Nat.le_of_ble_eq_true rfl)) dF_corner_9 ⟨Nat.le_of_ble_eq_true rfl, Nat.le_of_ble_eq_true rfl⟩)) (fun z hz => ?_)
  rw [hz]; clear hz
  refine lv_if_ne (tgt := 25) hx hb dF_corner_12 (by decide) (fun c3 => ?_) (fun c3 => ?_)
  · have h := it_f c3 h
    refine lv_lload_n hx hb dF_corner_25 rfl (lv_at hl 3 rfl) ?_
    refine lv_lload hx hb dF_corner_26 (lv_at hl 4 rfl) ?_
    rcases xt h with hE | ⟨hN, h⟩
    · exact thr_pass (vx_runS (As := [.long x2, .long x4]) (rest := []) ⟨hx, hb, hml, hown, hw⟩ (kt_F_needPlace l hl0 N0 dC dI cL cI x2 x4 E hE) (va_cwS 2 hw (gS w_86 w_87 w_1 w_88) rfl rfl rfl (by decide +kernel) ⟨Nat.le_of_ble_eq_true rfl, Nat.le_of_ble_eq_true rfl⟩) ⟨ev_blind, ev_pre trivial hK2 hev⟩ rfl rfl hl.1 rfl (lv_room (Nat.le_of_ble_eq_true rfl)) dF_corner_28 ⟨Nat.le_of_ble_eq_true rfl, Nat.le_of_ble_eq_true rfl⟩) htab hlocks
    obtain ⟨u4, hu4, h⟩ := ob_some h
    refine va_csv (va_Run.run (va_runS (As := [.long x2, .long x4]) (rest := []) ⟨hx, hb, hml, hown, hw⟩ (k_F_needPlace l dC dI cL cI x2 x4 u4 hu4) (va_cwS 2 hw (gS w_86 w_87 w_1 w_88) rfl rfl rfl (by decide +kernel) ⟨Nat.le_of_ble_eq_true rfl, Nat.le_of_ble_eq_true rfl⟩) ⟨rd_blind, rd_pre trivial hK2⟩ rfl rfl hl.1 rfl (lv_room (Nat.le_of_ble_eq_true rfl)) dF_corner_28 ⟨Nat.le_of_ble_eq_true rfl, Nat.le_of_ble_eq_true rfl⟩)) (fun _ => ?_)
    cases h
  · have h := it_t c3 h
    have h := Option.some.inj h
    subst h
    exact thr_F (text := "the shape takes no corners") hx hb hl0 hown hev hw tISE_fit w_228 w_9 (by decide +kernel) tISE_good tISE_bad tISE_ot (hl.1.trans hml.symm) htab hlocks dF_corner_15 dF_corner_18 dF_corner_19 dF_corner_21 dF_corner_24 (Nat.le_of_ble_eq_true rfl) (Nat.le_of_ble_eq_true rfl) (Nat.le_of_ble_eq_true rfl) (Nat.le_of_ble_eq_true rfl)
theorem dF_ring_0 : decode cF_ring 0 = .ok (.aload_n 0, 1) := by decide +kernel
theorem dF_ring_1 : decode cF_ring 1 = .ok (.iload_n 1, 1) := by decide +kernel
theorem dF_ring_2 : decode cF_ring 2 = .ok (.invokevirtual 55, 3) := by decide +kernel
theorem dF_ring_5 : decode cF_ring 5 = .ok (.astore_n 2, 1) := by decide +kernel
theorem dF_ring_6 : decode cF_ring 6 = .ok (.aload_n 2, 1) := by decide +kernel
theorem dF_ring_7 : decode cF_ring 7 = .ok (.invokevirtual 68, 3) := by decide +kernel
theorem dF_ring_10 : decode cF_ring 10 = .ok (.ifCond .ne 13, 3) := by decide +kernel
theorem dF_ring_13 : decode cF_ring 13 = .ok (.new 63, 3) := by decide +kernel
theorem dF_ring_16 : decode cF_ring 16 = .ok (.dup, 1) := by decide +kernel
theorem dF_ring_17 : decode cF_ring 17 = .ok (.ldc 71, 2) := by decide +kernel
theorem dF_ring_19 : decode cF_ring 19 = .ok (.invokespecial 67, 3) := by decide +kernel
theorem dF_ring_22 : decode cF_ring 22 = .ok (.athrow, 1) := by decide +kernel
theorem dF_ring_23 : decode cF_ring 23 = .ok (.aload_n 2, 1) := by decide +kernel
theorem dF_ring_24 : decode cF_ring 24 = .ok (.invokevirtual 73, 3) := by decide +kernel
theorem dF_ring_27 : decode cF_ring 27 = .ok (.ireturn, 1) := by decide +kernel
def g_F_ring (v : CV) (x1 : Int32) : Option String := xthen (g_F_find v x1) <| (f_F_find v x1).bind fun u1 => (f_S_hasOpenRing (v.2 u1)).bind fun u2 => (if u2 = 0 then some "java/lang/IllegalStateException" else none)
set_option maxHeartbeats 4000000 in
set_option maxRecDepth 100000 in
theorem kt_F_ring (l : Launch) (hl0 : l.stackTraces = false) (N0 : Nat) (dC : Nat → ClassId) (dI : Nat → Nat → Nat) (cL cI cO : ClassId) (x0 xa : Nat) (ad : Nat → Nat → Nat) (v : CV) (x1 : Int32) (E : String) (h : g_F_ring v x1 = some E) : vx_Met l yF_ring wsF_ring ({ frames := 7, cells := 1, slots := 6, locals := 122 }) (ev_Pc N0 [.ref x0, .int x1] (fun H => SFH (dC, dI) cL cI cO x0 xa ad v H) (dC, dI) cls3 (ty3 cL cI cO)) NoQ (XE E) 1 6 (fun _ => False) := by
  refine vx_ofW (cc := cF_ring) (maxL := 3) (ret := (some .boolean)) (by decide) rfl ?_
  intro p e s m args below meth c s₁ B hml htab hv
  obtain ⟨rfl, hPx, hK, hev⟩ := hv
  have hx := B.exec
  have hb := B.bytes
  have hr := B.returns
  have hw : ∀ w ∈ wG, w.before ([.ref x0, .int x1] : List Value).toArray s = true := fun w hq => atoms_spec (ws := wsF_ring) B.pre w (List.mem_cons_of_mem _ hq)
  have hown : s.vm.findClass R_F = some m.cls := findClass_of_methodNamed B.named
  have hlocks := B.notSynchronized
  have hK2 := hK.sub (tys' := [(cL, .long), (cI, .int)]) [0, 1] rfl
  have hl := lv_entry ([.ref x0, .int x1] : List Value) (n := 3) (Nat.le_of_ble_eq_true rfl)
  rw [lg_entry_eq]
  generalize (lg_sl ([.ref x0, .int x1] : List Value) ++ List.replicate (3 - (lg_sl ([.ref x0, .int x1] : List Value)).length) Slot.unset).toArray = ls at hl ⊢
  have hl : lv_has ls 3 [(0, .ref x0), (1, .int x1)] := hl
  unfold g_F_ring at h
  refine lv_aload_n hx hb dF_ring_0 rfl (lv_at hl 0 rfl) ?_
  refine lv_iload_n hx hb dF_ring_1 rfl (lv_at hl 1 rfl) ?_
  rcases xt h with hE | ⟨hN, h⟩
  · exact thr_pass (vx_runV (As := [.int x1]) (rest := []) ⟨hx, hb, hml, hown, hw⟩ (kt_F_find l hl0 N0 dC dI cL cI cO x0 xa ad v x1 E hE) (cwV 1 hw (gV w_204 w_206 wp_2 w_1 w_207) rfl rfl rfl (by decide +kernel) ⟨Nat.le_of_ble_eq_true rfl, Nat.le_of_ble_eq_true rfl⟩) ⟨ev_blind, va_recv hK hPx.1 (ci := 1) (q0 := 0) rfl rfl, ev_pre hPx hK hev⟩ rfl rfl hl.1 rfl (lv_room (Nat.le_of_ble_eq_true rfl)) dF_ring_2 ⟨Nat.le_of_ble_eq_true rfl, Nat.le_of_ble_eq_true rfl⟩) htab hlocks
  obtain ⟨u1, hu1, h⟩ := ob_some h
  refine va_csr (va_Run.run (va_runV (As := [.int x1]) (rest := []) ⟨hx, hb, hml, hown, hw⟩ (k_F_find l dC dI cL cI cO x0 xa ad v x1 u1 hu1) (cwV 1 hw (gV w_204 w_206 wp_2 w_1 w_207) rfl rfl rfl (by decide +kernel) ⟨Nat.le_of_ble_eq_true rfl, Nat.le_of_ble_eq_true rfl⟩) ⟨rd_blind, va_recv hK hPx.1 (ci := 1) (q0 := 0) rfl rfl, rd_pre hPx hK⟩ rfl rfl hl.1 rfl (lv_room (Nat.le_of_ble_eq_true rfl)) dF_ring_2 ⟨Nat.le_of_ble_eq_true rfl, Nat.le_of_ble_eq_true rfl⟩)) (fun z hz => ?_)
  rw [hz]; clear hz
  have hltu1 := (find_lt hPx.2.2 hu1).1
  refine lv_astore_n (lv' := [(2, .ref (ad u1 0)), (0, .ref x0), (1, .int x1)]) hx hb dF_ring_5 rfl hl (by decide) rfl (fun ls hl => ?_)
  refine lv_aload_n hx hb dF_ring_6 rfl (lv_at hl 0 rfl) ?_
  obtain ⟨u2, hu2, h⟩ := ob_some h
  refine vp_callSi (va_Run.run (va_runV (As := []) (rest := []) ⟨hx, hb, hml, hown, hw⟩ (k_S_hasOpenRing l dC dI cL cI (ad u1 0) (ad u1 1) (ad u1 2) (ad u1 3) (v.2 u1) u2 hu2) (cwV 0 hw (gV w_251 w_252 w_253 w_7 w_254) rfl rfl rfl (by decide +kernel) ⟨Nat.le_of_ble_eq_true rfl, Nat.le_of_ble_eq_true rfl⟩) ⟨rd_blind, va_recv hK (hPx.2.1 u1 hltu1) (ci := 0) (q0 := 0) rfl rfl, rd_pre (hPx.2.1 u1 hltu1) hK2⟩ rfl rfl hl.1 rfl (lv_room (Nat.le_of_ble_eq_true rfl)) dF_ring_7 ⟨Nat.le_of_ble_eq_true rfl, Nat.le_of_ble_eq_true rfl⟩)) (fun z hz => ?_)
  rw [hz]; clear hz
  refine lv_if_ne (tgt := 23) hx hb dF_ring_10 (by decide) (fun c3 => ?_) (fun c3 => ?_)
  · have h := it_f c3 h
    cases h
  · have h := it_t c3 h
    have h := Option.some.inj h
    subst h
    exact thr_F (text := "no polygon with corners behind its last ring") hx hb hl0 hown hev hw tISE_fit w_228 w_9 (by decide +kernel) tISE_good tISE_bad tISE_ot (hl.1.trans hml.symm) htab hlocks dF_ring_13 dF_ring_16 dF_ring_17 dF_ring_19 dF_ring_22 (Nat.le_of_ble_eq_true rfl) (Nat.le_of_ble_eq_true rfl) (Nat.le_of_ble_eq_true rfl) (Nat.le_of_ble_eq_true rfl)
theorem dF_grow_0 : decode cF_grow 0 = .ok (.aload_n 0, 1) := by decide +kernel
theorem dF_grow_1 : decode cF_grow 1 = .ok (.iload_n 1, 1) := by decide +kernel
theorem dF_grow_2 : decode cF_grow 2 = .ok (.invokevirtual 55, 3) := by decide +kernel
theorem dF_grow_5 : decode cF_grow 5 = .ok (.astore 4, 2) := by decide +kernel
theorem dF_grow_7 : decode cF_grow 7 = .ok (.aload 4, 2) := by decide +kernel
theorem dF_grow_9 : decode cF_grow 9 = .ok (.invokestatic 76, 3) := by decide +kernel
theorem dF_grow_12 : decode cF_grow 12 = .ok (.lload_n 2, 1) := by decide +kernel
theorem dF_grow_13 : decode cF_grow 13 = .ok (.ldc2_w 80, 3) := by decide +kernel
theorem dF_grow_16 : decode cF_grow 16 = .ok (.lcmp, 1) := by decide +kernel
theorem dF_grow_17 : decode cF_grow 17 = .ok (.ifCond .lt 11, 3) := by decide +kernel
theorem dF_grow_20 : decode cF_grow 20 = .ok (.lload_n 2, 1) := by decide +kernel
theorem dF_grow_21 : decode cF_grow 21 = .ok (.ldc2_w 82, 3) := by decide +kernel
theorem dF_grow_24 : decode cF_grow 24 = .ok (.lcmp, 1) := by decide +kernel
theorem dF_grow_25 : decode cF_grow 25 = .ok (.ifCond .le 13, 3) := by decide +kernel
theorem dF_grow_28 : decode cF_grow 28 = .ok (.new 40, 3) := by decide +kernel
theorem dF_grow_31 : decode cF_grow 31 = .ok (.dup, 1) := by decide +kernel
theorem dF_grow_32 : decode cF_grow 32 = .ok (.ldc 84, 2) := by decide +kernel
theorem dF_grow_34 : decode cF_grow 34 = .ok (.invokespecial 44, 3) := by decide +kernel
theorem dF_grow_37 : decode cF_grow 37 = .ok (.athrow, 1) := by decide +kernel
theorem dF_grow_38 : decode cF_grow 38 = .ok (.aload 4, 2) := by decide +kernel
theorem dF_grow_40 : decode cF_grow 40 = .ok (.getfield 86, 3) := by decide +kernel
theorem dF_grow_43 : decode cF_grow 43 = .ok (.lload_n 2, 1) := by decide +kernel
theorem dF_grow_44 : decode cF_grow 44 = .ok (.ladd, 1) := by decide +kernel
theorem dF_grow_45 : decode cF_grow 45 = .ok (.lstore 5, 2) := by decide +kernel
theorem dF_grow_47 : decode cF_grow 47 = .ok (.lload 5, 2) := by decide +kernel
theorem dF_grow_49 : decode cF_grow 49 = .ok (.invokestatic 90, 3) := by decide +kernel
theorem dF_grow_52 : decode cF_grow 52 = .ok (.ifCond .ne 5, 3) := by decide +kernel
theorem dF_grow_55 : decode cF_grow 55 = .ok (.iconst (-1), 1) := by decide +kernel
theorem dF_grow_56 : decode cF_grow 56 = .ok (.ireturn, 1) := by decide +kernel
theorem dF_grow_57 : decode cF_grow 57 = .ok (.aload_n 0, 1) := by decide +kernel
theorem dF_grow_58 : decode cF_grow 58 = .ok (.aload 4, 2) := by decide +kernel
theorem dF_grow_60 : decode cF_grow 60 = .ok (.lload 5, 2) := by decide +kernel
theorem dF_grow_62 : decode cF_grow 62 = .ok (.invokevirtual 94, 3) := by decide +kernel
theorem dF_grow_65 : decode cF_grow 65 = .ok (.invokevirtual 34, 3) := by decide +kernel
theorem dF_grow_68 : decode cF_grow 68 = .ok (.ireturn, 1) := by decide +kernel
def g_F_grow_j28 (v : CV) : Option String := some "java/lang/IllegalArgumentException"
def g_F_grow (v : CV) (x1 : Int32) (x2 : Int64) : Option String := xthen (g_F_find v x1) <| (f_F_find v x1).bind fun u1 => xthen (g_F_needWhole (v.2 u1)) <| (f_F_needWhole (v.2 u1)).bind fun u2 => (if (lg_cmp x2 (-1000000000 : Int64)) < 0 then (g_F_grow_j28 v) else (if (lg_cmp x2 (1000000000 : Int64)) ≤ 0 then none else (g_F_grow_j28 v)))
set_option maxHeartbeats 4000000 in
set_option maxRecDepth 100000 in
theorem kt_F_grow (l : Launch) (hl0 : l.stackTraces = false) (N0 : Nat) (dC : Nat → ClassId) (dI : Nat → Nat → Nat) (cL cI cO : ClassId) (x0 xa : Nat) (ad : Nat → Nat → Nat) (v : CV) (x1 : Int32) (x2 : Int64) (E : String) (h : g_F_grow v x1 x2 = some E) : vx_Met l yF_grow wsF_grow ({ frames := 7, cells := 1, slots := 6, locals := 112 }) (ev_Pc N0 [.ref x0, .int x1, .long x2] (fun H => SFH (dC, dI) cL cI cO x0 xa ad v H) (dC, dI) cls3 (ty3 cL cI cO)) NoQ (XE E) 1 6 (fun _ => False) := by
  refine vx_ofW (cc := cF_grow) (maxL := 7) (ret := (some .int)) (by decide) rfl ?_
  intro p e s m args below meth c s₁ B hml htab hv
  obtain ⟨rfl, hPx, hK, hev⟩ := hv
  have hx := B.exec
  have hb := B.bytes
  have hr := B.returns
  have hw : ∀ w ∈ wG, w.before ([.ref x0, .int x1, .long x2] : List Value).toArray s = true := fun w hq => atoms_spec (ws := wsF_grow) B.pre w (List.mem_cons_of_mem _ hq)
  have hown : s.vm.findClass R_F = some m.cls := findClass_of_methodNamed B.named
  have hlocks := B.notSynchronized
  have hK2 := hK.sub (tys' := [(cL, .long), (cI, .int)]) [0, 1] rfl
  have hl := lv_entry ([.ref x0, .int x1, .long x2] : List Value) (n := 7) (Nat.le_of_ble_eq_true rfl)
  rw [lg_entry_eq]
  generalize (lg_sl ([.ref x0, .int x1, .long x2] : List Value) ++ List.replicate (7 - (lg_sl ([.ref x0, .int x1, .long x2] : List Value)).length) Slot.unset).toArray = ls at hl ⊢
  have hl : lv_has ls 7 [(0, .ref x0), (1, .int x1), (2, .long x2)] := hl
  have k28 : g_F_grow_j28 v = some E →  ∀ (ls : Array Slot), lv_has ls 7 [] → W p l e (headSpec wsF_grow ({ frames := 7, cells := 1, slots := 6, locals := 112 })).room s m ([.ref x0, .int x1, .long x2] : List Value).toArray below meth c s.heap [] 0 0 (vx_MQ below NoQ (XE E) ([.ref x0, .int x1, .long x2] : List Value).toArray s 1 6 (fun _ => False)) (F0 m 28 ls []) := by
    intro  h  ls hl
    unfold g_F_grow_j28 at h
    have h := Option.some.inj h
    subst h
    exact thr_F (text := "not -1,000,000,000 to 1,000,000,000") hx hb hl0 hown hev hw tIAE_fit w_94 w_6 (by decide +kernel) tIAE_good tIAE_bad tIAE_ot (hl.1.trans hml.symm) htab hlocks dF_grow_28 dF_grow_31 dF_grow_32 dF_grow_34 dF_grow_37 (Nat.le_of_ble_eq_true rfl) (Nat.le_of_ble_eq_true rfl) (Nat.le_of_ble_eq_true rfl) (Nat.le_of_ble_eq_true rfl)
  unfold g_F_grow at h
  refine lv_aload_n hx hb dF_grow_0 rfl (lv_at hl 0 rfl) ?_
  refine lv_iload_n hx hb dF_grow_1 rfl (lv_at hl 1 rfl) ?_
  rcases xt h with hE | ⟨hN, h⟩
  · exact thr_pass (vx_runV (As := [.int x1]) (rest := []) ⟨hx, hb, hml, hown, hw⟩ (kt_F_find l hl0 N0 dC dI cL cI cO x0 xa ad v x1 E hE) (cwV 1 hw (gV w_204 w_206 wp_2 w_1 w_207) rfl rfl rfl (by decide +kernel) ⟨Nat.le_of_ble_eq_true rfl, Nat.le_of_ble_eq_true rfl⟩) ⟨ev_blind, va_recv hK hPx.1 (ci := 1) (q0 := 0) rfl rfl, ev_pre hPx hK hev⟩ rfl rfl hl.1 rfl (lv_room (Nat.le_of_ble_eq_true rfl)) dF_grow_2 ⟨Nat.le_of_ble_eq_true rfl, Nat.le_of_ble_eq_true rfl⟩) htab hlocks
  obtain ⟨u1, hu1, h⟩ := ob_some h
  refine va_csr (va_Run.run (va_runV (As := [.int x1]) (rest := []) ⟨hx, hb, hml, hown, hw⟩ (k_F_find l dC dI cL cI cO x0 xa ad v x1 u1 hu1) (cwV 1 hw (gV w_204 w_206 wp_2 w_1 w_207) rfl rfl rfl (by decide +kernel) ⟨Nat.le_of_ble_eq_true rfl, Nat.le_of_ble_eq_true rfl⟩) ⟨rd_blind, va_recv hK hPx.1 (ci := 1) (q0 := 0) rfl rfl, rd_pre hPx hK⟩ rfl rfl hl.1 rfl (lv_room (Nat.le_of_ble_eq_true rfl)) dF_grow_2 ⟨Nat.le_of_ble_eq_true rfl, Nat.le_of_ble_eq_true rfl⟩)) (fun z hz => ?_)
  rw [hz]; clear hz
  have hltu1 := (find_lt hPx.2.2 hu1).1
  refine lv_astore (lv' := [(4, .ref (ad u1 0)), (0, .ref x0), (1, .int x1), (2, .long x2)]) hx hb dF_grow_5 hl (by decide) rfl (fun ls hl => ?_)
  refine lv_aload hx hb dF_grow_7 (lv_at hl 0 rfl) ?_
  rcases xt h with hE | ⟨hN, h⟩
  · exact thr_pass (vx_runS (As := [.ref (ad u1 0)]) (rest := []) ⟨hx, hb, hml, hown, hw⟩ (kt_F_needWhole l hl0 N0 dC dI cL cI (ad u1 0) (ad u1 1) (ad u1 2) (ad u1 3) (v.2 u1) E hE) (va_cwS 1 hw (gS w_295 w_296 w_1 w_297) rfl rfl rfl (by decide +kernel) ⟨Nat.le_of_ble_eq_true rfl, Nat.le_of_ble_eq_true rfl⟩) ⟨ev_blind, ev_pre (hPx.2.1 u1 hltu1) hK2 hev⟩ rfl rfl hl.1 rfl (lv_room (Nat.le_of_ble_eq_true rfl)) dF_grow_9 ⟨Nat.le_of_ble_eq_true rfl, Nat.le_of_ble_eq_true rfl⟩) htab hlocks
  obtain ⟨u2, hu2, h⟩ := ob_some h
  refine va_csv (va_Run.run (va_runS (As := [.ref (ad u1 0)]) (rest := []) ⟨hx, hb, hml, hown, hw⟩ (k_F_needWhole l dC dI cL cI (ad u1 0) (ad u1 1) (ad u1 2) (ad u1 3) (v.2 u1) u2 hu2) (va_cwS 1 hw (gS w_295 w_296 w_1 w_297) rfl rfl rfl (by decide +kernel) ⟨Nat.le_of_ble_eq_true rfl, Nat.le_of_ble_eq_true rfl⟩) ⟨rd_blind, rd_pre (hPx.2.1 u1 hltu1) hK2⟩ rfl rfl hl.1 rfl (lv_room (Nat.le_of_ble_eq_true rfl)) dF_grow_9 ⟨Nat.le_of_ble_eq_true rfl, Nat.le_of_ble_eq_true rfl⟩)) (fun _ => ?_)
  refine lv_lload_n hx hb dF_grow_12 rfl (lv_at hl 3 rfl) ?_
  refine lv_ldc2 (v := (-1000000000)) hx hb hown (hw _ w_304) dF_grow_13 ?_
  refine W.lcmp hx hb dF_grow_16 ?_
  refine lv_if_lt (tgt := 28) hx hb dF_grow_17 (by decide) (fun c3 => ?_) (fun c3 => ?_)
  · have h := it_t c3 h
    exact k28 h ls (lv_sub hl [] rfl)
  · have h := it_f c3 h
    refine lv_lload_n hx hb dF_grow_20 rfl (lv_at hl 3 rfl) ?_
    refine lv_ldc2 (v := 1000000000) hx hb hown (hw _ w_168) dF_grow_21 ?_
    refine W.lcmp hx hb dF_grow_24 ?_
    refine lv_if_le (tgt := 38) hx hb dF_grow_25 (by decide) (fun c4 => ?_) (fun c4 => ?_)
    · have h := it_t c4 h
      cases h
    · have h := it_f c4 h
      exact k28 h ls (lv_sub hl [] rfl)
theorem dF_turn_0 : decode cF_turn 0 = .ok (.aload_n 0, 1) := by decide +kernel
theorem dF_turn_1 : decode cF_turn 1 = .ok (.iload_n 1, 1) := by decide +kernel
theorem dF_turn_2 : decode cF_turn 2 = .ok (.invokevirtual 55, 3) := by decide +kernel
theorem dF_turn_5 : decode cF_turn 5 = .ok (.astore 4, 2) := by decide +kernel
theorem dF_turn_7 : decode cF_turn 7 = .ok (.aload 4, 2) := by decide +kernel
theorem dF_turn_9 : decode cF_turn 9 = .ok (.invokestatic 76, 3) := by decide +kernel
theorem dF_turn_12 : decode cF_turn 12 = .ok (.aload 4, 2) := by decide +kernel
theorem dF_turn_14 : decode cF_turn 14 = .ok (.aload 4, 2) := by decide +kernel
theorem dF_turn_16 : decode cF_turn 16 = .ok (.getfield 86, 3) := by decide +kernel
theorem dF_turn_19 : decode cF_turn 19 = .ok (.invokevirtual 94, 3) := by decide +kernel
theorem dF_turn_22 : decode cF_turn 22 = .ok (.astore 5, 2) := by decide +kernel
theorem dF_turn_24 : decode cF_turn 24 = .ok (.iload_n 3, 1) := by decide +kernel
theorem dF_turn_25 : decode cF_turn 25 = .ok (.ifCond .eq 8, 3) := by decide +kernel
theorem dF_turn_28 : decode cF_turn 28 = .ok (.aload 5, 2) := by decide +kernel
theorem dF_turn_30 : decode cF_turn 30 = .ok (.invokevirtual 120, 3) := by decide +kernel
theorem dF_turn_33 : decode cF_turn 33 = .ok (.iload_n 2, 1) := by decide +kernel
theorem dF_turn_34 : decode cF_turn 34 = .ok (.iconst 4, 1) := by decide +kernel
theorem dF_turn_35 : decode cF_turn 35 = .ok (.invokestatic 123, 3) := by decide +kernel
theorem dF_turn_38 : decode cF_turn 38 = .ok (.istore 6, 2) := by decide +kernel
theorem dF_turn_40 : decode cF_turn 40 = .ok (.iconst 0, 1) := by decide +kernel
theorem dF_turn_41 : decode cF_turn 41 = .ok (.istore 7, 2) := by decide +kernel
theorem dF_turn_43 : decode cF_turn 43 = .ok (.iload 7, 2) := by decide +kernel
theorem dF_turn_45 : decode cF_turn 45 = .ok (.iload 6, 2) := by decide +kernel
theorem dF_turn_47 : decode cF_turn 47 = .ok (.if_icmp .ge 14, 3) := by decide +kernel
theorem dF_turn_50 : decode cF_turn 50 = .ok (.aload 5, 2) := by decide +kernel
theorem dF_turn_52 : decode cF_turn 52 = .ok (.invokevirtual 129, 3) := by decide +kernel
theorem dF_turn_55 : decode cF_turn 55 = .ok (.iinc 7 1, 3) := by decide +kernel
theorem dF_turn_58 : decode cF_turn 58 = .ok (.goto (-15), 3) := by decide +kernel
theorem dF_turn_61 : decode cF_turn 61 = .ok (.aload_n 0, 1) := by decide +kernel
theorem dF_turn_62 : decode cF_turn 62 = .ok (.aload 5, 2) := by decide +kernel
theorem dF_turn_64 : decode cF_turn 64 = .ok (.invokevirtual 34, 3) := by decide +kernel
theorem dF_turn_67 : decode cF_turn 67 = .ok (.ireturn, 1) := by decide +kernel
def g_F_turn (v : CV) (x1 : Int32) (x2 : Int32) (x3 : Int32) : Option String := xthen (g_F_find v x1) <| (f_F_find v x1).bind fun u1 => xthen (g_F_needWhole (v.2 u1)) <| (f_F_needWhole (v.2 u1)).bind fun u2 => none
set_option maxHeartbeats 4000000 in
set_option maxRecDepth 100000 in
theorem kt_F_turn (l : Launch) (hl0 : l.stackTraces = false) (N0 : Nat) (dC : Nat → ClassId) (dI : Nat → Nat → Nat) (cL cI cO : ClassId) (x0 xa : Nat) (ad : Nat → Nat → Nat) (v : CV) (x1 : Int32) (x2 : Int32) (x3 : Int32) (E : String) (h : g_F_turn v x1 x2 x3 = some E) : vx_Met l yF_turn wsF_turn ({ frames := 7, cells := 1, slots := 6, locals := 112 }) (ev_Pc N0 [.ref x0, .int x1, .int x2, .int x3] (fun H => SFH (dC, dI) cL cI cO x0 xa ad v H) (dC, dI) cls3 (ty3 cL cI cO)) NoQ (XE E) 1 6 (fun _ => False) := by
  refine vx_ofW (cc := cF_turn) (maxL := 8) (ret := (some .int)) (by decide) rfl ?_
  intro p e s m args below meth c s₁ B hml htab hv
  obtain ⟨rfl, hPx, hK, hev⟩ := hv
  have hx := B.exec
  have hb := B.bytes
  have hr := B.returns
  have hw : ∀ w ∈ wG, w.before ([.ref x0, .int x1, .int x2, .int x3] : List Value).toArray s = true := fun w hq => atoms_spec (ws := wsF_turn) B.pre w (List.mem_cons_of_mem _ hq)
  have hown : s.vm.findClass R_F = some m.cls := findClass_of_methodNamed B.named
  have hlocks := B.notSynchronized
  have hK2 := hK.sub (tys' := [(cL, .long), (cI, .int)]) [0, 1] rfl
  have hl := lv_entry ([.ref x0, .int x1, .int x2, .int x3] : List Value) (n := 8) (Nat.le_of_ble_eq_true rfl)
  rw [lg_entry_eq]
  generalize (lg_sl ([.ref x0, .int x1, .int x2, .int x3] : List Value) ++ List.replicate (8 - (lg_sl ([.ref x0, .int x1, .int x2, .int x3] : List Value)).length) Slot.unset).toArray = ls at hl ⊢
  have hl : lv_has ls 8 [(0, .ref x0), (1, .int x1), (2, .int x2), (3, .int x3)] := hl
  unfold g_F_turn at h
  refine lv_aload_n hx hb dF_turn_0 rfl (lv_at hl 0 rfl) ?_
  refine lv_iload_n hx hb dF_turn_1 rfl (lv_at hl 1 rfl) ?_
  rcases xt h with hE | ⟨hN, h⟩
  · exact thr_pass (vx_runV (As := [.int x1]) (rest := []) ⟨hx, hb, hml, hown, hw⟩ (kt_F_find l hl0 N0 dC dI cL cI cO x0 xa ad v x1 E hE) (cwV 1 hw (gV w_204 w_206 wp_2 w_1 w_207) rfl rfl rfl (by decide +kernel) ⟨Nat.le_of_ble_eq_true rfl, Nat.le_of_ble_eq_true rfl⟩) ⟨ev_blind, va_recv hK hPx.1 (ci := 1) (q0 := 0) rfl rfl, ev_pre hPx hK hev⟩ rfl rfl hl.1 rfl (lv_room (Nat.le_of_ble_eq_true rfl)) dF_turn_2 ⟨Nat.le_of_ble_eq_true rfl, Nat.le_of_ble_eq_true rfl⟩) htab hlocks
  obtain ⟨u1, hu1, h⟩ := ob_some h
  refine va_csr (va_Run.run (va_runV (As := [.int x1]) (rest := []) ⟨hx, hb, hml, hown, hw⟩ (k_F_find l dC dI cL cI cO x0 xa ad v x1 u1 hu1) (cwV 1 hw (gV w_204 w_206 wp_2 w_1 w_207) rfl rfl rfl (by decide +kernel) ⟨Nat.le_of_ble_eq_true rfl, Nat.le_of_ble_eq_true rfl⟩) ⟨rd_blind, va_recv hK hPx.1 (ci := 1) (q0 := 0) rfl rfl, rd_pre hPx hK⟩ rfl rfl hl.1 rfl (lv_room (Nat.le_of_ble_eq_true rfl)) dF_turn_2 ⟨Nat.le_of_ble_eq_true rfl, Nat.le_of_ble_eq_true rfl⟩)) (fun z hz => ?_)
  rw [hz]; clear hz
  have hltu1 := (find_lt hPx.2.2 hu1).1
  refine lv_astore (lv' := [(4, .ref (ad u1 0)), (0, .ref x0), (1, .int x1), (2, .int x2), (3, .int x3)]) hx hb dF_turn_5 hl (by decide) rfl (fun ls hl => ?_)
  refine lv_aload hx hb dF_turn_7 (lv_at hl 0 rfl) ?_
  rcases xt h with hE | ⟨hN, h⟩
  · exact thr_pass (vx_runS (As := [.ref (ad u1 0)]) (rest := []) ⟨hx, hb, hml, hown, hw⟩ (kt_F_needWhole l hl0 N0 dC dI cL cI (ad u1 0) (ad u1 1) (ad u1 2) (ad u1 3) (v.2 u1) E hE) (va_cwS 1 hw (gS w_295 w_296 w_1 w_297) rfl rfl rfl (by decide +kernel) ⟨Nat.le_of_ble_eq_true rfl, Nat.le_of_ble_eq_true rfl⟩) ⟨ev_blind, ev_pre (hPx.2.1 u1 hltu1) hK2 hev⟩ rfl rfl hl.1 rfl (lv_room (Nat.le_of_ble_eq_true rfl)) dF_turn_9 ⟨Nat.le_of_ble_eq_true rfl, Nat.le_of_ble_eq_true rfl⟩) htab hlocks
  obtain ⟨u2, hu2, h⟩ := ob_some h
  refine va_csv (va_Run.run (va_runS (As := [.ref (ad u1 0)]) (rest := []) ⟨hx, hb, hml, hown, hw⟩ (k_F_needWhole l dC dI cL cI (ad u1 0) (ad u1 1) (ad u1 2) (ad u1 3) (v.2 u1) u2 hu2) (va_cwS 1 hw (gS w_295 w_296 w_1 w_297) rfl rfl rfl (by decide +kernel) ⟨Nat.le_of_ble_eq_true rfl, Nat.le_of_ble_eq_true rfl⟩) ⟨rd_blind, rd_pre (hPx.2.1 u1 hltu1) hK2⟩ rfl rfl hl.1 rfl (lv_room (Nat.le_of_ble_eq_true rfl)) dF_turn_9 ⟨Nat.le_of_ble_eq_true rfl, Nat.le_of_ble_eq_true rfl⟩)) (fun _ => ?_)
  cases h
