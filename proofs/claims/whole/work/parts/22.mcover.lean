/-! the reference: covering, laid by program -/
theorem dM_isLine_0 : decode cM_isLine 0 = .ok (.aload_n 2, 1) := by decide +kernel
theorem dM_isLine_1 : decode cM_isLine 1 = .ok (.iload_n 0, 1) := by decide +kernel
theorem dM_isLine_2 : decode cM_isLine 2 = .ok (.laload, 1) := by decide +kernel
theorem dM_isLine_3 : decode cM_isLine 3 = .ok (.aload_n 3, 1) := by decide +kernel
theorem dM_isLine_4 : decode cM_isLine 4 = .ok (.iload_n 0, 1) := by decide +kernel
theorem dM_isLine_5 : decode cM_isLine 5 = .ok (.laload, 1) := by decide +kernel
theorem dM_isLine_6 : decode cM_isLine 6 = .ok (.aload 4, 2) := by decide +kernel
theorem dM_isLine_8 : decode cM_isLine 8 = .ok (.iload_n 0, 1) := by decide +kernel
theorem dM_isLine_9 : decode cM_isLine 9 = .ok (.laload, 1) := by decide +kernel
theorem dM_isLine_10 : decode cM_isLine 10 = .ok (.aload 5, 2) := by decide +kernel
theorem dM_isLine_12 : decode cM_isLine 12 = .ok (.iload_n 0, 1) := by decide +kernel
theorem dM_isLine_13 : decode cM_isLine 13 = .ok (.laload, 1) := by decide +kernel
theorem dM_isLine_14 : decode cM_isLine 14 = .ok (.aload_n 2, 1) := by decide +kernel
theorem dM_isLine_15 : decode cM_isLine 15 = .ok (.iload_n 1, 1) := by decide +kernel
theorem dM_isLine_16 : decode cM_isLine 16 = .ok (.laload, 1) := by decide +kernel
theorem dM_isLine_17 : decode cM_isLine 17 = .ok (.aload_n 3, 1) := by decide +kernel
theorem dM_isLine_18 : decode cM_isLine 18 = .ok (.iload_n 1, 1) := by decide +kernel
theorem dM_isLine_19 : decode cM_isLine 19 = .ok (.laload, 1) := by decide +kernel
theorem dM_isLine_20 : decode cM_isLine 20 = .ok (.invokestatic 103, 3) := by decide +kernel
theorem dM_isLine_23 : decode cM_isLine 23 = .ok (.ifCond .ne 35, 3) := by decide +kernel
theorem dM_isLine_26 : decode cM_isLine 26 = .ok (.aload_n 2, 1) := by decide +kernel
theorem dM_isLine_27 : decode cM_isLine 27 = .ok (.iload_n 0, 1) := by decide +kernel
theorem dM_isLine_28 : decode cM_isLine 28 = .ok (.laload, 1) := by decide +kernel
theorem dM_isLine_29 : decode cM_isLine 29 = .ok (.aload_n 3, 1) := by decide +kernel
theorem dM_isLine_30 : decode cM_isLine 30 = .ok (.iload_n 0, 1) := by decide +kernel
theorem dM_isLine_31 : decode cM_isLine 31 = .ok (.laload, 1) := by decide +kernel
theorem dM_isLine_32 : decode cM_isLine 32 = .ok (.aload 4, 2) := by decide +kernel
theorem dM_isLine_34 : decode cM_isLine 34 = .ok (.iload_n 0, 1) := by decide +kernel
theorem dM_isLine_35 : decode cM_isLine 35 = .ok (.laload, 1) := by decide +kernel
theorem dM_isLine_36 : decode cM_isLine 36 = .ok (.aload 5, 2) := by decide +kernel
theorem dM_isLine_38 : decode cM_isLine 38 = .ok (.iload_n 0, 1) := by decide +kernel
theorem dM_isLine_39 : decode cM_isLine 39 = .ok (.laload, 1) := by decide +kernel
theorem dM_isLine_40 : decode cM_isLine 40 = .ok (.aload 4, 2) := by decide +kernel
theorem dM_isLine_42 : decode cM_isLine 42 = .ok (.iload_n 1, 1) := by decide +kernel
theorem dM_isLine_43 : decode cM_isLine 43 = .ok (.laload, 1) := by decide +kernel
theorem dM_isLine_44 : decode cM_isLine 44 = .ok (.aload 5, 2) := by decide +kernel
theorem dM_isLine_46 : decode cM_isLine 46 = .ok (.iload_n 1, 1) := by decide +kernel
theorem dM_isLine_47 : decode cM_isLine 47 = .ok (.laload, 1) := by decide +kernel
theorem dM_isLine_48 : decode cM_isLine 48 = .ok (.invokestatic 103, 3) := by decide +kernel
theorem dM_isLine_51 : decode cM_isLine 51 = .ok (.ifCond .ne 7, 3) := by decide +kernel
theorem dM_isLine_54 : decode cM_isLine 54 = .ok (.iconst 1, 1) := by decide +kernel
theorem dM_isLine_55 : decode cM_isLine 55 = .ok (.goto 4, 3) := by decide +kernel
theorem dM_isLine_58 : decode cM_isLine 58 = .ok (.iconst 0, 1) := by decide +kernel
theorem dM_isLine_59 : decode cM_isLine 59 = .ok (.ireturn, 1) := by decide +kernel
def f_M_isLine_j59 (g2 : Nat → Int64) (g3 : Nat → Int64) (g4 : Nat → Int64) (g5 : Nat → Int64) (s0 : Int32) : Option Int32 := rb s0
def f_M_isLine_j58 (g2 : Nat → Int64) (g3 : Nat → Int64) (g4 : Nat → Int64) (g5 : Nat → Int64) : Option Int32 := (f_M_isLine_j59 g2 g3 g4 g5 (0 : Int32))
def f_M_isLine (g2 : Nat → Int64) (g3 : Nat → Int64) (g4 : Nat → Int64) (g5 : Nat → Int64) (x0 : Int32) (x1 : Int32) : Option Int32 := (ld 96 g2 x0).bind fun u1 => (ld 96 g3 x0).bind fun u2 => (ld 96 g4 x0).bind fun u3 => (ld 96 g5 x0).bind fun u4 => (ld 96 g2 x1).bind fun u5 => (ld 96 g3 x1).bind fun u6 => (f_M_turnOf u1 u2 u3 u4 u5 u6).bind fun u7 => (if u7 = 0 then (ld 96 g2 x0).bind fun u9 => (ld 96 g3 x0).bind fun u10 => (ld 96 g4 x0).bind fun u11 => (ld 96 g5 x0).bind fun u12 => (ld 96 g4 x1).bind fun u13 => (ld 96 g5 x1).bind fun u14 => (f_M_turnOf u9 u10 u11 u12 u13 u14).bind fun u15 => (if u15 = 0 then (f_M_isLine_j59 g2 g3 g4 g5 (1 : Int32)) else (f_M_isLine_j58 g2 g3 g4 g5)) else (f_M_isLine_j58 g2 g3 g4 g5))
set_option maxHeartbeats 4000000 in
set_option maxRecDepth 100000 in
theorem k_M_isLine (l : Launch) (dC : Nat → ClassId) (dI : Nat → Nat → Nat) (cL cI : ClassId) (r2 : Nat) (g2 : Nat → Int64) (r3 : Nat) (g3 : Nat → Int64) (r4 : Nat) (g4 : Nat → Int64) (r5 : Nat) (g5 : Nat → Int64) (x0 : Int32) (x1 : Int32) (r : Int32) (h : f_M_isLine g2 g3 g4 g5 x0 x1 = some r) : Met l yM_isLine wsM_isLine ({ frames := 2, cells := 0, slots := 0, locals := 58 }) (rd_Pc [.int x0, .int x1, .ref r2, .ref r3, .ref r4, .ref r5] (fun H => va_P (dC, dI) cls3 [(r2, .inl (cL, 96, .inr (.inl g2)))] H ∧ va_P (dC, dI) cls3 [(r3, .inl (cL, 96, .inr (.inl g3)))] H ∧ va_P (dC, dI) cls3 [(r4, .inl (cL, 96, .inr (.inl g4)))] H ∧ va_P (dC, dI) cls3 [(r5, .inl (cL, 96, .inr (.inl g5)))] H) (dC, dI) cls3 [(cL, .long), (cI, .int)]) (vp_Si (fun z => z = r)) 0 0 (fun _ => False) := by
  refine Met.ofW (cc := cM_isLine) (maxL := 6) (ret := (some .boolean)) (by decide) rfl ?_
  intro p e s m args below meth c s₁ B hml hv
  obtain ⟨rfl, ⟨hr2, hr3, hr4, hr5⟩, hK⟩ := hv
  have hx := B.exec
  have hb := B.bytes
  have hr := B.returns
  have hw : ∀ w ∈ wG, w.before ([.int x0, .int x1, .ref r2, .ref r3, .ref r4, .ref r5] : List Value).toArray s = true := fun w hq => atoms_spec (ws := wsM_isLine) B.pre w (List.mem_cons_of_mem _ hq)
  have hown : s.vm.findClass R_M = some m.cls := findClass_of_methodNamed B.named
  have hlocks := B.notSynchronized
  have hl := lv_entry ([.int x0, .int x1, .ref r2, .ref r3, .ref r4, .ref r5] : List Value) (n := 6) (Nat.le_of_ble_eq_true rfl)
  rw [lg_entry_eq]
  generalize (lg_sl ([.int x0, .int x1, .ref r2, .ref r3, .ref r4, .ref r5] : List Value) ++ List.replicate (6 - (lg_sl ([.int x0, .int x1, .ref r2, .ref r3, .ref r4, .ref r5] : List Value)).length) Slot.unset).toArray = ls at hl ⊢
  have hl : lv_has ls 6 [(0, .int x0), (1, .int x1), (2, .ref r2), (3, .ref r3), (4, .ref r4), (5, .ref r5)] := hl
  have k59 : ∀ (s0 : Int32), f_M_isLine_j59 g2 g3 g4 g5 s0 = some r →  ∀ (ls : Array Slot), lv_has ls 6 [] → W p l e (headSpec wsM_isLine ({ frames := 2, cells := 0, slots := 0, locals := 58 })).room s m ([.int x0, .int x1, .ref r2, .ref r3, .ref r4, .ref r5] : List Value).toArray below meth c s.heap [] 0 0 (MQ below (vp_Si (fun z => z = r)) ([.int x0, .int x1, .ref r2, .ref r3, .ref r4, .ref r5] : List Value).toArray s 0 0 (fun _ => False)) (F0 m 59 ls [.int s0]) := by
    intro s0 h  ls hl
    unfold f_M_isLine_j59 at h
    obtain ⟨hz, hr9⟩ := rb_of h
    exact W.zret hx hb hr hz (fun t ht hW => ⟨_, rfl, hr9, ht⟩) nil_locs dM_isLine_59
  have k58 : f_M_isLine_j58 g2 g3 g4 g5 = some r →  ∀ (ls : Array Slot), lv_has ls 6 [] → W p l e (headSpec wsM_isLine ({ frames := 2, cells := 0, slots := 0, locals := 58 })).room s m ([.int x0, .int x1, .ref r2, .ref r3, .ref r4, .ref r5] : List Value).toArray below meth c s.heap [] 0 0 (MQ below (vp_Si (fun z => z = r)) ([.int x0, .int x1, .ref r2, .ref r3, .ref r4, .ref r5] : List Value).toArray s 0 0 (fun _ => False)) (F0 m 58 ls []) := by
    intro  h  ls hl
    unfold f_M_isLine_j58 at h
    refine lv_iconst (v := 0) hx hb dM_isLine_58 (by decide) ?_
    exact k59 (0 : Int32) h ls (lv_sub hl [] rfl)
  unfold f_M_isLine at h
  refine lv_aload_n hx hb dM_isLine_0 rfl (lv_at hl 2 rfl) ?_
  refine lv_iload_n hx hb dM_isLine_1 rfl (lv_at hl 0 rfl) ?_
  obtain ⟨u1, hu1, h⟩ := ob_some h
  obtain ⟨hiu1, eu1⟩ := ld_of hu1
  refine va_lald hx hb hK hr2 0 0 rfl rfl hiu1 dM_isLine_2 ?_
  rw [eu1]
  refine lv_aload_n hx hb dM_isLine_3 rfl (lv_at hl 3 rfl) ?_
  refine lv_iload_n hx hb dM_isLine_4 rfl (lv_at hl 0 rfl) ?_
  obtain ⟨u2, hu2, h⟩ := ob_some h
  obtain ⟨hiu2, eu2⟩ := ld_of hu2
  refine va_lald hx hb hK hr3 0 0 rfl rfl hiu2 dM_isLine_5 ?_
  rw [eu2]
  refine lv_aload hx hb dM_isLine_6 (lv_at hl 4 rfl) ?_
  refine lv_iload_n hx hb dM_isLine_8 rfl (lv_at hl 0 rfl) ?_
  obtain ⟨u3, hu3, h⟩ := ob_some h
  obtain ⟨hiu3, eu3⟩ := ld_of hu3
  refine va_lald hx hb hK hr4 0 0 rfl rfl hiu3 dM_isLine_9 ?_
  rw [eu3]
  refine lv_aload hx hb dM_isLine_10 (lv_at hl 5 rfl) ?_
  refine lv_iload_n hx hb dM_isLine_12 rfl (lv_at hl 0 rfl) ?_
  obtain ⟨u4, hu4, h⟩ := ob_some h
  obtain ⟨hiu4, eu4⟩ := ld_of hu4
  refine va_lald hx hb hK hr5 0 0 rfl rfl hiu4 dM_isLine_13 ?_
  rw [eu4]
  refine lv_aload_n hx hb dM_isLine_14 rfl (lv_at hl 2 rfl) ?_
  refine lv_iload_n hx hb dM_isLine_15 rfl (lv_at hl 1 rfl) ?_
  obtain ⟨u5, hu5, h⟩ := ob_some h
  obtain ⟨hiu5, eu5⟩ := ld_of hu5
  refine va_lald hx hb hK hr2 0 0 rfl rfl hiu5 dM_isLine_16 ?_
  rw [eu5]
  refine lv_aload_n hx hb dM_isLine_17 rfl (lv_at hl 3 rfl) ?_
  refine lv_iload_n hx hb dM_isLine_18 rfl (lv_at hl 1 rfl) ?_
  obtain ⟨u6, hu6, h⟩ := ob_some h
  obtain ⟨hiu6, eu6⟩ := ld_of hu6
  refine va_lald hx hb hK hr3 0 0 rfl rfl hiu6 dM_isLine_19 ?_
  rw [eu6]
  obtain ⟨u7, hu7, h⟩ := ob_some h
  refine vp_callSi (va_Run.run (va_runS (As := [.long u1, .long u2, .long u3, .long u4, .long u5, .long u6]) (rest := []) ⟨hx, hb, hml, hown, hw⟩ (k_M_turnOf l dC dI cL cI u1 u2 u3 u4 u5 u6 u7 hu7) (va_cwS 6 hw (gS w_558 w_559 w_2 w_560) rfl rfl rfl (by decide +kernel) ⟨Nat.le_of_ble_eq_true rfl, Nat.le_of_ble_eq_true rfl⟩) ⟨rd_blind, rd_pre trivial hK⟩ rfl rfl hl.1 rfl (lv_room (Nat.le_of_ble_eq_true rfl)) dM_isLine_20 ⟨Nat.le_of_ble_eq_true rfl, Nat.le_of_ble_eq_true rfl⟩)) (fun z hz => ?_)
  rw [hz]; clear hz
  refine lv_if_ne (tgt := 58) hx hb dM_isLine_23 (by decide) (fun c8 => ?_) (fun c8 => ?_)
  · have h := it_f c8 h
    exact k58 h ls (lv_sub hl [] rfl)
  · have h := it_t c8 h
    refine lv_aload_n hx hb dM_isLine_26 rfl (lv_at hl 2 rfl) ?_
    refine lv_iload_n hx hb dM_isLine_27 rfl (lv_at hl 0 rfl) ?_
    obtain ⟨u9, hu9, h⟩ := ob_some h
    obtain ⟨hiu9, eu9⟩ := ld_of hu9
    refine va_lald hx hb hK hr2 0 0 rfl rfl hiu9 dM_isLine_28 ?_
    rw [eu9]
    refine lv_aload_n hx hb dM_isLine_29 rfl (lv_at hl 3 rfl) ?_
    refine lv_iload_n hx hb dM_isLine_30 rfl (lv_at hl 0 rfl) ?_
    obtain ⟨u10, hu10, h⟩ := ob_some h
    obtain ⟨hiu10, eu10⟩ := ld_of hu10
    refine va_lald hx hb hK hr3 0 0 rfl rfl hiu10 dM_isLine_31 ?_
    rw [eu10]
    refine lv_aload hx hb dM_isLine_32 (lv_at hl 4 rfl) ?_
    refine lv_iload_n hx hb dM_isLine_34 rfl (lv_at hl 0 rfl) ?_
    obtain ⟨u11, hu11, h⟩ := ob_some h
    obtain ⟨hiu11, eu11⟩ := ld_of hu11
    refine va_lald hx hb hK hr4 0 0 rfl rfl hiu11 dM_isLine_35 ?_
    rw [eu11]
    refine lv_aload hx hb dM_isLine_36 (lv_at hl 5 rfl) ?_
    refine lv_iload_n hx hb dM_isLine_38 rfl (lv_at hl 0 rfl) ?_
    obtain ⟨u12, hu12, h⟩ := ob_some h
    obtain ⟨hiu12, eu12⟩ := ld_of hu12
    refine va_lald hx hb hK hr5 0 0 rfl rfl hiu12 dM_isLine_39 ?_
    rw [eu12]
    refine lv_aload hx hb dM_isLine_40 (lv_at hl 4 rfl) ?_
    refine lv_iload_n hx hb dM_isLine_42 rfl (lv_at hl 1 rfl) ?_
    obtain ⟨u13, hu13, h⟩ := ob_some h
    obtain ⟨hiu13, eu13⟩ := ld_of hu13
    refine va_lald hx hb hK hr4 0 0 rfl rfl hiu13 dM_isLine_43 ?_
    rw [eu13]
    refine lv_aload hx hb dM_isLine_44 (lv_at hl 5 rfl) ?_
    refine lv_iload_n hx hb dM_isLine_46 rfl (lv_at hl 1 rfl) ?_
    obtain ⟨u14, hu14, h⟩ := ob_some h
    obtain ⟨hiu14, eu14⟩ := ld_of hu14
    refine va_lald hx hb hK hr5 0 0 rfl rfl hiu14 dM_isLine_47 ?_
    rw [eu14]
    obtain ⟨u15, hu15, h⟩ := ob_some h
    refine vp_callSi (va_Run.run (va_runS (As := [.long u9, .long u10, .long u11, .long u12, .long u13, .long u14]) (rest := []) ⟨hx, hb, hml, hown, hw⟩ (k_M_turnOf l dC dI cL cI u9 u10 u11 u12 u13 u14 u15 hu15) (va_cwS 6 hw (gS w_558 w_559 w_2 w_560) rfl rfl rfl (by decide +kernel) ⟨Nat.le_of_ble_eq_true rfl, Nat.le_of_ble_eq_true rfl⟩) ⟨rd_blind, rd_pre trivial hK⟩ rfl rfl hl.1 rfl (lv_room (Nat.le_of_ble_eq_true rfl)) dM_isLine_48 ⟨Nat.le_of_ble_eq_true rfl, Nat.le_of_ble_eq_true rfl⟩)) (fun z hz => ?_)
    rw [hz]; clear hz
    refine lv_if_ne (tgt := 58) hx hb dM_isLine_51 (by decide) (fun c16 => ?_) (fun c16 => ?_)
    · have h := it_f c16 h
      exact k58 h ls (lv_sub hl [] rfl)
    · have h := it_t c16 h
      refine lv_iconst (v := 1) hx hb dM_isLine_54 (by decide) ?_
      refine lv_goto (tgt := 59) hx hb dM_isLine_55 (by decide) ?_
      exact k59 (1 : Int32) h ls (lv_sub hl [] rfl)
theorem dM_isAhead_0 : decode cM_isAhead 0 = .ok (.aload_n 0, 1) := by decide +kernel
theorem dM_isAhead_1 : decode cM_isAhead 1 = .ok (.getfield 38, 3) := by decide +kernel
theorem dM_isAhead_4 : decode cM_isAhead 4 = .ok (.iload_n 1, 1) := by decide +kernel
theorem dM_isAhead_5 : decode cM_isAhead 5 = .ok (.laload, 1) := by decide +kernel
theorem dM_isAhead_6 : decode cM_isAhead 6 = .ok (.aload_n 0, 1) := by decide +kernel
theorem dM_isAhead_7 : decode cM_isAhead 7 = .ok (.getfield 32, 3) := by decide +kernel
theorem dM_isAhead_10 : decode cM_isAhead 10 = .ok (.iload_n 1, 1) := by decide +kernel
theorem dM_isAhead_11 : decode cM_isAhead 11 = .ok (.laload, 1) := by decide +kernel
theorem dM_isAhead_12 : decode cM_isAhead 12 = .ok (.lsub, 1) := by decide +kernel
theorem dM_isAhead_13 : decode cM_isAhead 13 = .ok (.lload_n 2, 1) := by decide +kernel
theorem dM_isAhead_14 : decode cM_isAhead 14 = .ok (.lload 6, 2) := by decide +kernel
theorem dM_isAhead_16 : decode cM_isAhead 16 = .ok (.lsub, 1) := by decide +kernel
theorem dM_isAhead_17 : decode cM_isAhead 17 = .ok (.lmul, 1) := by decide +kernel
theorem dM_isAhead_18 : decode cM_isAhead 18 = .ok (.aload_n 0, 1) := by decide +kernel
theorem dM_isAhead_19 : decode cM_isAhead 19 = .ok (.getfield 41, 3) := by decide +kernel
theorem dM_isAhead_22 : decode cM_isAhead 22 = .ok (.iload_n 1, 1) := by decide +kernel
theorem dM_isAhead_23 : decode cM_isAhead 23 = .ok (.laload, 1) := by decide +kernel
theorem dM_isAhead_24 : decode cM_isAhead 24 = .ok (.aload_n 0, 1) := by decide +kernel
theorem dM_isAhead_25 : decode cM_isAhead 25 = .ok (.getfield 35, 3) := by decide +kernel
theorem dM_isAhead_28 : decode cM_isAhead 28 = .ok (.iload_n 1, 1) := by decide +kernel
theorem dM_isAhead_29 : decode cM_isAhead 29 = .ok (.laload, 1) := by decide +kernel
theorem dM_isAhead_30 : decode cM_isAhead 30 = .ok (.lsub, 1) := by decide +kernel
theorem dM_isAhead_31 : decode cM_isAhead 31 = .ok (.lload 4, 2) := by decide +kernel
theorem dM_isAhead_33 : decode cM_isAhead 33 = .ok (.lload 8, 2) := by decide +kernel
theorem dM_isAhead_35 : decode cM_isAhead 35 = .ok (.lsub, 1) := by decide +kernel
theorem dM_isAhead_36 : decode cM_isAhead 36 = .ok (.lmul, 1) := by decide +kernel
theorem dM_isAhead_37 : decode cM_isAhead 37 = .ok (.ladd, 1) := by decide +kernel
theorem dM_isAhead_38 : decode cM_isAhead 38 = .ok (.lconst 0, 1) := by decide +kernel
theorem dM_isAhead_39 : decode cM_isAhead 39 = .ok (.lcmp, 1) := by decide +kernel
theorem dM_isAhead_40 : decode cM_isAhead 40 = .ok (.ifCond .le 7, 3) := by decide +kernel
theorem dM_isAhead_43 : decode cM_isAhead 43 = .ok (.iconst 1, 1) := by decide +kernel
theorem dM_isAhead_44 : decode cM_isAhead 44 = .ok (.goto 4, 3) := by decide +kernel
theorem dM_isAhead_47 : decode cM_isAhead 47 = .ok (.iconst 0, 1) := by decide +kernel
theorem dM_isAhead_48 : decode cM_isAhead 48 = .ok (.ireturn, 1) := by decide +kernel
def f_M_isAhead_j48 (v : MV) (s0 : Int32) : Option Int32 := rb s0
def f_M_isAhead (v : MV) (x1 : Int32) (x2 : Int64) (x4 : Int64) (x6 : Int64) (x8 : Int64) : Option Int32 := (ld 96 (md_bx v) x1).bind fun u1 => (ld 96 (md_ax v) x1).bind fun u2 => (ld 96 (md_by v) x1).bind fun u3 => (ld 96 (md_ay v) x1).bind fun u4 => (if (lg_cmp (((u1 - u2) * (x2 - x6)) + ((u3 - u4) * (x4 - x8))) (0 : Int64)) ≤ 0 then (f_M_isAhead_j48 v (0 : Int32)) else (f_M_isAhead_j48 v (1 : Int32)))
set_option maxHeartbeats 4000000 in
set_option maxRecDepth 100000 in
theorem k_M_isAhead (l : Launch) (dC : Nat → ClassId) (dI : Nat → Nat → Nat) (cL cI : ClassId) (qm : Nat → Nat) (v : MV) (x1 : Int32) (x2 : Int64) (x4 : Int64) (x6 : Int64) (x8 : Int64) (r : Int32) (h : f_M_isAhead v x1 x2 x4 x6 x8 = some r) : Met l yM_isAhead wsM_isAhead ({ frames := 0, cells := 0, slots := 0, locals := 0 }) (rd_Pc [.ref (qm 0), .int x1, .long x2, .long x4, .long x6, .long x8] (fun H => va_P (dC, dI) cls3 (mdW cL cI qm v) H) (dC, dI) cls3 [(cL, .long), (cI, .int)]) (vp_Si (fun z => z = r)) 0 0 (fun _ => False) := by
  refine Met.ofW (cc := cM_isAhead) (maxL := 10) (ret := (some .boolean)) (by decide) rfl ?_
  intro p e s m args below meth c s₁ B hml hv
  obtain ⟨rfl, hPm, hK⟩ := hv
  have hx := B.exec
  have hb := B.bytes
  have hr := B.returns
  have hw : ∀ w ∈ wG, w.before ([.ref (qm 0), .int x1, .long x2, .long x4, .long x6, .long x8] : List Value).toArray s = true := fun w hq => atoms_spec (ws := wsM_isAhead) B.pre w (List.mem_cons_of_mem _ hq)
  have hown : s.vm.findClass R_M = some m.cls := findClass_of_methodNamed B.named
  have hlocks := B.notSynchronized
  have hl := lv_entry ([.ref (qm 0), .int x1, .long x2, .long x4, .long x6, .long x8] : List Value) (n := 10) (Nat.le_of_ble_eq_true rfl)
  rw [lg_entry_eq]
  generalize (lg_sl ([.ref (qm 0), .int x1, .long x2, .long x4, .long x6, .long x8] : List Value) ++ List.replicate (10 - (lg_sl ([.ref (qm 0), .int x1, .long x2, .long x4, .long x6, .long x8] : List Value)).length) Slot.unset).toArray = ls at hl ⊢
  have hl : lv_has ls 10 [(0, .ref (qm 0)), (1, .int x1), (2, .long x2), (4, .long x4), (6, .long x6), (8, .long x8)] := hl
  have k48 : ∀ (s0 : Int32), f_M_isAhead_j48 v s0 = some r →  ∀ (ls : Array Slot), lv_has ls 10 [] → W p l e (headSpec wsM_isAhead ({ frames := 0, cells := 0, slots := 0, locals := 0 })).room s m ([.ref (qm 0), .int x1, .long x2, .long x4, .long x6, .long x8] : List Value).toArray below meth c s.heap [] 0 0 (MQ below (vp_Si (fun z => z = r)) ([.ref (qm 0), .int x1, .long x2, .long x4, .long x6, .long x8] : List Value).toArray s 0 0 (fun _ => False)) (F0 m 48 ls [.int s0]) := by
    intro s0 h  ls hl
    unfold f_M_isAhead_j48 at h
    obtain ⟨hz, hr9⟩ := rb_of h
    exact W.zret hx hb hr hz (fun t ht hW => ⟨_, rfl, hr9, ht⟩) nil_locs dM_isAhead_48
  unfold f_M_isAhead at h
  refine lv_aload_n hx hb dM_isAhead_0 rfl (lv_at hl 0 rfl) ?_
  refine va_get (D := (dC, dI)) (ci := 2) (v := .ref (qm 10)) (C := R_M) (T := T_M) (N := 15) hx hb hw in_M hown hK hPm 0 rfl rfl 11 (by decide) (hw _ w_456) (fun _ h9 => h9) rfl dM_isAhead_1 ?_
  refine lv_iload_n hx hb dM_isAhead_4 rfl (lv_at hl 1 rfl) ?_
  obtain ⟨u1, hu1, h⟩ := ob_some h
  obtain ⟨hiu1, eu1⟩ := ld_of hu1
  refine va_lald hx hb hK hPm 10 0 rfl rfl hiu1 dM_isAhead_5 ?_
  rw [eu1]
  refine lv_aload_n hx hb dM_isAhead_6 rfl (lv_at hl 0 rfl) ?_
  refine va_get (D := (dC, dI)) (ci := 2) (v := .ref (qm 8)) (C := R_M) (T := T_M) (N := 15) hx hb hw in_M hown hK hPm 0 rfl rfl 9 (by decide) (hw _ w_454) (fun _ h9 => h9) rfl dM_isAhead_7 ?_
  refine lv_iload_n hx hb dM_isAhead_10 rfl (lv_at hl 1 rfl) ?_
  obtain ⟨u2, hu2, h⟩ := ob_some h
  obtain ⟨hiu2, eu2⟩ := ld_of hu2
  refine va_lald hx hb hK hPm 8 0 rfl rfl hiu2 dM_isAhead_11 ?_
  rw [eu2]
  refine lv_lsub hx hb dM_isAhead_12 ?_
  refine lv_lload_n hx hb dM_isAhead_13 rfl (lv_at hl 2 rfl) ?_
  refine lv_lload hx hb dM_isAhead_14 (lv_at hl 4 rfl) ?_
  refine lv_lsub hx hb dM_isAhead_16 ?_
  refine lv_lmul hx hb dM_isAhead_17 ?_
  refine lv_aload_n hx hb dM_isAhead_18 rfl (lv_at hl 0 rfl) ?_
  refine va_get (D := (dC, dI)) (ci := 2) (v := .ref (qm 11)) (C := R_M) (T := T_M) (N := 15) hx hb hw in_M hown hK hPm 0 rfl rfl 12 (by decide) (hw _ w_457) (fun _ h9 => h9) rfl dM_isAhead_19 ?_
  refine lv_iload_n hx hb dM_isAhead_22 rfl (lv_at hl 1 rfl) ?_
  obtain ⟨u3, hu3, h⟩ := ob_some h
  obtain ⟨hiu3, eu3⟩ := ld_of hu3
  refine va_lald hx hb hK hPm 11 0 rfl rfl hiu3 dM_isAhead_23 ?_
  rw [eu3]
  refine lv_aload_n hx hb dM_isAhead_24 rfl (lv_at hl 0 rfl) ?_
  refine va_get (D := (dC, dI)) (ci := 2) (v := .ref (qm 9)) (C := R_M) (T := T_M) (N := 15) hx hb hw in_M hown hK hPm 0 rfl rfl 10 (by decide) (hw _ w_455) (fun _ h9 => h9) rfl dM_isAhead_25 ?_
  refine lv_iload_n hx hb dM_isAhead_28 rfl (lv_at hl 1 rfl) ?_
  obtain ⟨u4, hu4, h⟩ := ob_some h
  obtain ⟨hiu4, eu4⟩ := ld_of hu4
  refine va_lald hx hb hK hPm 9 0 rfl rfl hiu4 dM_isAhead_29 ?_
  rw [eu4]
  refine lv_lsub hx hb dM_isAhead_30 ?_
  refine lv_lload hx hb dM_isAhead_31 (lv_at hl 3 rfl) ?_
  refine lv_lload hx hb dM_isAhead_33 (lv_at hl 5 rfl) ?_
  refine lv_lsub hx hb dM_isAhead_35 ?_
  refine lv_lmul hx hb dM_isAhead_36 ?_
  refine lv_ladd hx hb dM_isAhead_37 ?_
  refine lv_lconst (v := 0) hx hb dM_isAhead_38 (by decide) ?_
  refine W.lcmp hx hb dM_isAhead_39 ?_
  refine lv_if_le (tgt := 47) hx hb dM_isAhead_40 (by decide) (fun c5 => ?_) (fun c5 => ?_)
  · have h := it_t c5 h
    refine lv_iconst (v := 0) hx hb dM_isAhead_47 (by decide) ?_
    exact k48 (0 : Int32) h ls (lv_sub hl [] rfl)
  · have h := it_f c5 h
    refine lv_iconst (v := 1) hx hb dM_isAhead_43 (by decide) ?_
    refine lv_goto (tgt := 48) hx hb dM_isAhead_44 (by decide) ?_
    exact k48 (1 : Int32) h ls (lv_sub hl [] rfl)
theorem dM_isCovered_0 : decode cM_isCovered 0 = .ok (.bipush 48, 2) := by decide +kernel
theorem dM_isCovered_2 : decode cM_isCovered 2 = .ok (.iload_n 2, 1) := by decide +kernel
theorem dM_isCovered_3 : decode cM_isCovered 3 = .ok (.imul, 1) := by decide +kernel
theorem dM_isCovered_4 : decode cM_isCovered 4 = .ok (.istore_n 3, 1) := by decide +kernel
theorem dM_isCovered_5 : decode cM_isCovered 5 = .ok (.iload_n 3, 1) := by decide +kernel
theorem dM_isCovered_6 : decode cM_isCovered 6 = .ok (.aload_n 0, 1) := by decide +kernel
theorem dM_isCovered_7 : decode cM_isCovered 7 = .ok (.getfield 44, 3) := by decide +kernel
theorem dM_isCovered_10 : decode cM_isCovered 10 = .ok (.iload_n 2, 1) := by decide +kernel
theorem dM_isCovered_11 : decode cM_isCovered 11 = .ok (.iaload, 1) := by decide +kernel
theorem dM_isCovered_12 : decode cM_isCovered 12 = .ok (.iadd, 1) := by decide +kernel
theorem dM_isCovered_13 : decode cM_isCovered 13 = .ok (.istore 4, 2) := by decide +kernel
theorem dM_isCovered_15 : decode cM_isCovered 15 = .ok (.aload_n 0, 1) := by decide +kernel
theorem dM_isCovered_16 : decode cM_isCovered 16 = .ok (.getfield 32, 3) := by decide +kernel
theorem dM_isCovered_19 : decode cM_isCovered 19 = .ok (.iload_n 1, 1) := by decide +kernel
theorem dM_isCovered_20 : decode cM_isCovered 20 = .ok (.laload, 1) := by decide +kernel
theorem dM_isCovered_21 : decode cM_isCovered 21 = .ok (.aload_n 0, 1) := by decide +kernel
theorem dM_isCovered_22 : decode cM_isCovered 22 = .ok (.getfield 38, 3) := by decide +kernel
theorem dM_isCovered_25 : decode cM_isCovered 25 = .ok (.iload_n 1, 1) := by decide +kernel
theorem dM_isCovered_26 : decode cM_isCovered 26 = .ok (.laload, 1) := by decide +kernel
theorem dM_isCovered_27 : decode cM_isCovered 27 = .ok (.lcmp, 1) := by decide +kernel
theorem dM_isCovered_28 : decode cM_isCovered 28 = .ok (.ifCond .ne 99, 3) := by decide +kernel
theorem dM_isCovered_31 : decode cM_isCovered 31 = .ok (.aload_n 0, 1) := by decide +kernel
theorem dM_isCovered_32 : decode cM_isCovered 32 = .ok (.getfield 35, 3) := by decide +kernel
theorem dM_isCovered_35 : decode cM_isCovered 35 = .ok (.iload_n 1, 1) := by decide +kernel
theorem dM_isCovered_36 : decode cM_isCovered 36 = .ok (.laload, 1) := by decide +kernel
theorem dM_isCovered_37 : decode cM_isCovered 37 = .ok (.aload_n 0, 1) := by decide +kernel
theorem dM_isCovered_38 : decode cM_isCovered 38 = .ok (.getfield 41, 3) := by decide +kernel
theorem dM_isCovered_41 : decode cM_isCovered 41 = .ok (.iload_n 1, 1) := by decide +kernel
theorem dM_isCovered_42 : decode cM_isCovered 42 = .ok (.laload, 1) := by decide +kernel
theorem dM_isCovered_43 : decode cM_isCovered 43 = .ok (.lcmp, 1) := by decide +kernel
theorem dM_isCovered_44 : decode cM_isCovered 44 = .ok (.ifCond .ne 83, 3) := by decide +kernel
theorem dM_isCovered_47 : decode cM_isCovered 47 = .ok (.iconst 0, 1) := by decide +kernel
theorem dM_isCovered_48 : decode cM_isCovered 48 = .ok (.istore 5, 2) := by decide +kernel
theorem dM_isCovered_50 : decode cM_isCovered 50 = .ok (.iload_n 3, 1) := by decide +kernel
theorem dM_isCovered_51 : decode cM_isCovered 51 = .ok (.istore 6, 2) := by decide +kernel
theorem dM_isCovered_53 : decode cM_isCovered 53 = .ok (.iload 6, 2) := by decide +kernel
theorem dM_isCovered_55 : decode cM_isCovered 55 = .ok (.iload 4, 2) := by decide +kernel
theorem dM_isCovered_57 : decode cM_isCovered 57 = .ok (.if_icmp .ge 67, 3) := by decide +kernel
theorem dM_isCovered_60 : decode cM_isCovered 60 = .ok (.iload 5, 2) := by decide +kernel
theorem dM_isCovered_62 : decode cM_isCovered 62 = .ok (.ifCond .ne 49, 3) := by decide +kernel
theorem dM_isCovered_65 : decode cM_isCovered 65 = .ok (.aload_n 0, 1) := by decide +kernel
theorem dM_isCovered_66 : decode cM_isCovered 66 = .ok (.getfield 32, 3) := by decide +kernel
theorem dM_isCovered_69 : decode cM_isCovered 69 = .ok (.iload_n 1, 1) := by decide +kernel
theorem dM_isCovered_70 : decode cM_isCovered 70 = .ok (.laload, 1) := by decide +kernel
theorem dM_isCovered_71 : decode cM_isCovered 71 = .ok (.aload_n 0, 1) := by decide +kernel
theorem dM_isCovered_72 : decode cM_isCovered 72 = .ok (.getfield 35, 3) := by decide +kernel
theorem dM_isCovered_75 : decode cM_isCovered 75 = .ok (.iload_n 1, 1) := by decide +kernel
theorem dM_isCovered_76 : decode cM_isCovered 76 = .ok (.laload, 1) := by decide +kernel
theorem dM_isCovered_77 : decode cM_isCovered 77 = .ok (.aload_n 0, 1) := by decide +kernel
theorem dM_isCovered_78 : decode cM_isCovered 78 = .ok (.getfield 32, 3) := by decide +kernel
theorem dM_isCovered_81 : decode cM_isCovered 81 = .ok (.iload 6, 2) := by decide +kernel
theorem dM_isCovered_83 : decode cM_isCovered 83 = .ok (.laload, 1) := by decide +kernel
theorem dM_isCovered_84 : decode cM_isCovered 84 = .ok (.aload_n 0, 1) := by decide +kernel
theorem dM_isCovered_85 : decode cM_isCovered 85 = .ok (.getfield 35, 3) := by decide +kernel
theorem dM_isCovered_88 : decode cM_isCovered 88 = .ok (.iload 6, 2) := by decide +kernel
theorem dM_isCovered_90 : decode cM_isCovered 90 = .ok (.laload, 1) := by decide +kernel
theorem dM_isCovered_91 : decode cM_isCovered 91 = .ok (.aload_n 0, 1) := by decide +kernel
theorem dM_isCovered_92 : decode cM_isCovered 92 = .ok (.getfield 38, 3) := by decide +kernel
theorem dM_isCovered_95 : decode cM_isCovered 95 = .ok (.iload 6, 2) := by decide +kernel
theorem dM_isCovered_97 : decode cM_isCovered 97 = .ok (.laload, 1) := by decide +kernel
theorem dM_isCovered_98 : decode cM_isCovered 98 = .ok (.aload_n 0, 1) := by decide +kernel
theorem dM_isCovered_99 : decode cM_isCovered 99 = .ok (.getfield 41, 3) := by decide +kernel
theorem dM_isCovered_102 : decode cM_isCovered 102 = .ok (.iload 6, 2) := by decide +kernel
theorem dM_isCovered_104 : decode cM_isCovered 104 = .ok (.laload, 1) := by decide +kernel
theorem dM_isCovered_105 : decode cM_isCovered 105 = .ok (.invokestatic 107, 3) := by decide +kernel
theorem dM_isCovered_108 : decode cM_isCovered 108 = .ok (.ifCond .eq 7, 3) := by decide +kernel
theorem dM_isCovered_111 : decode cM_isCovered 111 = .ok (.iconst 1, 1) := by decide +kernel
theorem dM_isCovered_112 : decode cM_isCovered 112 = .ok (.goto 4, 3) := by decide +kernel
theorem dM_isCovered_115 : decode cM_isCovered 115 = .ok (.iconst 0, 1) := by decide +kernel
theorem dM_isCovered_116 : decode cM_isCovered 116 = .ok (.istore 5, 2) := by decide +kernel
theorem dM_isCovered_118 : decode cM_isCovered 118 = .ok (.iinc 6 1, 3) := by decide +kernel
theorem dM_isCovered_121 : decode cM_isCovered 121 = .ok (.goto (-68), 3) := by decide +kernel
theorem dM_isCovered_124 : decode cM_isCovered 124 = .ok (.iload 5, 2) := by decide +kernel
theorem dM_isCovered_126 : decode cM_isCovered 126 = .ok (.ireturn, 1) := by decide +kernel
theorem dM_isCovered_127 : decode cM_isCovered 127 = .ok (.aload_n 0, 1) := by decide +kernel
theorem dM_isCovered_128 : decode cM_isCovered 128 = .ok (.getfield 32, 3) := by decide +kernel
theorem dM_isCovered_131 : decode cM_isCovered 131 = .ok (.iload_n 1, 1) := by decide +kernel
theorem dM_isCovered_132 : decode cM_isCovered 132 = .ok (.laload, 1) := by decide +kernel
theorem dM_isCovered_133 : decode cM_isCovered 133 = .ok (.lstore 5, 2) := by decide +kernel
theorem dM_isCovered_135 : decode cM_isCovered 135 = .ok (.aload_n 0, 1) := by decide +kernel
theorem dM_isCovered_136 : decode cM_isCovered 136 = .ok (.getfield 35, 3) := by decide +kernel
theorem dM_isCovered_139 : decode cM_isCovered 139 = .ok (.iload_n 1, 1) := by decide +kernel
theorem dM_isCovered_140 : decode cM_isCovered 140 = .ok (.laload, 1) := by decide +kernel
theorem dM_isCovered_141 : decode cM_isCovered 141 = .ok (.lstore 7, 2) := by decide +kernel
theorem dM_isCovered_143 : decode cM_isCovered 143 = .ok (.iconst 1, 1) := by decide +kernel
theorem dM_isCovered_144 : decode cM_isCovered 144 = .ok (.istore 9, 2) := by decide +kernel
theorem dM_isCovered_146 : decode cM_isCovered 146 = .ok (.iload 9, 2) := by decide +kernel
theorem dM_isCovered_148 : decode cM_isCovered 148 = .ok (.ifCond .eq 270, 3) := by decide +kernel
theorem dM_isCovered_151 : decode cM_isCovered 151 = .ok (.aload_n 0, 1) := by decide +kernel
theorem dM_isCovered_152 : decode cM_isCovered 152 = .ok (.iload_n 1, 1) := by decide +kernel
theorem dM_isCovered_153 : decode cM_isCovered 153 = .ok (.aload_n 0, 1) := by decide +kernel
theorem dM_isCovered_154 : decode cM_isCovered 154 = .ok (.getfield 38, 3) := by decide +kernel
theorem dM_isCovered_157 : decode cM_isCovered 157 = .ok (.iload_n 1, 1) := by decide +kernel
theorem dM_isCovered_158 : decode cM_isCovered 158 = .ok (.laload, 1) := by decide +kernel
theorem dM_isCovered_159 : decode cM_isCovered 159 = .ok (.aload_n 0, 1) := by decide +kernel
theorem dM_isCovered_160 : decode cM_isCovered 160 = .ok (.getfield 41, 3) := by decide +kernel
theorem dM_isCovered_163 : decode cM_isCovered 163 = .ok (.iload_n 1, 1) := by decide +kernel
theorem dM_isCovered_164 : decode cM_isCovered 164 = .ok (.laload, 1) := by decide +kernel
theorem dM_isCovered_165 : decode cM_isCovered 165 = .ok (.lload 5, 2) := by decide +kernel
theorem dM_isCovered_167 : decode cM_isCovered 167 = .ok (.lload 7, 2) := by decide +kernel
theorem dM_isCovered_169 : decode cM_isCovered 169 = .ok (.invokevirtual 192, 3) := by decide +kernel
theorem dM_isCovered_172 : decode cM_isCovered 172 = .ok (.ifCond .eq 246, 3) := by decide +kernel
theorem dM_isCovered_175 : decode cM_isCovered 175 = .ok (.iconst 0, 1) := by decide +kernel
theorem dM_isCovered_176 : decode cM_isCovered 176 = .ok (.istore 9, 2) := by decide +kernel
theorem dM_isCovered_178 : decode cM_isCovered 178 = .ok (.iload_n 3, 1) := by decide +kernel
theorem dM_isCovered_179 : decode cM_isCovered 179 = .ok (.istore 10, 2) := by decide +kernel
theorem dM_isCovered_181 : decode cM_isCovered 181 = .ok (.iload 10, 2) := by decide +kernel
theorem dM_isCovered_183 : decode cM_isCovered 183 = .ok (.iload 4, 2) := by decide +kernel
theorem dM_isCovered_185 : decode cM_isCovered 185 = .ok (.if_icmp .ge 230, 3) := by decide +kernel
theorem dM_isCovered_188 : decode cM_isCovered 188 = .ok (.iload 9, 2) := by decide +kernel
theorem dM_isCovered_190 : decode cM_isCovered 190 = .ok (.ifCond .ne 225, 3) := by decide +kernel
theorem dM_isCovered_193 : decode cM_isCovered 193 = .ok (.iload_n 1, 1) := by decide +kernel
theorem dM_isCovered_194 : decode cM_isCovered 194 = .ok (.iload 10, 2) := by decide +kernel
theorem dM_isCovered_196 : decode cM_isCovered 196 = .ok (.aload_n 0, 1) := by decide +kernel
theorem dM_isCovered_197 : decode cM_isCovered 197 = .ok (.getfield 32, 3) := by decide +kernel
theorem dM_isCovered_200 : decode cM_isCovered 200 = .ok (.aload_n 0, 1) := by decide +kernel
theorem dM_isCovered_201 : decode cM_isCovered 201 = .ok (.getfield 35, 3) := by decide +kernel
theorem dM_isCovered_204 : decode cM_isCovered 204 = .ok (.aload_n 0, 1) := by decide +kernel
theorem dM_isCovered_205 : decode cM_isCovered 205 = .ok (.getfield 38, 3) := by decide +kernel
theorem dM_isCovered_208 : decode cM_isCovered 208 = .ok (.aload_n 0, 1) := by decide +kernel
theorem dM_isCovered_209 : decode cM_isCovered 209 = .ok (.getfield 41, 3) := by decide +kernel
theorem dM_isCovered_212 : decode cM_isCovered 212 = .ok (.invokestatic 196, 3) := by decide +kernel
theorem dM_isCovered_215 : decode cM_isCovered 215 = .ok (.ifCond .eq 45, 3) := by decide +kernel
theorem dM_isCovered_218 : decode cM_isCovered 218 = .ok (.lload 5, 2) := by decide +kernel
theorem dM_isCovered_220 : decode cM_isCovered 220 = .ok (.lload 7, 2) := by decide +kernel
theorem dM_isCovered_222 : decode cM_isCovered 222 = .ok (.aload_n 0, 1) := by decide +kernel
theorem dM_isCovered_223 : decode cM_isCovered 223 = .ok (.getfield 32, 3) := by decide +kernel
theorem dM_isCovered_226 : decode cM_isCovered 226 = .ok (.iload 10, 2) := by decide +kernel
theorem dM_isCovered_228 : decode cM_isCovered 228 = .ok (.laload, 1) := by decide +kernel
theorem dM_isCovered_229 : decode cM_isCovered 229 = .ok (.aload_n 0, 1) := by decide +kernel
theorem dM_isCovered_230 : decode cM_isCovered 230 = .ok (.getfield 35, 3) := by decide +kernel
theorem dM_isCovered_233 : decode cM_isCovered 233 = .ok (.iload 10, 2) := by decide +kernel
theorem dM_isCovered_235 : decode cM_isCovered 235 = .ok (.laload, 1) := by decide +kernel
theorem dM_isCovered_236 : decode cM_isCovered 236 = .ok (.aload_n 0, 1) := by decide +kernel
theorem dM_isCovered_237 : decode cM_isCovered 237 = .ok (.getfield 38, 3) := by decide +kernel
theorem dM_isCovered_240 : decode cM_isCovered 240 = .ok (.iload 10, 2) := by decide +kernel
theorem dM_isCovered_242 : decode cM_isCovered 242 = .ok (.laload, 1) := by decide +kernel
theorem dM_isCovered_243 : decode cM_isCovered 243 = .ok (.aload_n 0, 1) := by decide +kernel
theorem dM_isCovered_244 : decode cM_isCovered 244 = .ok (.getfield 41, 3) := by decide +kernel
theorem dM_isCovered_247 : decode cM_isCovered 247 = .ok (.iload 10, 2) := by decide +kernel
theorem dM_isCovered_249 : decode cM_isCovered 249 = .ok (.laload, 1) := by decide +kernel
theorem dM_isCovered_250 : decode cM_isCovered 250 = .ok (.invokestatic 107, 3) := by decide +kernel
theorem dM_isCovered_253 : decode cM_isCovered 253 = .ok (.ifCond .eq 7, 3) := by decide +kernel
theorem dM_isCovered_256 : decode cM_isCovered 256 = .ok (.iconst 1, 1) := by decide +kernel
theorem dM_isCovered_257 : decode cM_isCovered 257 = .ok (.goto 4, 3) := by decide +kernel
theorem dM_isCovered_260 : decode cM_isCovered 260 = .ok (.iconst 0, 1) := by decide +kernel
theorem dM_isCovered_261 : decode cM_isCovered 261 = .ok (.istore 11, 2) := by decide +kernel
theorem dM_isCovered_263 : decode cM_isCovered 263 = .ok (.iload 11, 2) := by decide +kernel
theorem dM_isCovered_265 : decode cM_isCovered 265 = .ok (.ifCond .eq 33, 3) := by decide +kernel
theorem dM_isCovered_268 : decode cM_isCovered 268 = .ok (.aload_n 0, 1) := by decide +kernel
theorem dM_isCovered_269 : decode cM_isCovered 269 = .ok (.iload_n 1, 1) := by decide +kernel
theorem dM_isCovered_270 : decode cM_isCovered 270 = .ok (.aload_n 0, 1) := by decide +kernel
theorem dM_isCovered_271 : decode cM_isCovered 271 = .ok (.getfield 32, 3) := by decide +kernel
theorem dM_isCovered_274 : decode cM_isCovered 274 = .ok (.iload 10, 2) := by decide +kernel
theorem dM_isCovered_276 : decode cM_isCovered 276 = .ok (.laload, 1) := by decide +kernel
theorem dM_isCovered_277 : decode cM_isCovered 277 = .ok (.aload_n 0, 1) := by decide +kernel
theorem dM_isCovered_278 : decode cM_isCovered 278 = .ok (.getfield 35, 3) := by decide +kernel
theorem dM_isCovered_281 : decode cM_isCovered 281 = .ok (.iload 10, 2) := by decide +kernel
theorem dM_isCovered_283 : decode cM_isCovered 283 = .ok (.laload, 1) := by decide +kernel
theorem dM_isCovered_284 : decode cM_isCovered 284 = .ok (.lload 5, 2) := by decide +kernel
theorem dM_isCovered_286 : decode cM_isCovered 286 = .ok (.lload 7, 2) := by decide +kernel
theorem dM_isCovered_288 : decode cM_isCovered 288 = .ok (.invokevirtual 192, 3) := by decide +kernel
theorem dM_isCovered_291 : decode cM_isCovered 291 = .ok (.ifCond .eq 7, 3) := by decide +kernel
theorem dM_isCovered_294 : decode cM_isCovered 294 = .ok (.iconst 1, 1) := by decide +kernel
theorem dM_isCovered_295 : decode cM_isCovered 295 = .ok (.goto 4, 3) := by decide +kernel
theorem dM_isCovered_298 : decode cM_isCovered 298 = .ok (.iconst 0, 1) := by decide +kernel
theorem dM_isCovered_299 : decode cM_isCovered 299 = .ok (.istore 12, 2) := by decide +kernel
theorem dM_isCovered_301 : decode cM_isCovered 301 = .ok (.iload 11, 2) := by decide +kernel
theorem dM_isCovered_303 : decode cM_isCovered 303 = .ok (.ifCond .eq 33, 3) := by decide +kernel
theorem dM_isCovered_306 : decode cM_isCovered 306 = .ok (.aload_n 0, 1) := by decide +kernel
theorem dM_isCovered_307 : decode cM_isCovered 307 = .ok (.iload_n 1, 1) := by decide +kernel
theorem dM_isCovered_308 : decode cM_isCovered 308 = .ok (.aload_n 0, 1) := by decide +kernel
theorem dM_isCovered_309 : decode cM_isCovered 309 = .ok (.getfield 38, 3) := by decide +kernel
theorem dM_isCovered_312 : decode cM_isCovered 312 = .ok (.iload 10, 2) := by decide +kernel
theorem dM_isCovered_314 : decode cM_isCovered 314 = .ok (.laload, 1) := by decide +kernel
theorem dM_isCovered_315 : decode cM_isCovered 315 = .ok (.aload_n 0, 1) := by decide +kernel
theorem dM_isCovered_316 : decode cM_isCovered 316 = .ok (.getfield 41, 3) := by decide +kernel
theorem dM_isCovered_319 : decode cM_isCovered 319 = .ok (.iload 10, 2) := by decide +kernel
theorem dM_isCovered_321 : decode cM_isCovered 321 = .ok (.laload, 1) := by decide +kernel
theorem dM_isCovered_322 : decode cM_isCovered 322 = .ok (.lload 5, 2) := by decide +kernel
theorem dM_isCovered_324 : decode cM_isCovered 324 = .ok (.lload 7, 2) := by decide +kernel
theorem dM_isCovered_326 : decode cM_isCovered 326 = .ok (.invokevirtual 192, 3) := by decide +kernel
theorem dM_isCovered_329 : decode cM_isCovered 329 = .ok (.ifCond .eq 7, 3) := by decide +kernel
theorem dM_isCovered_332 : decode cM_isCovered 332 = .ok (.iconst 1, 1) := by decide +kernel
theorem dM_isCovered_333 : decode cM_isCovered 333 = .ok (.goto 4, 3) := by decide +kernel
theorem dM_isCovered_336 : decode cM_isCovered 336 = .ok (.iconst 0, 1) := by decide +kernel
theorem dM_isCovered_337 : decode cM_isCovered 337 = .ok (.istore 13, 2) := by decide +kernel
theorem dM_isCovered_339 : decode cM_isCovered 339 = .ok (.iload 12, 2) := by decide +kernel
theorem dM_isCovered_341 : decode cM_isCovered 341 = .ok (.ifCond .ne 8, 3) := by decide +kernel
theorem dM_isCovered_344 : decode cM_isCovered 344 = .ok (.iload 13, 2) := by decide +kernel
theorem dM_isCovered_346 : decode cM_isCovered 346 = .ok (.ifCond .eq 7, 3) := by decide +kernel
theorem dM_isCovered_349 : decode cM_isCovered 349 = .ok (.iconst 1, 1) := by decide +kernel
theorem dM_isCovered_350 : decode cM_isCovered 350 = .ok (.goto 4, 3) := by decide +kernel
theorem dM_isCovered_353 : decode cM_isCovered 353 = .ok (.iconst 0, 1) := by decide +kernel
theorem dM_isCovered_354 : decode cM_isCovered 354 = .ok (.istore 9, 2) := by decide +kernel
theorem dM_isCovered_356 : decode cM_isCovered 356 = .ok (.iload 9, 2) := by decide +kernel
theorem dM_isCovered_358 : decode cM_isCovered 358 = .ok (.ifCond .eq 51, 3) := by decide +kernel
theorem dM_isCovered_361 : decode cM_isCovered 361 = .ok (.iload 12, 2) := by decide +kernel
theorem dM_isCovered_363 : decode cM_isCovered 363 = .ok (.ifCond .eq 13, 3) := by decide +kernel
theorem dM_isCovered_366 : decode cM_isCovered 366 = .ok (.aload_n 0, 1) := by decide +kernel
theorem dM_isCovered_367 : decode cM_isCovered 367 = .ok (.getfield 32, 3) := by decide +kernel
theorem dM_isCovered_370 : decode cM_isCovered 370 = .ok (.iload 10, 2) := by decide +kernel
theorem dM_isCovered_372 : decode cM_isCovered 372 = .ok (.laload, 1) := by decide +kernel
theorem dM_isCovered_373 : decode cM_isCovered 373 = .ok (.goto 10, 3) := by decide +kernel
theorem dM_isCovered_376 : decode cM_isCovered 376 = .ok (.aload_n 0, 1) := by decide +kernel
theorem dM_isCovered_377 : decode cM_isCovered 377 = .ok (.getfield 38, 3) := by decide +kernel
theorem dM_isCovered_380 : decode cM_isCovered 380 = .ok (.iload 10, 2) := by decide +kernel
theorem dM_isCovered_382 : decode cM_isCovered 382 = .ok (.laload, 1) := by decide +kernel
theorem dM_isCovered_383 : decode cM_isCovered 383 = .ok (.lstore 5, 2) := by decide +kernel
theorem dM_isCovered_385 : decode cM_isCovered 385 = .ok (.iload 12, 2) := by decide +kernel
theorem dM_isCovered_387 : decode cM_isCovered 387 = .ok (.ifCond .eq 13, 3) := by decide +kernel
theorem dM_isCovered_390 : decode cM_isCovered 390 = .ok (.aload_n 0, 1) := by decide +kernel
theorem dM_isCovered_391 : decode cM_isCovered 391 = .ok (.getfield 35, 3) := by decide +kernel
theorem dM_isCovered_394 : decode cM_isCovered 394 = .ok (.iload 10, 2) := by decide +kernel
theorem dM_isCovered_396 : decode cM_isCovered 396 = .ok (.laload, 1) := by decide +kernel
theorem dM_isCovered_397 : decode cM_isCovered 397 = .ok (.goto 10, 3) := by decide +kernel
theorem dM_isCovered_400 : decode cM_isCovered 400 = .ok (.aload_n 0, 1) := by decide +kernel
theorem dM_isCovered_401 : decode cM_isCovered 401 = .ok (.getfield 41, 3) := by decide +kernel
theorem dM_isCovered_404 : decode cM_isCovered 404 = .ok (.iload 10, 2) := by decide +kernel
theorem dM_isCovered_406 : decode cM_isCovered 406 = .ok (.laload, 1) := by decide +kernel
theorem dM_isCovered_407 : decode cM_isCovered 407 = .ok (.lstore 7, 2) := by decide +kernel
theorem dM_isCovered_409 : decode cM_isCovered 409 = .ok (.iinc 10 1, 3) := by decide +kernel
theorem dM_isCovered_412 : decode cM_isCovered 412 = .ok (.goto (-231), 3) := by decide +kernel
theorem dM_isCovered_415 : decode cM_isCovered 415 = .ok (.goto (-269), 3) := by decide +kernel
theorem dM_isCovered_418 : decode cM_isCovered 418 = .ok (.iload 9, 2) := by decide +kernel
theorem dM_isCovered_420 : decode cM_isCovered 420 = .ok (.ireturn, 1) := by decide +kernel
def f_M_isCovered_j418 (v : MV) (p9 : Int32) : Option Int32 := rb p9
def f_M_isCovered_j415 (v : MV) (K146 : Int32 → Int32 → Int32 → Int64 → Int64 → Int32 → Option Int32) (p1 : Int32) (p3 : Int32) (p4 : Int32) (p5 : Int64) (p7 : Int64) (p9 : Int32) : Option Int32 := (K146 p1 p3 p4 p5 p7 p9)
def f_M_isCovered_j409 (v : MV) (K146 : Int32 → Int32 → Int32 → Int64 → Int64 → Int32 → Option Int32) (K181 : Int32 → Int32 → Int32 → Int64 → Int64 → Int32 → Int32 → Option Int32) (p1 : Int32) (p3 : Int32) (p4 : Int32) (p5 : Int64) (p7 : Int64) (p9 : Int32) (p10 : Int32) : Option Int32 := (K181 p1 p3 p4 p5 p7 p9 (p10 + 1))
def f_M_isCovered_j407 (v : MV) (K146 : Int32 → Int32 → Int32 → Int64 → Int64 → Int32 → Option Int32) (K181 : Int32 → Int32 → Int32 → Int64 → Int64 → Int32 → Int32 → Option Int32) (p1 : Int32) (p3 : Int32) (p4 : Int32) (p5 : Int64) (p9 : Int32) (p10 : Int32) (s0 : Int64) : Option Int32 := (f_M_isCovered_j409 v K146 K181 p1 p3 p4 p5 s0 p9 p10)
def f_M_isCovered_j383 (v : MV) (K146 : Int32 → Int32 → Int32 → Int64 → Int64 → Int32 → Option Int32) (K181 : Int32 → Int32 → Int32 → Int64 → Int64 → Int32 → Int32 → Option Int32) (p1 : Int32) (p3 : Int32) (p4 : Int32) (p9 : Int32) (p10 : Int32) (p12 : Int32) (s0 : Int64) : Option Int32 := (if p12 = 0 then (ld 96 (md_by v) p10).bind fun u53 => (f_M_isCovered_j407 v K146 K181 p1 p3 p4 s0 p9 p10 u53) else (ld 96 (md_ay v) p10).bind fun u54 => (f_M_isCovered_j407 v K146 K181 p1 p3 p4 s0 p9 p10 u54))
def f_M_isCovered_j354 (v : MV) (K146 : Int32 → Int32 → Int32 → Int64 → Int64 → Int32 → Option Int32) (K181 : Int32 → Int32 → Int32 → Int64 → Int64 → Int32 → Int32 → Option Int32) (p1 : Int32) (p3 : Int32) (p4 : Int32) (p5 : Int64) (p7 : Int64) (p10 : Int32) (p12 : Int32) (s0 : Int32) : Option Int32 := (if s0 = 0 then (f_M_isCovered_j409 v K146 K181 p1 p3 p4 p5 p7 s0 p10) else (if p12 = 0 then (ld 96 (md_bx v) p10).bind fun u50 => (f_M_isCovered_j383 v K146 K181 p1 p3 p4 s0 p10 p12 u50) else (ld 96 (md_ax v) p10).bind fun u51 => (f_M_isCovered_j383 v K146 K181 p1 p3 p4 s0 p10 p12 u51)))
def f_M_isCovered_j349 (v : MV) (K146 : Int32 → Int32 → Int32 → Int64 → Int64 → Int32 → Option Int32) (K181 : Int32 → Int32 → Int32 → Int64 → Int64 → Int32 → Int32 → Option Int32) (p1 : Int32) (p3 : Int32) (p4 : Int32) (p5 : Int64) (p7 : Int64) (p10 : Int32) (p12 : Int32) : Option Int32 := (f_M_isCovered_j354 v K146 K181 p1 p3 p4 p5 p7 p10 p12 (1 : Int32))
def f_M_isCovered_j337 (v : MV) (K146 : Int32 → Int32 → Int32 → Int64 → Int64 → Int32 → Option Int32) (K181 : Int32 → Int32 → Int32 → Int64 → Int64 → Int32 → Int32 → Option Int32) (p1 : Int32) (p3 : Int32) (p4 : Int32) (p5 : Int64) (p7 : Int64) (p10 : Int32) (p12 : Int32) (s0 : Int32) : Option Int32 := (if p12 = 0 then (if s0 = 0 then (f_M_isCovered_j354 v K146 K181 p1 p3 p4 p5 p7 p10 p12 (0 : Int32)) else (f_M_isCovered_j349 v K146 K181 p1 p3 p4 p5 p7 p10 p12)) else (f_M_isCovered_j349 v K146 K181 p1 p3 p4 p5 p7 p10 p12))
def f_M_isCovered_j336 (v : MV) (K146 : Int32 → Int32 → Int32 → Int64 → Int64 → Int32 → Option Int32) (K181 : Int32 → Int32 → Int32 → Int64 → Int64 → Int32 → Int32 → Option Int32) (p1 : Int32) (p3 : Int32) (p4 : Int32) (p5 : Int64) (p7 : Int64) (p10 : Int32) (p12 : Int32) : Option Int32 := (f_M_isCovered_j337 v K146 K181 p1 p3 p4 p5 p7 p10 p12 (0 : Int32))
def f_M_isCovered_j299 (v : MV) (K146 : Int32 → Int32 → Int32 → Int64 → Int64 → Int32 → Option Int32) (K181 : Int32 → Int32 → Int32 → Int64 → Int64 → Int32 → Int32 → Option Int32) (p1 : Int32) (p3 : Int32) (p4 : Int32) (p5 : Int64) (p7 : Int64) (p10 : Int32) (p11 : Int32) (s0 : Int32) : Option Int32 := (if p11 = 0 then (f_M_isCovered_j336 v K146 K181 p1 p3 p4 p5 p7 p10 s0) else (ld 96 (md_bx v) p10).bind fun u42 => (ld 96 (md_by v) p10).bind fun u43 => (f_M_isAhead v p1 u42 u43 p5 p7).bind fun u44 => (if u44 = 0 then (f_M_isCovered_j336 v K146 K181 p1 p3 p4 p5 p7 p10 s0) else (f_M_isCovered_j337 v K146 K181 p1 p3 p4 p5 p7 p10 s0 (1 : Int32))))
def f_M_isCovered_j298 (v : MV) (K146 : Int32 → Int32 → Int32 → Int64 → Int64 → Int32 → Option Int32) (K181 : Int32 → Int32 → Int32 → Int64 → Int64 → Int32 → Int32 → Option Int32) (p1 : Int32) (p3 : Int32) (p4 : Int32) (p5 : Int64) (p7 : Int64) (p10 : Int32) (p11 : Int32) : Option Int32 := (f_M_isCovered_j299 v K146 K181 p1 p3 p4 p5 p7 p10 p11 (0 : Int32))
def f_M_isCovered_j261 (v : MV) (K146 : Int32 → Int32 → Int32 → Int64 → Int64 → Int32 → Option Int32) (K181 : Int32 → Int32 → Int32 → Int64 → Int64 → Int32 → Int32 → Option Int32) (p1 : Int32) (p3 : Int32) (p4 : Int32) (p5 : Int64) (p7 : Int64) (p10 : Int32) (s0 : Int32) : Option Int32 := (if s0 = 0 then (f_M_isCovered_j298 v K146 K181 p1 p3 p4 p5 p7 p10 s0) else (ld 96 (md_ax v) p10).bind fun u37 => (ld 96 (md_ay v) p10).bind fun u38 => (f_M_isAhead v p1 u37 u38 p5 p7).bind fun u39 => (if u39 = 0 then (f_M_isCovered_j298 v K146 K181 p1 p3 p4 p5 p7 p10 s0) else (f_M_isCovered_j299 v K146 K181 p1 p3 p4 p5 p7 p10 s0 (1 : Int32))))
def f_M_isCovered_j260 (v : MV) (K146 : Int32 → Int32 → Int32 → Int64 → Int64 → Int32 → Option Int32) (K181 : Int32 → Int32 → Int32 → Int64 → Int64 → Int32 → Int32 → Option Int32) (p1 : Int32) (p3 : Int32) (p4 : Int32) (p5 : Int64) (p7 : Int64) (p10 : Int32) : Option Int32 := (f_M_isCovered_j261 v K146 K181 p1 p3 p4 p5 p7 p10 (0 : Int32))
def f_M_isCovered_l181 (v : MV) (K146 : Int32 → Int32 → Int32 → Int64 → Int64 → Int32 → Option Int32) : Nat → Int32 → Int32 → Int32 → Int64 → Int64 → Int32 → Int32 → Option Int32
 | 0, _, _, _, _, _, _, _ => none
 | n + 1, p1, p3, p4, p5, p7, p9, p10 => (if p4 ≤ p10 then (f_M_isCovered_j415 v K146 p1 p3 p4 p5 p7 p9) else (if p9 = 0 then (f_M_isLine (md_ax v) (md_ay v) (md_bx v) (md_by v) p1 p10).bind fun u28 => (if u28 = 0 then (f_M_isCovered_j260 v K146 (f_M_isCovered_l181 v K146 n) p1 p3 p4 p5 p7 p10) else (ld 96 (md_ax v) p10).bind fun u30 => (ld 96 (md_ay v) p10).bind fun u31 => (ld 96 (md_bx v) p10).bind fun u32 => (ld 96 (md_by v) p10).bind fun u33 => (f_M_isOn p5 p7 u30 u31 u32 u33).bind fun u34 => (if u34 = 0 then (f_M_isCovered_j260 v K146 (f_M_isCovered_l181 v K146 n) p1 p3 p4 p5 p7 p10) else (f_M_isCovered_j261 v K146 (f_M_isCovered_l181 v K146 n) p1 p3 p4 p5 p7 p10 (1 : Int32)))) else (f_M_isCovered_j415 v K146 p1 p3 p4 p5 p7 p9)))
def f_M_isCovered_l146 (v : MV) : Nat → Int32 → Int32 → Int32 → Int64 → Int64 → Int32 → Option Int32
 | 0, _, _, _, _, _, _ => none
 | n + 1, p1, p3, p4, p5, p7, p9 => (if p9 = 0 then (f_M_isCovered_j418 v p9) else (ld 96 (md_bx v) p1).bind fun u22 => (ld 96 (md_by v) p1).bind fun u23 => (f_M_isAhead v p1 u22 u23 p5 p7).bind fun u24 => (if u24 = 0 then (f_M_isCovered_j418 v p9) else (f_M_isCovered_l181 v (f_M_isCovered_l146 v n) 64 p1 p3 p4 p5 p7 (0 : Int32) p3)))
def f_M_isCovered_j127 (v : MV) (p1 : Int32) (p3 : Int32) (p4 : Int32) : Option Int32 := (ld 96 (md_ax v) p1).bind fun u9 => (ld 96 (md_ay v) p1).bind fun u10 => (f_M_isCovered_l146 v 3000000000 p1 p3 p4 u9 u10 (1 : Int32))
def f_M_isCovered_j116 (v : MV) (K53 : Int32 → Int32 → Int32 → Int32 → Option Int32) (p1 : Int32) (p4 : Int32) (p6 : Int32) (s0 : Int32) : Option Int32 := (K53 p1 p4 s0 (p6 + 1))
def f_M_isCovered_j111 (v : MV) (K53 : Int32 → Int32 → Int32 → Int32 → Option Int32) (p1 : Int32) (p4 : Int32) (p6 : Int32) : Option Int32 := (f_M_isCovered_j116 v K53 p1 p4 p6 (1 : Int32))
def f_M_isCovered_l53 (v : MV) : Nat → Int32 → Int32 → Int32 → Int32 → Option Int32
 | 0, _, _, _, _ => none
 | n + 1, p1, p4, p5, p6 => (if p4 ≤ p6 then rb p5 else (if p5 = 0 then (ld 96 (md_ax v) p1).bind fun u13 => (ld 96 (md_ay v) p1).bind fun u14 => (ld 96 (md_ax v) p6).bind fun u15 => (ld 96 (md_ay v) p6).bind fun u16 => (ld 96 (md_bx v) p6).bind fun u17 => (ld 96 (md_by v) p6).bind fun u18 => (f_M_isOn u13 u14 u15 u16 u17 u18).bind fun u19 => (if u19 = 0 then (f_M_isCovered_j116 v (f_M_isCovered_l53 v n) p1 p4 p6 (0 : Int32)) else (f_M_isCovered_j111 v (f_M_isCovered_l53 v n) p1 p4 p6)) else (f_M_isCovered_j111 v (f_M_isCovered_l53 v n) p1 p4 p6)))
def f_M_isCovered (v : MV) (x1 : Int32) (x2 : Int32) : Option Int32 := (ld 2 (md_size v) x2).bind fun u1 => (some (((48 : Int32) * x2) + u1)).bind fun u2 => (ld 96 (md_ax v) x1).bind fun u3 => (ld 96 (md_bx v) x1).bind fun u4 => (if (lg_cmp u3 u4) = 0 then (ld 96 (md_ay v) x1).bind fun u6 => (ld 96 (md_by v) x1).bind fun u7 => (if (lg_cmp u6 u7) = 0 then (f_M_isCovered_l53 v 64 x1 u2 (0 : Int32) ((48 : Int32) * x2)) else (f_M_isCovered_j127 v x1 ((48 : Int32) * x2) u2)) else (f_M_isCovered_j127 v x1 ((48 : Int32) * x2) u2))
set_option maxHeartbeats 4000000 in
set_option maxRecDepth 100000 in
theorem k_M_isCovered (l : Launch) (dC : Nat → ClassId) (dI : Nat → Nat → Nat) (cL cI : ClassId) (qm : Nat → Nat) (v : MV) (x1 : Int32) (x2 : Int32) (r : Int32) (h : f_M_isCovered v x1 x2 = some r) : Met l yM_isCovered wsM_isCovered ({ frames := 3, cells := 0, slots := 0, locals := 89 }) (rd_Pc [.ref (qm 0), .int x1, .int x2] (fun H => va_P (dC, dI) cls3 (mdW cL cI qm v) H) (dC, dI) cls3 [(cL, .long), (cI, .int)]) (vp_Si (fun z => z = r)) 0 0 (fun _ => False) := by
  refine Met.ofW (cc := cM_isCovered) (maxL := 14) (ret := (some .boolean)) (by decide) rfl ?_
  intro p e s m args below meth c s₁ B hml hv
  obtain ⟨rfl, hPm, hK⟩ := hv
  have hx := B.exec
  have hb := B.bytes
  have hr := B.returns
  have hw : ∀ w ∈ wG, w.before ([.ref (qm 0), .int x1, .int x2] : List Value).toArray s = true := fun w hq => atoms_spec (ws := wsM_isCovered) B.pre w (List.mem_cons_of_mem _ hq)
  have hown : s.vm.findClass R_M = some m.cls := findClass_of_methodNamed B.named
  have hlocks := B.notSynchronized
  have hl := lv_entry ([.ref (qm 0), .int x1, .int x2] : List Value) (n := 14) (Nat.le_of_ble_eq_true rfl)
  rw [lg_entry_eq]
  generalize (lg_sl ([.ref (qm 0), .int x1, .int x2] : List Value) ++ List.replicate (14 - (lg_sl ([.ref (qm 0), .int x1, .int x2] : List Value)).length) Slot.unset).toArray = ls at hl ⊢
  have hl : lv_has ls 14 [(0, .ref (qm 0)), (1, .int x1), (2, .int x2)] := hl
  have k418 : ∀ (p9 : Int32), f_M_isCovered_j418 v p9 = some r →  ∀ (ls : Array Slot), lv_has ls 14 [(9, .int p9)] → W p l e (headSpec wsM_isCovered ({ frames := 3, cells := 0, slots := 0, locals := 89 })).room s m ([.ref (qm 0), .int x1, .int x2] : List Value).toArray below meth c s.heap [] 0 0 (MQ below (vp_Si (fun z => z = r)) ([.ref (qm 0), .int x1, .int x2] : List Value).toArray s 0 0 (fun _ => False)) (F0 m 418 ls []) := by
    intro p9 h  ls hl
    unfold f_M_isCovered_j418 at h
    refine lv_iload hx hb dM_isCovered_418 (lv_at hl 0 rfl) ?_
    obtain ⟨hz, hr9⟩ := rb_of h
    exact W.zret hx hb hr hz (fun t ht hW => ⟨_, rfl, hr9, ht⟩) nil_locs dM_isCovered_420
  have k146 : ∀ (n146 : Nat), ∀ (p1 : Int32) (p3 : Int32) (p4 : Int32) (p5 : Int64) (p7 : Int64) (p9 : Int32), f_M_isCovered_l146 v n146 p1 p3 p4 p5 p7 p9 = some r →  ∀ (ls : Array Slot), lv_has ls 14 [(0, .ref (qm 0)), (1, .int p1), (3, .int p3), (4, .int p4), (5, .long p5), (7, .long p7), (9, .int p9)] → W p l e (headSpec wsM_isCovered ({ frames := 3, cells := 0, slots := 0, locals := 89 })).room s m ([.ref (qm 0), .int x1, .int x2] : List Value).toArray below meth c s.heap [] 0 0 (MQ below (vp_Si (fun z => z = r)) ([.ref (qm 0), .int x1, .int x2] : List Value).toArray s 0 0 (fun _ => False)) (F0 m 146 ls []) := by
    intro n146
    induction n146 with
    | zero => intro p1 p3 p4 p5 p7 p9 h; exact absurd h (by simp [f_M_isCovered_l146])
    | succ n146 ih146 =>
      have k415 : ∀ (p1 : Int32) (p3 : Int32) (p4 : Int32) (p5 : Int64) (p7 : Int64) (p9 : Int32), f_M_isCovered_j415 v (f_M_isCovered_l146 v n146) p1 p3 p4 p5 p7 p9 = some r →  ∀ (ls : Array Slot), lv_has ls 14 [(0, .ref (qm 0)), (1, .int p1), (3, .int p3), (4, .int p4), (5, .long p5), (7, .long p7), (9, .int p9)] → W p l e (headSpec wsM_isCovered ({ frames := 3, cells := 0, slots := 0, locals := 89 })).room s m ([.ref (qm 0), .int x1, .int x2] : List Value).toArray below meth c s.heap [] 0 0 (MQ below (vp_Si (fun z => z = r)) ([.ref (qm 0), .int x1, .int x2] : List Value).toArray s 0 0 (fun _ => False)) (F0 m 415 ls []) := by
        intro p1 p3 p4 p5 p7 p9 h  ls hl
        unfold f_M_isCovered_j415 at h
        refine lv_goto (tgt := 146) hx hb dM_isCovered_415 (by decide) ?_
        exact ih146 p1 p3 p4 p5 p7 p9 h ls (lv_sub hl [0, 1, 2, 3, 4, 5, 6] rfl)
      have k181 : ∀ (n181 : Nat), ∀ (p1 : Int32) (p3 : Int32) (p4 : Int32) (p5 : Int64) (p7 : Int64) (p9 : Int32) (p10 : Int32), f_M_isCovered_l181 v (f_M_isCovered_l146 v n146) n181 p1 p3 p4 p5 p7 p9 p10 = some r →  ∀ (ls : Array Slot), lv_has ls 14 [(0, .ref (qm 0)), (1, .int p1), (3, .int p3), (4, .int p4), (5, .long p5), (7, .long p7), (9, .int p9), (10, .int p10)] → W p l e (headSpec wsM_isCovered ({ frames := 3, cells := 0, slots := 0, locals := 89 })).room s m ([.ref (qm 0), .int x1, .int x2] : List Value).toArray below meth c s.heap [] 0 0 (MQ below (vp_Si (fun z => z = r)) ([.ref (qm 0), .int x1, .int x2] : List Value).toArray s 0 0 (fun _ => False)) (F0 m 181 ls []) := by
        intro n181
        induction n181 with
        | zero => intro p1 p3 p4 p5 p7 p9 p10 h; exact absurd h (by simp [f_M_isCovered_l181])
        | succ n181 ih181 =>
          have k409 : ∀ (p1 : Int32) (p3 : Int32) (p4 : Int32) (p5 : Int64) (p7 : Int64) (p9 : Int32) (p10 : Int32), f_M_isCovered_j409 v (f_M_isCovered_l146 v n146) (f_M_isCovered_l181 v (f_M_isCovered_l146 v n146) n181) p1 p3 p4 p5 p7 p9 p10 = some r →  ∀ (ls : Array Slot), lv_has ls 14 [(0, .ref (qm 0)), (1, .int p1), (3, .int p3), (4, .int p4), (5, .long p5), (7, .long p7), (9, .int p9), (10, .int p10)] → W p l e (headSpec wsM_isCovered ({ frames := 3, cells := 0, slots := 0, locals := 89 })).room s m ([.ref (qm 0), .int x1, .int x2] : List Value).toArray below meth c s.heap [] 0 0 (MQ below (vp_Si (fun z => z = r)) ([.ref (qm 0), .int x1, .int x2] : List Value).toArray s 0 0 (fun _ => False)) (F0 m 409 ls []) := by
            intro p1 p3 p4 p5 p7 p9 p10 h  ls hl
            unfold f_M_isCovered_j409 at h
            refine lv_iinc (v := p10 + 1) (lv' := [(10, .int (p10 + 1)), (0, .ref (qm 0)), (1, .int p1), (3, .int p3), (4, .int p4), (5, .long p5), (7, .long p7), (9, .int p9)]) hx hb dM_isCovered_409 hl (k := 7) rfl rfl (by decide) rfl (fun ls hl => ?_)
            refine lv_goto (tgt := 181) hx hb dM_isCovered_412 (by decide) ?_
            exact ih181 p1 p3 p4 p5 p7 p9 (p10 + 1) h ls (lv_sub hl [1, 2, 3, 4, 5, 6, 7, 0] rfl)
          have k407 : ∀ (p1 : Int32) (p3 : Int32) (p4 : Int32) (p5 : Int64) (p9 : Int32) (p10 : Int32) (s0 : Int64), f_M_isCovered_j407 v (f_M_isCovered_l146 v n146) (f_M_isCovered_l181 v (f_M_isCovered_l146 v n146) n181) p1 p3 p4 p5 p9 p10 s0 = some r →  ∀ (ls : Array Slot), lv_has ls 14 [(0, .ref (qm 0)), (1, .int p1), (3, .int p3), (4, .int p4), (5, .long p5), (9, .int p9), (10, .int p10)] → W p l e (headSpec wsM_isCovered ({ frames := 3, cells := 0, slots := 0, locals := 89 })).room s m ([.ref (qm 0), .int x1, .int x2] : List Value).toArray below meth c s.heap [] 0 0 (MQ below (vp_Si (fun z => z = r)) ([.ref (qm 0), .int x1, .int x2] : List Value).toArray s 0 0 (fun _ => False)) (F0 m 407 ls [.long s0]) := by
            intro p1 p3 p4 p5 p9 p10 s0 h  ls hl
            unfold f_M_isCovered_j407 at h
            refine lv_lstore (lv' := [(7, .long s0), (0, .ref (qm 0)), (1, .int p1), (3, .int p3), (4, .int p4), (5, .long p5), (9, .int p9), (10, .int p10)]) hx hb dM_isCovered_407 hl (by decide) rfl (fun ls hl => ?_)
            exact k409 p1 p3 p4 p5 s0 p9 p10 h ls (lv_sub hl [1, 2, 3, 4, 5, 0, 6, 7] rfl)
          have k383 : ∀ (p1 : Int32) (p3 : Int32) (p4 : Int32) (p9 : Int32) (p10 : Int32) (p12 : Int32) (s0 : Int64), f_M_isCovered_j383 v (f_M_isCovered_l146 v n146) (f_M_isCovered_l181 v (f_M_isCovered_l146 v n146) n181) p1 p3 p4 p9 p10 p12 s0 = some r →  ∀ (ls : Array Slot), lv_has ls 14 [(0, .ref (qm 0)), (1, .int p1), (3, .int p3), (4, .int p4), (9, .int p9), (10, .int p10), (12, .int p12)] → W p l e (headSpec wsM_isCovered ({ frames := 3, cells := 0, slots := 0, locals := 89 })).room s m ([.ref (qm 0), .int x1, .int x2] : List Value).toArray below meth c s.heap [] 0 0 (MQ below (vp_Si (fun z => z = r)) ([.ref (qm 0), .int x1, .int x2] : List Value).toArray s 0 0 (fun _ => False)) (F0 m 383 ls [.long s0]) := by
            intro p1 p3 p4 p9 p10 p12 s0 h  ls hl
            unfold f_M_isCovered_j383 at h
            refine lv_lstore (lv' := [(5, .long s0), (0, .ref (qm 0)), (1, .int p1), (3, .int p3), (4, .int p4), (9, .int p9), (10, .int p10), (12, .int p12)]) hx hb dM_isCovered_383 hl (by decide) rfl (fun ls hl => ?_)
            refine lv_iload hx hb dM_isCovered_385 (lv_at hl 7 rfl) ?_
            refine lv_if_eq (tgt := 400) hx hb dM_isCovered_387 (by decide) (fun c52 => ?_) (fun c52 => ?_)
            · have h := it_t c52 h
              refine lv_aload_n hx hb dM_isCovered_400 rfl (lv_at hl 1 rfl) ?_
              refine va_get (D := (dC, dI)) (ci := 2) (v := .ref (qm 11)) (C := R_M) (T := T_M) (N := 15) hx hb hw in_M hown hK hPm 0 rfl rfl 12 (by decide) (hw _ w_457) (fun _ h9 => h9) rfl dM_isCovered_401 ?_
              refine lv_iload hx hb dM_isCovered_404 (lv_at hl 6 rfl) ?_
              obtain ⟨u53, hu53, h⟩ := ob_some h
              obtain ⟨hiu53, eu53⟩ := ld_of hu53
              refine va_lald hx hb hK hPm 11 0 rfl rfl hiu53 dM_isCovered_406 ?_
              rw [eu53]
              exact k407 p1 p3 p4 s0 p9 p10 u53 h ls (lv_sub hl [1, 2, 3, 4, 0, 5, 6] rfl)
            · have h := it_f c52 h
              refine lv_aload_n hx hb dM_isCovered_390 rfl (lv_at hl 1 rfl) ?_
              refine va_get (D := (dC, dI)) (ci := 2) (v := .ref (qm 9)) (C := R_M) (T := T_M) (N := 15) hx hb hw in_M hown hK hPm 0 rfl rfl 10 (by decide) (hw _ w_455) (fun _ h9 => h9) rfl dM_isCovered_391 ?_
              refine lv_iload hx hb dM_isCovered_394 (lv_at hl 6 rfl) ?_
              obtain ⟨u54, hu54, h⟩ := ob_some h
              obtain ⟨hiu54, eu54⟩ := ld_of hu54
              refine va_lald hx hb hK hPm 9 0 rfl rfl hiu54 dM_isCovered_396 ?_
              rw [eu54]
              refine lv_goto (tgt := 407) hx hb dM_isCovered_397 (by decide) ?_
              exact k407 p1 p3 p4 s0 p9 p10 u54 h ls (lv_sub hl [1, 2, 3, 4, 0, 5, 6] rfl)
          have k354 : ∀ (p1 : Int32) (p3 : Int32) (p4 : Int32) (p5 : Int64) (p7 : Int64) (p10 : Int32) (p12 : Int32) (s0 : Int32), f_M_isCovered_j354 v (f_M_isCovered_l146 v n146) (f_M_isCovered_l181 v (f_M_isCovered_l146 v n146) n181) p1 p3 p4 p5 p7 p10 p12 s0 = some r →  ∀ (ls : Array Slot), lv_has ls 14 [(0, .ref (qm 0)), (1, .int p1), (3, .int p3), (4, .int p4), (5, .long p5), (7, .long p7), (10, .int p10), (12, .int p12)] → W p l e (headSpec wsM_isCovered ({ frames := 3, cells := 0, slots := 0, locals := 89 })).room s m ([.ref (qm 0), .int x1, .int x2] : List Value).toArray below meth c s.heap [] 0 0 (MQ below (vp_Si (fun z => z = r)) ([.ref (qm 0), .int x1, .int x2] : List Value).toArray s 0 0 (fun _ => False)) (F0 m 354 ls [.int s0]) := by
            intro p1 p3 p4 p5 p7 p10 p12 s0 h  ls hl
            unfold f_M_isCovered_j354 at h
            refine lv_istore (lv' := [(9, .int s0), (0, .ref (qm 0)), (1, .int p1), (3, .int p3), (4, .int p4), (5, .long p5), (7, .long p7), (10, .int p10), (12, .int p12)]) hx hb dM_isCovered_354 hl (by decide) rfl (fun ls hl => ?_)
            refine lv_iload hx hb dM_isCovered_356 (lv_at hl 0 rfl) ?_
            refine lv_if_eq (tgt := 409) hx hb dM_isCovered_358 (by decide) (fun c48 => ?_) (fun c48 => ?_)
            · have h := it_t c48 h
              exact k409 p1 p3 p4 p5 p7 s0 p10 h ls (lv_sub hl [1, 2, 3, 4, 5, 6, 0, 7] rfl)
            · have h := it_f c48 h
              refine lv_iload hx hb dM_isCovered_361 (lv_at hl 8 rfl) ?_
              refine lv_if_eq (tgt := 376) hx hb dM_isCovered_363 (by decide) (fun c49 => ?_) (fun c49 => ?_)
              · have h := it_t c49 h
                refine lv_aload_n hx hb dM_isCovered_376 rfl (lv_at hl 1 rfl) ?_
                refine va_get (D := (dC, dI)) (ci := 2) (v := .ref (qm 10)) (C := R_M) (T := T_M) (N := 15) hx hb hw in_M hown hK hPm 0 rfl rfl 11 (by decide) (hw _ w_456) (fun _ h9 => h9) rfl dM_isCovered_377 ?_
                refine lv_iload hx hb dM_isCovered_380 (lv_at hl 7 rfl) ?_
                obtain ⟨u50, hu50, h⟩ := ob_some h
                obtain ⟨hiu50, eu50⟩ := ld_of hu50
                refine va_lald hx hb hK hPm 10 0 rfl rfl hiu50 dM_isCovered_382 ?_
                rw [eu50]
                exact k383 p1 p3 p4 s0 p10 p12 u50 h ls (lv_sub hl [1, 2, 3, 4, 0, 7, 8] rfl)
              · have h := it_f c49 h
                refine lv_aload_n hx hb dM_isCovered_366 rfl (lv_at hl 1 rfl) ?_
                refine va_get (D := (dC, dI)) (ci := 2) (v := .ref (qm 8)) (C := R_M) (T := T_M) (N := 15) hx hb hw in_M hown hK hPm 0 rfl rfl 9 (by decide) (hw _ w_454) (fun _ h9 => h9) rfl dM_isCovered_367 ?_
                refine lv_iload hx hb dM_isCovered_370 (lv_at hl 7 rfl) ?_
                obtain ⟨u51, hu51, h⟩ := ob_some h
                obtain ⟨hiu51, eu51⟩ := ld_of hu51
                refine va_lald hx hb hK hPm 8 0 rfl rfl hiu51 dM_isCovered_372 ?_
                rw [eu51]
                refine lv_goto (tgt := 383) hx hb dM_isCovered_373 (by decide) ?_
                exact k383 p1 p3 p4 s0 p10 p12 u51 h ls (lv_sub hl [1, 2, 3, 4, 0, 7, 8] rfl)
          have k349 : ∀ (p1 : Int32) (p3 : Int32) (p4 : Int32) (p5 : Int64) (p7 : Int64) (p10 : Int32) (p12 : Int32), f_M_isCovered_j349 v (f_M_isCovered_l146 v n146) (f_M_isCovered_l181 v (f_M_isCovered_l146 v n146) n181) p1 p3 p4 p5 p7 p10 p12 = some r →  ∀ (ls : Array Slot), lv_has ls 14 [(0, .ref (qm 0)), (1, .int p1), (3, .int p3), (4, .int p4), (5, .long p5), (7, .long p7), (10, .int p10), (12, .int p12)] → W p l e (headSpec wsM_isCovered ({ frames := 3, cells := 0, slots := 0, locals := 89 })).room s m ([.ref (qm 0), .int x1, .int x2] : List Value).toArray below meth c s.heap [] 0 0 (MQ below (vp_Si (fun z => z = r)) ([.ref (qm 0), .int x1, .int x2] : List Value).toArray s 0 0 (fun _ => False)) (F0 m 349 ls []) := by
            intro p1 p3 p4 p5 p7 p10 p12 h  ls hl
            unfold f_M_isCovered_j349 at h
            refine lv_iconst (v := 1) hx hb dM_isCovered_349 (by decide) ?_
            refine lv_goto (tgt := 354) hx hb dM_isCovered_350 (by decide) ?_
            exact k354 p1 p3 p4 p5 p7 p10 p12 (1 : Int32) h ls (lv_sub hl [0, 1, 2, 3, 4, 5, 6, 7] rfl)
          have k337 : ∀ (p1 : Int32) (p3 : Int32) (p4 : Int32) (p5 : Int64) (p7 : Int64) (p10 : Int32) (p12 : Int32) (s0 : Int32), f_M_isCovered_j337 v (f_M_isCovered_l146 v n146) (f_M_isCovered_l181 v (f_M_isCovered_l146 v n146) n181) p1 p3 p4 p5 p7 p10 p12 s0 = some r →  ∀ (ls : Array Slot), lv_has ls 14 [(0, .ref (qm 0)), (1, .int p1), (3, .int p3), (4, .int p4), (5, .long p5), (7, .long p7), (10, .int p10), (12, .int p12)] → W p l e (headSpec wsM_isCovered ({ frames := 3, cells := 0, slots := 0, locals := 89 })).room s m ([.ref (qm 0), .int x1, .int x2] : List Value).toArray below meth c s.heap [] 0 0 (MQ below (vp_Si (fun z => z = r)) ([.ref (qm 0), .int x1, .int x2] : List Value).toArray s 0 0 (fun _ => False)) (F0 m 337 ls [.int s0]) := by
            intro p1 p3 p4 p5 p7 p10 p12 s0 h  ls hl
            unfold f_M_isCovered_j337 at h
            refine lv_istore (lv' := [(13, .int s0), (0, .ref (qm 0)), (1, .int p1), (3, .int p3), (4, .int p4), (5, .long p5), (7, .long p7), (10, .int p10), (12, .int p12)]) hx hb dM_isCovered_337 hl (by decide) rfl (fun ls hl => ?_)
            refine lv_iload hx hb dM_isCovered_339 (lv_at hl 8 rfl) ?_
            refine lv_if_ne (tgt := 349) hx hb dM_isCovered_341 (by decide) (fun c46 => ?_) (fun c46 => ?_)
            · have h := it_f c46 h
              exact k349 p1 p3 p4 p5 p7 p10 p12 h ls (lv_sub hl [1, 2, 3, 4, 5, 6, 7, 8] rfl)
            · have h := it_t c46 h
              refine lv_iload hx hb dM_isCovered_344 (lv_at hl 0 rfl) ?_
              refine lv_if_eq (tgt := 353) hx hb dM_isCovered_346 (by decide) (fun c47 => ?_) (fun c47 => ?_)
              · have h := it_t c47 h
                refine lv_iconst (v := 0) hx hb dM_isCovered_353 (by decide) ?_
                exact k354 p1 p3 p4 p5 p7 p10 p12 (0 : Int32) h ls (lv_sub hl [1, 2, 3, 4, 5, 6, 7, 8] rfl)
              · have h := it_f c47 h
                exact k349 p1 p3 p4 p5 p7 p10 p12 h ls (lv_sub hl [1, 2, 3, 4, 5, 6, 7, 8] rfl)
          have k336 : ∀ (p1 : Int32) (p3 : Int32) (p4 : Int32) (p5 : Int64) (p7 : Int64) (p10 : Int32) (p12 : Int32), f_M_isCovered_j336 v (f_M_isCovered_l146 v n146) (f_M_isCovered_l181 v (f_M_isCovered_l146 v n146) n181) p1 p3 p4 p5 p7 p10 p12 = some r →  ∀ (ls : Array Slot), lv_has ls 14 [(0, .ref (qm 0)), (1, .int p1), (3, .int p3), (4, .int p4), (5, .long p5), (7, .long p7), (10, .int p10), (12, .int p12)] → W p l e (headSpec wsM_isCovered ({ frames := 3, cells := 0, slots := 0, locals := 89 })).room s m ([.ref (qm 0), .int x1, .int x2] : List Value).toArray below meth c s.heap [] 0 0 (MQ below (vp_Si (fun z => z = r)) ([.ref (qm 0), .int x1, .int x2] : List Value).toArray s 0 0 (fun _ => False)) (F0 m 336 ls []) := by
            intro p1 p3 p4 p5 p7 p10 p12 h  ls hl
            unfold f_M_isCovered_j336 at h
            refine lv_iconst (v := 0) hx hb dM_isCovered_336 (by decide) ?_
            exact k337 p1 p3 p4 p5 p7 p10 p12 (0 : Int32) h ls (lv_sub hl [0, 1, 2, 3, 4, 5, 6, 7] rfl)
          have k299 : ∀ (p1 : Int32) (p3 : Int32) (p4 : Int32) (p5 : Int64) (p7 : Int64) (p10 : Int32) (p11 : Int32) (s0 : Int32), f_M_isCovered_j299 v (f_M_isCovered_l146 v n146) (f_M_isCovered_l181 v (f_M_isCovered_l146 v n146) n181) p1 p3 p4 p5 p7 p10 p11 s0 = some r →  ∀ (ls : Array Slot), lv_has ls 14 [(0, .ref (qm 0)), (1, .int p1), (3, .int p3), (4, .int p4), (5, .long p5), (7, .long p7), (10, .int p10), (11, .int p11)] → W p l e (headSpec wsM_isCovered ({ frames := 3, cells := 0, slots := 0, locals := 89 })).room s m ([.ref (qm 0), .int x1, .int x2] : List Value).toArray below meth c s.heap [] 0 0 (MQ below (vp_Si (fun z => z = r)) ([.ref (qm 0), .int x1, .int x2] : List Value).toArray s 0 0 (fun _ => False)) (F0 m 299 ls [.int s0]) := by
            intro p1 p3 p4 p5 p7 p10 p11 s0 h  ls hl
            unfold f_M_isCovered_j299 at h
            refine lv_istore (lv' := [(12, .int s0), (0, .ref (qm 0)), (1, .int p1), (3, .int p3), (4, .int p4), (5, .long p5), (7, .long p7), (10, .int p10), (11, .int p11)]) hx hb dM_isCovered_299 hl (by decide) rfl (fun ls hl => ?_)
            refine lv_iload hx hb dM_isCovered_301 (lv_at hl 8 rfl) ?_
            refine lv_if_eq (tgt := 336) hx hb dM_isCovered_303 (by decide) (fun c41 => ?_) (fun c41 => ?_)
            · have h := it_t c41 h
              exact k336 p1 p3 p4 p5 p7 p10 s0 h ls (lv_sub hl [1, 2, 3, 4, 5, 6, 7, 0] rfl)
            · have h := it_f c41 h
              refine lv_aload_n hx hb dM_isCovered_306 rfl (lv_at hl 1 rfl) ?_
              refine lv_iload_n hx hb dM_isCovered_307 rfl (lv_at hl 2 rfl) ?_
              refine lv_aload_n hx hb dM_isCovered_308 rfl (lv_at hl 1 rfl) ?_
              refine va_get (D := (dC, dI)) (ci := 2) (v := .ref (qm 10)) (C := R_M) (T := T_M) (N := 15) hx hb hw in_M hown hK hPm 0 rfl rfl 11 (by decide) (hw _ w_456) (fun _ h9 => h9) rfl dM_isCovered_309 ?_
              refine lv_iload hx hb dM_isCovered_312 (lv_at hl 7 rfl) ?_
              obtain ⟨u42, hu42, h⟩ := ob_some h
              obtain ⟨hiu42, eu42⟩ := ld_of hu42
              refine va_lald hx hb hK hPm 10 0 rfl rfl hiu42 dM_isCovered_314 ?_
              rw [eu42]
              refine lv_aload_n hx hb dM_isCovered_315 rfl (lv_at hl 1 rfl) ?_
              refine va_get (D := (dC, dI)) (ci := 2) (v := .ref (qm 11)) (C := R_M) (T := T_M) (N := 15) hx hb hw in_M hown hK hPm 0 rfl rfl 12 (by decide) (hw _ w_457) (fun _ h9 => h9) rfl dM_isCovered_316 ?_
              refine lv_iload hx hb dM_isCovered_319 (lv_at hl 7 rfl) ?_
              obtain ⟨u43, hu43, h⟩ := ob_some h
              obtain ⟨hiu43, eu43⟩ := ld_of hu43
              refine va_lald hx hb hK hPm 11 0 rfl rfl hiu43 dM_isCovered_321 ?_
              rw [eu43]
              refine lv_lload hx hb dM_isCovered_322 (lv_at hl 5 rfl) ?_
              refine lv_lload hx hb dM_isCovered_324 (lv_at hl 6 rfl) ?_
              obtain ⟨u44, hu44, h⟩ := ob_some h
              refine vp_callSi (va_Run.run (va_runV (As := [.int p1, .long u42, .long u43, .long p5, .long p7]) (rest := []) ⟨hx, hb, hml, hown, hw⟩ (k_M_isAhead l dC dI cL cI qm v p1 u42 u43 p5 p7 u44 hu44) (cwV 5 hw (gV w_681 w_683 wp_31 w_2 w_684) rfl rfl rfl (by decide +kernel) ⟨Nat.le_of_ble_eq_true rfl, Nat.le_of_ble_eq_true rfl⟩) ⟨rd_blind, va_recv hK hPm (ci := 2) (q0 := 0) rfl rfl, rd_pre hPm hK⟩ rfl rfl hl.1 rfl (lv_room (Nat.le_of_ble_eq_true rfl)) dM_isCovered_326 ⟨Nat.le_of_ble_eq_true rfl, Nat.le_of_ble_eq_true rfl⟩)) (fun z hz => ?_)
              rw [hz]; clear hz
              refine lv_if_eq (tgt := 336) hx hb dM_isCovered_329 (by decide) (fun c45 => ?_) (fun c45 => ?_)
              · have h := it_t c45 h
                exact k336 p1 p3 p4 p5 p7 p10 s0 h ls (lv_sub hl [1, 2, 3, 4, 5, 6, 7, 0] rfl)
              · have h := it_f c45 h
                refine lv_iconst (v := 1) hx hb dM_isCovered_332 (by decide) ?_
                refine lv_goto (tgt := 337) hx hb dM_isCovered_333 (by decide) ?_
                exact k337 p1 p3 p4 p5 p7 p10 s0 (1 : Int32) h ls (lv_sub hl [1, 2, 3, 4, 5, 6, 7, 0] rfl)
          have k298 : ∀ (p1 : Int32) (p3 : Int32) (p4 : Int32) (p5 : Int64) (p7 : Int64) (p10 : Int32) (p11 : Int32), f_M_isCovered_j298 v (f_M_isCovered_l146 v n146) (f_M_isCovered_l181 v (f_M_isCovered_l146 v n146) n181) p1 p3 p4 p5 p7 p10 p11 = some r →  ∀ (ls : Array Slot), lv_has ls 14 [(0, .ref (qm 0)), (1, .int p1), (3, .int p3), (4, .int p4), (5, .long p5), (7, .long p7), (10, .int p10), (11, .int p11)] → W p l e (headSpec wsM_isCovered ({ frames := 3, cells := 0, slots := 0, locals := 89 })).room s m ([.ref (qm 0), .int x1, .int x2] : List Value).toArray below meth c s.heap [] 0 0 (MQ below (vp_Si (fun z => z = r)) ([.ref (qm 0), .int x1, .int x2] : List Value).toArray s 0 0 (fun _ => False)) (F0 m 298 ls []) := by
            intro p1 p3 p4 p5 p7 p10 p11 h  ls hl
            unfold f_M_isCovered_j298 at h
            refine lv_iconst (v := 0) hx hb dM_isCovered_298 (by decide) ?_
            exact k299 p1 p3 p4 p5 p7 p10 p11 (0 : Int32) h ls (lv_sub hl [0, 1, 2, 3, 4, 5, 6, 7] rfl)
          have k261 : ∀ (p1 : Int32) (p3 : Int32) (p4 : Int32) (p5 : Int64) (p7 : Int64) (p10 : Int32) (s0 : Int32), f_M_isCovered_j261 v (f_M_isCovered_l146 v n146) (f_M_isCovered_l181 v (f_M_isCovered_l146 v n146) n181) p1 p3 p4 p5 p7 p10 s0 = some r →  ∀ (ls : Array Slot), lv_has ls 14 [(0, .ref (qm 0)), (1, .int p1), (3, .int p3), (4, .int p4), (5, .long p5), (7, .long p7), (10, .int p10)] → W p l e (headSpec wsM_isCovered ({ frames := 3, cells := 0, slots := 0, locals := 89 })).room s m ([.ref (qm 0), .int x1, .int x2] : List Value).toArray below meth c s.heap [] 0 0 (MQ below (vp_Si (fun z => z = r)) ([.ref (qm 0), .int x1, .int x2] : List Value).toArray s 0 0 (fun _ => False)) (F0 m 261 ls [.int s0]) := by
            intro p1 p3 p4 p5 p7 p10 s0 h  ls hl
            unfold f_M_isCovered_j261 at h
            refine lv_istore (lv' := [(11, .int s0), (0, .ref (qm 0)), (1, .int p1), (3, .int p3), (4, .int p4), (5, .long p5), (7, .long p7), (10, .int p10)]) hx hb dM_isCovered_261 hl (by decide) rfl (fun ls hl => ?_)
            refine lv_iload hx hb dM_isCovered_263 (lv_at hl 0 rfl) ?_
            refine lv_if_eq (tgt := 298) hx hb dM_isCovered_265 (by decide) (fun c36 => ?_) (fun c36 => ?_)
            · have h := it_t c36 h
              exact k298 p1 p3 p4 p5 p7 p10 s0 h ls (lv_sub hl [1, 2, 3, 4, 5, 6, 7, 0] rfl)
            · have h := it_f c36 h
              refine lv_aload_n hx hb dM_isCovered_268 rfl (lv_at hl 1 rfl) ?_
              refine lv_iload_n hx hb dM_isCovered_269 rfl (lv_at hl 2 rfl) ?_
              refine lv_aload_n hx hb dM_isCovered_270 rfl (lv_at hl 1 rfl) ?_
              refine va_get (D := (dC, dI)) (ci := 2) (v := .ref (qm 8)) (C := R_M) (T := T_M) (N := 15) hx hb hw in_M hown hK hPm 0 rfl rfl 9 (by decide) (hw _ w_454) (fun _ h9 => h9) rfl dM_isCovered_271 ?_
              refine lv_iload hx hb dM_isCovered_274 (lv_at hl 7 rfl) ?_
              obtain ⟨u37, hu37, h⟩ := ob_some h
              obtain ⟨hiu37, eu37⟩ := ld_of hu37
              refine va_lald hx hb hK hPm 8 0 rfl rfl hiu37 dM_isCovered_276 ?_
              rw [eu37]
              refine lv_aload_n hx hb dM_isCovered_277 rfl (lv_at hl 1 rfl) ?_
              refine va_get (D := (dC, dI)) (ci := 2) (v := .ref (qm 9)) (C := R_M) (T := T_M) (N := 15) hx hb hw in_M hown hK hPm 0 rfl rfl 10 (by decide) (hw _ w_455) (fun _ h9 => h9) rfl dM_isCovered_278 ?_
              refine lv_iload hx hb dM_isCovered_281 (lv_at hl 7 rfl) ?_
              obtain ⟨u38, hu38, h⟩ := ob_some h
              obtain ⟨hiu38, eu38⟩ := ld_of hu38
              refine va_lald hx hb hK hPm 9 0 rfl rfl hiu38 dM_isCovered_283 ?_
              rw [eu38]
              refine lv_lload hx hb dM_isCovered_284 (lv_at hl 5 rfl) ?_
              refine lv_lload hx hb dM_isCovered_286 (lv_at hl 6 rfl) ?_
              obtain ⟨u39, hu39, h⟩ := ob_some h
              refine vp_callSi (va_Run.run (va_runV (As := [.int p1, .long u37, .long u38, .long p5, .long p7]) (rest := []) ⟨hx, hb, hml, hown, hw⟩ (k_M_isAhead l dC dI cL cI qm v p1 u37 u38 p5 p7 u39 hu39) (cwV 5 hw (gV w_681 w_683 wp_31 w_2 w_684) rfl rfl rfl (by decide +kernel) ⟨Nat.le_of_ble_eq_true rfl, Nat.le_of_ble_eq_true rfl⟩) ⟨rd_blind, va_recv hK hPm (ci := 2) (q0 := 0) rfl rfl, rd_pre hPm hK⟩ rfl rfl hl.1 rfl (lv_room (Nat.le_of_ble_eq_true rfl)) dM_isCovered_288 ⟨Nat.le_of_ble_eq_true rfl, Nat.le_of_ble_eq_true rfl⟩)) (fun z hz => ?_)
              rw [hz]; clear hz
              refine lv_if_eq (tgt := 298) hx hb dM_isCovered_291 (by decide) (fun c40 => ?_) (fun c40 => ?_)
              · have h := it_t c40 h
                exact k298 p1 p3 p4 p5 p7 p10 s0 h ls (lv_sub hl [1, 2, 3, 4, 5, 6, 7, 0] rfl)
              · have h := it_f c40 h
                refine lv_iconst (v := 1) hx hb dM_isCovered_294 (by decide) ?_
                refine lv_goto (tgt := 299) hx hb dM_isCovered_295 (by decide) ?_
                exact k299 p1 p3 p4 p5 p7 p10 s0 (1 : Int32) h ls (lv_sub hl [1, 2, 3, 4, 5, 6, 7, 0] rfl)
          have k260 : ∀ (p1 : Int32) (p3 : Int32) (p4 : Int32) (p5 : Int64) (p7 : Int64) (p10 : Int32), f_M_isCovered_j260 v (f_M_isCovered_l146 v n146) (f_M_isCovered_l181 v (f_M_isCovered_l146 v n146) n181) p1 p3 p4 p5 p7 p10 = some r →  ∀ (ls : Array Slot), lv_has ls 14 [(0, .ref (qm 0)), (1, .int p1), (3, .int p3), (4, .int p4), (5, .long p5), (7, .long p7), (10, .int p10)] → W p l e (headSpec wsM_isCovered ({ frames := 3, cells := 0, slots := 0, locals := 89 })).room s m ([.ref (qm 0), .int x1, .int x2] : List Value).toArray below meth c s.heap [] 0 0 (MQ below (vp_Si (fun z => z = r)) ([.ref (qm 0), .int x1, .int x2] : List Value).toArray s 0 0 (fun _ => False)) (F0 m 260 ls []) := by
            intro p1 p3 p4 p5 p7 p10 h  ls hl
            unfold f_M_isCovered_j260 at h
            refine lv_iconst (v := 0) hx hb dM_isCovered_260 (by decide) ?_
            exact k261 p1 p3 p4 p5 p7 p10 (0 : Int32) h ls (lv_sub hl [0, 1, 2, 3, 4, 5, 6] rfl)
          intro p1 p3 p4 p5 p7 p9 p10 h  ls hl
          rw [f_M_isCovered_l181] at h
          refine lv_iload hx hb dM_isCovered_181 (lv_at hl 7 rfl) ?_
          refine lv_iload hx hb dM_isCovered_183 (lv_at hl 3 rfl) ?_
          refine lv_icmp_ge (tgt := 415) hx hb dM_isCovered_185 (by decide) (fun c26 => ?_) (fun c26 => ?_)
          · have h := it_t c26 h
            exact k415 p1 p3 p4 p5 p7 p9 h ls (lv_sub hl [0, 1, 2, 3, 4, 5, 6] rfl)
          · have h := it_f c26 h
            refine lv_iload hx hb dM_isCovered_188 (lv_at hl 6 rfl) ?_
            refine lv_if_ne (tgt := 415) hx hb dM_isCovered_190 (by decide) (fun c27 => ?_) (fun c27 => ?_)
            · have h := it_f c27 h
              exact k415 p1 p3 p4 p5 p7 p9 h ls (lv_sub hl [0, 1, 2, 3, 4, 5, 6] rfl)
            · have h := it_t c27 h
              refine lv_iload_n hx hb dM_isCovered_193 rfl (lv_at hl 1 rfl) ?_
              refine lv_iload hx hb dM_isCovered_194 (lv_at hl 7 rfl) ?_
              refine lv_aload_n hx hb dM_isCovered_196 rfl (lv_at hl 0 rfl) ?_
              refine va_get (D := (dC, dI)) (ci := 2) (v := .ref (qm 8)) (C := R_M) (T := T_M) (N := 15) hx hb hw in_M hown hK hPm 0 rfl rfl 9 (by decide) (hw _ w_454) (fun _ h9 => h9) rfl dM_isCovered_197 ?_
              refine lv_aload_n hx hb dM_isCovered_200 rfl (lv_at hl 0 rfl) ?_
              refine va_get (D := (dC, dI)) (ci := 2) (v := .ref (qm 9)) (C := R_M) (T := T_M) (N := 15) hx hb hw in_M hown hK hPm 0 rfl rfl 10 (by decide) (hw _ w_455) (fun _ h9 => h9) rfl dM_isCovered_201 ?_
              refine lv_aload_n hx hb dM_isCovered_204 rfl (lv_at hl 0 rfl) ?_
              refine va_get (D := (dC, dI)) (ci := 2) (v := .ref (qm 10)) (C := R_M) (T := T_M) (N := 15) hx hb hw in_M hown hK hPm 0 rfl rfl 11 (by decide) (hw _ w_456) (fun _ h9 => h9) rfl dM_isCovered_205 ?_
              refine lv_aload_n hx hb dM_isCovered_208 rfl (lv_at hl 0 rfl) ?_
              refine va_get (D := (dC, dI)) (ci := 2) (v := .ref (qm 11)) (C := R_M) (T := T_M) (N := 15) hx hb hw in_M hown hK hPm 0 rfl rfl 12 (by decide) (hw _ w_457) (fun _ h9 => h9) rfl dM_isCovered_209 ?_
              obtain ⟨u28, hu28, h⟩ := ob_some h
              refine vp_callSi (va_Run.run (va_runS (As := [.int p1, .int p10, .ref (qm 8), .ref (qm 9), .ref (qm 10), .ref (qm 11)]) (rest := []) ⟨hx, hb, hml, hown, hw⟩ (k_M_isLine l dC dI cL cI (qm 8) (md_ax v) (qm 9) (md_ay v) (qm 10) (md_bx v) (qm 11) (md_by v) p1 p10 u28 hu28) (va_cwS 6 hw (gS w_685 w_686 w_2 w_687) rfl rfl rfl (by decide +kernel) ⟨Nat.le_of_ble_eq_true rfl, Nat.le_of_ble_eq_true rfl⟩) ⟨rd_blind, rd_pre ⟨(hPm.sub [8] rfl), (hPm.sub [9] rfl), (hPm.sub [10] rfl), (hPm.sub [11] rfl)⟩ hK⟩ rfl rfl hl.1 rfl (lv_room (Nat.le_of_ble_eq_true rfl)) dM_isCovered_212 ⟨Nat.le_of_ble_eq_true rfl, Nat.le_of_ble_eq_true rfl⟩)) (fun z hz => ?_)
              rw [hz]; clear hz
              refine lv_if_eq (tgt := 260) hx hb dM_isCovered_215 (by decide) (fun c29 => ?_) (fun c29 => ?_)
              · have h := it_t c29 h
                exact k260 p1 p3 p4 p5 p7 p10 h ls (lv_sub hl [0, 1, 2, 3, 4, 5, 7] rfl)
              · have h := it_f c29 h
                refine lv_lload hx hb dM_isCovered_218 (lv_at hl 4 rfl) ?_
                refine lv_lload hx hb dM_isCovered_220 (lv_at hl 5 rfl) ?_
                refine lv_aload_n hx hb dM_isCovered_222 rfl (lv_at hl 0 rfl) ?_
                refine va_get (D := (dC, dI)) (ci := 2) (v := .ref (qm 8)) (C := R_M) (T := T_M) (N := 15) hx hb hw in_M hown hK hPm 0 rfl rfl 9 (by decide) (hw _ w_454) (fun _ h9 => h9) rfl dM_isCovered_223 ?_
                refine lv_iload hx hb dM_isCovered_226 (lv_at hl 7 rfl) ?_
                obtain ⟨u30, hu30, h⟩ := ob_some h
                obtain ⟨hiu30, eu30⟩ := ld_of hu30
                refine va_lald hx hb hK hPm 8 0 rfl rfl hiu30 dM_isCovered_228 ?_
                rw [eu30]
                refine lv_aload_n hx hb dM_isCovered_229 rfl (lv_at hl 0 rfl) ?_
                refine va_get (D := (dC, dI)) (ci := 2) (v := .ref (qm 9)) (C := R_M) (T := T_M) (N := 15) hx hb hw in_M hown hK hPm 0 rfl rfl 10 (by decide) (hw _ w_455) (fun _ h9 => h9) rfl dM_isCovered_230 ?_
                refine lv_iload hx hb dM_isCovered_233 (lv_at hl 7 rfl) ?_
                obtain ⟨u31, hu31, h⟩ := ob_some h
                obtain ⟨hiu31, eu31⟩ := ld_of hu31
                refine va_lald hx hb hK hPm 9 0 rfl rfl hiu31 dM_isCovered_235 ?_
                rw [eu31]
                refine lv_aload_n hx hb dM_isCovered_236 rfl (lv_at hl 0 rfl) ?_
                refine va_get (D := (dC, dI)) (ci := 2) (v := .ref (qm 10)) (C := R_M) (T := T_M) (N := 15) hx hb hw in_M hown hK hPm 0 rfl rfl 11 (by decide) (hw _ w_456) (fun _ h9 => h9) rfl dM_isCovered_237 ?_
                refine lv_iload hx hb dM_isCovered_240 (lv_at hl 7 rfl) ?_
                obtain ⟨u32, hu32, h⟩ := ob_some h
                obtain ⟨hiu32, eu32⟩ := ld_of hu32
                refine va_lald hx hb hK hPm 10 0 rfl rfl hiu32 dM_isCovered_242 ?_
                rw [eu32]
                refine lv_aload_n hx hb dM_isCovered_243 rfl (lv_at hl 0 rfl) ?_
                refine va_get (D := (dC, dI)) (ci := 2) (v := .ref (qm 11)) (C := R_M) (T := T_M) (N := 15) hx hb hw in_M hown hK hPm 0 rfl rfl 12 (by decide) (hw _ w_457) (fun _ h9 => h9) rfl dM_isCovered_244 ?_
                refine lv_iload hx hb dM_isCovered_247 (lv_at hl 7 rfl) ?_
                obtain ⟨u33, hu33, h⟩ := ob_some h
                obtain ⟨hiu33, eu33⟩ := ld_of hu33
                refine va_lald hx hb hK hPm 11 0 rfl rfl hiu33 dM_isCovered_249 ?_
                rw [eu33]
                obtain ⟨u34, hu34, h⟩ := ob_some h
                refine vp_callSi (va_Run.run (va_runS (As := [.long p5, .long p7, .long u30, .long u31, .long u32, .long u33]) (rest := []) ⟨hx, hb, hml, hown, hw⟩ (k_M_isOn l dC dI cL cI p5 p7 u30 u31 u32 u33 u34 hu34) (va_cwS 6 hw (gS w_578 w_579 w_2 w_580) rfl rfl rfl (by decide +kernel) ⟨Nat.le_of_ble_eq_true rfl, Nat.le_of_ble_eq_true rfl⟩) ⟨rd_blind, rd_pre trivial hK⟩ rfl rfl hl.1 rfl (lv_room (Nat.le_of_ble_eq_true rfl)) dM_isCovered_250 ⟨Nat.le_of_ble_eq_true rfl, Nat.le_of_ble_eq_true rfl⟩)) (fun z hz => ?_)
                rw [hz]; clear hz
                refine lv_if_eq (tgt := 260) hx hb dM_isCovered_253 (by decide) (fun c35 => ?_) (fun c35 => ?_)
                · have h := it_t c35 h
                  exact k260 p1 p3 p4 p5 p7 p10 h ls (lv_sub hl [0, 1, 2, 3, 4, 5, 7] rfl)
                · have h := it_f c35 h
                  refine lv_iconst (v := 1) hx hb dM_isCovered_256 (by decide) ?_
                  refine lv_goto (tgt := 261) hx hb dM_isCovered_257 (by decide) ?_
                  exact k261 p1 p3 p4 p5 p7 p10 (1 : Int32) h ls (lv_sub hl [0, 1, 2, 3, 4, 5, 7] rfl)
      intro p1 p3 p4 p5 p7 p9 h  ls hl
      rw [f_M_isCovered_l146] at h
      refine lv_iload hx hb dM_isCovered_146 (lv_at hl 6 rfl) ?_
      refine lv_if_eq (tgt := 418) hx hb dM_isCovered_148 (by decide) (fun c21 => ?_) (fun c21 => ?_)
      · have h := it_t c21 h
        exact k418 p9 h ls (lv_sub hl [6] rfl)
      · have h := it_f c21 h
        refine lv_aload_n hx hb dM_isCovered_151 rfl (lv_at hl 0 rfl) ?_
        refine lv_iload_n hx hb dM_isCovered_152 rfl (lv_at hl 1 rfl) ?_
        refine lv_aload_n hx hb dM_isCovered_153 rfl (lv_at hl 0 rfl) ?_
        refine va_get (D := (dC, dI)) (ci := 2) (v := .ref (qm 10)) (C := R_M) (T := T_M) (N := 15) hx hb hw in_M hown hK hPm 0 rfl rfl 11 (by decide) (hw _ w_456) (fun _ h9 => h9) rfl dM_isCovered_154 ?_
        refine lv_iload_n hx hb dM_isCovered_157 rfl (lv_at hl 1 rfl) ?_
        obtain ⟨u22, hu22, h⟩ := ob_some h
        obtain ⟨hiu22, eu22⟩ := ld_of hu22
        refine va_lald hx hb hK hPm 10 0 rfl rfl hiu22 dM_isCovered_158 ?_
        rw [eu22]
        refine lv_aload_n hx hb dM_isCovered_159 rfl (lv_at hl 0 rfl) ?_
        refine va_get (D := (dC, dI)) (ci := 2) (v := .ref (qm 11)) (C := R_M) (T := T_M) (N := 15) hx hb hw in_M hown hK hPm 0 rfl rfl 12 (by decide) (hw _ w_457) (fun _ h9 => h9) rfl dM_isCovered_160 ?_
        refine lv_iload_n hx hb dM_isCovered_163 rfl (lv_at hl 1 rfl) ?_
        obtain ⟨u23, hu23, h⟩ := ob_some h
        obtain ⟨hiu23, eu23⟩ := ld_of hu23
        refine va_lald hx hb hK hPm 11 0 rfl rfl hiu23 dM_isCovered_164 ?_
        rw [eu23]
        refine lv_lload hx hb dM_isCovered_165 (lv_at hl 4 rfl) ?_
        refine lv_lload hx hb dM_isCovered_167 (lv_at hl 5 rfl) ?_
        obtain ⟨u24, hu24, h⟩ := ob_some h
        refine vp_callSi (va_Run.run (va_runV (As := [.int p1, .long u22, .long u23, .long p5, .long p7]) (rest := []) ⟨hx, hb, hml, hown, hw⟩ (k_M_isAhead l dC dI cL cI qm v p1 u22 u23 p5 p7 u24 hu24) (cwV 5 hw (gV w_681 w_683 wp_31 w_2 w_684) rfl rfl rfl (by decide +kernel) ⟨Nat.le_of_ble_eq_true rfl, Nat.le_of_ble_eq_true rfl⟩) ⟨rd_blind, va_recv hK hPm (ci := 2) (q0 := 0) rfl rfl, rd_pre hPm hK⟩ rfl rfl hl.1 rfl (lv_room (Nat.le_of_ble_eq_true rfl)) dM_isCovered_169 ⟨Nat.le_of_ble_eq_true rfl, Nat.le_of_ble_eq_true rfl⟩)) (fun z hz => ?_)
        rw [hz]; clear hz
        refine lv_if_eq (tgt := 418) hx hb dM_isCovered_172 (by decide) (fun c25 => ?_) (fun c25 => ?_)
        · have h := it_t c25 h
          exact k418 p9 h ls (lv_sub hl [6] rfl)
        · have h := it_f c25 h
          refine lv_iconst (v := 0) hx hb dM_isCovered_175 (by decide) ?_
          refine lv_istore (lv' := [(9, .int (0 : Int32)), (0, .ref (qm 0)), (1, .int p1), (3, .int p3), (4, .int p4), (5, .long p5), (7, .long p7)]) hx hb dM_isCovered_176 hl (by decide) rfl (fun ls hl => ?_)
          refine lv_iload_n hx hb dM_isCovered_178 rfl (lv_at hl 3 rfl) ?_
          refine lv_istore (lv' := [(10, .int p3), (9, .int (0 : Int32)), (0, .ref (qm 0)), (1, .int p1), (3, .int p3), (4, .int p4), (5, .long p5), (7, .long p7)]) hx hb dM_isCovered_179 hl (by decide) rfl (fun ls hl => ?_)
          exact k181 64 p1 p3 p4 p5 p7 (0 : Int32) p3 h ls (lv_sub hl [2, 3, 4, 5, 6, 7, 1, 0] rfl)
  have k127 : ∀ (p1 : Int32) (p3 : Int32) (p4 : Int32), f_M_isCovered_j127 v p1 p3 p4 = some r →  ∀ (ls : Array Slot), lv_has ls 14 [(0, .ref (qm 0)), (1, .int p1), (3, .int p3), (4, .int p4)] → W p l e (headSpec wsM_isCovered ({ frames := 3, cells := 0, slots := 0, locals := 89 })).room s m ([.ref (qm 0), .int x1, .int x2] : List Value).toArray below meth c s.heap [] 0 0 (MQ below (vp_Si (fun z => z = r)) ([.ref (qm 0), .int x1, .int x2] : List Value).toArray s 0 0 (fun _ => False)) (F0 m 127 ls []) := by
    intro p1 p3 p4 h  ls hl
    unfold f_M_isCovered_j127 at h
    refine lv_aload_n hx hb dM_isCovered_127 rfl (lv_at hl 0 rfl) ?_
    refine va_get (D := (dC, dI)) (ci := 2) (v := .ref (qm 8)) (C := R_M) (T := T_M) (N := 15) hx hb hw in_M hown hK hPm 0 rfl rfl 9 (by decide) (hw _ w_454) (fun _ h9 => h9) rfl dM_isCovered_128 ?_
    refine lv_iload_n hx hb dM_isCovered_131 rfl (lv_at hl 1 rfl) ?_
    obtain ⟨u9, hu9, h⟩ := ob_some h
    obtain ⟨hiu9, eu9⟩ := ld_of hu9
    refine va_lald hx hb hK hPm 8 0 rfl rfl hiu9 dM_isCovered_132 ?_
    rw [eu9]
    refine lv_lstore (lv' := [(5, .long u9), (0, .ref (qm 0)), (1, .int p1), (3, .int p3), (4, .int p4)]) hx hb dM_isCovered_133 hl (by decide) rfl (fun ls hl => ?_)
    refine lv_aload_n hx hb dM_isCovered_135 rfl (lv_at hl 1 rfl) ?_
    refine va_get (D := (dC, dI)) (ci := 2) (v := .ref (qm 9)) (C := R_M) (T := T_M) (N := 15) hx hb hw in_M hown hK hPm 0 rfl rfl 10 (by decide) (hw _ w_455) (fun _ h9 => h9) rfl dM_isCovered_136 ?_
    refine lv_iload_n hx hb dM_isCovered_139 rfl (lv_at hl 2 rfl) ?_
    obtain ⟨u10, hu10, h⟩ := ob_some h
    obtain ⟨hiu10, eu10⟩ := ld_of hu10
    refine va_lald hx hb hK hPm 9 0 rfl rfl hiu10 dM_isCovered_140 ?_
    rw [eu10]
    refine lv_lstore (lv' := [(7, .long u10), (5, .long u9), (0, .ref (qm 0)), (1, .int p1), (3, .int p3), (4, .int p4)]) hx hb dM_isCovered_141 hl (by decide) rfl (fun ls hl => ?_)
    refine lv_iconst (v := 1) hx hb dM_isCovered_143 (by decide) ?_
    refine lv_istore (lv' := [(9, .int (1 : Int32)), (7, .long u10), (5, .long u9), (0, .ref (qm 0)), (1, .int p1), (3, .int p3), (4, .int p4)]) hx hb dM_isCovered_144 hl (by decide) rfl (fun ls hl => ?_)
    exact k146 3000000000 p1 p3 p4 u9 u10 (1 : Int32) h ls (lv_sub hl [3, 4, 5, 6, 2, 1, 0] rfl)
  have k53 : ∀ (n53 : Nat), ∀ (p1 : Int32) (p4 : Int32) (p5 : Int32) (p6 : Int32), f_M_isCovered_l53 v n53 p1 p4 p5 p6 = some r →  ∀ (ls : Array Slot), lv_has ls 14 [(0, .ref (qm 0)), (1, .int p1), (4, .int p4), (5, .int p5), (6, .int p6)] → W p l e (headSpec wsM_isCovered ({ frames := 3, cells := 0, slots := 0, locals := 89 })).room s m ([.ref (qm 0), .int x1, .int x2] : List Value).toArray below meth c s.heap [] 0 0 (MQ below (vp_Si (fun z => z = r)) ([.ref (qm 0), .int x1, .int x2] : List Value).toArray s 0 0 (fun _ => False)) (F0 m 53 ls []) := by
    intro n53
    induction n53 with
    | zero => intro p1 p4 p5 p6 h; exact absurd h (by simp [f_M_isCovered_l53])
    | succ n53 ih53 =>
      have k116 : ∀ (p1 : Int32) (p4 : Int32) (p6 : Int32) (s0 : Int32), f_M_isCovered_j116 v (f_M_isCovered_l53 v n53) p1 p4 p6 s0 = some r →  ∀ (ls : Array Slot), lv_has ls 14 [(0, .ref (qm 0)), (1, .int p1), (4, .int p4), (6, .int p6)] → W p l e (headSpec wsM_isCovered ({ frames := 3, cells := 0, slots := 0, locals := 89 })).room s m ([.ref (qm 0), .int x1, .int x2] : List Value).toArray below meth c s.heap [] 0 0 (MQ below (vp_Si (fun z => z = r)) ([.ref (qm 0), .int x1, .int x2] : List Value).toArray s 0 0 (fun _ => False)) (F0 m 116 ls [.int s0]) := by
        intro p1 p4 p6 s0 h  ls hl
        unfold f_M_isCovered_j116 at h
        refine lv_istore (lv' := [(5, .int s0), (0, .ref (qm 0)), (1, .int p1), (4, .int p4), (6, .int p6)]) hx hb dM_isCovered_116 hl (by decide) rfl (fun ls hl => ?_)
        refine lv_iinc (v := p6 + 1) (lv' := [(6, .int (p6 + 1)), (5, .int s0), (0, .ref (qm 0)), (1, .int p1), (4, .int p4)]) hx hb dM_isCovered_118 hl (k := 4) rfl rfl (by decide) rfl (fun ls hl => ?_)
        refine lv_goto (tgt := 53) hx hb dM_isCovered_121 (by decide) ?_
        exact ih53 p1 p4 s0 (p6 + 1) h ls (lv_sub hl [2, 3, 4, 1, 0] rfl)
      have k111 : ∀ (p1 : Int32) (p4 : Int32) (p6 : Int32), f_M_isCovered_j111 v (f_M_isCovered_l53 v n53) p1 p4 p6 = some r →  ∀ (ls : Array Slot), lv_has ls 14 [(0, .ref (qm 0)), (1, .int p1), (4, .int p4), (6, .int p6)] → W p l e (headSpec wsM_isCovered ({ frames := 3, cells := 0, slots := 0, locals := 89 })).room s m ([.ref (qm 0), .int x1, .int x2] : List Value).toArray below meth c s.heap [] 0 0 (MQ below (vp_Si (fun z => z = r)) ([.ref (qm 0), .int x1, .int x2] : List Value).toArray s 0 0 (fun _ => False)) (F0 m 111 ls []) := by
        intro p1 p4 p6 h  ls hl
        unfold f_M_isCovered_j111 at h
        refine lv_iconst (v := 1) hx hb dM_isCovered_111 (by decide) ?_
        refine lv_goto (tgt := 116) hx hb dM_isCovered_112 (by decide) ?_
        exact k116 p1 p4 p6 (1 : Int32) h ls (lv_sub hl [0, 1, 2, 3] rfl)
      intro p1 p4 p5 p6 h  ls hl
      rw [f_M_isCovered_l53] at h
      refine lv_iload hx hb dM_isCovered_53 (lv_at hl 4 rfl) ?_
      refine lv_iload hx hb dM_isCovered_55 (lv_at hl 2 rfl) ?_
      refine lv_icmp_ge (tgt := 124) hx hb dM_isCovered_57 (by decide) (fun c11 => ?_) (fun c11 => ?_)
      · have h := it_t c11 h
        refine lv_iload hx hb dM_isCovered_124 (lv_at hl 3 rfl) ?_
        obtain ⟨hz, hr9⟩ := rb_of h
        exact W.zret hx hb hr hz (fun t ht hW => ⟨_, rfl, hr9, ht⟩) nil_locs dM_isCovered_126
      · have h := it_f c11 h
        refine lv_iload hx hb dM_isCovered_60 (lv_at hl 3 rfl) ?_
        refine lv_if_ne (tgt := 111) hx hb dM_isCovered_62 (by decide) (fun c12 => ?_) (fun c12 => ?_)
        · have h := it_f c12 h
          exact k111 p1 p4 p6 h ls (lv_sub hl [0, 1, 2, 4] rfl)
        · have h := it_t c12 h
          refine lv_aload_n hx hb dM_isCovered_65 rfl (lv_at hl 0 rfl) ?_
          refine va_get (D := (dC, dI)) (ci := 2) (v := .ref (qm 8)) (C := R_M) (T := T_M) (N := 15) hx hb hw in_M hown hK hPm 0 rfl rfl 9 (by decide) (hw _ w_454) (fun _ h9 => h9) rfl dM_isCovered_66 ?_
          refine lv_iload_n hx hb dM_isCovered_69 rfl (lv_at hl 1 rfl) ?_
          obtain ⟨u13, hu13, h⟩ := ob_some h
          obtain ⟨hiu13, eu13⟩ := ld_of hu13
          refine va_lald hx hb hK hPm 8 0 rfl rfl hiu13 dM_isCovered_70 ?_
          rw [eu13]
          refine lv_aload_n hx hb dM_isCovered_71 rfl (lv_at hl 0 rfl) ?_
          refine va_get (D := (dC, dI)) (ci := 2) (v := .ref (qm 9)) (C := R_M) (T := T_M) (N := 15) hx hb hw in_M hown hK hPm 0 rfl rfl 10 (by decide) (hw _ w_455) (fun _ h9 => h9) rfl dM_isCovered_72 ?_
          refine lv_iload_n hx hb dM_isCovered_75 rfl (lv_at hl 1 rfl) ?_
          obtain ⟨u14, hu14, h⟩ := ob_some h
          obtain ⟨hiu14, eu14⟩ := ld_of hu14
          refine va_lald hx hb hK hPm 9 0 rfl rfl hiu14 dM_isCovered_76 ?_
          rw [eu14]
          refine lv_aload_n hx hb dM_isCovered_77 rfl (lv_at hl 0 rfl) ?_
          refine va_get (D := (dC, dI)) (ci := 2) (v := .ref (qm 8)) (C := R_M) (T := T_M) (N := 15) hx hb hw in_M hown hK hPm 0 rfl rfl 9 (by decide) (hw _ w_454) (fun _ h9 => h9) rfl dM_isCovered_78 ?_
          refine lv_iload hx hb dM_isCovered_81 (lv_at hl 4 rfl) ?_
          obtain ⟨u15, hu15, h⟩ := ob_some h
          obtain ⟨hiu15, eu15⟩ := ld_of hu15
          refine va_lald hx hb hK hPm 8 0 rfl rfl hiu15 dM_isCovered_83 ?_
          rw [eu15]
          refine lv_aload_n hx hb dM_isCovered_84 rfl (lv_at hl 0 rfl) ?_
          refine va_get (D := (dC, dI)) (ci := 2) (v := .ref (qm 9)) (C := R_M) (T := T_M) (N := 15) hx hb hw in_M hown hK hPm 0 rfl rfl 10 (by decide) (hw _ w_455) (fun _ h9 => h9) rfl dM_isCovered_85 ?_
          refine lv_iload hx hb dM_isCovered_88 (lv_at hl 4 rfl) ?_
          obtain ⟨u16, hu16, h⟩ := ob_some h
          obtain ⟨hiu16, eu16⟩ := ld_of hu16
          refine va_lald hx hb hK hPm 9 0 rfl rfl hiu16 dM_isCovered_90 ?_
          rw [eu16]
          refine lv_aload_n hx hb dM_isCovered_91 rfl (lv_at hl 0 rfl) ?_
          refine va_get (D := (dC, dI)) (ci := 2) (v := .ref (qm 10)) (C := R_M) (T := T_M) (N := 15) hx hb hw in_M hown hK hPm 0 rfl rfl 11 (by decide) (hw _ w_456) (fun _ h9 => h9) rfl dM_isCovered_92 ?_
          refine lv_iload hx hb dM_isCovered_95 (lv_at hl 4 rfl) ?_
          obtain ⟨u17, hu17, h⟩ := ob_some h
          obtain ⟨hiu17, eu17⟩ := ld_of hu17
          refine va_lald hx hb hK hPm 10 0 rfl rfl hiu17 dM_isCovered_97 ?_
          rw [eu17]
          refine lv_aload_n hx hb dM_isCovered_98 rfl (lv_at hl 0 rfl) ?_
          refine va_get (D := (dC, dI)) (ci := 2) (v := .ref (qm 11)) (C := R_M) (T := T_M) (N := 15) hx hb hw in_M hown hK hPm 0 rfl rfl 12 (by decide) (hw _ w_457) (fun _ h9 => h9) rfl dM_isCovered_99 ?_
          refine lv_iload hx hb dM_isCovered_102 (lv_at hl 4 rfl) ?_
          obtain ⟨u18, hu18, h⟩ := ob_some h
          obtain ⟨hiu18, eu18⟩ := ld_of hu18
          refine va_lald hx hb hK hPm 11 0 rfl rfl hiu18 dM_isCovered_104 ?_
          rw [eu18]
          obtain ⟨u19, hu19, h⟩ := ob_some h
          refine vp_callSi (va_Run.run (va_runS (As := [.long u13, .long u14, .long u15, .long u16, .long u17, .long u18]) (rest := []) ⟨hx, hb, hml, hown, hw⟩ (k_M_isOn l dC dI cL cI u13 u14 u15 u16 u17 u18 u19 hu19) (va_cwS 6 hw (gS w_578 w_579 w_2 w_580) rfl rfl rfl (by decide +kernel) ⟨Nat.le_of_ble_eq_true rfl, Nat.le_of_ble_eq_true rfl⟩) ⟨rd_blind, rd_pre trivial hK⟩ rfl rfl hl.1 rfl (lv_room (Nat.le_of_ble_eq_true rfl)) dM_isCovered_105 ⟨Nat.le_of_ble_eq_true rfl, Nat.le_of_ble_eq_true rfl⟩)) (fun z hz => ?_)
          rw [hz]; clear hz
          refine lv_if_eq (tgt := 115) hx hb dM_isCovered_108 (by decide) (fun c20 => ?_) (fun c20 => ?_)
          · have h := it_t c20 h
            refine lv_iconst (v := 0) hx hb dM_isCovered_115 (by decide) ?_
            exact k116 p1 p4 p6 (0 : Int32) h ls (lv_sub hl [0, 1, 2, 4] rfl)
          · have h := it_f c20 h
            exact k111 p1 p4 p6 h ls (lv_sub hl [0, 1, 2, 4] rfl)
  unfold f_M_isCovered at h
  refine lv_bipush (v := 48) hx hb dM_isCovered_0 (by decide) ?_
  refine lv_iload_n hx hb dM_isCovered_2 rfl (lv_at hl 2 rfl) ?_
  refine lv_imul hx hb dM_isCovered_3 ?_
  refine lv_istore_n (lv' := [(3, .int ((48 : Int32) * x2)), (0, .ref (qm 0)), (1, .int x1), (2, .int x2)]) hx hb dM_isCovered_4 rfl hl (by decide) rfl (fun ls hl => ?_)
  refine lv_iload_n hx hb dM_isCovered_5 rfl (lv_at hl 0 rfl) ?_
  refine lv_aload_n hx hb dM_isCovered_6 rfl (lv_at hl 1 rfl) ?_
  refine va_get (D := (dC, dI)) (ci := 2) (v := .ref (qm 12)) (C := R_M) (T := T_M) (N := 15) hx hb hw in_M hown hK hPm 0 rfl rfl 13 (by decide) (hw _ w_458) (fun _ h9 => h9) rfl dM_isCovered_7 ?_
  refine lv_iload_n hx hb dM_isCovered_10 rfl (lv_at hl 3 rfl) ?_
  obtain ⟨u1, hu1, h⟩ := ob_some h
  obtain ⟨hiu1, eu1⟩ := ld_of hu1
  refine va_iald hx hb hK hPm 12 1 rfl rfl hiu1 dM_isCovered_11 ?_
  rw [eu1]
  refine lv_iadd hx hb dM_isCovered_12 ?_
  obtain ⟨u2, hu2, h⟩ := ob_some h
  rw [Option.some.inj hu2]
  refine lv_istore (lv' := [(4, .int u2), (3, .int ((48 : Int32) * x2)), (0, .ref (qm 0)), (1, .int x1), (2, .int x2)]) hx hb dM_isCovered_13 hl (by decide) rfl (fun ls hl => ?_)
  refine lv_aload_n hx hb dM_isCovered_15 rfl (lv_at hl 2 rfl) ?_
  refine va_get (D := (dC, dI)) (ci := 2) (v := .ref (qm 8)) (C := R_M) (T := T_M) (N := 15) hx hb hw in_M hown hK hPm 0 rfl rfl 9 (by decide) (hw _ w_454) (fun _ h9 => h9) rfl dM_isCovered_16 ?_
  refine lv_iload_n hx hb dM_isCovered_19 rfl (lv_at hl 3 rfl) ?_
  obtain ⟨u3, hu3, h⟩ := ob_some h
  obtain ⟨hiu3, eu3⟩ := ld_of hu3
  refine va_lald hx hb hK hPm 8 0 rfl rfl hiu3 dM_isCovered_20 ?_
  rw [eu3]
  refine lv_aload_n hx hb dM_isCovered_21 rfl (lv_at hl 2 rfl) ?_
  refine va_get (D := (dC, dI)) (ci := 2) (v := .ref (qm 10)) (C := R_M) (T := T_M) (N := 15) hx hb hw in_M hown hK hPm 0 rfl rfl 11 (by decide) (hw _ w_456) (fun _ h9 => h9) rfl dM_isCovered_22 ?_
  refine lv_iload_n hx hb dM_isCovered_25 rfl (lv_at hl 3 rfl) ?_
  obtain ⟨u4, hu4, h⟩ := ob_some h
  obtain ⟨hiu4, eu4⟩ := ld_of hu4
  refine va_lald hx hb hK hPm 10 0 rfl rfl hiu4 dM_isCovered_26 ?_
  rw [eu4]
  refine W.lcmp hx hb dM_isCovered_27 ?_
  refine lv_if_ne (tgt := 127) hx hb dM_isCovered_28 (by decide) (fun c5 => ?_) (fun c5 => ?_)
  · have h := it_f c5 h
    exact k127 x1 ((48 : Int32) * x2) u2 h ls (lv_sub hl [2, 3, 1, 0] rfl)
  · have h := it_t c5 h
    refine lv_aload_n hx hb dM_isCovered_31 rfl (lv_at hl 2 rfl) ?_
    refine va_get (D := (dC, dI)) (ci := 2) (v := .ref (qm 9)) (C := R_M) (T := T_M) (N := 15) hx hb hw in_M hown hK hPm 0 rfl rfl 10 (by decide) (hw _ w_455) (fun _ h9 => h9) rfl dM_isCovered_32 ?_
    refine lv_iload_n hx hb dM_isCovered_35 rfl (lv_at hl 3 rfl) ?_
    obtain ⟨u6, hu6, h⟩ := ob_some h
    obtain ⟨hiu6, eu6⟩ := ld_of hu6
    refine va_lald hx hb hK hPm 9 0 rfl rfl hiu6 dM_isCovered_36 ?_
    rw [eu6]
    refine lv_aload_n hx hb dM_isCovered_37 rfl (lv_at hl 2 rfl) ?_
    refine va_get (D := (dC, dI)) (ci := 2) (v := .ref (qm 11)) (C := R_M) (T := T_M) (N := 15) hx hb hw in_M hown hK hPm 0 rfl rfl 12 (by decide) (hw _ w_457) (fun _ h9 => h9) rfl dM_isCovered_38 ?_
    refine lv_iload_n hx hb dM_isCovered_41 rfl (lv_at hl 3 rfl) ?_
    obtain ⟨u7, hu7, h⟩ := ob_some h
    obtain ⟨hiu7, eu7⟩ := ld_of hu7
    refine va_lald hx hb hK hPm 11 0 rfl rfl hiu7 dM_isCovered_42 ?_
    rw [eu7]
    refine W.lcmp hx hb dM_isCovered_43 ?_
    refine lv_if_ne (tgt := 127) hx hb dM_isCovered_44 (by decide) (fun c8 => ?_) (fun c8 => ?_)
    · have h := it_f c8 h
      exact k127 x1 ((48 : Int32) * x2) u2 h ls (lv_sub hl [2, 3, 1, 0] rfl)
    · have h := it_t c8 h
      refine lv_iconst (v := 0) hx hb dM_isCovered_47 (by decide) ?_
      refine lv_istore (lv' := [(5, .int (0 : Int32)), (4, .int u2), (3, .int ((48 : Int32) * x2)), (0, .ref (qm 0)), (1, .int x1), (2, .int x2)]) hx hb dM_isCovered_48 hl (by decide) rfl (fun ls hl => ?_)
      refine lv_iload_n hx hb dM_isCovered_50 rfl (lv_at hl 2 rfl) ?_
      refine lv_istore (lv' := [(6, .int ((48 : Int32) * x2)), (5, .int (0 : Int32)), (4, .int u2), (3, .int ((48 : Int32) * x2)), (0, .ref (qm 0)), (1, .int x1), (2, .int x2)]) hx hb dM_isCovered_51 hl (by decide) rfl (fun ls hl => ?_)
      exact k53 64 x1 u2 (0 : Int32) ((48 : Int32) * x2) h ls (lv_sub hl [4, 5, 2, 1, 0] rfl)
theorem dM_covers_0 : decode cM_covers 0 = .ok (.iconst 1, 1) := by decide +kernel
theorem dM_covers_1 : decode cM_covers 1 = .ok (.istore_n 3, 1) := by decide +kernel
theorem dM_covers_2 : decode cM_covers 2 = .ok (.bipush 48, 2) := by decide +kernel
theorem dM_covers_4 : decode cM_covers 4 = .ok (.iload_n 2, 1) := by decide +kernel
theorem dM_covers_5 : decode cM_covers 5 = .ok (.imul, 1) := by decide +kernel
theorem dM_covers_6 : decode cM_covers 6 = .ok (.istore 4, 2) := by decide +kernel
theorem dM_covers_8 : decode cM_covers 8 = .ok (.iload 4, 2) := by decide +kernel
theorem dM_covers_10 : decode cM_covers 10 = .ok (.bipush 48, 2) := by decide +kernel
theorem dM_covers_12 : decode cM_covers 12 = .ok (.iload_n 2, 1) := by decide +kernel
theorem dM_covers_13 : decode cM_covers 13 = .ok (.imul, 1) := by decide +kernel
theorem dM_covers_14 : decode cM_covers 14 = .ok (.aload_n 0, 1) := by decide +kernel
theorem dM_covers_15 : decode cM_covers 15 = .ok (.getfield 44, 3) := by decide +kernel
theorem dM_covers_18 : decode cM_covers 18 = .ok (.iload_n 2, 1) := by decide +kernel
theorem dM_covers_19 : decode cM_covers 19 = .ok (.iaload, 1) := by decide +kernel
theorem dM_covers_20 : decode cM_covers 20 = .ok (.iadd, 1) := by decide +kernel
theorem dM_covers_21 : decode cM_covers 21 = .ok (.if_icmp .ge 29, 3) := by decide +kernel
theorem dM_covers_24 : decode cM_covers 24 = .ok (.iload_n 3, 1) := by decide +kernel
theorem dM_covers_25 : decode cM_covers 25 = .ok (.ifCond .eq 17, 3) := by decide +kernel
theorem dM_covers_28 : decode cM_covers 28 = .ok (.aload_n 0, 1) := by decide +kernel
theorem dM_covers_29 : decode cM_covers 29 = .ok (.iload 4, 2) := by decide +kernel
theorem dM_covers_31 : decode cM_covers 31 = .ok (.iload_n 1, 1) := by decide +kernel
theorem dM_covers_32 : decode cM_covers 32 = .ok (.invokevirtual 200, 3) := by decide +kernel
theorem dM_covers_35 : decode cM_covers 35 = .ok (.ifCond .eq 7, 3) := by decide +kernel
theorem dM_covers_38 : decode cM_covers 38 = .ok (.iconst 1, 1) := by decide +kernel
theorem dM_covers_39 : decode cM_covers 39 = .ok (.goto 4, 3) := by decide +kernel
theorem dM_covers_42 : decode cM_covers 42 = .ok (.iconst 0, 1) := by decide +kernel
theorem dM_covers_43 : decode cM_covers 43 = .ok (.istore_n 3, 1) := by decide +kernel
theorem dM_covers_44 : decode cM_covers 44 = .ok (.iinc 4 1, 3) := by decide +kernel
theorem dM_covers_47 : decode cM_covers 47 = .ok (.goto (-39), 3) := by decide +kernel
theorem dM_covers_50 : decode cM_covers 50 = .ok (.iload_n 3, 1) := by decide +kernel
theorem dM_covers_51 : decode cM_covers 51 = .ok (.ireturn, 1) := by decide +kernel
def f_M_covers_j43 (v : MV) (K8 : Int32 → Int32 → Int32 → Int32 → Option Int32) (p1 : Int32) (p2 : Int32) (p4 : Int32) (s0 : Int32) : Option Int32 := (K8 p1 p2 s0 (p4 + 1))
def f_M_covers_j42 (v : MV) (K8 : Int32 → Int32 → Int32 → Int32 → Option Int32) (p1 : Int32) (p2 : Int32) (p4 : Int32) : Option Int32 := (f_M_covers_j43 v K8 p1 p2 p4 (0 : Int32))
def f_M_covers_l8 (v : MV) : Nat → Int32 → Int32 → Int32 → Int32 → Option Int32
 | 0, _, _, _, _ => none
 | n + 1, p1, p2, p3, p4 => (ld 2 (md_size v) p2).bind fun u1 => (if (((48 : Int32) * p2) + u1) ≤ p4 then rb p3 else (if p3 = 0 then (f_M_covers_j42 v (f_M_covers_l8 v n) p1 p2 p4) else (f_M_isCovered v p4 p1).bind fun u4 => (if u4 = 0 then (f_M_covers_j42 v (f_M_covers_l8 v n) p1 p2 p4) else (f_M_covers_j43 v (f_M_covers_l8 v n) p1 p2 p4 (1 : Int32)))))
def f_M_covers (v : MV) (x1 : Int32) (x2 : Int32) : Option Int32 := (f_M_covers_l8 v 64 x1 x2 (1 : Int32) ((48 : Int32) * x2))
set_option maxHeartbeats 4000000 in
set_option maxRecDepth 100000 in
theorem k_M_covers (l : Launch) (dC : Nat → ClassId) (dI : Nat → Nat → Nat) (cL cI : ClassId) (qm : Nat → Nat) (v : MV) (x1 : Int32) (x2 : Int32) (r : Int32) (h : f_M_covers v x1 x2 = some r) : Met l yM_covers wsM_covers ({ frames := 4, cells := 0, slots := 0, locals := 122 }) (rd_Pc [.ref (qm 0), .int x1, .int x2] (fun H => va_P (dC, dI) cls3 (mdW cL cI qm v) H) (dC, dI) cls3 [(cL, .long), (cI, .int)]) (vp_Si (fun z => z = r)) 0 0 (fun _ => False) := by
  refine Met.ofW (cc := cM_covers) (maxL := 5) (ret := (some .boolean)) (by decide) rfl ?_
  intro p e s m args below meth c s₁ B hml hv
  obtain ⟨rfl, hPm, hK⟩ := hv
  have hx := B.exec
  have hb := B.bytes
  have hr := B.returns
  have hw : ∀ w ∈ wG, w.before ([.ref (qm 0), .int x1, .int x2] : List Value).toArray s = true := fun w hq => atoms_spec (ws := wsM_covers) B.pre w (List.mem_cons_of_mem _ hq)
  have hown : s.vm.findClass R_M = some m.cls := findClass_of_methodNamed B.named
  have hlocks := B.notSynchronized
  have hl := lv_entry ([.ref (qm 0), .int x1, .int x2] : List Value) (n := 5) (Nat.le_of_ble_eq_true rfl)
  rw [lg_entry_eq]
  generalize (lg_sl ([.ref (qm 0), .int x1, .int x2] : List Value) ++ List.replicate (5 - (lg_sl ([.ref (qm 0), .int x1, .int x2] : List Value)).length) Slot.unset).toArray = ls at hl ⊢
  have hl : lv_has ls 5 [(0, .ref (qm 0)), (1, .int x1), (2, .int x2)] := hl
  have k8 : ∀ (n8 : Nat), ∀ (p1 : Int32) (p2 : Int32) (p3 : Int32) (p4 : Int32), f_M_covers_l8 v n8 p1 p2 p3 p4 = some r →  ∀ (ls : Array Slot), lv_has ls 5 [(0, .ref (qm 0)), (1, .int p1), (2, .int p2), (3, .int p3), (4, .int p4)] → W p l e (headSpec wsM_covers ({ frames := 4, cells := 0, slots := 0, locals := 122 })).room s m ([.ref (qm 0), .int x1, .int x2] : List Value).toArray below meth c s.heap [] 0 0 (MQ below (vp_Si (fun z => z = r)) ([.ref (qm 0), .int x1, .int x2] : List Value).toArray s 0 0 (fun _ => False)) (F0 m 8 ls []) := by
    intro n8
    induction n8 with
    | zero => intro p1 p2 p3 p4 h; exact absurd h (by simp [f_M_covers_l8])
    | succ n8 ih8 =>
      have k43 : ∀ (p1 : Int32) (p2 : Int32) (p4 : Int32) (s0 : Int32), f_M_covers_j43 v (f_M_covers_l8 v n8) p1 p2 p4 s0 = some r →  ∀ (ls : Array Slot), lv_has ls 5 [(0, .ref (qm 0)), (1, .int p1), (2, .int p2), (4, .int p4)] → W p l e (headSpec wsM_covers ({ frames := 4, cells := 0, slots := 0, locals := 122 })).room s m ([.ref (qm 0), .int x1, .int x2] : List Value).toArray below meth c s.heap [] 0 0 (MQ below (vp_Si (fun z => z = r)) ([.ref (qm 0), .int x1, .int x2] : List Value).toArray s 0 0 (fun _ => False)) (F0 m 43 ls [.int s0]) := by
        intro p1 p2 p4 s0 h  ls hl
        unfold f_M_covers_j43 at h
        refine lv_istore_n (lv' := [(3, .int s0), (0, .ref (qm 0)), (1, .int p1), (2, .int p2), (4, .int p4)]) hx hb dM_covers_43 rfl hl (by decide) rfl (fun ls hl => ?_)
        refine lv_iinc (v := p4 + 1) (lv' := [(4, .int (p4 + 1)), (3, .int s0), (0, .ref (qm 0)), (1, .int p1), (2, .int p2)]) hx hb dM_covers_44 hl (k := 4) rfl rfl (by decide) rfl (fun ls hl => ?_)
        refine lv_goto (tgt := 8) hx hb dM_covers_47 (by decide) ?_
        exact ih8 p1 p2 s0 (p4 + 1) h ls (lv_sub hl [2, 3, 4, 1, 0] rfl)
      have k42 : ∀ (p1 : Int32) (p2 : Int32) (p4 : Int32), f_M_covers_j42 v (f_M_covers_l8 v n8) p1 p2 p4 = some r →  ∀ (ls : Array Slot), lv_has ls 5 [(0, .ref (qm 0)), (1, .int p1), (2, .int p2), (4, .int p4)] → W p l e (headSpec wsM_covers ({ frames := 4, cells := 0, slots := 0, locals := 122 })).room s m ([.ref (qm 0), .int x1, .int x2] : List Value).toArray below meth c s.heap [] 0 0 (MQ below (vp_Si (fun z => z = r)) ([.ref (qm 0), .int x1, .int x2] : List Value).toArray s 0 0 (fun _ => False)) (F0 m 42 ls []) := by
        intro p1 p2 p4 h  ls hl
        unfold f_M_covers_j42 at h
        refine lv_iconst (v := 0) hx hb dM_covers_42 (by decide) ?_
        exact k43 p1 p2 p4 (0 : Int32) h ls (lv_sub hl [0, 1, 2, 3] rfl)
      intro p1 p2 p3 p4 h  ls hl
      rw [f_M_covers_l8] at h
      refine lv_iload hx hb dM_covers_8 (lv_at hl 4 rfl) ?_
      refine lv_bipush (v := 48) hx hb dM_covers_10 (by decide) ?_
      refine lv_iload_n hx hb dM_covers_12 rfl (lv_at hl 2 rfl) ?_
      refine lv_imul hx hb dM_covers_13 ?_
      refine lv_aload_n hx hb dM_covers_14 rfl (lv_at hl 0 rfl) ?_
      refine va_get (D := (dC, dI)) (ci := 2) (v := .ref (qm 12)) (C := R_M) (T := T_M) (N := 15) hx hb hw in_M hown hK hPm 0 rfl rfl 13 (by decide) (hw _ w_458) (fun _ h9 => h9) rfl dM_covers_15 ?_
      refine lv_iload_n hx hb dM_covers_18 rfl (lv_at hl 2 rfl) ?_
      obtain ⟨u1, hu1, h⟩ := ob_some h
      obtain ⟨hiu1, eu1⟩ := ld_of hu1
      refine va_iald hx hb hK hPm 12 1 rfl rfl hiu1 dM_covers_19 ?_
      rw [eu1]
      refine lv_iadd hx hb dM_covers_20 ?_
      refine lv_icmp_ge (tgt := 50) hx hb dM_covers_21 (by decide) (fun c2 => ?_) (fun c2 => ?_)
      · have h := it_t c2 h
        refine lv_iload_n hx hb dM_covers_50 rfl (lv_at hl 3 rfl) ?_
        obtain ⟨hz, hr9⟩ := rb_of h
        exact W.zret hx hb hr hz (fun t ht hW => ⟨_, rfl, hr9, ht⟩) nil_locs dM_covers_51
      · have h := it_f c2 h
        refine lv_iload_n hx hb dM_covers_24 rfl (lv_at hl 3 rfl) ?_
        refine lv_if_eq (tgt := 42) hx hb dM_covers_25 (by decide) (fun c3 => ?_) (fun c3 => ?_)
        · have h := it_t c3 h
          exact k42 p1 p2 p4 h ls (lv_sub hl [0, 1, 2, 4] rfl)
        · have h := it_f c3 h
          refine lv_aload_n hx hb dM_covers_28 rfl (lv_at hl 0 rfl) ?_
          refine lv_iload hx hb dM_covers_29 (lv_at hl 4 rfl) ?_
          refine lv_iload_n hx hb dM_covers_31 rfl (lv_at hl 1 rfl) ?_
          obtain ⟨u4, hu4, h⟩ := ob_some h
          refine vp_callSi (va_Run.run (va_runV (As := [.int p4, .int p1]) (rest := []) ⟨hx, hb, hml, hown, hw⟩ (k_M_isCovered l dC dI cL cI qm v p4 p1 u4 hu4) (cwV 2 hw (gV w_677 w_679 wp_30 w_2 w_680) rfl rfl rfl (by decide +kernel) ⟨Nat.le_of_ble_eq_true rfl, Nat.le_of_ble_eq_true rfl⟩) ⟨rd_blind, va_recv hK hPm (ci := 2) (q0 := 0) rfl rfl, rd_pre hPm hK⟩ rfl rfl hl.1 rfl (lv_room (Nat.le_of_ble_eq_true rfl)) dM_covers_32 ⟨Nat.le_of_ble_eq_true rfl, Nat.le_of_ble_eq_true rfl⟩)) (fun z hz => ?_)
          rw [hz]; clear hz
          refine lv_if_eq (tgt := 42) hx hb dM_covers_35 (by decide) (fun c5 => ?_) (fun c5 => ?_)
          · have h := it_t c5 h
            exact k42 p1 p2 p4 h ls (lv_sub hl [0, 1, 2, 4] rfl)
          · have h := it_f c5 h
            refine lv_iconst (v := 1) hx hb dM_covers_38 (by decide) ?_
            refine lv_goto (tgt := 43) hx hb dM_covers_39 (by decide) ?_
            exact k43 p1 p2 p4 (1 : Int32) h ls (lv_sub hl [0, 1, 2, 4] rfl)
  unfold f_M_covers at h
  refine lv_iconst (v := 1) hx hb dM_covers_0 (by decide) ?_
  refine lv_istore_n (lv' := [(3, .int (1 : Int32)), (0, .ref (qm 0)), (1, .int x1), (2, .int x2)]) hx hb dM_covers_1 rfl hl (by decide) rfl (fun ls hl => ?_)
  refine lv_bipush (v := 48) hx hb dM_covers_2 (by decide) ?_
  refine lv_iload_n hx hb dM_covers_4 rfl (lv_at hl 3 rfl) ?_
  refine lv_imul hx hb dM_covers_5 ?_
  refine lv_istore (lv' := [(4, .int ((48 : Int32) * x2)), (3, .int (1 : Int32)), (0, .ref (qm 0)), (1, .int x1), (2, .int x2)]) hx hb dM_covers_6 hl (by decide) rfl (fun ls hl => ?_)
  exact k8 64 x1 x2 (1 : Int32) ((48 : Int32) * x2) h ls (lv_sub hl [2, 3, 4, 1, 0] rfl)
