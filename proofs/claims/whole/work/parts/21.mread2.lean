/-! the reference: reading methods, laid by program -/
theorem dM_isEmpty_0 : decode cM_isEmpty 0 = .ok (.iconst 1, 1) := by decide +kernel
theorem dM_isEmpty_1 : decode cM_isEmpty 1 = .ok (.istore 4, 2) := by decide +kernel
theorem dM_isEmpty_3 : decode cM_isEmpty 3 = .ok (.iload_n 2, 1) := by decide +kernel
theorem dM_isEmpty_4 : decode cM_isEmpty 4 = .ok (.istore 5, 2) := by decide +kernel
theorem dM_isEmpty_6 : decode cM_isEmpty 6 = .ok (.iload 5, 2) := by decide +kernel
theorem dM_isEmpty_8 : decode cM_isEmpty 8 = .ok (.iload_n 3, 1) := by decide +kernel
theorem dM_isEmpty_9 : decode cM_isEmpty 9 = .ok (.if_icmp .ge 82, 3) := by decide +kernel
theorem dM_isEmpty_12 : decode cM_isEmpty 12 = .ok (.iload_n 2, 1) := by decide +kernel
theorem dM_isEmpty_13 : decode cM_isEmpty 13 = .ok (.istore 6, 2) := by decide +kernel
theorem dM_isEmpty_15 : decode cM_isEmpty 15 = .ok (.iload 6, 2) := by decide +kernel
theorem dM_isEmpty_17 : decode cM_isEmpty 17 = .ok (.iload_n 3, 1) := by decide +kernel
theorem dM_isEmpty_18 : decode cM_isEmpty 18 = .ok (.if_icmp .ge 67, 3) := by decide +kernel
theorem dM_isEmpty_21 : decode cM_isEmpty 21 = .ok (.iload 4, 2) := by decide +kernel
theorem dM_isEmpty_23 : decode cM_isEmpty 23 = .ok (.ifCond .eq 53, 3) := by decide +kernel
theorem dM_isEmpty_26 : decode cM_isEmpty 26 = .ok (.aload_n 0, 1) := by decide +kernel
theorem dM_isEmpty_27 : decode cM_isEmpty 27 = .ok (.iload_n 1, 1) := by decide +kernel
theorem dM_isEmpty_28 : decode cM_isEmpty 28 = .ok (.iload_n 2, 1) := by decide +kernel
theorem dM_isEmpty_29 : decode cM_isEmpty 29 = .ok (.invokevirtual 111, 3) := by decide +kernel
theorem dM_isEmpty_32 : decode cM_isEmpty 32 = .ok (.aload_n 0, 1) := by decide +kernel
theorem dM_isEmpty_33 : decode cM_isEmpty 33 = .ok (.iload_n 1, 1) := by decide +kernel
theorem dM_isEmpty_34 : decode cM_isEmpty 34 = .ok (.iload_n 2, 1) := by decide +kernel
theorem dM_isEmpty_35 : decode cM_isEmpty 35 = .ok (.invokevirtual 115, 3) := by decide +kernel
theorem dM_isEmpty_38 : decode cM_isEmpty 38 = .ok (.aload_n 0, 1) := by decide +kernel
theorem dM_isEmpty_39 : decode cM_isEmpty 39 = .ok (.iload_n 1, 1) := by decide +kernel
theorem dM_isEmpty_40 : decode cM_isEmpty 40 = .ok (.iload 5, 2) := by decide +kernel
theorem dM_isEmpty_42 : decode cM_isEmpty 42 = .ok (.invokevirtual 111, 3) := by decide +kernel
theorem dM_isEmpty_45 : decode cM_isEmpty 45 = .ok (.aload_n 0, 1) := by decide +kernel
theorem dM_isEmpty_46 : decode cM_isEmpty 46 = .ok (.iload_n 1, 1) := by decide +kernel
theorem dM_isEmpty_47 : decode cM_isEmpty 47 = .ok (.iload 5, 2) := by decide +kernel
theorem dM_isEmpty_49 : decode cM_isEmpty 49 = .ok (.invokevirtual 115, 3) := by decide +kernel
theorem dM_isEmpty_52 : decode cM_isEmpty 52 = .ok (.aload_n 0, 1) := by decide +kernel
theorem dM_isEmpty_53 : decode cM_isEmpty 53 = .ok (.iload_n 1, 1) := by decide +kernel
theorem dM_isEmpty_54 : decode cM_isEmpty 54 = .ok (.iload 6, 2) := by decide +kernel
theorem dM_isEmpty_56 : decode cM_isEmpty 56 = .ok (.invokevirtual 111, 3) := by decide +kernel
theorem dM_isEmpty_59 : decode cM_isEmpty 59 = .ok (.aload_n 0, 1) := by decide +kernel
theorem dM_isEmpty_60 : decode cM_isEmpty 60 = .ok (.iload_n 1, 1) := by decide +kernel
theorem dM_isEmpty_61 : decode cM_isEmpty 61 = .ok (.iload 6, 2) := by decide +kernel
theorem dM_isEmpty_63 : decode cM_isEmpty 63 = .ok (.invokevirtual 115, 3) := by decide +kernel
theorem dM_isEmpty_66 : decode cM_isEmpty 66 = .ok (.invokestatic 103, 3) := by decide +kernel
theorem dM_isEmpty_69 : decode cM_isEmpty 69 = .ok (.ifCond .ne 7, 3) := by decide +kernel
theorem dM_isEmpty_72 : decode cM_isEmpty 72 = .ok (.iconst 1, 1) := by decide +kernel
theorem dM_isEmpty_73 : decode cM_isEmpty 73 = .ok (.goto 4, 3) := by decide +kernel
theorem dM_isEmpty_76 : decode cM_isEmpty 76 = .ok (.iconst 0, 1) := by decide +kernel
theorem dM_isEmpty_77 : decode cM_isEmpty 77 = .ok (.istore 4, 2) := by decide +kernel
theorem dM_isEmpty_79 : decode cM_isEmpty 79 = .ok (.iinc 6 1, 3) := by decide +kernel
theorem dM_isEmpty_82 : decode cM_isEmpty 82 = .ok (.goto (-67), 3) := by decide +kernel
theorem dM_isEmpty_85 : decode cM_isEmpty 85 = .ok (.iinc 5 1, 3) := by decide +kernel
theorem dM_isEmpty_88 : decode cM_isEmpty 88 = .ok (.goto (-82), 3) := by decide +kernel
theorem dM_isEmpty_91 : decode cM_isEmpty 91 = .ok (.iload 4, 2) := by decide +kernel
theorem dM_isEmpty_93 : decode cM_isEmpty 93 = .ok (.ireturn, 1) := by decide +kernel
def f_M_isEmpty_j77 (v : MV) (K6 : Int32 → Int32 → Int32 → Int32 → Int32 → Option Int32) (K15 : Int32 → Int32 → Int32 → Int32 → Int32 → Int32 → Option Int32) (p1 : Int32) (p2 : Int32) (p3 : Int32) (p5 : Int32) (p6 : Int32) (s0 : Int32) : Option Int32 := (K15 p1 p2 p3 s0 p5 (p6 + 1))
def f_M_isEmpty_j76 (v : MV) (K6 : Int32 → Int32 → Int32 → Int32 → Int32 → Option Int32) (K15 : Int32 → Int32 → Int32 → Int32 → Int32 → Int32 → Option Int32) (p1 : Int32) (p2 : Int32) (p3 : Int32) (p5 : Int32) (p6 : Int32) : Option Int32 := (f_M_isEmpty_j77 v K6 K15 p1 p2 p3 p5 p6 (0 : Int32))
def f_M_isEmpty_l15 (v : MV) (K6 : Int32 → Int32 → Int32 → Int32 → Int32 → Option Int32) : Nat → Int32 → Int32 → Int32 → Int32 → Int32 → Int32 → Option Int32
 | 0, _, _, _, _, _, _ => none
 | n + 1, p1, p2, p3, p4, p5, p6 => (if p3 ≤ p6 then (K6 p1 p2 p3 p4 (p5 + 1)) else (if p4 = 0 then (f_M_isEmpty_j76 v K6 (f_M_isEmpty_l15 v K6 n) p1 p2 p3 p5 p6) else (f_M_x v p1 p2).bind fun u4 => (f_M_y v p1 p2).bind fun u5 => (f_M_x v p1 p5).bind fun u6 => (f_M_y v p1 p5).bind fun u7 => (f_M_x v p1 p6).bind fun u8 => (f_M_y v p1 p6).bind fun u9 => (f_M_turnOf u4 u5 u6 u7 u8 u9).bind fun u10 => (if u10 = 0 then (f_M_isEmpty_j77 v K6 (f_M_isEmpty_l15 v K6 n) p1 p2 p3 p5 p6 (1 : Int32)) else (f_M_isEmpty_j76 v K6 (f_M_isEmpty_l15 v K6 n) p1 p2 p3 p5 p6))))
def f_M_isEmpty_l6 (v : MV) : Nat → Int32 → Int32 → Int32 → Int32 → Int32 → Option Int32
 | 0, _, _, _, _, _ => none
 | n + 1, p1, p2, p3, p4, p5 => (if p3 ≤ p5 then rb p4 else (f_M_isEmpty_l15 v (f_M_isEmpty_l6 v n) 64 p1 p2 p3 p4 p5 p2))
def f_M_isEmpty (v : MV) (x1 : Int32) (x2 : Int32) (x3 : Int32) : Option Int32 := (f_M_isEmpty_l6 v 64 x1 x2 x3 (1 : Int32) x2)
set_option maxHeartbeats 4000000 in
set_option maxRecDepth 100000 in
theorem k_M_isEmpty (l : Launch) (dC : Nat → ClassId) (dI : Nat → Nat → Nat) (cL cI : ClassId) (qm : Nat → Nat) (v : MV) (x1 : Int32) (x2 : Int32) (x3 : Int32) (r : Int32) (h : f_M_isEmpty v x1 x2 x3 = some r) : Met l yM_isEmpty wsM_isEmpty ({ frames := 2, cells := 0, slots := 0, locals := 58 }) (rd_Pc [.ref (qm 0), .int x1, .int x2, .int x3] (fun H => va_P (dC, dI) cls3 (mdW cL cI qm v) H) (dC, dI) cls3 [(cL, .long), (cI, .int)]) (vp_Si (fun z => z = r)) 0 0 (fun _ => False) := by
  refine Met.ofW (cc := cM_isEmpty) (maxL := 7) (ret := (some .boolean)) (by decide) rfl ?_
  intro p e s m args below meth c s₁ B hml hv
  obtain ⟨rfl, hPm, hK⟩ := hv
  have hx := B.exec
  have hb := B.bytes
  have hr := B.returns
  have hw : ∀ w ∈ wG, w.before ([.ref (qm 0), .int x1, .int x2, .int x3] : List Value).toArray s = true := fun w hq => atoms_spec (ws := wsM_isEmpty) B.pre w (List.mem_cons_of_mem _ hq)
  have hown : s.vm.findClass R_M = some m.cls := findClass_of_methodNamed B.named
  have hlocks := B.notSynchronized
  have hl := lv_entry ([.ref (qm 0), .int x1, .int x2, .int x3] : List Value) (n := 7) (Nat.le_of_ble_eq_true rfl)
  rw [lg_entry_eq]
  generalize (lg_sl ([.ref (qm 0), .int x1, .int x2, .int x3] : List Value) ++ List.replicate (7 - (lg_sl ([.ref (qm 0), .int x1, .int x2, .int x3] : List Value)).length) Slot.unset).toArray = ls at hl ⊢
  have hl : lv_has ls 7 [(0, .ref (qm 0)), (1, .int x1), (2, .int x2), (3, .int x3)] := hl
  have k6 : ∀ (n6 : Nat), ∀ (p1 : Int32) (p2 : Int32) (p3 : Int32) (p4 : Int32) (p5 : Int32), f_M_isEmpty_l6 v n6 p1 p2 p3 p4 p5 = some r →  ∀ (ls : Array Slot), lv_has ls 7 [(0, .ref (qm 0)), (1, .int p1), (2, .int p2), (3, .int p3), (4, .int p4), (5, .int p5)] → W p l e (headSpec wsM_isEmpty ({ frames := 2, cells := 0, slots := 0, locals := 58 })).room s m ([.ref (qm 0), .int x1, .int x2, .int x3] : List Value).toArray below meth c s.heap [] 0 0 (MQ below (vp_Si (fun z => z = r)) ([.ref (qm 0), .int x1, .int x2, .int x3] : List Value).toArray s 0 0 (fun _ => False)) (F0 m 6 ls []) := by
    intro n6
    induction n6 with
    | zero => intro p1 p2 p3 p4 p5 h; exact absurd h (by simp [f_M_isEmpty_l6])
    | succ n6 ih6 =>
      have k15 : ∀ (n15 : Nat), ∀ (p1 : Int32) (p2 : Int32) (p3 : Int32) (p4 : Int32) (p5 : Int32) (p6 : Int32), f_M_isEmpty_l15 v (f_M_isEmpty_l6 v n6) n15 p1 p2 p3 p4 p5 p6 = some r →  ∀ (ls : Array Slot), lv_has ls 7 [(0, .ref (qm 0)), (1, .int p1), (2, .int p2), (3, .int p3), (4, .int p4), (5, .int p5), (6, .int p6)] → W p l e (headSpec wsM_isEmpty ({ frames := 2, cells := 0, slots := 0, locals := 58 })).room s m ([.ref (qm 0), .int x1, .int x2, .int x3] : List Value).toArray below meth c s.heap [] 0 0 (MQ below (vp_Si (fun z => z = r)) ([.ref (qm 0), .int x1, .int x2, .int x3] : List Value).toArray s 0 0 (fun _ => False)) (F0 m 15 ls []) := by
        intro n15
        induction n15 with
        | zero => intro p1 p2 p3 p4 p5 p6 h; exact absurd h (by simp [f_M_isEmpty_l15])
        | succ n15 ih15 =>
          have k77 : ∀ (p1 : Int32) (p2 : Int32) (p3 : Int32) (p5 : Int32) (p6 : Int32) (s0 : Int32), f_M_isEmpty_j77 v (f_M_isEmpty_l6 v n6) (f_M_isEmpty_l15 v (f_M_isEmpty_l6 v n6) n15) p1 p2 p3 p5 p6 s0 = some r →  ∀ (ls : Array Slot), lv_has ls 7 [(0, .ref (qm 0)), (1, .int p1), (2, .int p2), (3, .int p3), (5, .int p5), (6, .int p6)] → W p l e (headSpec wsM_isEmpty ({ frames := 2, cells := 0, slots := 0, locals := 58 })).room s m ([.ref (qm 0), .int x1, .int x2, .int x3] : List Value).toArray below meth c s.heap [] 0 0 (MQ below (vp_Si (fun z => z = r)) ([.ref (qm 0), .int x1, .int x2, .int x3] : List Value).toArray s 0 0 (fun _ => False)) (F0 m 77 ls [.int s0]) := by
            intro p1 p2 p3 p5 p6 s0 h  ls hl
            unfold f_M_isEmpty_j77 at h
            refine lv_istore (lv' := [(4, .int s0), (0, .ref (qm 0)), (1, .int p1), (2, .int p2), (3, .int p3), (5, .int p5), (6, .int p6)]) hx hb dM_isEmpty_77 hl (by decide) rfl (fun ls hl => ?_)
            refine lv_iinc (v := p6 + 1) (lv' := [(6, .int (p6 + 1)), (4, .int s0), (0, .ref (qm 0)), (1, .int p1), (2, .int p2), (3, .int p3), (5, .int p5)]) hx hb dM_isEmpty_79 hl (k := 6) rfl rfl (by decide) rfl (fun ls hl => ?_)
            refine lv_goto (tgt := 15) hx hb dM_isEmpty_82 (by decide) ?_
            exact ih15 p1 p2 p3 s0 p5 (p6 + 1) h ls (lv_sub hl [2, 3, 4, 5, 1, 6, 0] rfl)
          have k76 : ∀ (p1 : Int32) (p2 : Int32) (p3 : Int32) (p5 : Int32) (p6 : Int32), f_M_isEmpty_j76 v (f_M_isEmpty_l6 v n6) (f_M_isEmpty_l15 v (f_M_isEmpty_l6 v n6) n15) p1 p2 p3 p5 p6 = some r →  ∀ (ls : Array Slot), lv_has ls 7 [(0, .ref (qm 0)), (1, .int p1), (2, .int p2), (3, .int p3), (5, .int p5), (6, .int p6)] → W p l e (headSpec wsM_isEmpty ({ frames := 2, cells := 0, slots := 0, locals := 58 })).room s m ([.ref (qm 0), .int x1, .int x2, .int x3] : List Value).toArray below meth c s.heap [] 0 0 (MQ below (vp_Si (fun z => z = r)) ([.ref (qm 0), .int x1, .int x2, .int x3] : List Value).toArray s 0 0 (fun _ => False)) (F0 m 76 ls []) := by
            intro p1 p2 p3 p5 p6 h  ls hl
            unfold f_M_isEmpty_j76 at h
            refine lv_iconst (v := 0) hx hb dM_isEmpty_76 (by decide) ?_
            exact k77 p1 p2 p3 p5 p6 (0 : Int32) h ls (lv_sub hl [0, 1, 2, 3, 4, 5] rfl)
          intro p1 p2 p3 p4 p5 p6 h  ls hl
          rw [f_M_isEmpty_l15] at h
          refine lv_iload hx hb dM_isEmpty_15 (lv_at hl 6 rfl) ?_
          refine lv_iload_n hx hb dM_isEmpty_17 rfl (lv_at hl 3 rfl) ?_
          refine lv_icmp_ge (tgt := 85) hx hb dM_isEmpty_18 (by decide) (fun c2 => ?_) (fun c2 => ?_)
          · have h := it_t c2 h
            refine lv_iinc (v := p5 + 1) (lv' := [(5, .int (p5 + 1)), (0, .ref (qm 0)), (1, .int p1), (2, .int p2), (3, .int p3), (4, .int p4), (6, .int p6)]) hx hb dM_isEmpty_85 hl (k := 5) rfl rfl (by decide) rfl (fun ls hl => ?_)
            refine lv_goto (tgt := 6) hx hb dM_isEmpty_88 (by decide) ?_
            exact ih6 p1 p2 p3 p4 (p5 + 1) h ls (lv_sub hl [1, 2, 3, 4, 5, 0] rfl)
          · have h := it_f c2 h
            refine lv_iload hx hb dM_isEmpty_21 (lv_at hl 4 rfl) ?_
            refine lv_if_eq (tgt := 76) hx hb dM_isEmpty_23 (by decide) (fun c3 => ?_) (fun c3 => ?_)
            · have h := it_t c3 h
              exact k76 p1 p2 p3 p5 p6 h ls (lv_sub hl [0, 1, 2, 3, 5, 6] rfl)
            · have h := it_f c3 h
              refine lv_aload_n hx hb dM_isEmpty_26 rfl (lv_at hl 0 rfl) ?_
              refine lv_iload_n hx hb dM_isEmpty_27 rfl (lv_at hl 1 rfl) ?_
              refine lv_iload_n hx hb dM_isEmpty_28 rfl (lv_at hl 2 rfl) ?_
              obtain ⟨u4, hu4, h⟩ := ob_some h
              refine vp_callSl (va_Run.run (va_runV (As := [.int p1, .int p2]) (rest := []) ⟨hx, hb, hml, hown, hw⟩ (k_M_x l dC dI cL cI qm v p1 p2 u4 hu4) (cwV 2 hw (gV w_550 w_552 wp_11 w_2 w_553) rfl rfl rfl (by decide +kernel) ⟨Nat.le_of_ble_eq_true rfl, Nat.le_of_ble_eq_true rfl⟩) ⟨rd_blind, va_recv hK hPm (ci := 2) (q0 := 0) rfl rfl, rd_pre hPm hK⟩ rfl rfl hl.1 rfl (lv_room (Nat.le_of_ble_eq_true rfl)) dM_isEmpty_29 ⟨Nat.le_of_ble_eq_true rfl, Nat.le_of_ble_eq_true rfl⟩)) (fun z hz => ?_)
              rw [hz]; clear hz
              refine lv_aload_n hx hb dM_isEmpty_32 rfl (lv_at hl 0 rfl) ?_
              refine lv_iload_n hx hb dM_isEmpty_33 rfl (lv_at hl 1 rfl) ?_
              refine lv_iload_n hx hb dM_isEmpty_34 rfl (lv_at hl 2 rfl) ?_
              obtain ⟨u5, hu5, h⟩ := ob_some h
              refine vp_callSl (va_Run.run (va_runV (As := [.int p1, .int p2]) (rest := [.long u4]) ⟨hx, hb, hml, hown, hw⟩ (k_M_y l dC dI cL cI qm v p1 p2 u5 hu5) (cwV 2 hw (gV w_554 w_556 wp_12 w_2 w_557) rfl rfl rfl (by decide +kernel) ⟨Nat.le_of_ble_eq_true rfl, Nat.le_of_ble_eq_true rfl⟩) ⟨rd_blind, va_recv hK hPm (ci := 2) (q0 := 0) rfl rfl, rd_pre hPm hK⟩ rfl rfl hl.1 rfl (lv_room (Nat.le_of_ble_eq_true rfl)) dM_isEmpty_35 ⟨Nat.le_of_ble_eq_true rfl, Nat.le_of_ble_eq_true rfl⟩)) (fun z hz => ?_)
              rw [hz]; clear hz
              refine lv_aload_n hx hb dM_isEmpty_38 rfl (lv_at hl 0 rfl) ?_
              refine lv_iload_n hx hb dM_isEmpty_39 rfl (lv_at hl 1 rfl) ?_
              refine lv_iload hx hb dM_isEmpty_40 (lv_at hl 5 rfl) ?_
              obtain ⟨u6, hu6, h⟩ := ob_some h
              refine vp_callSl (va_Run.run (va_runV (As := [.int p1, .int p5]) (rest := [.long u5, .long u4]) ⟨hx, hb, hml, hown, hw⟩ (k_M_x l dC dI cL cI qm v p1 p5 u6 hu6) (cwV 2 hw (gV w_550 w_552 wp_11 w_2 w_553) rfl rfl rfl (by decide +kernel) ⟨Nat.le_of_ble_eq_true rfl, Nat.le_of_ble_eq_true rfl⟩) ⟨rd_blind, va_recv hK hPm (ci := 2) (q0 := 0) rfl rfl, rd_pre hPm hK⟩ rfl rfl hl.1 rfl (lv_room (Nat.le_of_ble_eq_true rfl)) dM_isEmpty_42 ⟨Nat.le_of_ble_eq_true rfl, Nat.le_of_ble_eq_true rfl⟩)) (fun z hz => ?_)
              rw [hz]; clear hz
              refine lv_aload_n hx hb dM_isEmpty_45 rfl (lv_at hl 0 rfl) ?_
              refine lv_iload_n hx hb dM_isEmpty_46 rfl (lv_at hl 1 rfl) ?_
              refine lv_iload hx hb dM_isEmpty_47 (lv_at hl 5 rfl) ?_
              obtain ⟨u7, hu7, h⟩ := ob_some h
              refine vp_callSl (va_Run.run (va_runV (As := [.int p1, .int p5]) (rest := [.long u6, .long u5, .long u4]) ⟨hx, hb, hml, hown, hw⟩ (k_M_y l dC dI cL cI qm v p1 p5 u7 hu7) (cwV 2 hw (gV w_554 w_556 wp_12 w_2 w_557) rfl rfl rfl (by decide +kernel) ⟨Nat.le_of_ble_eq_true rfl, Nat.le_of_ble_eq_true rfl⟩) ⟨rd_blind, va_recv hK hPm (ci := 2) (q0 := 0) rfl rfl, rd_pre hPm hK⟩ rfl rfl hl.1 rfl (lv_room (Nat.le_of_ble_eq_true rfl)) dM_isEmpty_49 ⟨Nat.le_of_ble_eq_true rfl, Nat.le_of_ble_eq_true rfl⟩)) (fun z hz => ?_)
              rw [hz]; clear hz
              refine lv_aload_n hx hb dM_isEmpty_52 rfl (lv_at hl 0 rfl) ?_
              refine lv_iload_n hx hb dM_isEmpty_53 rfl (lv_at hl 1 rfl) ?_
              refine lv_iload hx hb dM_isEmpty_54 (lv_at hl 6 rfl) ?_
              obtain ⟨u8, hu8, h⟩ := ob_some h
              refine vp_callSl (va_Run.run (va_runV (As := [.int p1, .int p6]) (rest := [.long u7, .long u6, .long u5, .long u4]) ⟨hx, hb, hml, hown, hw⟩ (k_M_x l dC dI cL cI qm v p1 p6 u8 hu8) (cwV 2 hw (gV w_550 w_552 wp_11 w_2 w_553) rfl rfl rfl (by decide +kernel) ⟨Nat.le_of_ble_eq_true rfl, Nat.le_of_ble_eq_true rfl⟩) ⟨rd_blind, va_recv hK hPm (ci := 2) (q0 := 0) rfl rfl, rd_pre hPm hK⟩ rfl rfl hl.1 rfl (lv_room (Nat.le_of_ble_eq_true rfl)) dM_isEmpty_56 ⟨Nat.le_of_ble_eq_true rfl, Nat.le_of_ble_eq_true rfl⟩)) (fun z hz => ?_)
              rw [hz]; clear hz
              refine lv_aload_n hx hb dM_isEmpty_59 rfl (lv_at hl 0 rfl) ?_
              refine lv_iload_n hx hb dM_isEmpty_60 rfl (lv_at hl 1 rfl) ?_
              refine lv_iload hx hb dM_isEmpty_61 (lv_at hl 6 rfl) ?_
              obtain ⟨u9, hu9, h⟩ := ob_some h
              refine vp_callSl (va_Run.run (wd_runV 10 (As := [.int p1, .int p6]) (rest := [.long u8, .long u7, .long u6, .long u5, .long u4]) ⟨hx, hb, hml, hown, hw⟩ (k_M_y l dC dI cL cI qm v p1 p6 u9 hu9) (cwV 2 hw (gV w_554 w_556 wp_12 w_2 w_557) rfl rfl rfl (by decide +kernel) ⟨Nat.le_of_ble_eq_true rfl, Nat.le_of_ble_eq_true rfl⟩) (Nat.le_of_ble_eq_true rfl) ⟨rd_blind, va_recv hK hPm (ci := 2) (q0 := 0) rfl rfl, rd_pre hPm hK⟩ rfl rfl hl.1 rfl (wd_room (Nat.le_of_ble_eq_true rfl)) dM_isEmpty_63 ⟨Nat.le_of_ble_eq_true rfl, Nat.le_of_ble_eq_true rfl⟩)) (fun z hz => ?_)
              rw [hz]; clear hz
              obtain ⟨u10, hu10, h⟩ := ob_some h
              refine vp_callSi (va_Run.run (va_runS (As := [.long u4, .long u5, .long u6, .long u7, .long u8, .long u9]) (rest := []) ⟨hx, hb, hml, hown, hw⟩ (k_M_turnOf l dC dI cL cI u4 u5 u6 u7 u8 u9 u10 hu10) (va_cwS 6 hw (gS w_558 w_559 w_2 w_560) rfl rfl rfl (by decide +kernel) ⟨Nat.le_of_ble_eq_true rfl, Nat.le_of_ble_eq_true rfl⟩) ⟨rd_blind, rd_pre trivial hK⟩ rfl rfl hl.1 rfl (lv_room (Nat.le_of_ble_eq_true rfl)) dM_isEmpty_66 ⟨Nat.le_of_ble_eq_true rfl, Nat.le_of_ble_eq_true rfl⟩)) (fun z hz => ?_)
              rw [hz]; clear hz
              refine lv_if_ne (tgt := 76) hx hb dM_isEmpty_69 (by decide) (fun c11 => ?_) (fun c11 => ?_)
              · have h := it_f c11 h
                exact k76 p1 p2 p3 p5 p6 h ls (lv_sub hl [0, 1, 2, 3, 5, 6] rfl)
              · have h := it_t c11 h
                refine lv_iconst (v := 1) hx hb dM_isEmpty_72 (by decide) ?_
                refine lv_goto (tgt := 77) hx hb dM_isEmpty_73 (by decide) ?_
                exact k77 p1 p2 p3 p5 p6 (1 : Int32) h ls (lv_sub hl [0, 1, 2, 3, 5, 6] rfl)
      intro p1 p2 p3 p4 p5 h  ls hl
      rw [f_M_isEmpty_l6] at h
      refine lv_iload hx hb dM_isEmpty_6 (lv_at hl 5 rfl) ?_
      refine lv_iload_n hx hb dM_isEmpty_8 rfl (lv_at hl 3 rfl) ?_
      refine lv_icmp_ge (tgt := 91) hx hb dM_isEmpty_9 (by decide) (fun c1 => ?_) (fun c1 => ?_)
      · have h := it_t c1 h
        refine lv_iload hx hb dM_isEmpty_91 (lv_at hl 4 rfl) ?_
        obtain ⟨hz, hr9⟩ := rb_of h
        exact W.zret hx hb hr hz (fun t ht hW => ⟨_, rfl, hr9, ht⟩) nil_locs dM_isEmpty_93
      · have h := it_f c1 h
        refine lv_iload_n hx hb dM_isEmpty_12 rfl (lv_at hl 2 rfl) ?_
        refine lv_istore (lv' := [(6, .int p2), (0, .ref (qm 0)), (1, .int p1), (2, .int p2), (3, .int p3), (4, .int p4), (5, .int p5)]) hx hb dM_isEmpty_13 hl (by decide) rfl (fun ls hl => ?_)
        exact k15 64 p1 p2 p3 p4 p5 p2 h ls (lv_sub hl [1, 2, 3, 4, 5, 6, 0] rfl)
  unfold f_M_isEmpty at h
  refine lv_iconst (v := 1) hx hb dM_isEmpty_0 (by decide) ?_
  refine lv_istore (lv' := [(4, .int (1 : Int32)), (0, .ref (qm 0)), (1, .int x1), (2, .int x2), (3, .int x3)]) hx hb dM_isEmpty_1 hl (by decide) rfl (fun ls hl => ?_)
  refine lv_iload_n hx hb dM_isEmpty_3 rfl (lv_at hl 3 rfl) ?_
  refine lv_istore (lv' := [(5, .int x2), (4, .int (1 : Int32)), (0, .ref (qm 0)), (1, .int x1), (2, .int x2), (3, .int x3)]) hx hb dM_isEmpty_4 hl (by decide) rfl (fun ls hl => ?_)
  exact k6 64 x1 x2 x3 (1 : Int32) x2 h ls (lv_sub hl [2, 3, 4, 5, 1, 0] rfl)
theorem dM_foldsBack_0 : decode cM_foldsBack 0 = .ok (.iload_n 2, 1) := by decide +kernel
theorem dM_foldsBack_1 : decode cM_foldsBack 1 = .ok (.iload_n 3, 1) := by decide +kernel
theorem dM_foldsBack_2 : decode cM_foldsBack 2 = .ok (.iload 4, 2) := by decide +kernel
theorem dM_foldsBack_4 : decode cM_foldsBack 4 = .ok (.invokestatic 118, 3) := by decide +kernel
theorem dM_foldsBack_7 : decode cM_foldsBack 7 = .ok (.istore 5, 2) := by decide +kernel
theorem dM_foldsBack_9 : decode cM_foldsBack 9 = .ok (.iload 5, 2) := by decide +kernel
theorem dM_foldsBack_11 : decode cM_foldsBack 11 = .ok (.iload_n 3, 1) := by decide +kernel
theorem dM_foldsBack_12 : decode cM_foldsBack 12 = .ok (.iload 4, 2) := by decide +kernel
theorem dM_foldsBack_14 : decode cM_foldsBack 14 = .ok (.invokestatic 118, 3) := by decide +kernel
theorem dM_foldsBack_17 : decode cM_foldsBack 17 = .ok (.istore 6, 2) := by decide +kernel
theorem dM_foldsBack_19 : decode cM_foldsBack 19 = .ok (.aload_n 0, 1) := by decide +kernel
theorem dM_foldsBack_20 : decode cM_foldsBack 20 = .ok (.iload_n 1, 1) := by decide +kernel
theorem dM_foldsBack_21 : decode cM_foldsBack 21 = .ok (.iload_n 2, 1) := by decide +kernel
theorem dM_foldsBack_22 : decode cM_foldsBack 22 = .ok (.invokevirtual 111, 3) := by decide +kernel
theorem dM_foldsBack_25 : decode cM_foldsBack 25 = .ok (.aload_n 0, 1) := by decide +kernel
theorem dM_foldsBack_26 : decode cM_foldsBack 26 = .ok (.iload_n 1, 1) := by decide +kernel
theorem dM_foldsBack_27 : decode cM_foldsBack 27 = .ok (.iload_n 2, 1) := by decide +kernel
theorem dM_foldsBack_28 : decode cM_foldsBack 28 = .ok (.invokevirtual 115, 3) := by decide +kernel
theorem dM_foldsBack_31 : decode cM_foldsBack 31 = .ok (.aload_n 0, 1) := by decide +kernel
theorem dM_foldsBack_32 : decode cM_foldsBack 32 = .ok (.iload_n 1, 1) := by decide +kernel
theorem dM_foldsBack_33 : decode cM_foldsBack 33 = .ok (.iload 5, 2) := by decide +kernel
theorem dM_foldsBack_35 : decode cM_foldsBack 35 = .ok (.invokevirtual 111, 3) := by decide +kernel
theorem dM_foldsBack_38 : decode cM_foldsBack 38 = .ok (.aload_n 0, 1) := by decide +kernel
theorem dM_foldsBack_39 : decode cM_foldsBack 39 = .ok (.iload_n 1, 1) := by decide +kernel
theorem dM_foldsBack_40 : decode cM_foldsBack 40 = .ok (.iload 5, 2) := by decide +kernel
theorem dM_foldsBack_42 : decode cM_foldsBack 42 = .ok (.invokevirtual 115, 3) := by decide +kernel
theorem dM_foldsBack_45 : decode cM_foldsBack 45 = .ok (.aload_n 0, 1) := by decide +kernel
theorem dM_foldsBack_46 : decode cM_foldsBack 46 = .ok (.iload_n 1, 1) := by decide +kernel
theorem dM_foldsBack_47 : decode cM_foldsBack 47 = .ok (.iload 6, 2) := by decide +kernel
theorem dM_foldsBack_49 : decode cM_foldsBack 49 = .ok (.invokevirtual 111, 3) := by decide +kernel
theorem dM_foldsBack_52 : decode cM_foldsBack 52 = .ok (.aload_n 0, 1) := by decide +kernel
theorem dM_foldsBack_53 : decode cM_foldsBack 53 = .ok (.iload_n 1, 1) := by decide +kernel
theorem dM_foldsBack_54 : decode cM_foldsBack 54 = .ok (.iload 6, 2) := by decide +kernel
theorem dM_foldsBack_56 : decode cM_foldsBack 56 = .ok (.invokevirtual 115, 3) := by decide +kernel
theorem dM_foldsBack_59 : decode cM_foldsBack 59 = .ok (.invokestatic 103, 3) := by decide +kernel
theorem dM_foldsBack_62 : decode cM_foldsBack 62 = .ok (.ifCond .ne 7, 3) := by decide +kernel
theorem dM_foldsBack_65 : decode cM_foldsBack 65 = .ok (.iconst 1, 1) := by decide +kernel
theorem dM_foldsBack_66 : decode cM_foldsBack 66 = .ok (.goto 4, 3) := by decide +kernel
theorem dM_foldsBack_69 : decode cM_foldsBack 69 = .ok (.iconst 0, 1) := by decide +kernel
theorem dM_foldsBack_70 : decode cM_foldsBack 70 = .ok (.istore 7, 2) := by decide +kernel
theorem dM_foldsBack_72 : decode cM_foldsBack 72 = .ok (.aload_n 0, 1) := by decide +kernel
theorem dM_foldsBack_73 : decode cM_foldsBack 73 = .ok (.iload_n 1, 1) := by decide +kernel
theorem dM_foldsBack_74 : decode cM_foldsBack 74 = .ok (.iload 5, 2) := by decide +kernel
theorem dM_foldsBack_76 : decode cM_foldsBack 76 = .ok (.invokevirtual 111, 3) := by decide +kernel
theorem dM_foldsBack_79 : decode cM_foldsBack 79 = .ok (.aload_n 0, 1) := by decide +kernel
theorem dM_foldsBack_80 : decode cM_foldsBack 80 = .ok (.iload_n 1, 1) := by decide +kernel
theorem dM_foldsBack_81 : decode cM_foldsBack 81 = .ok (.iload 5, 2) := by decide +kernel
theorem dM_foldsBack_83 : decode cM_foldsBack 83 = .ok (.invokevirtual 115, 3) := by decide +kernel
theorem dM_foldsBack_86 : decode cM_foldsBack 86 = .ok (.aload_n 0, 1) := by decide +kernel
theorem dM_foldsBack_87 : decode cM_foldsBack 87 = .ok (.iload_n 1, 1) := by decide +kernel
theorem dM_foldsBack_88 : decode cM_foldsBack 88 = .ok (.iload_n 2, 1) := by decide +kernel
theorem dM_foldsBack_89 : decode cM_foldsBack 89 = .ok (.invokevirtual 111, 3) := by decide +kernel
theorem dM_foldsBack_92 : decode cM_foldsBack 92 = .ok (.aload_n 0, 1) := by decide +kernel
theorem dM_foldsBack_93 : decode cM_foldsBack 93 = .ok (.iload_n 1, 1) := by decide +kernel
theorem dM_foldsBack_94 : decode cM_foldsBack 94 = .ok (.iload_n 2, 1) := by decide +kernel
theorem dM_foldsBack_95 : decode cM_foldsBack 95 = .ok (.invokevirtual 115, 3) := by decide +kernel
theorem dM_foldsBack_98 : decode cM_foldsBack 98 = .ok (.aload_n 0, 1) := by decide +kernel
theorem dM_foldsBack_99 : decode cM_foldsBack 99 = .ok (.iload_n 1, 1) := by decide +kernel
theorem dM_foldsBack_100 : decode cM_foldsBack 100 = .ok (.iload 6, 2) := by decide +kernel
theorem dM_foldsBack_102 : decode cM_foldsBack 102 = .ok (.invokevirtual 111, 3) := by decide +kernel
theorem dM_foldsBack_105 : decode cM_foldsBack 105 = .ok (.aload_n 0, 1) := by decide +kernel
theorem dM_foldsBack_106 : decode cM_foldsBack 106 = .ok (.iload_n 1, 1) := by decide +kernel
theorem dM_foldsBack_107 : decode cM_foldsBack 107 = .ok (.iload 6, 2) := by decide +kernel
theorem dM_foldsBack_109 : decode cM_foldsBack 109 = .ok (.invokevirtual 115, 3) := by decide +kernel
theorem dM_foldsBack_112 : decode cM_foldsBack 112 = .ok (.invokestatic 107, 3) := by decide +kernel
theorem dM_foldsBack_115 : decode cM_foldsBack 115 = .ok (.istore 8, 2) := by decide +kernel
theorem dM_foldsBack_117 : decode cM_foldsBack 117 = .ok (.aload_n 0, 1) := by decide +kernel
theorem dM_foldsBack_118 : decode cM_foldsBack 118 = .ok (.iload_n 1, 1) := by decide +kernel
theorem dM_foldsBack_119 : decode cM_foldsBack 119 = .ok (.iload_n 2, 1) := by decide +kernel
theorem dM_foldsBack_120 : decode cM_foldsBack 120 = .ok (.invokevirtual 111, 3) := by decide +kernel
theorem dM_foldsBack_123 : decode cM_foldsBack 123 = .ok (.aload_n 0, 1) := by decide +kernel
theorem dM_foldsBack_124 : decode cM_foldsBack 124 = .ok (.iload_n 1, 1) := by decide +kernel
theorem dM_foldsBack_125 : decode cM_foldsBack 125 = .ok (.iload 5, 2) := by decide +kernel
theorem dM_foldsBack_127 : decode cM_foldsBack 127 = .ok (.invokevirtual 111, 3) := by decide +kernel
theorem dM_foldsBack_130 : decode cM_foldsBack 130 = .ok (.lcmp, 1) := by decide +kernel
theorem dM_foldsBack_131 : decode cM_foldsBack 131 = .ok (.ifCond .ne 20, 3) := by decide +kernel
theorem dM_foldsBack_134 : decode cM_foldsBack 134 = .ok (.aload_n 0, 1) := by decide +kernel
theorem dM_foldsBack_135 : decode cM_foldsBack 135 = .ok (.iload_n 1, 1) := by decide +kernel
theorem dM_foldsBack_136 : decode cM_foldsBack 136 = .ok (.iload_n 2, 1) := by decide +kernel
theorem dM_foldsBack_137 : decode cM_foldsBack 137 = .ok (.invokevirtual 115, 3) := by decide +kernel
theorem dM_foldsBack_140 : decode cM_foldsBack 140 = .ok (.aload_n 0, 1) := by decide +kernel
theorem dM_foldsBack_141 : decode cM_foldsBack 141 = .ok (.iload_n 1, 1) := by decide +kernel
theorem dM_foldsBack_142 : decode cM_foldsBack 142 = .ok (.iload 5, 2) := by decide +kernel
theorem dM_foldsBack_144 : decode cM_foldsBack 144 = .ok (.invokevirtual 115, 3) := by decide +kernel
theorem dM_foldsBack_147 : decode cM_foldsBack 147 = .ok (.lcmp, 1) := by decide +kernel
theorem dM_foldsBack_148 : decode cM_foldsBack 148 = .ok (.ifCond .eq 39, 3) := by decide +kernel
theorem dM_foldsBack_151 : decode cM_foldsBack 151 = .ok (.aload_n 0, 1) := by decide +kernel
theorem dM_foldsBack_152 : decode cM_foldsBack 152 = .ok (.iload_n 1, 1) := by decide +kernel
theorem dM_foldsBack_153 : decode cM_foldsBack 153 = .ok (.iload 5, 2) := by decide +kernel
theorem dM_foldsBack_155 : decode cM_foldsBack 155 = .ok (.invokevirtual 111, 3) := by decide +kernel
theorem dM_foldsBack_158 : decode cM_foldsBack 158 = .ok (.aload_n 0, 1) := by decide +kernel
theorem dM_foldsBack_159 : decode cM_foldsBack 159 = .ok (.iload_n 1, 1) := by decide +kernel
theorem dM_foldsBack_160 : decode cM_foldsBack 160 = .ok (.iload 6, 2) := by decide +kernel
theorem dM_foldsBack_162 : decode cM_foldsBack 162 = .ok (.invokevirtual 111, 3) := by decide +kernel
theorem dM_foldsBack_165 : decode cM_foldsBack 165 = .ok (.lcmp, 1) := by decide +kernel
theorem dM_foldsBack_166 : decode cM_foldsBack 166 = .ok (.ifCond .ne 25, 3) := by decide +kernel
theorem dM_foldsBack_169 : decode cM_foldsBack 169 = .ok (.aload_n 0, 1) := by decide +kernel
theorem dM_foldsBack_170 : decode cM_foldsBack 170 = .ok (.iload_n 1, 1) := by decide +kernel
theorem dM_foldsBack_171 : decode cM_foldsBack 171 = .ok (.iload 5, 2) := by decide +kernel
theorem dM_foldsBack_173 : decode cM_foldsBack 173 = .ok (.invokevirtual 115, 3) := by decide +kernel
theorem dM_foldsBack_176 : decode cM_foldsBack 176 = .ok (.aload_n 0, 1) := by decide +kernel
theorem dM_foldsBack_177 : decode cM_foldsBack 177 = .ok (.iload_n 1, 1) := by decide +kernel
theorem dM_foldsBack_178 : decode cM_foldsBack 178 = .ok (.iload 6, 2) := by decide +kernel
theorem dM_foldsBack_180 : decode cM_foldsBack 180 = .ok (.invokevirtual 115, 3) := by decide +kernel
theorem dM_foldsBack_183 : decode cM_foldsBack 183 = .ok (.lcmp, 1) := by decide +kernel
theorem dM_foldsBack_184 : decode cM_foldsBack 184 = .ok (.ifCond .ne 7, 3) := by decide +kernel
theorem dM_foldsBack_187 : decode cM_foldsBack 187 = .ok (.iconst 1, 1) := by decide +kernel
theorem dM_foldsBack_188 : decode cM_foldsBack 188 = .ok (.goto 4, 3) := by decide +kernel
theorem dM_foldsBack_191 : decode cM_foldsBack 191 = .ok (.iconst 0, 1) := by decide +kernel
theorem dM_foldsBack_192 : decode cM_foldsBack 192 = .ok (.istore 9, 2) := by decide +kernel
theorem dM_foldsBack_194 : decode cM_foldsBack 194 = .ok (.iload 7, 2) := by decide +kernel
theorem dM_foldsBack_196 : decode cM_foldsBack 196 = .ok (.ifCond .eq 17, 3) := by decide +kernel
theorem dM_foldsBack_199 : decode cM_foldsBack 199 = .ok (.iload 8, 2) := by decide +kernel
theorem dM_foldsBack_201 : decode cM_foldsBack 201 = .ok (.ifCond .ne 12, 3) := by decide +kernel
theorem dM_foldsBack_204 : decode cM_foldsBack 204 = .ok (.iload 9, 2) := by decide +kernel
theorem dM_foldsBack_206 : decode cM_foldsBack 206 = .ok (.ifCond .ne 7, 3) := by decide +kernel
theorem dM_foldsBack_209 : decode cM_foldsBack 209 = .ok (.iconst 1, 1) := by decide +kernel
theorem dM_foldsBack_210 : decode cM_foldsBack 210 = .ok (.goto 4, 3) := by decide +kernel
theorem dM_foldsBack_213 : decode cM_foldsBack 213 = .ok (.iconst 0, 1) := by decide +kernel
theorem dM_foldsBack_214 : decode cM_foldsBack 214 = .ok (.ireturn, 1) := by decide +kernel
def f_M_foldsBack_j214 (v : MV) (s0 : Int32) : Option Int32 := rb s0
def f_M_foldsBack_j213 (v : MV) : Option Int32 := (f_M_foldsBack_j214 v (0 : Int32))
def f_M_foldsBack_j192 (v : MV) (p7 : Int32) (p8 : Int32) (s0 : Int32) : Option Int32 := (if p7 = 0 then (f_M_foldsBack_j213 v) else (if p8 = 0 then (if s0 = 0 then (f_M_foldsBack_j214 v (1 : Int32)) else (f_M_foldsBack_j213 v)) else (f_M_foldsBack_j213 v)))
def f_M_foldsBack_j191 (v : MV) (p7 : Int32) (p8 : Int32) : Option Int32 := (f_M_foldsBack_j192 v p7 p8 (0 : Int32))
def f_M_foldsBack_j187 (v : MV) (p7 : Int32) (p8 : Int32) : Option Int32 := (f_M_foldsBack_j192 v p7 p8 (1 : Int32))
def f_M_foldsBack_j151 (v : MV) (p1 : Int32) (p5 : Int32) (p6 : Int32) (p7 : Int32) (p8 : Int32) : Option Int32 := (f_M_x v p1 p5).bind fun u24 => (f_M_x v p1 p6).bind fun u25 => (if (lg_cmp u24 u25) = 0 then (f_M_y v p1 p5).bind fun u27 => (f_M_y v p1 p6).bind fun u28 => (if (lg_cmp u27 u28) = 0 then (f_M_foldsBack_j187 v p7 p8) else (f_M_foldsBack_j191 v p7 p8)) else (f_M_foldsBack_j191 v p7 p8))
def f_M_foldsBack_j70 (v : MV) (p1 : Int32) (p2 : Int32) (p5 : Int32) (p6 : Int32) (s0 : Int32) : Option Int32 := (f_M_x v p1 p5).bind fun u11 => (f_M_y v p1 p5).bind fun u12 => (f_M_x v p1 p2).bind fun u13 => (f_M_y v p1 p2).bind fun u14 => (f_M_x v p1 p6).bind fun u15 => (f_M_y v p1 p6).bind fun u16 => (f_M_isOn u11 u12 u13 u14 u15 u16).bind fun u17 => (f_M_x v p1 p2).bind fun u18 => (f_M_x v p1 p5).bind fun u19 => (if (lg_cmp u18 u19) = 0 then (f_M_y v p1 p2).bind fun u21 => (f_M_y v p1 p5).bind fun u22 => (if (lg_cmp u21 u22) = 0 then (f_M_foldsBack_j187 v s0 u17) else (f_M_foldsBack_j151 v p1 p5 p6 s0 u17)) else (f_M_foldsBack_j151 v p1 p5 p6 s0 u17))
def f_M_foldsBack (v : MV) (x1 : Int32) (x2 : Int32) (x3 : Int32) (x4 : Int32) : Option Int32 := (f_M_behind x2 x3 x4).bind fun u1 => (f_M_behind u1 x3 x4).bind fun u2 => (f_M_x v x1 x2).bind fun u3 => (f_M_y v x1 x2).bind fun u4 => (f_M_x v x1 u1).bind fun u5 => (f_M_y v x1 u1).bind fun u6 => (f_M_x v x1 u2).bind fun u7 => (f_M_y v x1 u2).bind fun u8 => (f_M_turnOf u3 u4 u5 u6 u7 u8).bind fun u9 => (if u9 = 0 then (f_M_foldsBack_j70 v x1 x2 u1 u2 (1 : Int32)) else (f_M_foldsBack_j70 v x1 x2 u1 u2 (0 : Int32)))
set_option maxHeartbeats 4000000 in
set_option maxRecDepth 100000 in
theorem k_M_foldsBack (l : Launch) (dC : Nat → ClassId) (dI : Nat → Nat → Nat) (cL cI : ClassId) (qm : Nat → Nat) (v : MV) (x1 : Int32) (x2 : Int32) (x3 : Int32) (x4 : Int32) (r : Int32) (h : f_M_foldsBack v x1 x2 x3 x4 = some r) : Met l yM_foldsBack wsM_foldsBack ({ frames := 3, cells := 0, slots := 0, locals := 89 }) (rd_Pc [.ref (qm 0), .int x1, .int x2, .int x3, .int x4] (fun H => va_P (dC, dI) cls3 (mdW cL cI qm v) H) (dC, dI) cls3 [(cL, .long), (cI, .int)]) (vp_Si (fun z => z = r)) 0 0 (fun _ => False) := by
  refine Met.ofW (cc := cM_foldsBack) (maxL := 10) (ret := (some .boolean)) (by decide) rfl ?_
  intro p e s m args below meth c s₁ B hml hv
  obtain ⟨rfl, hPm, hK⟩ := hv
  have hx := B.exec
  have hb := B.bytes
  have hr := B.returns
  have hw : ∀ w ∈ wG, w.before ([.ref (qm 0), .int x1, .int x2, .int x3, .int x4] : List Value).toArray s = true := fun w hq => atoms_spec (ws := wsM_foldsBack) B.pre w (List.mem_cons_of_mem _ hq)
  have hown : s.vm.findClass R_M = some m.cls := findClass_of_methodNamed B.named
  have hlocks := B.notSynchronized
  have hl := lv_entry ([.ref (qm 0), .int x1, .int x2, .int x3, .int x4] : List Value) (n := 10) (Nat.le_of_ble_eq_true rfl)
  rw [lg_entry_eq]
  generalize (lg_sl ([.ref (qm 0), .int x1, .int x2, .int x3, .int x4] : List Value) ++ List.replicate (10 - (lg_sl ([.ref (qm 0), .int x1, .int x2, .int x3, .int x4] : List Value)).length) Slot.unset).toArray = ls at hl ⊢
  have hl : lv_has ls 10 [(0, .ref (qm 0)), (1, .int x1), (2, .int x2), (3, .int x3), (4, .int x4)] := hl
  have k214 : ∀ (s0 : Int32), f_M_foldsBack_j214 v s0 = some r →  ∀ (ls : Array Slot), lv_has ls 10 [] → W p l e (headSpec wsM_foldsBack ({ frames := 3, cells := 0, slots := 0, locals := 89 })).room s m ([.ref (qm 0), .int x1, .int x2, .int x3, .int x4] : List Value).toArray below meth c s.heap [] 0 0 (MQ below (vp_Si (fun z => z = r)) ([.ref (qm 0), .int x1, .int x2, .int x3, .int x4] : List Value).toArray s 0 0 (fun _ => False)) (F0 m 214 ls [.int s0]) := by
    intro s0 h  ls hl
    unfold f_M_foldsBack_j214 at h
    obtain ⟨hz, hr9⟩ := rb_of h
    exact W.zret hx hb hr hz (fun t ht hW => ⟨_, rfl, hr9, ht⟩) nil_locs dM_foldsBack_214
  have k213 : f_M_foldsBack_j213 v = some r →  ∀ (ls : Array Slot), lv_has ls 10 [] → W p l e (headSpec wsM_foldsBack ({ frames := 3, cells := 0, slots := 0, locals := 89 })).room s m ([.ref (qm 0), .int x1, .int x2, .int x3, .int x4] : List Value).toArray below meth c s.heap [] 0 0 (MQ below (vp_Si (fun z => z = r)) ([.ref (qm 0), .int x1, .int x2, .int x3, .int x4] : List Value).toArray s 0 0 (fun _ => False)) (F0 m 213 ls []) := by
    intro  h  ls hl
    unfold f_M_foldsBack_j213 at h
    refine lv_iconst (v := 0) hx hb dM_foldsBack_213 (by decide) ?_
    exact k214 (0 : Int32) h ls (lv_sub hl [] rfl)
  have k192 : ∀ (p7 : Int32) (p8 : Int32) (s0 : Int32), f_M_foldsBack_j192 v p7 p8 s0 = some r →  ∀ (ls : Array Slot), lv_has ls 10 [(7, .int p7), (8, .int p8)] → W p l e (headSpec wsM_foldsBack ({ frames := 3, cells := 0, slots := 0, locals := 89 })).room s m ([.ref (qm 0), .int x1, .int x2, .int x3, .int x4] : List Value).toArray below meth c s.heap [] 0 0 (MQ below (vp_Si (fun z => z = r)) ([.ref (qm 0), .int x1, .int x2, .int x3, .int x4] : List Value).toArray s 0 0 (fun _ => False)) (F0 m 192 ls [.int s0]) := by
    intro p7 p8 s0 h  ls hl
    unfold f_M_foldsBack_j192 at h
    refine lv_istore (lv' := [(9, .int s0), (7, .int p7), (8, .int p8)]) hx hb dM_foldsBack_192 hl (by decide) rfl (fun ls hl => ?_)
    refine lv_iload hx hb dM_foldsBack_194 (lv_at hl 1 rfl) ?_
    refine lv_if_eq (tgt := 213) hx hb dM_foldsBack_196 (by decide) (fun c30 => ?_) (fun c30 => ?_)
    · have h := it_t c30 h
      exact k213 h ls (lv_sub hl [] rfl)
    · have h := it_f c30 h
      refine lv_iload hx hb dM_foldsBack_199 (lv_at hl 2 rfl) ?_
      refine lv_if_ne (tgt := 213) hx hb dM_foldsBack_201 (by decide) (fun c31 => ?_) (fun c31 => ?_)
      · have h := it_f c31 h
        exact k213 h ls (lv_sub hl [] rfl)
      · have h := it_t c31 h
        refine lv_iload hx hb dM_foldsBack_204 (lv_at hl 0 rfl) ?_
        refine lv_if_ne (tgt := 213) hx hb dM_foldsBack_206 (by decide) (fun c32 => ?_) (fun c32 => ?_)
        · have h := it_f c32 h
          exact k213 h ls (lv_sub hl [] rfl)
        · have h := it_t c32 h
          refine lv_iconst (v := 1) hx hb dM_foldsBack_209 (by decide) ?_
          refine lv_goto (tgt := 214) hx hb dM_foldsBack_210 (by decide) ?_
          exact k214 (1 : Int32) h ls (lv_sub hl [] rfl)
  have k191 : ∀ (p7 : Int32) (p8 : Int32), f_M_foldsBack_j191 v p7 p8 = some r →  ∀ (ls : Array Slot), lv_has ls 10 [(7, .int p7), (8, .int p8)] → W p l e (headSpec wsM_foldsBack ({ frames := 3, cells := 0, slots := 0, locals := 89 })).room s m ([.ref (qm 0), .int x1, .int x2, .int x3, .int x4] : List Value).toArray below meth c s.heap [] 0 0 (MQ below (vp_Si (fun z => z = r)) ([.ref (qm 0), .int x1, .int x2, .int x3, .int x4] : List Value).toArray s 0 0 (fun _ => False)) (F0 m 191 ls []) := by
    intro p7 p8 h  ls hl
    unfold f_M_foldsBack_j191 at h
    refine lv_iconst (v := 0) hx hb dM_foldsBack_191 (by decide) ?_
    exact k192 p7 p8 (0 : Int32) h ls (lv_sub hl [0, 1] rfl)
  have k187 : ∀ (p7 : Int32) (p8 : Int32), f_M_foldsBack_j187 v p7 p8 = some r →  ∀ (ls : Array Slot), lv_has ls 10 [(7, .int p7), (8, .int p8)] → W p l e (headSpec wsM_foldsBack ({ frames := 3, cells := 0, slots := 0, locals := 89 })).room s m ([.ref (qm 0), .int x1, .int x2, .int x3, .int x4] : List Value).toArray below meth c s.heap [] 0 0 (MQ below (vp_Si (fun z => z = r)) ([.ref (qm 0), .int x1, .int x2, .int x3, .int x4] : List Value).toArray s 0 0 (fun _ => False)) (F0 m 187 ls []) := by
    intro p7 p8 h  ls hl
    unfold f_M_foldsBack_j187 at h
    refine lv_iconst (v := 1) hx hb dM_foldsBack_187 (by decide) ?_
    refine lv_goto (tgt := 192) hx hb dM_foldsBack_188 (by decide) ?_
    exact k192 p7 p8 (1 : Int32) h ls (lv_sub hl [0, 1] rfl)
  have k151 : ∀ (p1 : Int32) (p5 : Int32) (p6 : Int32) (p7 : Int32) (p8 : Int32), f_M_foldsBack_j151 v p1 p5 p6 p7 p8 = some r →  ∀ (ls : Array Slot), lv_has ls 10 [(0, .ref (qm 0)), (1, .int p1), (5, .int p5), (6, .int p6), (7, .int p7), (8, .int p8)] → W p l e (headSpec wsM_foldsBack ({ frames := 3, cells := 0, slots := 0, locals := 89 })).room s m ([.ref (qm 0), .int x1, .int x2, .int x3, .int x4] : List Value).toArray below meth c s.heap [] 0 0 (MQ below (vp_Si (fun z => z = r)) ([.ref (qm 0), .int x1, .int x2, .int x3, .int x4] : List Value).toArray s 0 0 (fun _ => False)) (F0 m 151 ls []) := by
    intro p1 p5 p6 p7 p8 h  ls hl
    unfold f_M_foldsBack_j151 at h
    refine lv_aload_n hx hb dM_foldsBack_151 rfl (lv_at hl 0 rfl) ?_
    refine lv_iload_n hx hb dM_foldsBack_152 rfl (lv_at hl 1 rfl) ?_
    refine lv_iload hx hb dM_foldsBack_153 (lv_at hl 2 rfl) ?_
    obtain ⟨u24, hu24, h⟩ := ob_some h
    refine vp_callSl (va_Run.run (va_runV (As := [.int p1, .int p5]) (rest := []) ⟨hx, hb, hml, hown, hw⟩ (k_M_x l dC dI cL cI qm v p1 p5 u24 hu24) (cwV 2 hw (gV w_550 w_552 wp_11 w_2 w_553) rfl rfl rfl (by decide +kernel) ⟨Nat.le_of_ble_eq_true rfl, Nat.le_of_ble_eq_true rfl⟩) ⟨rd_blind, va_recv hK hPm (ci := 2) (q0 := 0) rfl rfl, rd_pre hPm hK⟩ rfl rfl hl.1 rfl (lv_room (Nat.le_of_ble_eq_true rfl)) dM_foldsBack_155 ⟨Nat.le_of_ble_eq_true rfl, Nat.le_of_ble_eq_true rfl⟩)) (fun z hz => ?_)
    rw [hz]; clear hz
    refine lv_aload_n hx hb dM_foldsBack_158 rfl (lv_at hl 0 rfl) ?_
    refine lv_iload_n hx hb dM_foldsBack_159 rfl (lv_at hl 1 rfl) ?_
    refine lv_iload hx hb dM_foldsBack_160 (lv_at hl 3 rfl) ?_
    obtain ⟨u25, hu25, h⟩ := ob_some h
    refine vp_callSl (va_Run.run (va_runV (As := [.int p1, .int p6]) (rest := [.long u24]) ⟨hx, hb, hml, hown, hw⟩ (k_M_x l dC dI cL cI qm v p1 p6 u25 hu25) (cwV 2 hw (gV w_550 w_552 wp_11 w_2 w_553) rfl rfl rfl (by decide +kernel) ⟨Nat.le_of_ble_eq_true rfl, Nat.le_of_ble_eq_true rfl⟩) ⟨rd_blind, va_recv hK hPm (ci := 2) (q0 := 0) rfl rfl, rd_pre hPm hK⟩ rfl rfl hl.1 rfl (lv_room (Nat.le_of_ble_eq_true rfl)) dM_foldsBack_162 ⟨Nat.le_of_ble_eq_true rfl, Nat.le_of_ble_eq_true rfl⟩)) (fun z hz => ?_)
    rw [hz]; clear hz
    refine W.lcmp hx hb dM_foldsBack_165 ?_
    refine lv_if_ne (tgt := 191) hx hb dM_foldsBack_166 (by decide) (fun c26 => ?_) (fun c26 => ?_)
    · have h := it_f c26 h
      exact k191 p7 p8 h ls (lv_sub hl [4, 5] rfl)
    · have h := it_t c26 h
      refine lv_aload_n hx hb dM_foldsBack_169 rfl (lv_at hl 0 rfl) ?_
      refine lv_iload_n hx hb dM_foldsBack_170 rfl (lv_at hl 1 rfl) ?_
      refine lv_iload hx hb dM_foldsBack_171 (lv_at hl 2 rfl) ?_
      obtain ⟨u27, hu27, h⟩ := ob_some h
      refine vp_callSl (va_Run.run (va_runV (As := [.int p1, .int p5]) (rest := []) ⟨hx, hb, hml, hown, hw⟩ (k_M_y l dC dI cL cI qm v p1 p5 u27 hu27) (cwV 2 hw (gV w_554 w_556 wp_12 w_2 w_557) rfl rfl rfl (by decide +kernel) ⟨Nat.le_of_ble_eq_true rfl, Nat.le_of_ble_eq_true rfl⟩) ⟨rd_blind, va_recv hK hPm (ci := 2) (q0 := 0) rfl rfl, rd_pre hPm hK⟩ rfl rfl hl.1 rfl (lv_room (Nat.le_of_ble_eq_true rfl)) dM_foldsBack_173 ⟨Nat.le_of_ble_eq_true rfl, Nat.le_of_ble_eq_true rfl⟩)) (fun z hz => ?_)
      rw [hz]; clear hz
      refine lv_aload_n hx hb dM_foldsBack_176 rfl (lv_at hl 0 rfl) ?_
      refine lv_iload_n hx hb dM_foldsBack_177 rfl (lv_at hl 1 rfl) ?_
      refine lv_iload hx hb dM_foldsBack_178 (lv_at hl 3 rfl) ?_
      obtain ⟨u28, hu28, h⟩ := ob_some h
      refine vp_callSl (va_Run.run (va_runV (As := [.int p1, .int p6]) (rest := [.long u27]) ⟨hx, hb, hml, hown, hw⟩ (k_M_y l dC dI cL cI qm v p1 p6 u28 hu28) (cwV 2 hw (gV w_554 w_556 wp_12 w_2 w_557) rfl rfl rfl (by decide +kernel) ⟨Nat.le_of_ble_eq_true rfl, Nat.le_of_ble_eq_true rfl⟩) ⟨rd_blind, va_recv hK hPm (ci := 2) (q0 := 0) rfl rfl, rd_pre hPm hK⟩ rfl rfl hl.1 rfl (lv_room (Nat.le_of_ble_eq_true rfl)) dM_foldsBack_180 ⟨Nat.le_of_ble_eq_true rfl, Nat.le_of_ble_eq_true rfl⟩)) (fun z hz => ?_)
      rw [hz]; clear hz
      refine W.lcmp hx hb dM_foldsBack_183 ?_
      refine lv_if_ne (tgt := 191) hx hb dM_foldsBack_184 (by decide) (fun c29 => ?_) (fun c29 => ?_)
      · have h := it_f c29 h
        exact k191 p7 p8 h ls (lv_sub hl [4, 5] rfl)
      · have h := it_t c29 h
        exact k187 p7 p8 h ls (lv_sub hl [4, 5] rfl)
  have k70 : ∀ (p1 : Int32) (p2 : Int32) (p5 : Int32) (p6 : Int32) (s0 : Int32), f_M_foldsBack_j70 v p1 p2 p5 p6 s0 = some r →  ∀ (ls : Array Slot), lv_has ls 10 [(0, .ref (qm 0)), (1, .int p1), (2, .int p2), (5, .int p5), (6, .int p6)] → W p l e (headSpec wsM_foldsBack ({ frames := 3, cells := 0, slots := 0, locals := 89 })).room s m ([.ref (qm 0), .int x1, .int x2, .int x3, .int x4] : List Value).toArray below meth c s.heap [] 0 0 (MQ below (vp_Si (fun z => z = r)) ([.ref (qm 0), .int x1, .int x2, .int x3, .int x4] : List Value).toArray s 0 0 (fun _ => False)) (F0 m 70 ls [.int s0]) := by
    intro p1 p2 p5 p6 s0 h  ls hl
    unfold f_M_foldsBack_j70 at h
    refine lv_istore (lv' := [(7, .int s0), (0, .ref (qm 0)), (1, .int p1), (2, .int p2), (5, .int p5), (6, .int p6)]) hx hb dM_foldsBack_70 hl (by decide) rfl (fun ls hl => ?_)
    refine lv_aload_n hx hb dM_foldsBack_72 rfl (lv_at hl 1 rfl) ?_
    refine lv_iload_n hx hb dM_foldsBack_73 rfl (lv_at hl 2 rfl) ?_
    refine lv_iload hx hb dM_foldsBack_74 (lv_at hl 4 rfl) ?_
    obtain ⟨u11, hu11, h⟩ := ob_some h
    refine vp_callSl (va_Run.run (va_runV (As := [.int p1, .int p5]) (rest := []) ⟨hx, hb, hml, hown, hw⟩ (k_M_x l dC dI cL cI qm v p1 p5 u11 hu11) (cwV 2 hw (gV w_550 w_552 wp_11 w_2 w_553) rfl rfl rfl (by decide +kernel) ⟨Nat.le_of_ble_eq_true rfl, Nat.le_of_ble_eq_true rfl⟩) ⟨rd_blind, va_recv hK hPm (ci := 2) (q0 := 0) rfl rfl, rd_pre hPm hK⟩ rfl rfl hl.1 rfl (lv_room (Nat.le_of_ble_eq_true rfl)) dM_foldsBack_76 ⟨Nat.le_of_ble_eq_true rfl, Nat.le_of_ble_eq_true rfl⟩)) (fun z hz => ?_)
    rw [hz]; clear hz
    refine lv_aload_n hx hb dM_foldsBack_79 rfl (lv_at hl 1 rfl) ?_
    refine lv_iload_n hx hb dM_foldsBack_80 rfl (lv_at hl 2 rfl) ?_
    refine lv_iload hx hb dM_foldsBack_81 (lv_at hl 4 rfl) ?_
    obtain ⟨u12, hu12, h⟩ := ob_some h
    refine vp_callSl (va_Run.run (va_runV (As := [.int p1, .int p5]) (rest := [.long u11]) ⟨hx, hb, hml, hown, hw⟩ (k_M_y l dC dI cL cI qm v p1 p5 u12 hu12) (cwV 2 hw (gV w_554 w_556 wp_12 w_2 w_557) rfl rfl rfl (by decide +kernel) ⟨Nat.le_of_ble_eq_true rfl, Nat.le_of_ble_eq_true rfl⟩) ⟨rd_blind, va_recv hK hPm (ci := 2) (q0 := 0) rfl rfl, rd_pre hPm hK⟩ rfl rfl hl.1 rfl (lv_room (Nat.le_of_ble_eq_true rfl)) dM_foldsBack_83 ⟨Nat.le_of_ble_eq_true rfl, Nat.le_of_ble_eq_true rfl⟩)) (fun z hz => ?_)
    rw [hz]; clear hz
    refine lv_aload_n hx hb dM_foldsBack_86 rfl (lv_at hl 1 rfl) ?_
    refine lv_iload_n hx hb dM_foldsBack_87 rfl (lv_at hl 2 rfl) ?_
    refine lv_iload_n hx hb dM_foldsBack_88 rfl (lv_at hl 3 rfl) ?_
    obtain ⟨u13, hu13, h⟩ := ob_some h
    refine vp_callSl (va_Run.run (va_runV (As := [.int p1, .int p2]) (rest := [.long u12, .long u11]) ⟨hx, hb, hml, hown, hw⟩ (k_M_x l dC dI cL cI qm v p1 p2 u13 hu13) (cwV 2 hw (gV w_550 w_552 wp_11 w_2 w_553) rfl rfl rfl (by decide +kernel) ⟨Nat.le_of_ble_eq_true rfl, Nat.le_of_ble_eq_true rfl⟩) ⟨rd_blind, va_recv hK hPm (ci := 2) (q0 := 0) rfl rfl, rd_pre hPm hK⟩ rfl rfl hl.1 rfl (lv_room (Nat.le_of_ble_eq_true rfl)) dM_foldsBack_89 ⟨Nat.le_of_ble_eq_true rfl, Nat.le_of_ble_eq_true rfl⟩)) (fun z hz => ?_)
    rw [hz]; clear hz
    refine lv_aload_n hx hb dM_foldsBack_92 rfl (lv_at hl 1 rfl) ?_
    refine lv_iload_n hx hb dM_foldsBack_93 rfl (lv_at hl 2 rfl) ?_
    refine lv_iload_n hx hb dM_foldsBack_94 rfl (lv_at hl 3 rfl) ?_
    obtain ⟨u14, hu14, h⟩ := ob_some h
    refine vp_callSl (va_Run.run (va_runV (As := [.int p1, .int p2]) (rest := [.long u13, .long u12, .long u11]) ⟨hx, hb, hml, hown, hw⟩ (k_M_y l dC dI cL cI qm v p1 p2 u14 hu14) (cwV 2 hw (gV w_554 w_556 wp_12 w_2 w_557) rfl rfl rfl (by decide +kernel) ⟨Nat.le_of_ble_eq_true rfl, Nat.le_of_ble_eq_true rfl⟩) ⟨rd_blind, va_recv hK hPm (ci := 2) (q0 := 0) rfl rfl, rd_pre hPm hK⟩ rfl rfl hl.1 rfl (lv_room (Nat.le_of_ble_eq_true rfl)) dM_foldsBack_95 ⟨Nat.le_of_ble_eq_true rfl, Nat.le_of_ble_eq_true rfl⟩)) (fun z hz => ?_)
    rw [hz]; clear hz
    refine lv_aload_n hx hb dM_foldsBack_98 rfl (lv_at hl 1 rfl) ?_
    refine lv_iload_n hx hb dM_foldsBack_99 rfl (lv_at hl 2 rfl) ?_
    refine lv_iload hx hb dM_foldsBack_100 (lv_at hl 5 rfl) ?_
    obtain ⟨u15, hu15, h⟩ := ob_some h
    refine vp_callSl (va_Run.run (va_runV (As := [.int p1, .int p6]) (rest := [.long u14, .long u13, .long u12, .long u11]) ⟨hx, hb, hml, hown, hw⟩ (k_M_x l dC dI cL cI qm v p1 p6 u15 hu15) (cwV 2 hw (gV w_550 w_552 wp_11 w_2 w_553) rfl rfl rfl (by decide +kernel) ⟨Nat.le_of_ble_eq_true rfl, Nat.le_of_ble_eq_true rfl⟩) ⟨rd_blind, va_recv hK hPm (ci := 2) (q0 := 0) rfl rfl, rd_pre hPm hK⟩ rfl rfl hl.1 rfl (lv_room (Nat.le_of_ble_eq_true rfl)) dM_foldsBack_102 ⟨Nat.le_of_ble_eq_true rfl, Nat.le_of_ble_eq_true rfl⟩)) (fun z hz => ?_)
    rw [hz]; clear hz
    refine lv_aload_n hx hb dM_foldsBack_105 rfl (lv_at hl 1 rfl) ?_
    refine lv_iload_n hx hb dM_foldsBack_106 rfl (lv_at hl 2 rfl) ?_
    refine lv_iload hx hb dM_foldsBack_107 (lv_at hl 5 rfl) ?_
    obtain ⟨u16, hu16, h⟩ := ob_some h
    refine vp_callSl (va_Run.run (wd_runV 10 (As := [.int p1, .int p6]) (rest := [.long u15, .long u14, .long u13, .long u12, .long u11]) ⟨hx, hb, hml, hown, hw⟩ (k_M_y l dC dI cL cI qm v p1 p6 u16 hu16) (cwV 2 hw (gV w_554 w_556 wp_12 w_2 w_557) rfl rfl rfl (by decide +kernel) ⟨Nat.le_of_ble_eq_true rfl, Nat.le_of_ble_eq_true rfl⟩) (Nat.le_of_ble_eq_true rfl) ⟨rd_blind, va_recv hK hPm (ci := 2) (q0 := 0) rfl rfl, rd_pre hPm hK⟩ rfl rfl hl.1 rfl (wd_room (Nat.le_of_ble_eq_true rfl)) dM_foldsBack_109 ⟨Nat.le_of_ble_eq_true rfl, Nat.le_of_ble_eq_true rfl⟩)) (fun z hz => ?_)
    rw [hz]; clear hz
    obtain ⟨u17, hu17, h⟩ := ob_some h
    refine vp_callSi (va_Run.run (va_runS (As := [.long u11, .long u12, .long u13, .long u14, .long u15, .long u16]) (rest := []) ⟨hx, hb, hml, hown, hw⟩ (k_M_isOn l dC dI cL cI u11 u12 u13 u14 u15 u16 u17 hu17) (va_cwS 6 hw (gS w_578 w_579 w_2 w_580) rfl rfl rfl (by decide +kernel) ⟨Nat.le_of_ble_eq_true rfl, Nat.le_of_ble_eq_true rfl⟩) ⟨rd_blind, rd_pre trivial hK⟩ rfl rfl hl.1 rfl (lv_room (Nat.le_of_ble_eq_true rfl)) dM_foldsBack_112 ⟨Nat.le_of_ble_eq_true rfl, Nat.le_of_ble_eq_true rfl⟩)) (fun z hz => ?_)
    rw [hz]; clear hz
    refine lv_istore (lv' := [(8, .int u17), (7, .int s0), (0, .ref (qm 0)), (1, .int p1), (2, .int p2), (5, .int p5), (6, .int p6)]) hx hb dM_foldsBack_115 hl (by decide) rfl (fun ls hl => ?_)
    refine lv_aload_n hx hb dM_foldsBack_117 rfl (lv_at hl 2 rfl) ?_
    refine lv_iload_n hx hb dM_foldsBack_118 rfl (lv_at hl 3 rfl) ?_
    refine lv_iload_n hx hb dM_foldsBack_119 rfl (lv_at hl 4 rfl) ?_
    obtain ⟨u18, hu18, h⟩ := ob_some h
    refine vp_callSl (va_Run.run (va_runV (As := [.int p1, .int p2]) (rest := []) ⟨hx, hb, hml, hown, hw⟩ (k_M_x l dC dI cL cI qm v p1 p2 u18 hu18) (cwV 2 hw (gV w_550 w_552 wp_11 w_2 w_553) rfl rfl rfl (by decide +kernel) ⟨Nat.le_of_ble_eq_true rfl, Nat.le_of_ble_eq_true rfl⟩) ⟨rd_blind, va_recv hK hPm (ci := 2) (q0 := 0) rfl rfl, rd_pre hPm hK⟩ rfl rfl hl.1 rfl (lv_room (Nat.le_of_ble_eq_true rfl)) dM_foldsBack_120 ⟨Nat.le_of_ble_eq_true rfl, Nat.le_of_ble_eq_true rfl⟩)) (fun z hz => ?_)
    rw [hz]; clear hz
    refine lv_aload_n hx hb dM_foldsBack_123 rfl (lv_at hl 2 rfl) ?_
    refine lv_iload_n hx hb dM_foldsBack_124 rfl (lv_at hl 3 rfl) ?_
    refine lv_iload hx hb dM_foldsBack_125 (lv_at hl 5 rfl) ?_
    obtain ⟨u19, hu19, h⟩ := ob_some h
    refine vp_callSl (va_Run.run (va_runV (As := [.int p1, .int p5]) (rest := [.long u18]) ⟨hx, hb, hml, hown, hw⟩ (k_M_x l dC dI cL cI qm v p1 p5 u19 hu19) (cwV 2 hw (gV w_550 w_552 wp_11 w_2 w_553) rfl rfl rfl (by decide +kernel) ⟨Nat.le_of_ble_eq_true rfl, Nat.le_of_ble_eq_true rfl⟩) ⟨rd_blind, va_recv hK hPm (ci := 2) (q0 := 0) rfl rfl, rd_pre hPm hK⟩ rfl rfl hl.1 rfl (lv_room (Nat.le_of_ble_eq_true rfl)) dM_foldsBack_127 ⟨Nat.le_of_ble_eq_true rfl, Nat.le_of_ble_eq_true rfl⟩)) (fun z hz => ?_)
    rw [hz]; clear hz
    refine W.lcmp hx hb dM_foldsBack_130 ?_
    refine lv_if_ne (tgt := 151) hx hb dM_foldsBack_131 (by decide) (fun c20 => ?_) (fun c20 => ?_)
    · have h := it_f c20 h
      exact k151 p1 p5 p6 s0 u17 h ls (lv_sub hl [2, 3, 5, 6, 1, 0] rfl)
    · have h := it_t c20 h
      refine lv_aload_n hx hb dM_foldsBack_134 rfl (lv_at hl 2 rfl) ?_
      refine lv_iload_n hx hb dM_foldsBack_135 rfl (lv_at hl 3 rfl) ?_
      refine lv_iload_n hx hb dM_foldsBack_136 rfl (lv_at hl 4 rfl) ?_
      obtain ⟨u21, hu21, h⟩ := ob_some h
      refine vp_callSl (va_Run.run (va_runV (As := [.int p1, .int p2]) (rest := []) ⟨hx, hb, hml, hown, hw⟩ (k_M_y l dC dI cL cI qm v p1 p2 u21 hu21) (cwV 2 hw (gV w_554 w_556 wp_12 w_2 w_557) rfl rfl rfl (by decide +kernel) ⟨Nat.le_of_ble_eq_true rfl, Nat.le_of_ble_eq_true rfl⟩) ⟨rd_blind, va_recv hK hPm (ci := 2) (q0 := 0) rfl rfl, rd_pre hPm hK⟩ rfl rfl hl.1 rfl (lv_room (Nat.le_of_ble_eq_true rfl)) dM_foldsBack_137 ⟨Nat.le_of_ble_eq_true rfl, Nat.le_of_ble_eq_true rfl⟩)) (fun z hz => ?_)
      rw [hz]; clear hz
      refine lv_aload_n hx hb dM_foldsBack_140 rfl (lv_at hl 2 rfl) ?_
      refine lv_iload_n hx hb dM_foldsBack_141 rfl (lv_at hl 3 rfl) ?_
      refine lv_iload hx hb dM_foldsBack_142 (lv_at hl 5 rfl) ?_
      obtain ⟨u22, hu22, h⟩ := ob_some h
      refine vp_callSl (va_Run.run (va_runV (As := [.int p1, .int p5]) (rest := [.long u21]) ⟨hx, hb, hml, hown, hw⟩ (k_M_y l dC dI cL cI qm v p1 p5 u22 hu22) (cwV 2 hw (gV w_554 w_556 wp_12 w_2 w_557) rfl rfl rfl (by decide +kernel) ⟨Nat.le_of_ble_eq_true rfl, Nat.le_of_ble_eq_true rfl⟩) ⟨rd_blind, va_recv hK hPm (ci := 2) (q0 := 0) rfl rfl, rd_pre hPm hK⟩ rfl rfl hl.1 rfl (lv_room (Nat.le_of_ble_eq_true rfl)) dM_foldsBack_144 ⟨Nat.le_of_ble_eq_true rfl, Nat.le_of_ble_eq_true rfl⟩)) (fun z hz => ?_)
      rw [hz]; clear hz
      refine W.lcmp hx hb dM_foldsBack_147 ?_
      refine lv_if_eq (tgt := 187) hx hb dM_foldsBack_148 (by decide) (fun c23 => ?_) (fun c23 => ?_)
      · have h := it_t c23 h
        exact k187 s0 u17 h ls (lv_sub hl [1, 0] rfl)
      · have h := it_f c23 h
        exact k151 p1 p5 p6 s0 u17 h ls (lv_sub hl [2, 3, 5, 6, 1, 0] rfl)
  unfold f_M_foldsBack at h
  refine lv_iload_n hx hb dM_foldsBack_0 rfl (lv_at hl 2 rfl) ?_
  refine lv_iload_n hx hb dM_foldsBack_1 rfl (lv_at hl 3 rfl) ?_
  refine lv_iload hx hb dM_foldsBack_2 (lv_at hl 4 rfl) ?_
  obtain ⟨u1, hu1, h⟩ := ob_some h
  refine vp_callSi (va_Run.run (va_runS (As := [.int x2, .int x3, .int x4]) (rest := []) ⟨hx, hb, hml, hown, hw⟩ (k_M_behind l dC dI cL cI x2 x3 x4 u1 hu1) (va_cwS 3 hw (gS w_575 w_576 w_2 w_577) rfl rfl rfl (by decide +kernel) ⟨Nat.le_of_ble_eq_true rfl, Nat.le_of_ble_eq_true rfl⟩) ⟨rd_blind, rd_pre trivial hK⟩ rfl rfl hl.1 rfl (lv_room (Nat.le_of_ble_eq_true rfl)) dM_foldsBack_4 ⟨Nat.le_of_ble_eq_true rfl, Nat.le_of_ble_eq_true rfl⟩)) (fun z hz => ?_)
  rw [hz]; clear hz
  refine lv_istore (lv' := [(5, .int u1), (0, .ref (qm 0)), (1, .int x1), (2, .int x2), (3, .int x3), (4, .int x4)]) hx hb dM_foldsBack_7 hl (by decide) rfl (fun ls hl => ?_)
  refine lv_iload hx hb dM_foldsBack_9 (lv_at hl 0 rfl) ?_
  refine lv_iload_n hx hb dM_foldsBack_11 rfl (lv_at hl 4 rfl) ?_
  refine lv_iload hx hb dM_foldsBack_12 (lv_at hl 5 rfl) ?_
  obtain ⟨u2, hu2, h⟩ := ob_some h
  refine vp_callSi (va_Run.run (va_runS (As := [.int u1, .int x3, .int x4]) (rest := []) ⟨hx, hb, hml, hown, hw⟩ (k_M_behind l dC dI cL cI u1 x3 x4 u2 hu2) (va_cwS 3 hw (gS w_575 w_576 w_2 w_577) rfl rfl rfl (by decide +kernel) ⟨Nat.le_of_ble_eq_true rfl, Nat.le_of_ble_eq_true rfl⟩) ⟨rd_blind, rd_pre trivial hK⟩ rfl rfl hl.1 rfl (lv_room (Nat.le_of_ble_eq_true rfl)) dM_foldsBack_14 ⟨Nat.le_of_ble_eq_true rfl, Nat.le_of_ble_eq_true rfl⟩)) (fun z hz => ?_)
  rw [hz]; clear hz
  refine lv_istore (lv' := [(6, .int u2), (5, .int u1), (0, .ref (qm 0)), (1, .int x1), (2, .int x2), (3, .int x3), (4, .int x4)]) hx hb dM_foldsBack_17 hl (by decide) rfl (fun ls hl => ?_)
  refine lv_aload_n hx hb dM_foldsBack_19 rfl (lv_at hl 2 rfl) ?_
  refine lv_iload_n hx hb dM_foldsBack_20 rfl (lv_at hl 3 rfl) ?_
  refine lv_iload_n hx hb dM_foldsBack_21 rfl (lv_at hl 4 rfl) ?_
  obtain ⟨u3, hu3, h⟩ := ob_some h
  refine vp_callSl (va_Run.run (va_runV (As := [.int x1, .int x2]) (rest := []) ⟨hx, hb, hml, hown, hw⟩ (k_M_x l dC dI cL cI qm v x1 x2 u3 hu3) (cwV 2 hw (gV w_550 w_552 wp_11 w_2 w_553) rfl rfl rfl (by decide +kernel) ⟨Nat.le_of_ble_eq_true rfl, Nat.le_of_ble_eq_true rfl⟩) ⟨rd_blind, va_recv hK hPm (ci := 2) (q0 := 0) rfl rfl, rd_pre hPm hK⟩ rfl rfl hl.1 rfl (lv_room (Nat.le_of_ble_eq_true rfl)) dM_foldsBack_22 ⟨Nat.le_of_ble_eq_true rfl, Nat.le_of_ble_eq_true rfl⟩)) (fun z hz => ?_)
  rw [hz]; clear hz
  refine lv_aload_n hx hb dM_foldsBack_25 rfl (lv_at hl 2 rfl) ?_
  refine lv_iload_n hx hb dM_foldsBack_26 rfl (lv_at hl 3 rfl) ?_
  refine lv_iload_n hx hb dM_foldsBack_27 rfl (lv_at hl 4 rfl) ?_
  obtain ⟨u4, hu4, h⟩ := ob_some h
  refine vp_callSl (va_Run.run (va_runV (As := [.int x1, .int x2]) (rest := [.long u3]) ⟨hx, hb, hml, hown, hw⟩ (k_M_y l dC dI cL cI qm v x1 x2 u4 hu4) (cwV 2 hw (gV w_554 w_556 wp_12 w_2 w_557) rfl rfl rfl (by decide +kernel) ⟨Nat.le_of_ble_eq_true rfl, Nat.le_of_ble_eq_true rfl⟩) ⟨rd_blind, va_recv hK hPm (ci := 2) (q0 := 0) rfl rfl, rd_pre hPm hK⟩ rfl rfl hl.1 rfl (lv_room (Nat.le_of_ble_eq_true rfl)) dM_foldsBack_28 ⟨Nat.le_of_ble_eq_true rfl, Nat.le_of_ble_eq_true rfl⟩)) (fun z hz => ?_)
  rw [hz]; clear hz
  refine lv_aload_n hx hb dM_foldsBack_31 rfl (lv_at hl 2 rfl) ?_
  refine lv_iload_n hx hb dM_foldsBack_32 rfl (lv_at hl 3 rfl) ?_
  refine lv_iload hx hb dM_foldsBack_33 (lv_at hl 1 rfl) ?_
  obtain ⟨u5, hu5, h⟩ := ob_some h
  refine vp_callSl (va_Run.run (va_runV (As := [.int x1, .int u1]) (rest := [.long u4, .long u3]) ⟨hx, hb, hml, hown, hw⟩ (k_M_x l dC dI cL cI qm v x1 u1 u5 hu5) (cwV 2 hw (gV w_550 w_552 wp_11 w_2 w_553) rfl rfl rfl (by decide +kernel) ⟨Nat.le_of_ble_eq_true rfl, Nat.le_of_ble_eq_true rfl⟩) ⟨rd_blind, va_recv hK hPm (ci := 2) (q0 := 0) rfl rfl, rd_pre hPm hK⟩ rfl rfl hl.1 rfl (lv_room (Nat.le_of_ble_eq_true rfl)) dM_foldsBack_35 ⟨Nat.le_of_ble_eq_true rfl, Nat.le_of_ble_eq_true rfl⟩)) (fun z hz => ?_)
  rw [hz]; clear hz
  refine lv_aload_n hx hb dM_foldsBack_38 rfl (lv_at hl 2 rfl) ?_
  refine lv_iload_n hx hb dM_foldsBack_39 rfl (lv_at hl 3 rfl) ?_
  refine lv_iload hx hb dM_foldsBack_40 (lv_at hl 1 rfl) ?_
  obtain ⟨u6, hu6, h⟩ := ob_some h
  refine vp_callSl (va_Run.run (va_runV (As := [.int x1, .int u1]) (rest := [.long u5, .long u4, .long u3]) ⟨hx, hb, hml, hown, hw⟩ (k_M_y l dC dI cL cI qm v x1 u1 u6 hu6) (cwV 2 hw (gV w_554 w_556 wp_12 w_2 w_557) rfl rfl rfl (by decide +kernel) ⟨Nat.le_of_ble_eq_true rfl, Nat.le_of_ble_eq_true rfl⟩) ⟨rd_blind, va_recv hK hPm (ci := 2) (q0 := 0) rfl rfl, rd_pre hPm hK⟩ rfl rfl hl.1 rfl (lv_room (Nat.le_of_ble_eq_true rfl)) dM_foldsBack_42 ⟨Nat.le_of_ble_eq_true rfl, Nat.le_of_ble_eq_true rfl⟩)) (fun z hz => ?_)
  rw [hz]; clear hz
  refine lv_aload_n hx hb dM_foldsBack_45 rfl (lv_at hl 2 rfl) ?_
  refine lv_iload_n hx hb dM_foldsBack_46 rfl (lv_at hl 3 rfl) ?_
  refine lv_iload hx hb dM_foldsBack_47 (lv_at hl 0 rfl) ?_
  obtain ⟨u7, hu7, h⟩ := ob_some h
  refine vp_callSl (va_Run.run (va_runV (As := [.int x1, .int u2]) (rest := [.long u6, .long u5, .long u4, .long u3]) ⟨hx, hb, hml, hown, hw⟩ (k_M_x l dC dI cL cI qm v x1 u2 u7 hu7) (cwV 2 hw (gV w_550 w_552 wp_11 w_2 w_553) rfl rfl rfl (by decide +kernel) ⟨Nat.le_of_ble_eq_true rfl, Nat.le_of_ble_eq_true rfl⟩) ⟨rd_blind, va_recv hK hPm (ci := 2) (q0 := 0) rfl rfl, rd_pre hPm hK⟩ rfl rfl hl.1 rfl (lv_room (Nat.le_of_ble_eq_true rfl)) dM_foldsBack_49 ⟨Nat.le_of_ble_eq_true rfl, Nat.le_of_ble_eq_true rfl⟩)) (fun z hz => ?_)
  rw [hz]; clear hz
  refine lv_aload_n hx hb dM_foldsBack_52 rfl (lv_at hl 2 rfl) ?_
  refine lv_iload_n hx hb dM_foldsBack_53 rfl (lv_at hl 3 rfl) ?_
  refine lv_iload hx hb dM_foldsBack_54 (lv_at hl 0 rfl) ?_
  obtain ⟨u8, hu8, h⟩ := ob_some h
  refine vp_callSl (va_Run.run (wd_runV 10 (As := [.int x1, .int u2]) (rest := [.long u7, .long u6, .long u5, .long u4, .long u3]) ⟨hx, hb, hml, hown, hw⟩ (k_M_y l dC dI cL cI qm v x1 u2 u8 hu8) (cwV 2 hw (gV w_554 w_556 wp_12 w_2 w_557) rfl rfl rfl (by decide +kernel) ⟨Nat.le_of_ble_eq_true rfl, Nat.le_of_ble_eq_true rfl⟩) (Nat.le_of_ble_eq_true rfl) ⟨rd_blind, va_recv hK hPm (ci := 2) (q0 := 0) rfl rfl, rd_pre hPm hK⟩ rfl rfl hl.1 rfl (wd_room (Nat.le_of_ble_eq_true rfl)) dM_foldsBack_56 ⟨Nat.le_of_ble_eq_true rfl, Nat.le_of_ble_eq_true rfl⟩)) (fun z hz => ?_)
  rw [hz]; clear hz
  obtain ⟨u9, hu9, h⟩ := ob_some h
  refine vp_callSi (va_Run.run (va_runS (As := [.long u3, .long u4, .long u5, .long u6, .long u7, .long u8]) (rest := []) ⟨hx, hb, hml, hown, hw⟩ (k_M_turnOf l dC dI cL cI u3 u4 u5 u6 u7 u8 u9 hu9) (va_cwS 6 hw (gS w_558 w_559 w_2 w_560) rfl rfl rfl (by decide +kernel) ⟨Nat.le_of_ble_eq_true rfl, Nat.le_of_ble_eq_true rfl⟩) ⟨rd_blind, rd_pre trivial hK⟩ rfl rfl hl.1 rfl (lv_room (Nat.le_of_ble_eq_true rfl)) dM_foldsBack_59 ⟨Nat.le_of_ble_eq_true rfl, Nat.le_of_ble_eq_true rfl⟩)) (fun z hz => ?_)
  rw [hz]; clear hz
  refine lv_if_ne (tgt := 69) hx hb dM_foldsBack_62 (by decide) (fun c10 => ?_) (fun c10 => ?_)
  · have h := it_f c10 h
    refine lv_iconst (v := 0) hx hb dM_foldsBack_69 (by decide) ?_
    exact k70 x1 x2 u1 u2 (0 : Int32) h ls (lv_sub hl [2, 3, 4, 1, 0] rfl)
  · have h := it_t c10 h
    refine lv_iconst (v := 1) hx hb dM_foldsBack_65 (by decide) ?_
    refine lv_goto (tgt := 70) hx hb dM_foldsBack_66 (by decide) ?_
    exact k70 x1 x2 u1 u2 (1 : Int32) h ls (lv_sub hl [2, 3, 4, 1, 0] rfl)
theorem dM_sidesMeet_0 : decode cM_sidesMeet 0 = .ok (.iload_n 2, 1) := by decide +kernel
theorem dM_sidesMeet_1 : decode cM_sidesMeet 1 = .ok (.iload_n 3, 1) := by decide +kernel
theorem dM_sidesMeet_2 : decode cM_sidesMeet 2 = .ok (.iload 4, 2) := by decide +kernel
theorem dM_sidesMeet_4 : decode cM_sidesMeet 4 = .ok (.invokestatic 118, 3) := by decide +kernel
theorem dM_sidesMeet_7 : decode cM_sidesMeet 7 = .ok (.istore 8, 2) := by decide +kernel
theorem dM_sidesMeet_9 : decode cM_sidesMeet 9 = .ok (.iload 5, 2) := by decide +kernel
theorem dM_sidesMeet_11 : decode cM_sidesMeet 11 = .ok (.iload 6, 2) := by decide +kernel
theorem dM_sidesMeet_13 : decode cM_sidesMeet 13 = .ok (.iload 7, 2) := by decide +kernel
theorem dM_sidesMeet_15 : decode cM_sidesMeet 15 = .ok (.invokestatic 118, 3) := by decide +kernel
theorem dM_sidesMeet_18 : decode cM_sidesMeet 18 = .ok (.istore 9, 2) := by decide +kernel
theorem dM_sidesMeet_20 : decode cM_sidesMeet 20 = .ok (.aload_n 0, 1) := by decide +kernel
theorem dM_sidesMeet_21 : decode cM_sidesMeet 21 = .ok (.iload_n 1, 1) := by decide +kernel
theorem dM_sidesMeet_22 : decode cM_sidesMeet 22 = .ok (.iload_n 2, 1) := by decide +kernel
theorem dM_sidesMeet_23 : decode cM_sidesMeet 23 = .ok (.invokevirtual 111, 3) := by decide +kernel
theorem dM_sidesMeet_26 : decode cM_sidesMeet 26 = .ok (.aload_n 0, 1) := by decide +kernel
theorem dM_sidesMeet_27 : decode cM_sidesMeet 27 = .ok (.iload_n 1, 1) := by decide +kernel
theorem dM_sidesMeet_28 : decode cM_sidesMeet 28 = .ok (.iload_n 2, 1) := by decide +kernel
theorem dM_sidesMeet_29 : decode cM_sidesMeet 29 = .ok (.invokevirtual 115, 3) := by decide +kernel
theorem dM_sidesMeet_32 : decode cM_sidesMeet 32 = .ok (.aload_n 0, 1) := by decide +kernel
theorem dM_sidesMeet_33 : decode cM_sidesMeet 33 = .ok (.iload_n 1, 1) := by decide +kernel
theorem dM_sidesMeet_34 : decode cM_sidesMeet 34 = .ok (.iload 8, 2) := by decide +kernel
theorem dM_sidesMeet_36 : decode cM_sidesMeet 36 = .ok (.invokevirtual 111, 3) := by decide +kernel
theorem dM_sidesMeet_39 : decode cM_sidesMeet 39 = .ok (.aload_n 0, 1) := by decide +kernel
theorem dM_sidesMeet_40 : decode cM_sidesMeet 40 = .ok (.iload_n 1, 1) := by decide +kernel
theorem dM_sidesMeet_41 : decode cM_sidesMeet 41 = .ok (.iload 8, 2) := by decide +kernel
theorem dM_sidesMeet_43 : decode cM_sidesMeet 43 = .ok (.invokevirtual 115, 3) := by decide +kernel
theorem dM_sidesMeet_46 : decode cM_sidesMeet 46 = .ok (.aload_n 0, 1) := by decide +kernel
theorem dM_sidesMeet_47 : decode cM_sidesMeet 47 = .ok (.iload_n 1, 1) := by decide +kernel
theorem dM_sidesMeet_48 : decode cM_sidesMeet 48 = .ok (.iload 5, 2) := by decide +kernel
theorem dM_sidesMeet_50 : decode cM_sidesMeet 50 = .ok (.invokevirtual 111, 3) := by decide +kernel
theorem dM_sidesMeet_53 : decode cM_sidesMeet 53 = .ok (.aload_n 0, 1) := by decide +kernel
theorem dM_sidesMeet_54 : decode cM_sidesMeet 54 = .ok (.iload_n 1, 1) := by decide +kernel
theorem dM_sidesMeet_55 : decode cM_sidesMeet 55 = .ok (.iload 5, 2) := by decide +kernel
theorem dM_sidesMeet_57 : decode cM_sidesMeet 57 = .ok (.invokevirtual 115, 3) := by decide +kernel
theorem dM_sidesMeet_60 : decode cM_sidesMeet 60 = .ok (.aload_n 0, 1) := by decide +kernel
theorem dM_sidesMeet_61 : decode cM_sidesMeet 61 = .ok (.iload_n 1, 1) := by decide +kernel
theorem dM_sidesMeet_62 : decode cM_sidesMeet 62 = .ok (.iload 9, 2) := by decide +kernel
theorem dM_sidesMeet_64 : decode cM_sidesMeet 64 = .ok (.invokevirtual 111, 3) := by decide +kernel
theorem dM_sidesMeet_67 : decode cM_sidesMeet 67 = .ok (.aload_n 0, 1) := by decide +kernel
theorem dM_sidesMeet_68 : decode cM_sidesMeet 68 = .ok (.iload_n 1, 1) := by decide +kernel
theorem dM_sidesMeet_69 : decode cM_sidesMeet 69 = .ok (.iload 9, 2) := by decide +kernel
theorem dM_sidesMeet_71 : decode cM_sidesMeet 71 = .ok (.invokevirtual 115, 3) := by decide +kernel
theorem dM_sidesMeet_74 : decode cM_sidesMeet 74 = .ok (.invokestatic 122, 3) := by decide +kernel
theorem dM_sidesMeet_77 : decode cM_sidesMeet 77 = .ok (.ireturn, 1) := by decide +kernel
def f_M_sidesMeet (v : MV) (x1 : Int32) (x2 : Int32) (x3 : Int32) (x4 : Int32) (x5 : Int32) (x6 : Int32) (x7 : Int32) : Option Int32 := (f_M_behind x2 x3 x4).bind fun u1 => (f_M_behind x5 x6 x7).bind fun u2 => (f_M_x v x1 x2).bind fun u3 => (f_M_y v x1 x2).bind fun u4 => (f_M_x v x1 u1).bind fun u5 => (f_M_y v x1 u1).bind fun u6 => (f_M_x v x1 x5).bind fun u7 => (f_M_y v x1 x5).bind fun u8 => (f_M_x v x1 u2).bind fun u9 => (f_M_y v x1 u2).bind fun u10 => (f_M_meet u3 u4 u5 u6 u7 u8 u9 u10).bind fun u11 => rb u11
set_option maxHeartbeats 4000000 in
set_option maxRecDepth 100000 in
theorem k_M_sidesMeet (l : Launch) (dC : Nat → ClassId) (dI : Nat → Nat → Nat) (cL cI : ClassId) (qm : Nat → Nat) (v : MV) (x1 : Int32) (x2 : Int32) (x3 : Int32) (x4 : Int32) (x5 : Int32) (x6 : Int32) (x7 : Int32) (r : Int32) (h : f_M_sidesMeet v x1 x2 x3 x4 x5 x6 x7 = some r) : Met l yM_sidesMeet wsM_sidesMeet ({ frames := 4, cells := 0, slots := 0, locals := 126 }) (rd_Pc [.ref (qm 0), .int x1, .int x2, .int x3, .int x4, .int x5, .int x6, .int x7] (fun H => va_P (dC, dI) cls3 (mdW cL cI qm v) H) (dC, dI) cls3 [(cL, .long), (cI, .int)]) (vp_Si (fun z => z = r)) 0 0 (fun _ => False) := by
  refine Met.ofW (cc := cM_sidesMeet) (maxL := 10) (ret := (some .boolean)) (by decide) rfl ?_
  intro p e s m args below meth c s₁ B hml hv
  obtain ⟨rfl, hPm, hK⟩ := hv
  have hx := B.exec
  have hb := B.bytes
  have hr := B.returns
  have hw : ∀ w ∈ wG, w.before ([.ref (qm 0), .int x1, .int x2, .int x3, .int x4, .int x5, .int x6, .int x7] : List Value).toArray s = true := fun w hq => atoms_spec (ws := wsM_sidesMeet) B.pre w (List.mem_cons_of_mem _ hq)
  have hown : s.vm.findClass R_M = some m.cls := findClass_of_methodNamed B.named
  have hlocks := B.notSynchronized
  have hl := lv_entry ([.ref (qm 0), .int x1, .int x2, .int x3, .int x4, .int x5, .int x6, .int x7] : List Value) (n := 10) (Nat.le_of_ble_eq_true rfl)
  rw [lg_entry_eq]
  generalize (lg_sl ([.ref (qm 0), .int x1, .int x2, .int x3, .int x4, .int x5, .int x6, .int x7] : List Value) ++ List.replicate (10 - (lg_sl ([.ref (qm 0), .int x1, .int x2, .int x3, .int x4, .int x5, .int x6, .int x7] : List Value)).length) Slot.unset).toArray = ls at hl ⊢
  have hl : lv_has ls 10 [(0, .ref (qm 0)), (1, .int x1), (2, .int x2), (3, .int x3), (4, .int x4), (5, .int x5), (6, .int x6), (7, .int x7)] := hl
  unfold f_M_sidesMeet at h
  refine lv_iload_n hx hb dM_sidesMeet_0 rfl (lv_at hl 2 rfl) ?_
  refine lv_iload_n hx hb dM_sidesMeet_1 rfl (lv_at hl 3 rfl) ?_
  refine lv_iload hx hb dM_sidesMeet_2 (lv_at hl 4 rfl) ?_
  obtain ⟨u1, hu1, h⟩ := ob_some h
  refine vp_callSi (va_Run.run (va_runS (As := [.int x2, .int x3, .int x4]) (rest := []) ⟨hx, hb, hml, hown, hw⟩ (k_M_behind l dC dI cL cI x2 x3 x4 u1 hu1) (va_cwS 3 hw (gS w_575 w_576 w_2 w_577) rfl rfl rfl (by decide +kernel) ⟨Nat.le_of_ble_eq_true rfl, Nat.le_of_ble_eq_true rfl⟩) ⟨rd_blind, rd_pre trivial hK⟩ rfl rfl hl.1 rfl (lv_room (Nat.le_of_ble_eq_true rfl)) dM_sidesMeet_4 ⟨Nat.le_of_ble_eq_true rfl, Nat.le_of_ble_eq_true rfl⟩)) (fun z hz => ?_)
  rw [hz]; clear hz
  refine lv_istore (lv' := [(8, .int u1), (0, .ref (qm 0)), (1, .int x1), (2, .int x2), (3, .int x3), (4, .int x4), (5, .int x5), (6, .int x6), (7, .int x7)]) hx hb dM_sidesMeet_7 hl (by decide) rfl (fun ls hl => ?_)
  refine lv_iload hx hb dM_sidesMeet_9 (lv_at hl 6 rfl) ?_
  refine lv_iload hx hb dM_sidesMeet_11 (lv_at hl 7 rfl) ?_
  refine lv_iload hx hb dM_sidesMeet_13 (lv_at hl 8 rfl) ?_
  obtain ⟨u2, hu2, h⟩ := ob_some h
  refine vp_callSi (va_Run.run (va_runS (As := [.int x5, .int x6, .int x7]) (rest := []) ⟨hx, hb, hml, hown, hw⟩ (k_M_behind l dC dI cL cI x5 x6 x7 u2 hu2) (va_cwS 3 hw (gS w_575 w_576 w_2 w_577) rfl rfl rfl (by decide +kernel) ⟨Nat.le_of_ble_eq_true rfl, Nat.le_of_ble_eq_true rfl⟩) ⟨rd_blind, rd_pre trivial hK⟩ rfl rfl hl.1 rfl (lv_room (Nat.le_of_ble_eq_true rfl)) dM_sidesMeet_15 ⟨Nat.le_of_ble_eq_true rfl, Nat.le_of_ble_eq_true rfl⟩)) (fun z hz => ?_)
  rw [hz]; clear hz
  refine lv_istore (lv' := [(9, .int u2), (8, .int u1), (0, .ref (qm 0)), (1, .int x1), (2, .int x2), (3, .int x3), (4, .int x4), (5, .int x5), (6, .int x6), (7, .int x7)]) hx hb dM_sidesMeet_18 hl (by decide) rfl (fun ls hl => ?_)
  refine lv_aload_n hx hb dM_sidesMeet_20 rfl (lv_at hl 2 rfl) ?_
  refine lv_iload_n hx hb dM_sidesMeet_21 rfl (lv_at hl 3 rfl) ?_
  refine lv_iload_n hx hb dM_sidesMeet_22 rfl (lv_at hl 4 rfl) ?_
  obtain ⟨u3, hu3, h⟩ := ob_some h
  refine vp_callSl (va_Run.run (va_runV (As := [.int x1, .int x2]) (rest := []) ⟨hx, hb, hml, hown, hw⟩ (k_M_x l dC dI cL cI qm v x1 x2 u3 hu3) (cwV 2 hw (gV w_550 w_552 wp_11 w_2 w_553) rfl rfl rfl (by decide +kernel) ⟨Nat.le_of_ble_eq_true rfl, Nat.le_of_ble_eq_true rfl⟩) ⟨rd_blind, va_recv hK hPm (ci := 2) (q0 := 0) rfl rfl, rd_pre hPm hK⟩ rfl rfl hl.1 rfl (lv_room (Nat.le_of_ble_eq_true rfl)) dM_sidesMeet_23 ⟨Nat.le_of_ble_eq_true rfl, Nat.le_of_ble_eq_true rfl⟩)) (fun z hz => ?_)
  rw [hz]; clear hz
  refine lv_aload_n hx hb dM_sidesMeet_26 rfl (lv_at hl 2 rfl) ?_
  refine lv_iload_n hx hb dM_sidesMeet_27 rfl (lv_at hl 3 rfl) ?_
  refine lv_iload_n hx hb dM_sidesMeet_28 rfl (lv_at hl 4 rfl) ?_
  obtain ⟨u4, hu4, h⟩ := ob_some h
  refine vp_callSl (va_Run.run (va_runV (As := [.int x1, .int x2]) (rest := [.long u3]) ⟨hx, hb, hml, hown, hw⟩ (k_M_y l dC dI cL cI qm v x1 x2 u4 hu4) (cwV 2 hw (gV w_554 w_556 wp_12 w_2 w_557) rfl rfl rfl (by decide +kernel) ⟨Nat.le_of_ble_eq_true rfl, Nat.le_of_ble_eq_true rfl⟩) ⟨rd_blind, va_recv hK hPm (ci := 2) (q0 := 0) rfl rfl, rd_pre hPm hK⟩ rfl rfl hl.1 rfl (lv_room (Nat.le_of_ble_eq_true rfl)) dM_sidesMeet_29 ⟨Nat.le_of_ble_eq_true rfl, Nat.le_of_ble_eq_true rfl⟩)) (fun z hz => ?_)
  rw [hz]; clear hz
  refine lv_aload_n hx hb dM_sidesMeet_32 rfl (lv_at hl 2 rfl) ?_
  refine lv_iload_n hx hb dM_sidesMeet_33 rfl (lv_at hl 3 rfl) ?_
  refine lv_iload hx hb dM_sidesMeet_34 (lv_at hl 1 rfl) ?_
  obtain ⟨u5, hu5, h⟩ := ob_some h
  refine vp_callSl (va_Run.run (va_runV (As := [.int x1, .int u1]) (rest := [.long u4, .long u3]) ⟨hx, hb, hml, hown, hw⟩ (k_M_x l dC dI cL cI qm v x1 u1 u5 hu5) (cwV 2 hw (gV w_550 w_552 wp_11 w_2 w_553) rfl rfl rfl (by decide +kernel) ⟨Nat.le_of_ble_eq_true rfl, Nat.le_of_ble_eq_true rfl⟩) ⟨rd_blind, va_recv hK hPm (ci := 2) (q0 := 0) rfl rfl, rd_pre hPm hK⟩ rfl rfl hl.1 rfl (lv_room (Nat.le_of_ble_eq_true rfl)) dM_sidesMeet_36 ⟨Nat.le_of_ble_eq_true rfl, Nat.le_of_ble_eq_true rfl⟩)) (fun z hz => ?_)
  rw [hz]; clear hz
  refine lv_aload_n hx hb dM_sidesMeet_39 rfl (lv_at hl 2 rfl) ?_
  refine lv_iload_n hx hb dM_sidesMeet_40 rfl (lv_at hl 3 rfl) ?_
  refine lv_iload hx hb dM_sidesMeet_41 (lv_at hl 1 rfl) ?_
  obtain ⟨u6, hu6, h⟩ := ob_some h
  refine vp_callSl (va_Run.run (va_runV (As := [.int x1, .int u1]) (rest := [.long u5, .long u4, .long u3]) ⟨hx, hb, hml, hown, hw⟩ (k_M_y l dC dI cL cI qm v x1 u1 u6 hu6) (cwV 2 hw (gV w_554 w_556 wp_12 w_2 w_557) rfl rfl rfl (by decide +kernel) ⟨Nat.le_of_ble_eq_true rfl, Nat.le_of_ble_eq_true rfl⟩) ⟨rd_blind, va_recv hK hPm (ci := 2) (q0 := 0) rfl rfl, rd_pre hPm hK⟩ rfl rfl hl.1 rfl (lv_room (Nat.le_of_ble_eq_true rfl)) dM_sidesMeet_43 ⟨Nat.le_of_ble_eq_true rfl, Nat.le_of_ble_eq_true rfl⟩)) (fun z hz => ?_)
  rw [hz]; clear hz
  refine lv_aload_n hx hb dM_sidesMeet_46 rfl (lv_at hl 2 rfl) ?_
  refine lv_iload_n hx hb dM_sidesMeet_47 rfl (lv_at hl 3 rfl) ?_
  refine lv_iload hx hb dM_sidesMeet_48 (lv_at hl 7 rfl) ?_
  obtain ⟨u7, hu7, h⟩ := ob_some h
  refine vp_callSl (va_Run.run (va_runV (As := [.int x1, .int x5]) (rest := [.long u6, .long u5, .long u4, .long u3]) ⟨hx, hb, hml, hown, hw⟩ (k_M_x l dC dI cL cI qm v x1 x5 u7 hu7) (cwV 2 hw (gV w_550 w_552 wp_11 w_2 w_553) rfl rfl rfl (by decide +kernel) ⟨Nat.le_of_ble_eq_true rfl, Nat.le_of_ble_eq_true rfl⟩) ⟨rd_blind, va_recv hK hPm (ci := 2) (q0 := 0) rfl rfl, rd_pre hPm hK⟩ rfl rfl hl.1 rfl (lv_room (Nat.le_of_ble_eq_true rfl)) dM_sidesMeet_50 ⟨Nat.le_of_ble_eq_true rfl, Nat.le_of_ble_eq_true rfl⟩)) (fun z hz => ?_)
  rw [hz]; clear hz
  refine lv_aload_n hx hb dM_sidesMeet_53 rfl (lv_at hl 2 rfl) ?_
  refine lv_iload_n hx hb dM_sidesMeet_54 rfl (lv_at hl 3 rfl) ?_
  refine lv_iload hx hb dM_sidesMeet_55 (lv_at hl 7 rfl) ?_
  obtain ⟨u8, hu8, h⟩ := ob_some h
  refine vp_callSl (va_Run.run (wd_runV 10 (As := [.int x1, .int x5]) (rest := [.long u7, .long u6, .long u5, .long u4, .long u3]) ⟨hx, hb, hml, hown, hw⟩ (k_M_y l dC dI cL cI qm v x1 x5 u8 hu8) (cwV 2 hw (gV w_554 w_556 wp_12 w_2 w_557) rfl rfl rfl (by decide +kernel) ⟨Nat.le_of_ble_eq_true rfl, Nat.le_of_ble_eq_true rfl⟩) (Nat.le_of_ble_eq_true rfl) ⟨rd_blind, va_recv hK hPm (ci := 2) (q0 := 0) rfl rfl, rd_pre hPm hK⟩ rfl rfl hl.1 rfl (wd_room (Nat.le_of_ble_eq_true rfl)) dM_sidesMeet_57 ⟨Nat.le_of_ble_eq_true rfl, Nat.le_of_ble_eq_true rfl⟩)) (fun z hz => ?_)
  rw [hz]; clear hz
  refine lv_aload_n hx hb dM_sidesMeet_60 rfl (lv_at hl 2 rfl) ?_
  refine lv_iload_n hx hb dM_sidesMeet_61 rfl (lv_at hl 3 rfl) ?_
  refine lv_iload hx hb dM_sidesMeet_62 (lv_at hl 0 rfl) ?_
  obtain ⟨u9, hu9, h⟩ := ob_some h
  refine vp_callSl (va_Run.run (wd_runV 12 (As := [.int x1, .int u2]) (rest := [.long u8, .long u7, .long u6, .long u5, .long u4, .long u3]) ⟨hx, hb, hml, hown, hw⟩ (k_M_x l dC dI cL cI qm v x1 u2 u9 hu9) (cwV 2 hw (gV w_550 w_552 wp_11 w_2 w_553) rfl rfl rfl (by decide +kernel) ⟨Nat.le_of_ble_eq_true rfl, Nat.le_of_ble_eq_true rfl⟩) (Nat.le_of_ble_eq_true rfl) ⟨rd_blind, va_recv hK hPm (ci := 2) (q0 := 0) rfl rfl, rd_pre hPm hK⟩ rfl rfl hl.1 rfl (wd_room (Nat.le_of_ble_eq_true rfl)) dM_sidesMeet_64 ⟨Nat.le_of_ble_eq_true rfl, Nat.le_of_ble_eq_true rfl⟩)) (fun z hz => ?_)
  rw [hz]; clear hz
  refine lv_aload_n hx hb dM_sidesMeet_67 rfl (lv_at hl 2 rfl) ?_
  refine lv_iload_n hx hb dM_sidesMeet_68 rfl (lv_at hl 3 rfl) ?_
  refine lv_iload hx hb dM_sidesMeet_69 (lv_at hl 0 rfl) ?_
  obtain ⟨u10, hu10, h⟩ := ob_some h
  refine vp_callSl (va_Run.run (wd_runV 14 (As := [.int x1, .int u2]) (rest := [.long u9, .long u8, .long u7, .long u6, .long u5, .long u4, .long u3]) ⟨hx, hb, hml, hown, hw⟩ (k_M_y l dC dI cL cI qm v x1 u2 u10 hu10) (cwV 2 hw (gV w_554 w_556 wp_12 w_2 w_557) rfl rfl rfl (by decide +kernel) ⟨Nat.le_of_ble_eq_true rfl, Nat.le_of_ble_eq_true rfl⟩) (Nat.le_of_ble_eq_true rfl) ⟨rd_blind, va_recv hK hPm (ci := 2) (q0 := 0) rfl rfl, rd_pre hPm hK⟩ rfl rfl hl.1 rfl (wd_room (Nat.le_of_ble_eq_true rfl)) dM_sidesMeet_71 ⟨Nat.le_of_ble_eq_true rfl, Nat.le_of_ble_eq_true rfl⟩)) (fun z hz => ?_)
  rw [hz]; clear hz
  obtain ⟨u11, hu11, h⟩ := ob_some h
  refine vp_callSi (va_Run.run (va_runS (As := [.long u3, .long u4, .long u5, .long u6, .long u7, .long u8, .long u9, .long u10]) (rest := []) ⟨hx, hb, hml, hown, hw⟩ (k_M_meet l dC dI cL cI u3 u4 u5 u6 u7 u8 u9 u10 u11 hu11) (va_cwS 8 hw (gS w_588 w_589 w_2 w_590) rfl rfl rfl (by decide +kernel) ⟨Nat.le_of_ble_eq_true rfl, Nat.le_of_ble_eq_true rfl⟩) ⟨rd_blind, rd_pre trivial hK⟩ rfl rfl hl.1 rfl (lv_room (Nat.le_of_ble_eq_true rfl)) dM_sidesMeet_74 ⟨Nat.le_of_ble_eq_true rfl, Nat.le_of_ble_eq_true rfl⟩)) (fun z hz => ?_)
  rw [hz]; clear hz
  obtain ⟨hz, hr9⟩ := rb_of h
  exact W.zret hx hb hr hz (fun t ht hW => ⟨_, rfl, hr9, ht⟩) nil_locs dM_sidesMeet_77
theorem dM_isCrossing_0 : decode cM_isCrossing 0 = .ok (.iload_n 2, 1) := by decide +kernel
theorem dM_isCrossing_1 : decode cM_isCrossing 1 = .ok (.istore 4, 2) := by decide +kernel
theorem dM_isCrossing_3 : decode cM_isCrossing 3 = .ok (.iload 4, 2) := by decide +kernel
theorem dM_isCrossing_5 : decode cM_isCrossing 5 = .ok (.iload_n 3, 1) := by decide +kernel
theorem dM_isCrossing_6 : decode cM_isCrossing 6 = .ok (.if_icmp .ge 177, 3) := by decide +kernel
theorem dM_isCrossing_9 : decode cM_isCrossing 9 = .ok (.aload_n 0, 1) := by decide +kernel
theorem dM_isCrossing_10 : decode cM_isCrossing 10 = .ok (.iload_n 1, 1) := by decide +kernel
theorem dM_isCrossing_11 : decode cM_isCrossing 11 = .ok (.iload 4, 2) := by decide +kernel
theorem dM_isCrossing_13 : decode cM_isCrossing 13 = .ok (.iload_n 2, 1) := by decide +kernel
theorem dM_isCrossing_14 : decode cM_isCrossing 14 = .ok (.iload_n 3, 1) := by decide +kernel
theorem dM_isCrossing_15 : decode cM_isCrossing 15 = .ok (.invokevirtual 126, 3) := by decide +kernel
theorem dM_isCrossing_18 : decode cM_isCrossing 18 = .ok (.ifCond .eq 5, 3) := by decide +kernel
theorem dM_isCrossing_21 : decode cM_isCrossing 21 = .ok (.iconst 1, 1) := by decide +kernel
theorem dM_isCrossing_22 : decode cM_isCrossing 22 = .ok (.ireturn, 1) := by decide +kernel
theorem dM_isCrossing_23 : decode cM_isCrossing 23 = .ok (.iload_n 2, 1) := by decide +kernel
theorem dM_isCrossing_24 : decode cM_isCrossing 24 = .ok (.istore 5, 2) := by decide +kernel
theorem dM_isCrossing_26 : decode cM_isCrossing 26 = .ok (.iload 5, 2) := by decide +kernel
theorem dM_isCrossing_28 : decode cM_isCrossing 28 = .ok (.iload_n 3, 1) := by decide +kernel
theorem dM_isCrossing_29 : decode cM_isCrossing 29 = .ok (.if_icmp .ge 70, 3) := by decide +kernel
theorem dM_isCrossing_32 : decode cM_isCrossing 32 = .ok (.iload 4, 2) := by decide +kernel
theorem dM_isCrossing_34 : decode cM_isCrossing 34 = .ok (.iload 5, 2) := by decide +kernel
theorem dM_isCrossing_36 : decode cM_isCrossing 36 = .ok (.if_icmp .eq 31, 3) := by decide +kernel
theorem dM_isCrossing_39 : decode cM_isCrossing 39 = .ok (.iload 4, 2) := by decide +kernel
theorem dM_isCrossing_41 : decode cM_isCrossing 41 = .ok (.iload_n 2, 1) := by decide +kernel
theorem dM_isCrossing_42 : decode cM_isCrossing 42 = .ok (.iload_n 3, 1) := by decide +kernel
theorem dM_isCrossing_43 : decode cM_isCrossing 43 = .ok (.invokestatic 118, 3) := by decide +kernel
theorem dM_isCrossing_46 : decode cM_isCrossing 46 = .ok (.iload 5, 2) := by decide +kernel
theorem dM_isCrossing_48 : decode cM_isCrossing 48 = .ok (.if_icmp .eq 19, 3) := by decide +kernel
theorem dM_isCrossing_51 : decode cM_isCrossing 51 = .ok (.iload 5, 2) := by decide +kernel
theorem dM_isCrossing_53 : decode cM_isCrossing 53 = .ok (.iload_n 2, 1) := by decide +kernel
theorem dM_isCrossing_54 : decode cM_isCrossing 54 = .ok (.iload_n 3, 1) := by decide +kernel
theorem dM_isCrossing_55 : decode cM_isCrossing 55 = .ok (.invokestatic 118, 3) := by decide +kernel
theorem dM_isCrossing_58 : decode cM_isCrossing 58 = .ok (.iload 4, 2) := by decide +kernel
theorem dM_isCrossing_60 : decode cM_isCrossing 60 = .ok (.if_icmp .eq 7, 3) := by decide +kernel
theorem dM_isCrossing_63 : decode cM_isCrossing 63 = .ok (.iconst 1, 1) := by decide +kernel
theorem dM_isCrossing_64 : decode cM_isCrossing 64 = .ok (.goto 4, 3) := by decide +kernel
theorem dM_isCrossing_67 : decode cM_isCrossing 67 = .ok (.iconst 0, 1) := by decide +kernel
theorem dM_isCrossing_68 : decode cM_isCrossing 68 = .ok (.istore 6, 2) := by decide +kernel
theorem dM_isCrossing_70 : decode cM_isCrossing 70 = .ok (.iload 6, 2) := by decide +kernel
theorem dM_isCrossing_72 : decode cM_isCrossing 72 = .ok (.ifCond .eq 21, 3) := by decide +kernel
theorem dM_isCrossing_75 : decode cM_isCrossing 75 = .ok (.aload_n 0, 1) := by decide +kernel
theorem dM_isCrossing_76 : decode cM_isCrossing 76 = .ok (.iload_n 1, 1) := by decide +kernel
theorem dM_isCrossing_77 : decode cM_isCrossing 77 = .ok (.iload 4, 2) := by decide +kernel
theorem dM_isCrossing_79 : decode cM_isCrossing 79 = .ok (.iload_n 2, 1) := by decide +kernel
theorem dM_isCrossing_80 : decode cM_isCrossing 80 = .ok (.iload_n 3, 1) := by decide +kernel
theorem dM_isCrossing_81 : decode cM_isCrossing 81 = .ok (.iload 5, 2) := by decide +kernel
theorem dM_isCrossing_83 : decode cM_isCrossing 83 = .ok (.iload_n 2, 1) := by decide +kernel
theorem dM_isCrossing_84 : decode cM_isCrossing 84 = .ok (.iload_n 3, 1) := by decide +kernel
theorem dM_isCrossing_85 : decode cM_isCrossing 85 = .ok (.invokevirtual 130, 3) := by decide +kernel
theorem dM_isCrossing_88 : decode cM_isCrossing 88 = .ok (.ifCond .eq 5, 3) := by decide +kernel
theorem dM_isCrossing_91 : decode cM_isCrossing 91 = .ok (.iconst 1, 1) := by decide +kernel
theorem dM_isCrossing_92 : decode cM_isCrossing 92 = .ok (.ireturn, 1) := by decide +kernel
theorem dM_isCrossing_93 : decode cM_isCrossing 93 = .ok (.iinc 5 1, 3) := by decide +kernel
theorem dM_isCrossing_96 : decode cM_isCrossing 96 = .ok (.goto (-70), 3) := by decide +kernel
theorem dM_isCrossing_99 : decode cM_isCrossing 99 = .ok (.iconst 0, 1) := by decide +kernel
theorem dM_isCrossing_100 : decode cM_isCrossing 100 = .ok (.istore 5, 2) := by decide +kernel
theorem dM_isCrossing_102 : decode cM_isCrossing 102 = .ok (.iconst 0, 1) := by decide +kernel
theorem dM_isCrossing_103 : decode cM_isCrossing 103 = .ok (.istore 6, 2) := by decide +kernel
theorem dM_isCrossing_105 : decode cM_isCrossing 105 = .ok (.iload 6, 2) := by decide +kernel
theorem dM_isCrossing_107 : decode cM_isCrossing 107 = .ok (.aload_n 0, 1) := by decide +kernel
theorem dM_isCrossing_108 : decode cM_isCrossing 108 = .ok (.getfield 29, 3) := by decide +kernel
theorem dM_isCrossing_111 : decode cM_isCrossing 111 = .ok (.iload_n 1, 1) := by decide +kernel
theorem dM_isCrossing_112 : decode cM_isCrossing 112 = .ok (.iaload, 1) := by decide +kernel
theorem dM_isCrossing_113 : decode cM_isCrossing 113 = .ok (.if_icmp .ge 64, 3) := by decide +kernel
theorem dM_isCrossing_116 : decode cM_isCrossing 116 = .ok (.aload_n 0, 1) := by decide +kernel
theorem dM_isCrossing_117 : decode cM_isCrossing 117 = .ok (.getfield 26, 3) := by decide +kernel
theorem dM_isCrossing_120 : decode cM_isCrossing 120 = .ok (.bipush 16, 2) := by decide +kernel
theorem dM_isCrossing_122 : decode cM_isCrossing 122 = .ok (.iload_n 1, 1) := by decide +kernel
theorem dM_isCrossing_123 : decode cM_isCrossing 123 = .ok (.imul, 1) := by decide +kernel
theorem dM_isCrossing_124 : decode cM_isCrossing 124 = .ok (.iload 6, 2) := by decide +kernel
theorem dM_isCrossing_126 : decode cM_isCrossing 126 = .ok (.iadd, 1) := by decide +kernel
theorem dM_isCrossing_127 : decode cM_isCrossing 127 = .ok (.iaload, 1) := by decide +kernel
theorem dM_isCrossing_128 : decode cM_isCrossing 128 = .ok (.istore 7, 2) := by decide +kernel
theorem dM_isCrossing_130 : decode cM_isCrossing 130 = .ok (.iload 5, 2) := by decide +kernel
theorem dM_isCrossing_132 : decode cM_isCrossing 132 = .ok (.istore 8, 2) := by decide +kernel
theorem dM_isCrossing_134 : decode cM_isCrossing 134 = .ok (.iload 8, 2) := by decide +kernel
theorem dM_isCrossing_136 : decode cM_isCrossing 136 = .ok (.iload 7, 2) := by decide +kernel
theorem dM_isCrossing_138 : decode cM_isCrossing 138 = .ok (.if_icmp .ge 29, 3) := by decide +kernel
theorem dM_isCrossing_141 : decode cM_isCrossing 141 = .ok (.aload_n 0, 1) := by decide +kernel
theorem dM_isCrossing_142 : decode cM_isCrossing 142 = .ok (.iload_n 1, 1) := by decide +kernel
theorem dM_isCrossing_143 : decode cM_isCrossing 143 = .ok (.iload 4, 2) := by decide +kernel
theorem dM_isCrossing_145 : decode cM_isCrossing 145 = .ok (.iload_n 2, 1) := by decide +kernel
theorem dM_isCrossing_146 : decode cM_isCrossing 146 = .ok (.iload_n 3, 1) := by decide +kernel
theorem dM_isCrossing_147 : decode cM_isCrossing 147 = .ok (.iload 8, 2) := by decide +kernel
theorem dM_isCrossing_149 : decode cM_isCrossing 149 = .ok (.iload 5, 2) := by decide +kernel
theorem dM_isCrossing_151 : decode cM_isCrossing 151 = .ok (.iload 7, 2) := by decide +kernel
theorem dM_isCrossing_153 : decode cM_isCrossing 153 = .ok (.invokevirtual 130, 3) := by decide +kernel
theorem dM_isCrossing_156 : decode cM_isCrossing 156 = .ok (.ifCond .eq 5, 3) := by decide +kernel
theorem dM_isCrossing_159 : decode cM_isCrossing 159 = .ok (.iconst 1, 1) := by decide +kernel
theorem dM_isCrossing_160 : decode cM_isCrossing 160 = .ok (.ireturn, 1) := by decide +kernel
theorem dM_isCrossing_161 : decode cM_isCrossing 161 = .ok (.iinc 8 1, 3) := by decide +kernel
theorem dM_isCrossing_164 : decode cM_isCrossing 164 = .ok (.goto (-30), 3) := by decide +kernel
theorem dM_isCrossing_167 : decode cM_isCrossing 167 = .ok (.iload 7, 2) := by decide +kernel
theorem dM_isCrossing_169 : decode cM_isCrossing 169 = .ok (.istore 5, 2) := by decide +kernel
theorem dM_isCrossing_171 : decode cM_isCrossing 171 = .ok (.iinc 6 1, 3) := by decide +kernel
theorem dM_isCrossing_174 : decode cM_isCrossing 174 = .ok (.goto (-69), 3) := by decide +kernel
theorem dM_isCrossing_177 : decode cM_isCrossing 177 = .ok (.iinc 4 1, 3) := by decide +kernel
theorem dM_isCrossing_180 : decode cM_isCrossing 180 = .ok (.goto (-177), 3) := by decide +kernel
theorem dM_isCrossing_183 : decode cM_isCrossing 183 = .ok (.iconst 0, 1) := by decide +kernel
theorem dM_isCrossing_184 : decode cM_isCrossing 184 = .ok (.ireturn, 1) := by decide +kernel
def f_M_isCrossing_l134 (v : MV) (K3 : Int32 → Int32 → Int32 → Int32 → Option Int32) (K105 : Int32 → Int32 → Int32 → Int32 → Int32 → Int32 → Option Int32) : Nat → Int32 → Int32 → Int32 → Int32 → Int32 → Int32 → Int32 → Int32 → Option Int32
 | 0, _, _, _, _, _, _, _, _ => none
 | n + 1, p1, p2, p3, p4, p5, p6, p7, p8 => (if p7 ≤ p8 then (K105 p1 p2 p3 p4 p7 (p6 + 1)) else (f_M_sidesMeet v p1 p4 p2 p3 p8 p5 p7).bind fun u17 => (if u17 = 0 then ((f_M_isCrossing_l134 v K3 K105 n) p1 p2 p3 p4 p5 p6 p7 (p8 + 1)) else rb (1 : Int32)))
def f_M_isCrossing_l105 (v : MV) (K3 : Int32 → Int32 → Int32 → Int32 → Option Int32) : Nat → Int32 → Int32 → Int32 → Int32 → Int32 → Int32 → Option Int32
 | 0, _, _, _, _, _, _ => none
 | n + 1, p1, p2, p3, p4, p5, p6 => (ld 40 (md_rings v) p1).bind fun u10 => (if u10 ≤ p6 then (K3 p1 p2 p3 (p4 + 1)) else (ld 640 (md_ends v) (((16 : Int32) * p1) + p6)).bind fun u12 => (f_M_isCrossing_l134 v K3 (f_M_isCrossing_l105 v K3 n) 64 p1 p2 p3 p4 p5 p6 u12 p5))
def f_M_isCrossing_j93 (v : MV) (K3 : Int32 → Int32 → Int32 → Int32 → Option Int32) (K26 : Int32 → Int32 → Int32 → Int32 → Int32 → Option Int32) (p1 : Int32) (p2 : Int32) (p3 : Int32) (p4 : Int32) (p5 : Int32) : Option Int32 := (K26 p1 p2 p3 p4 (p5 + 1))
def f_M_isCrossing_j68 (v : MV) (K3 : Int32 → Int32 → Int32 → Int32 → Option Int32) (K26 : Int32 → Int32 → Int32 → Int32 → Int32 → Option Int32) (p1 : Int32) (p2 : Int32) (p3 : Int32) (p4 : Int32) (p5 : Int32) (s0 : Int32) : Option Int32 := (if s0 = 0 then (f_M_isCrossing_j93 v K3 K26 p1 p2 p3 p4 p5) else (f_M_sidesMeet v p1 p4 p2 p3 p5 p2 p3).bind fun u14 => (if u14 = 0 then (f_M_isCrossing_j93 v K3 K26 p1 p2 p3 p4 p5) else rb (1 : Int32)))
def f_M_isCrossing_j67 (v : MV) (K3 : Int32 → Int32 → Int32 → Int32 → Option Int32) (K26 : Int32 → Int32 → Int32 → Int32 → Int32 → Option Int32) (p1 : Int32) (p2 : Int32) (p3 : Int32) (p4 : Int32) (p5 : Int32) : Option Int32 := (f_M_isCrossing_j68 v K3 K26 p1 p2 p3 p4 p5 (0 : Int32))
def f_M_isCrossing_l26 (v : MV) (K3 : Int32 → Int32 → Int32 → Int32 → Option Int32) : Nat → Int32 → Int32 → Int32 → Int32 → Int32 → Option Int32
 | 0, _, _, _, _, _ => none
 | n + 1, p1, p2, p3, p4, p5 => (if p3 ≤ p5 then (f_M_isCrossing_l105 v K3 64 p1 p2 p3 p4 (0 : Int32) (0 : Int32)) else (if p4 = p5 then (f_M_isCrossing_j67 v K3 (f_M_isCrossing_l26 v K3 n) p1 p2 p3 p4 p5) else (f_M_behind p4 p2 p3).bind fun u6 => (if u6 = p5 then (f_M_isCrossing_j67 v K3 (f_M_isCrossing_l26 v K3 n) p1 p2 p3 p4 p5) else (f_M_behind p5 p2 p3).bind fun u8 => (if u8 = p4 then (f_M_isCrossing_j67 v K3 (f_M_isCrossing_l26 v K3 n) p1 p2 p3 p4 p5) else (f_M_isCrossing_j68 v K3 (f_M_isCrossing_l26 v K3 n) p1 p2 p3 p4 p5 (1 : Int32))))))
def f_M_isCrossing_l3 (v : MV) : Nat → Int32 → Int32 → Int32 → Int32 → Option Int32
 | 0, _, _, _, _ => none
 | n + 1, p1, p2, p3, p4 => (if p3 ≤ p4 then rb (0 : Int32) else (f_M_foldsBack v p1 p4 p2 p3).bind fun u2 => (if u2 = 0 then (f_M_isCrossing_l26 v (f_M_isCrossing_l3 v n) 64 p1 p2 p3 p4 p2) else rb (1 : Int32)))
def f_M_isCrossing (v : MV) (x1 : Int32) (x2 : Int32) (x3 : Int32) : Option Int32 := (f_M_isCrossing_l3 v 64 x1 x2 x3 x2)
set_option maxHeartbeats 4000000 in
set_option maxRecDepth 100000 in
theorem k_M_isCrossing (l : Launch) (dC : Nat → ClassId) (dI : Nat → Nat → Nat) (cL cI : ClassId) (qm : Nat → Nat) (v : MV) (x1 : Int32) (x2 : Int32) (x3 : Int32) (r : Int32) (h : f_M_isCrossing v x1 x2 x3 = some r) : Met l yM_isCrossing wsM_isCrossing ({ frames := 5, cells := 0, slots := 0, locals := 155 }) (rd_Pc [.ref (qm 0), .int x1, .int x2, .int x3] (fun H => va_P (dC, dI) cls3 (mdW cL cI qm v) H) (dC, dI) cls3 [(cL, .long), (cI, .int)]) (vp_Si (fun z => z = r)) 0 0 (fun _ => False) := by
  refine Met.ofW (cc := cM_isCrossing) (maxL := 9) (ret := (some .boolean)) (by decide) rfl ?_
  intro p e s m args below meth c s₁ B hml hv
  obtain ⟨rfl, hPm, hK⟩ := hv
  have hx := B.exec
  have hb := B.bytes
  have hr := B.returns
  have hw : ∀ w ∈ wG, w.before ([.ref (qm 0), .int x1, .int x2, .int x3] : List Value).toArray s = true := fun w hq => atoms_spec (ws := wsM_isCrossing) B.pre w (List.mem_cons_of_mem _ hq)
  have hown : s.vm.findClass R_M = some m.cls := findClass_of_methodNamed B.named
  have hlocks := B.notSynchronized
  have hl := lv_entry ([.ref (qm 0), .int x1, .int x2, .int x3] : List Value) (n := 9) (Nat.le_of_ble_eq_true rfl)
  rw [lg_entry_eq]
  generalize (lg_sl ([.ref (qm 0), .int x1, .int x2, .int x3] : List Value) ++ List.replicate (9 - (lg_sl ([.ref (qm 0), .int x1, .int x2, .int x3] : List Value)).length) Slot.unset).toArray = ls at hl ⊢
  have hl : lv_has ls 9 [(0, .ref (qm 0)), (1, .int x1), (2, .int x2), (3, .int x3)] := hl
  have k3 : ∀ (n3 : Nat), ∀ (p1 : Int32) (p2 : Int32) (p3 : Int32) (p4 : Int32), f_M_isCrossing_l3 v n3 p1 p2 p3 p4 = some r →  ∀ (ls : Array Slot), lv_has ls 9 [(0, .ref (qm 0)), (1, .int p1), (2, .int p2), (3, .int p3), (4, .int p4)] → W p l e (headSpec wsM_isCrossing ({ frames := 5, cells := 0, slots := 0, locals := 155 })).room s m ([.ref (qm 0), .int x1, .int x2, .int x3] : List Value).toArray below meth c s.heap [] 0 0 (MQ below (vp_Si (fun z => z = r)) ([.ref (qm 0), .int x1, .int x2, .int x3] : List Value).toArray s 0 0 (fun _ => False)) (F0 m 3 ls []) := by
    intro n3
    induction n3 with
    | zero => intro p1 p2 p3 p4 h; exact absurd h (by simp [f_M_isCrossing_l3])
    | succ n3 ih3 =>
      have k105 : ∀ (n105 : Nat), ∀ (p1 : Int32) (p2 : Int32) (p3 : Int32) (p4 : Int32) (p5 : Int32) (p6 : Int32), f_M_isCrossing_l105 v (f_M_isCrossing_l3 v n3) n105 p1 p2 p3 p4 p5 p6 = some r →  ∀ (ls : Array Slot), lv_has ls 9 [(0, .ref (qm 0)), (1, .int p1), (2, .int p2), (3, .int p3), (4, .int p4), (5, .int p5), (6, .int p6)] → W p l e (headSpec wsM_isCrossing ({ frames := 5, cells := 0, slots := 0, locals := 155 })).room s m ([.ref (qm 0), .int x1, .int x2, .int x3] : List Value).toArray below meth c s.heap [] 0 0 (MQ below (vp_Si (fun z => z = r)) ([.ref (qm 0), .int x1, .int x2, .int x3] : List Value).toArray s 0 0 (fun _ => False)) (F0 m 105 ls []) := by
        intro n105
        induction n105 with
        | zero => intro p1 p2 p3 p4 p5 p6 h; exact absurd h (by simp [f_M_isCrossing_l105])
        | succ n105 ih105 =>
          have k134 : ∀ (n134 : Nat), ∀ (p1 : Int32) (p2 : Int32) (p3 : Int32) (p4 : Int32) (p5 : Int32) (p6 : Int32) (p7 : Int32) (p8 : Int32), f_M_isCrossing_l134 v (f_M_isCrossing_l3 v n3) (f_M_isCrossing_l105 v (f_M_isCrossing_l3 v n3) n105) n134 p1 p2 p3 p4 p5 p6 p7 p8 = some r →  ∀ (ls : Array Slot), lv_has ls 9 [(0, .ref (qm 0)), (1, .int p1), (2, .int p2), (3, .int p3), (4, .int p4), (5, .int p5), (6, .int p6), (7, .int p7), (8, .int p8)] → W p l e (headSpec wsM_isCrossing ({ frames := 5, cells := 0, slots := 0, locals := 155 })).room s m ([.ref (qm 0), .int x1, .int x2, .int x3] : List Value).toArray below meth c s.heap [] 0 0 (MQ below (vp_Si (fun z => z = r)) ([.ref (qm 0), .int x1, .int x2, .int x3] : List Value).toArray s 0 0 (fun _ => False)) (F0 m 134 ls []) := by
            intro n134
            induction n134 with
            | zero => intro p1 p2 p3 p4 p5 p6 p7 p8 h; exact absurd h (by simp [f_M_isCrossing_l134])
            | succ n134 ih134 =>
              intro p1 p2 p3 p4 p5 p6 p7 p8 h  ls hl
              rw [f_M_isCrossing_l134] at h
              refine lv_iload hx hb dM_isCrossing_134 (lv_at hl 8 rfl) ?_
              refine lv_iload hx hb dM_isCrossing_136 (lv_at hl 7 rfl) ?_
              refine lv_icmp_ge (tgt := 167) hx hb dM_isCrossing_138 (by decide) (fun c16 => ?_) (fun c16 => ?_)
              · have h := it_t c16 h
                refine lv_iload hx hb dM_isCrossing_167 (lv_at hl 7 rfl) ?_
                refine lv_istore (lv' := [(5, .int p7), (0, .ref (qm 0)), (1, .int p1), (2, .int p2), (3, .int p3), (4, .int p4), (6, .int p6), (7, .int p7), (8, .int p8)]) hx hb dM_isCrossing_169 hl (by decide) rfl (fun ls hl => ?_)
                refine lv_iinc (v := p6 + 1) (lv' := [(6, .int (p6 + 1)), (5, .int p7), (0, .ref (qm 0)), (1, .int p1), (2, .int p2), (3, .int p3), (4, .int p4), (7, .int p7), (8, .int p8)]) hx hb dM_isCrossing_171 hl (k := 6) rfl rfl (by decide) rfl (fun ls hl => ?_)
                refine lv_goto (tgt := 105) hx hb dM_isCrossing_174 (by decide) ?_
                exact ih105 p1 p2 p3 p4 p7 (p6 + 1) h ls (lv_sub hl [2, 3, 4, 5, 6, 1, 0] rfl)
              · have h := it_f c16 h
                refine lv_aload_n hx hb dM_isCrossing_141 rfl (lv_at hl 0 rfl) ?_
                refine lv_iload_n hx hb dM_isCrossing_142 rfl (lv_at hl 1 rfl) ?_
                refine lv_iload hx hb dM_isCrossing_143 (lv_at hl 4 rfl) ?_
                refine lv_iload_n hx hb dM_isCrossing_145 rfl (lv_at hl 2 rfl) ?_
                refine lv_iload_n hx hb dM_isCrossing_146 rfl (lv_at hl 3 rfl) ?_
                refine lv_iload hx hb dM_isCrossing_147 (lv_at hl 8 rfl) ?_
                refine lv_iload hx hb dM_isCrossing_149 (lv_at hl 5 rfl) ?_
                refine lv_iload hx hb dM_isCrossing_151 (lv_at hl 7 rfl) ?_
                obtain ⟨u17, hu17, h⟩ := ob_some h
                refine vp_callSi (va_Run.run (va_runV (As := [.int p1, .int p4, .int p2, .int p3, .int p8, .int p5, .int p7]) (rest := []) ⟨hx, hb, hml, hown, hw⟩ (k_M_sidesMeet l dC dI cL cI qm v p1 p4 p2 p3 p8 p5 p7 u17 hu17) (cwV 7 hw (gV w_584 w_586 wp_15 w_2 w_587) rfl rfl rfl (by decide +kernel) ⟨Nat.le_of_ble_eq_true rfl, Nat.le_of_ble_eq_true rfl⟩) ⟨rd_blind, va_recv hK hPm (ci := 2) (q0 := 0) rfl rfl, rd_pre hPm hK⟩ rfl rfl hl.1 rfl (lv_room (Nat.le_of_ble_eq_true rfl)) dM_isCrossing_153 ⟨Nat.le_of_ble_eq_true rfl, Nat.le_of_ble_eq_true rfl⟩)) (fun z hz => ?_)
                rw [hz]; clear hz
                refine lv_if_eq (tgt := 161) hx hb dM_isCrossing_156 (by decide) (fun c18 => ?_) (fun c18 => ?_)
                · have h := it_t c18 h
                  refine lv_iinc (v := p8 + 1) (lv' := [(8, .int (p8 + 1)), (0, .ref (qm 0)), (1, .int p1), (2, .int p2), (3, .int p3), (4, .int p4), (5, .int p5), (6, .int p6), (7, .int p7)]) hx hb dM_isCrossing_161 hl (k := 8) rfl rfl (by decide) rfl (fun ls hl => ?_)
                  refine lv_goto (tgt := 134) hx hb dM_isCrossing_164 (by decide) ?_
                  exact ih134 p1 p2 p3 p4 p5 p6 p7 (p8 + 1) h ls (lv_sub hl [1, 2, 3, 4, 5, 6, 7, 8, 0] rfl)
                · have h := it_f c18 h
                  refine lv_iconst (v := 1) hx hb dM_isCrossing_159 (by decide) ?_
                  obtain ⟨hz, hr9⟩ := rb_of h
                  exact W.zret hx hb hr hz (fun t ht hW => ⟨_, rfl, hr9, ht⟩) nil_locs dM_isCrossing_160
          intro p1 p2 p3 p4 p5 p6 h  ls hl
          rw [f_M_isCrossing_l105] at h
          refine lv_iload hx hb dM_isCrossing_105 (lv_at hl 6 rfl) ?_
          refine lv_aload_n hx hb dM_isCrossing_107 rfl (lv_at hl 0 rfl) ?_
          refine va_get (D := (dC, dI)) (ci := 2) (v := .ref (qm 7)) (C := R_M) (T := T_M) (N := 15) hx hb hw in_M hown hK hPm 0 rfl rfl 8 (by decide) (hw _ w_453) (fun _ h9 => h9) rfl dM_isCrossing_108 ?_
          refine lv_iload_n hx hb dM_isCrossing_111 rfl (lv_at hl 1 rfl) ?_
          obtain ⟨u10, hu10, h⟩ := ob_some h
          obtain ⟨hiu10, eu10⟩ := ld_of hu10
          refine va_iald hx hb hK hPm 7 1 rfl rfl hiu10 dM_isCrossing_112 ?_
          rw [eu10]
          refine lv_icmp_ge (tgt := 177) hx hb dM_isCrossing_113 (by decide) (fun c11 => ?_) (fun c11 => ?_)
          · have h := it_t c11 h
            refine lv_iinc (v := p4 + 1) (lv' := [(4, .int (p4 + 1)), (0, .ref (qm 0)), (1, .int p1), (2, .int p2), (3, .int p3), (5, .int p5), (6, .int p6)]) hx hb dM_isCrossing_177 hl (k := 4) rfl rfl (by decide) rfl (fun ls hl => ?_)
            refine lv_goto (tgt := 3) hx hb dM_isCrossing_180 (by decide) ?_
            exact ih3 p1 p2 p3 (p4 + 1) h ls (lv_sub hl [1, 2, 3, 4, 0] rfl)
          · have h := it_f c11 h
            refine lv_aload_n hx hb dM_isCrossing_116 rfl (lv_at hl 0 rfl) ?_
            refine va_get (D := (dC, dI)) (ci := 2) (v := .ref (qm 6)) (C := R_M) (T := T_M) (N := 15) hx hb hw in_M hown hK hPm 0 rfl rfl 7 (by decide) (hw _ w_452) (fun _ h9 => h9) rfl dM_isCrossing_117 ?_
            refine lv_bipush (v := 16) hx hb dM_isCrossing_120 (by decide) ?_
            refine lv_iload_n hx hb dM_isCrossing_122 rfl (lv_at hl 1 rfl) ?_
            refine lv_imul hx hb dM_isCrossing_123 ?_
            refine lv_iload hx hb dM_isCrossing_124 (lv_at hl 6 rfl) ?_
            refine lv_iadd hx hb dM_isCrossing_126 ?_
            obtain ⟨u12, hu12, h⟩ := ob_some h
            obtain ⟨hiu12, eu12⟩ := ld_of hu12
            refine va_iald hx hb hK hPm 6 1 rfl rfl hiu12 dM_isCrossing_127 ?_
            rw [eu12]
            refine lv_istore (lv' := [(7, .int u12), (0, .ref (qm 0)), (1, .int p1), (2, .int p2), (3, .int p3), (4, .int p4), (5, .int p5), (6, .int p6)]) hx hb dM_isCrossing_128 hl (by decide) rfl (fun ls hl => ?_)
            refine lv_iload hx hb dM_isCrossing_130 (lv_at hl 6 rfl) ?_
            refine lv_istore (lv' := [(8, .int p5), (7, .int u12), (0, .ref (qm 0)), (1, .int p1), (2, .int p2), (3, .int p3), (4, .int p4), (5, .int p5), (6, .int p6)]) hx hb dM_isCrossing_132 hl (by decide) rfl (fun ls hl => ?_)
            exact k134 64 p1 p2 p3 p4 p5 p6 u12 p5 h ls (lv_sub hl [2, 3, 4, 5, 6, 7, 8, 1, 0] rfl)
      have k26 : ∀ (n26 : Nat), ∀ (p1 : Int32) (p2 : Int32) (p3 : Int32) (p4 : Int32) (p5 : Int32), f_M_isCrossing_l26 v (f_M_isCrossing_l3 v n3) n26 p1 p2 p3 p4 p5 = some r →  ∀ (ls : Array Slot), lv_has ls 9 [(0, .ref (qm 0)), (1, .int p1), (2, .int p2), (3, .int p3), (4, .int p4), (5, .int p5)] → W p l e (headSpec wsM_isCrossing ({ frames := 5, cells := 0, slots := 0, locals := 155 })).room s m ([.ref (qm 0), .int x1, .int x2, .int x3] : List Value).toArray below meth c s.heap [] 0 0 (MQ below (vp_Si (fun z => z = r)) ([.ref (qm 0), .int x1, .int x2, .int x3] : List Value).toArray s 0 0 (fun _ => False)) (F0 m 26 ls []) := by
        intro n26
        induction n26 with
        | zero => intro p1 p2 p3 p4 p5 h; exact absurd h (by simp [f_M_isCrossing_l26])
        | succ n26 ih26 =>
          have k93 : ∀ (p1 : Int32) (p2 : Int32) (p3 : Int32) (p4 : Int32) (p5 : Int32), f_M_isCrossing_j93 v (f_M_isCrossing_l3 v n3) (f_M_isCrossing_l26 v (f_M_isCrossing_l3 v n3) n26) p1 p2 p3 p4 p5 = some r →  ∀ (ls : Array Slot), lv_has ls 9 [(0, .ref (qm 0)), (1, .int p1), (2, .int p2), (3, .int p3), (4, .int p4), (5, .int p5)] → W p l e (headSpec wsM_isCrossing ({ frames := 5, cells := 0, slots := 0, locals := 155 })).room s m ([.ref (qm 0), .int x1, .int x2, .int x3] : List Value).toArray below meth c s.heap [] 0 0 (MQ below (vp_Si (fun z => z = r)) ([.ref (qm 0), .int x1, .int x2, .int x3] : List Value).toArray s 0 0 (fun _ => False)) (F0 m 93 ls []) := by
            intro p1 p2 p3 p4 p5 h  ls hl
            unfold f_M_isCrossing_j93 at h
            refine lv_iinc (v := p5 + 1) (lv' := [(5, .int (p5 + 1)), (0, .ref (qm 0)), (1, .int p1), (2, .int p2), (3, .int p3), (4, .int p4)]) hx hb dM_isCrossing_93 hl (k := 5) rfl rfl (by decide) rfl (fun ls hl => ?_)
            refine lv_goto (tgt := 26) hx hb dM_isCrossing_96 (by decide) ?_
            exact ih26 p1 p2 p3 p4 (p5 + 1) h ls (lv_sub hl [1, 2, 3, 4, 5, 0] rfl)
          have k68 : ∀ (p1 : Int32) (p2 : Int32) (p3 : Int32) (p4 : Int32) (p5 : Int32) (s0 : Int32), f_M_isCrossing_j68 v (f_M_isCrossing_l3 v n3) (f_M_isCrossing_l26 v (f_M_isCrossing_l3 v n3) n26) p1 p2 p3 p4 p5 s0 = some r →  ∀ (ls : Array Slot), lv_has ls 9 [(0, .ref (qm 0)), (1, .int p1), (2, .int p2), (3, .int p3), (4, .int p4), (5, .int p5)] → W p l e (headSpec wsM_isCrossing ({ frames := 5, cells := 0, slots := 0, locals := 155 })).room s m ([.ref (qm 0), .int x1, .int x2, .int x3] : List Value).toArray below meth c s.heap [] 0 0 (MQ below (vp_Si (fun z => z = r)) ([.ref (qm 0), .int x1, .int x2, .int x3] : List Value).toArray s 0 0 (fun _ => False)) (F0 m 68 ls [.int s0]) := by
            intro p1 p2 p3 p4 p5 s0 h  ls hl
            unfold f_M_isCrossing_j68 at h
            refine lv_istore (lv' := [(6, .int s0), (0, .ref (qm 0)), (1, .int p1), (2, .int p2), (3, .int p3), (4, .int p4), (5, .int p5)]) hx hb dM_isCrossing_68 hl (by decide) rfl (fun ls hl => ?_)
            refine lv_iload hx hb dM_isCrossing_70 (lv_at hl 0 rfl) ?_
            refine lv_if_eq (tgt := 93) hx hb dM_isCrossing_72 (by decide) (fun c13 => ?_) (fun c13 => ?_)
            · have h := it_t c13 h
              exact k93 p1 p2 p3 p4 p5 h ls (lv_sub hl [1, 2, 3, 4, 5, 6] rfl)
            · have h := it_f c13 h
              refine lv_aload_n hx hb dM_isCrossing_75 rfl (lv_at hl 1 rfl) ?_
              refine lv_iload_n hx hb dM_isCrossing_76 rfl (lv_at hl 2 rfl) ?_
              refine lv_iload hx hb dM_isCrossing_77 (lv_at hl 5 rfl) ?_
              refine lv_iload_n hx hb dM_isCrossing_79 rfl (lv_at hl 3 rfl) ?_
              refine lv_iload_n hx hb dM_isCrossing_80 rfl (lv_at hl 4 rfl) ?_
              refine lv_iload hx hb dM_isCrossing_81 (lv_at hl 6 rfl) ?_
              refine lv_iload_n hx hb dM_isCrossing_83 rfl (lv_at hl 3 rfl) ?_
              refine lv_iload_n hx hb dM_isCrossing_84 rfl (lv_at hl 4 rfl) ?_
              obtain ⟨u14, hu14, h⟩ := ob_some h
              refine vp_callSi (va_Run.run (va_runV (As := [.int p1, .int p4, .int p2, .int p3, .int p5, .int p2, .int p3]) (rest := []) ⟨hx, hb, hml, hown, hw⟩ (k_M_sidesMeet l dC dI cL cI qm v p1 p4 p2 p3 p5 p2 p3 u14 hu14) (cwV 7 hw (gV w_584 w_586 wp_15 w_2 w_587) rfl rfl rfl (by decide +kernel) ⟨Nat.le_of_ble_eq_true rfl, Nat.le_of_ble_eq_true rfl⟩) ⟨rd_blind, va_recv hK hPm (ci := 2) (q0 := 0) rfl rfl, rd_pre hPm hK⟩ rfl rfl hl.1 rfl (lv_room (Nat.le_of_ble_eq_true rfl)) dM_isCrossing_85 ⟨Nat.le_of_ble_eq_true rfl, Nat.le_of_ble_eq_true rfl⟩)) (fun z hz => ?_)
              rw [hz]; clear hz
              refine lv_if_eq (tgt := 93) hx hb dM_isCrossing_88 (by decide) (fun c15 => ?_) (fun c15 => ?_)
              · have h := it_t c15 h
                exact k93 p1 p2 p3 p4 p5 h ls (lv_sub hl [1, 2, 3, 4, 5, 6] rfl)
              · have h := it_f c15 h
                refine lv_iconst (v := 1) hx hb dM_isCrossing_91 (by decide) ?_
                obtain ⟨hz, hr9⟩ := rb_of h
                exact W.zret hx hb hr hz (fun t ht hW => ⟨_, rfl, hr9, ht⟩) nil_locs dM_isCrossing_92
          have k67 : ∀ (p1 : Int32) (p2 : Int32) (p3 : Int32) (p4 : Int32) (p5 : Int32), f_M_isCrossing_j67 v (f_M_isCrossing_l3 v n3) (f_M_isCrossing_l26 v (f_M_isCrossing_l3 v n3) n26) p1 p2 p3 p4 p5 = some r →  ∀ (ls : Array Slot), lv_has ls 9 [(0, .ref (qm 0)), (1, .int p1), (2, .int p2), (3, .int p3), (4, .int p4), (5, .int p5)] → W p l e (headSpec wsM_isCrossing ({ frames := 5, cells := 0, slots := 0, locals := 155 })).room s m ([.ref (qm 0), .int x1, .int x2, .int x3] : List Value).toArray below meth c s.heap [] 0 0 (MQ below (vp_Si (fun z => z = r)) ([.ref (qm 0), .int x1, .int x2, .int x3] : List Value).toArray s 0 0 (fun _ => False)) (F0 m 67 ls []) := by
            intro p1 p2 p3 p4 p5 h  ls hl
            unfold f_M_isCrossing_j67 at h
            refine lv_iconst (v := 0) hx hb dM_isCrossing_67 (by decide) ?_
            exact k68 p1 p2 p3 p4 p5 (0 : Int32) h ls (lv_sub hl [0, 1, 2, 3, 4, 5] rfl)
          intro p1 p2 p3 p4 p5 h  ls hl
          rw [f_M_isCrossing_l26] at h
          refine lv_iload hx hb dM_isCrossing_26 (lv_at hl 5 rfl) ?_
          refine lv_iload_n hx hb dM_isCrossing_28 rfl (lv_at hl 3 rfl) ?_
          refine lv_icmp_ge (tgt := 99) hx hb dM_isCrossing_29 (by decide) (fun c4 => ?_) (fun c4 => ?_)
          · have h := it_t c4 h
            refine lv_iconst (v := 0) hx hb dM_isCrossing_99 (by decide) ?_
            refine lv_istore (lv' := [(5, .int (0 : Int32)), (0, .ref (qm 0)), (1, .int p1), (2, .int p2), (3, .int p3), (4, .int p4)]) hx hb dM_isCrossing_100 hl (by decide) rfl (fun ls hl => ?_)
            refine lv_iconst (v := 0) hx hb dM_isCrossing_102 (by decide) ?_
            refine lv_istore (lv' := [(6, .int (0 : Int32)), (5, .int (0 : Int32)), (0, .ref (qm 0)), (1, .int p1), (2, .int p2), (3, .int p3), (4, .int p4)]) hx hb dM_isCrossing_103 hl (by decide) rfl (fun ls hl => ?_)
            exact k105 64 p1 p2 p3 p4 (0 : Int32) (0 : Int32) h ls (lv_sub hl [2, 3, 4, 5, 6, 1, 0] rfl)
          · have h := it_f c4 h
            refine lv_iload hx hb dM_isCrossing_32 (lv_at hl 4 rfl) ?_
            refine lv_iload hx hb dM_isCrossing_34 (lv_at hl 5 rfl) ?_
            refine lv_icmp_eq (tgt := 67) hx hb dM_isCrossing_36 (by decide) (fun c5 => ?_) (fun c5 => ?_)
            · have h := it_t c5 h
              exact k67 p1 p2 p3 p4 p5 h ls (lv_sub hl [0, 1, 2, 3, 4, 5] rfl)
            · have h := it_f c5 h
              refine lv_iload hx hb dM_isCrossing_39 (lv_at hl 4 rfl) ?_
              refine lv_iload_n hx hb dM_isCrossing_41 rfl (lv_at hl 2 rfl) ?_
              refine lv_iload_n hx hb dM_isCrossing_42 rfl (lv_at hl 3 rfl) ?_
              obtain ⟨u6, hu6, h⟩ := ob_some h
              refine vp_callSi (va_Run.run (va_runS (As := [.int p4, .int p2, .int p3]) (rest := []) ⟨hx, hb, hml, hown, hw⟩ (k_M_behind l dC dI cL cI p4 p2 p3 u6 hu6) (va_cwS 3 hw (gS w_575 w_576 w_2 w_577) rfl rfl rfl (by decide +kernel) ⟨Nat.le_of_ble_eq_true rfl, Nat.le_of_ble_eq_true rfl⟩) ⟨rd_blind, rd_pre trivial hK⟩ rfl rfl hl.1 rfl (lv_room (Nat.le_of_ble_eq_true rfl)) dM_isCrossing_43 ⟨Nat.le_of_ble_eq_true rfl, Nat.le_of_ble_eq_true rfl⟩)) (fun z hz => ?_)
              rw [hz]; clear hz
              refine lv_iload hx hb dM_isCrossing_46 (lv_at hl 5 rfl) ?_
              refine lv_icmp_eq (tgt := 67) hx hb dM_isCrossing_48 (by decide) (fun c7 => ?_) (fun c7 => ?_)
              · have h := it_t c7 h
                exact k67 p1 p2 p3 p4 p5 h ls (lv_sub hl [0, 1, 2, 3, 4, 5] rfl)
              · have h := it_f c7 h
                refine lv_iload hx hb dM_isCrossing_51 (lv_at hl 5 rfl) ?_
                refine lv_iload_n hx hb dM_isCrossing_53 rfl (lv_at hl 2 rfl) ?_
                refine lv_iload_n hx hb dM_isCrossing_54 rfl (lv_at hl 3 rfl) ?_
                obtain ⟨u8, hu8, h⟩ := ob_some h
                refine vp_callSi (va_Run.run (va_runS (As := [.int p5, .int p2, .int p3]) (rest := []) ⟨hx, hb, hml, hown, hw⟩ (k_M_behind l dC dI cL cI p5 p2 p3 u8 hu8) (va_cwS 3 hw (gS w_575 w_576 w_2 w_577) rfl rfl rfl (by decide +kernel) ⟨Nat.le_of_ble_eq_true rfl, Nat.le_of_ble_eq_true rfl⟩) ⟨rd_blind, rd_pre trivial hK⟩ rfl rfl hl.1 rfl (lv_room (Nat.le_of_ble_eq_true rfl)) dM_isCrossing_55 ⟨Nat.le_of_ble_eq_true rfl, Nat.le_of_ble_eq_true rfl⟩)) (fun z hz => ?_)
                rw [hz]; clear hz
                refine lv_iload hx hb dM_isCrossing_58 (lv_at hl 4 rfl) ?_
                refine lv_icmp_eq (tgt := 67) hx hb dM_isCrossing_60 (by decide) (fun c9 => ?_) (fun c9 => ?_)
                · have h := it_t c9 h
                  exact k67 p1 p2 p3 p4 p5 h ls (lv_sub hl [0, 1, 2, 3, 4, 5] rfl)
                · have h := it_f c9 h
                  refine lv_iconst (v := 1) hx hb dM_isCrossing_63 (by decide) ?_
                  refine lv_goto (tgt := 68) hx hb dM_isCrossing_64 (by decide) ?_
                  exact k68 p1 p2 p3 p4 p5 (1 : Int32) h ls (lv_sub hl [0, 1, 2, 3, 4, 5] rfl)
      intro p1 p2 p3 p4 h  ls hl
      rw [f_M_isCrossing_l3] at h
      refine lv_iload hx hb dM_isCrossing_3 (lv_at hl 4 rfl) ?_
      refine lv_iload_n hx hb dM_isCrossing_5 rfl (lv_at hl 3 rfl) ?_
      refine lv_icmp_ge (tgt := 183) hx hb dM_isCrossing_6 (by decide) (fun c1 => ?_) (fun c1 => ?_)
      · have h := it_t c1 h
        refine lv_iconst (v := 0) hx hb dM_isCrossing_183 (by decide) ?_
        obtain ⟨hz, hr9⟩ := rb_of h
        exact W.zret hx hb hr hz (fun t ht hW => ⟨_, rfl, hr9, ht⟩) nil_locs dM_isCrossing_184
      · have h := it_f c1 h
        refine lv_aload_n hx hb dM_isCrossing_9 rfl (lv_at hl 0 rfl) ?_
        refine lv_iload_n hx hb dM_isCrossing_10 rfl (lv_at hl 1 rfl) ?_
        refine lv_iload hx hb dM_isCrossing_11 (lv_at hl 4 rfl) ?_
        refine lv_iload_n hx hb dM_isCrossing_13 rfl (lv_at hl 2 rfl) ?_
        refine lv_iload_n hx hb dM_isCrossing_14 rfl (lv_at hl 3 rfl) ?_
        obtain ⟨u2, hu2, h⟩ := ob_some h
        refine vp_callSi (va_Run.run (va_runV (As := [.int p1, .int p4, .int p2, .int p3]) (rest := []) ⟨hx, hb, hml, hown, hw⟩ (k_M_foldsBack l dC dI cL cI qm v p1 p4 p2 p3 u2 hu2) (cwV 4 hw (gV w_571 w_573 wp_14 w_2 w_574) rfl rfl rfl (by decide +kernel) ⟨Nat.le_of_ble_eq_true rfl, Nat.le_of_ble_eq_true rfl⟩) ⟨rd_blind, va_recv hK hPm (ci := 2) (q0 := 0) rfl rfl, rd_pre hPm hK⟩ rfl rfl hl.1 rfl (lv_room (Nat.le_of_ble_eq_true rfl)) dM_isCrossing_15 ⟨Nat.le_of_ble_eq_true rfl, Nat.le_of_ble_eq_true rfl⟩)) (fun z hz => ?_)
        rw [hz]; clear hz
        refine lv_if_eq (tgt := 23) hx hb dM_isCrossing_18 (by decide) (fun c3 => ?_) (fun c3 => ?_)
        · have h := it_t c3 h
          refine lv_iload_n hx hb dM_isCrossing_23 rfl (lv_at hl 2 rfl) ?_
          refine lv_istore (lv' := [(5, .int p2), (0, .ref (qm 0)), (1, .int p1), (2, .int p2), (3, .int p3), (4, .int p4)]) hx hb dM_isCrossing_24 hl (by decide) rfl (fun ls hl => ?_)
          exact k26 64 p1 p2 p3 p4 p2 h ls (lv_sub hl [1, 2, 3, 4, 5, 0] rfl)
        · have h := it_f c3 h
          refine lv_iconst (v := 1) hx hb dM_isCrossing_21 (by decide) ?_
          obtain ⟨hz, hr9⟩ := rb_of h
          exact W.zret hx hb hr hz (fun t ht hW => ⟨_, rfl, hr9, ht⟩) nil_locs dM_isCrossing_22
  unfold f_M_isCrossing at h
  refine lv_iload_n hx hb dM_isCrossing_0 rfl (lv_at hl 2 rfl) ?_
  refine lv_istore (lv' := [(4, .int x2), (0, .ref (qm 0)), (1, .int x1), (2, .int x2), (3, .int x3)]) hx hb dM_isCrossing_1 hl (by decide) rfl (fun ls hl => ?_)
  exact k3 64 x1 x2 x3 x2 h ls (lv_sub hl [1, 2, 3, 4, 0] rfl)
theorem dM_hasArea_0 : decode cM_hasArea 0 = .ok (.aload_n 0, 1) := by decide +kernel
theorem dM_hasArea_1 : decode cM_hasArea 1 = .ok (.getfield 7, 3) := by decide +kernel
theorem dM_hasArea_4 : decode cM_hasArea 4 = .ok (.iload_n 1, 1) := by decide +kernel
theorem dM_hasArea_5 : decode cM_hasArea 5 = .ok (.iaload, 1) := by decide +kernel
theorem dM_hasArea_6 : decode cM_hasArea 6 = .ok (.iconst 2, 1) := by decide +kernel
theorem dM_hasArea_7 : decode cM_hasArea 7 = .ok (.if_icmp .eq 45, 3) := by decide +kernel
theorem dM_hasArea_10 : decode cM_hasArea 10 = .ok (.aload_n 0, 1) := by decide +kernel
theorem dM_hasArea_11 : decode cM_hasArea 11 = .ok (.getfield 7, 3) := by decide +kernel
theorem dM_hasArea_14 : decode cM_hasArea 14 = .ok (.iload_n 1, 1) := by decide +kernel
theorem dM_hasArea_15 : decode cM_hasArea 15 = .ok (.iaload, 1) := by decide +kernel
theorem dM_hasArea_16 : decode cM_hasArea 16 = .ok (.iconst 1, 1) := by decide +kernel
theorem dM_hasArea_17 : decode cM_hasArea 17 = .ok (.if_icmp .ne 39, 3) := by decide +kernel
theorem dM_hasArea_20 : decode cM_hasArea 20 = .ok (.aload_n 0, 1) := by decide +kernel
theorem dM_hasArea_21 : decode cM_hasArea 21 = .ok (.iload_n 1, 1) := by decide +kernel
theorem dM_hasArea_22 : decode cM_hasArea 22 = .ok (.iconst 0, 1) := by decide +kernel
theorem dM_hasArea_23 : decode cM_hasArea 23 = .ok (.invokevirtual 111, 3) := by decide +kernel
theorem dM_hasArea_26 : decode cM_hasArea 26 = .ok (.aload_n 0, 1) := by decide +kernel
theorem dM_hasArea_27 : decode cM_hasArea 27 = .ok (.iload_n 1, 1) := by decide +kernel
theorem dM_hasArea_28 : decode cM_hasArea 28 = .ok (.iconst 1, 1) := by decide +kernel
theorem dM_hasArea_29 : decode cM_hasArea 29 = .ok (.invokevirtual 111, 3) := by decide +kernel
theorem dM_hasArea_32 : decode cM_hasArea 32 = .ok (.lcmp, 1) := by decide +kernel
theorem dM_hasArea_33 : decode cM_hasArea 33 = .ok (.ifCond .ge 23, 3) := by decide +kernel
theorem dM_hasArea_36 : decode cM_hasArea 36 = .ok (.aload_n 0, 1) := by decide +kernel
theorem dM_hasArea_37 : decode cM_hasArea 37 = .ok (.iload_n 1, 1) := by decide +kernel
theorem dM_hasArea_38 : decode cM_hasArea 38 = .ok (.iconst 0, 1) := by decide +kernel
theorem dM_hasArea_39 : decode cM_hasArea 39 = .ok (.invokevirtual 115, 3) := by decide +kernel
theorem dM_hasArea_42 : decode cM_hasArea 42 = .ok (.aload_n 0, 1) := by decide +kernel
theorem dM_hasArea_43 : decode cM_hasArea 43 = .ok (.iload_n 1, 1) := by decide +kernel
theorem dM_hasArea_44 : decode cM_hasArea 44 = .ok (.iconst 1, 1) := by decide +kernel
theorem dM_hasArea_45 : decode cM_hasArea 45 = .ok (.invokevirtual 115, 3) := by decide +kernel
theorem dM_hasArea_48 : decode cM_hasArea 48 = .ok (.lcmp, 1) := by decide +kernel
theorem dM_hasArea_49 : decode cM_hasArea 49 = .ok (.ifCond .ge 7, 3) := by decide +kernel
theorem dM_hasArea_52 : decode cM_hasArea 52 = .ok (.iconst 1, 1) := by decide +kernel
theorem dM_hasArea_53 : decode cM_hasArea 53 = .ok (.goto 4, 3) := by decide +kernel
theorem dM_hasArea_56 : decode cM_hasArea 56 = .ok (.iconst 0, 1) := by decide +kernel
theorem dM_hasArea_57 : decode cM_hasArea 57 = .ok (.ireturn, 1) := by decide +kernel
def f_M_hasArea_j57 (v : MV) (s0 : Int32) : Option Int32 := rb s0
def f_M_hasArea_j56 (v : MV) : Option Int32 := (f_M_hasArea_j57 v (0 : Int32))
def f_M_hasArea_j52 (v : MV) : Option Int32 := (f_M_hasArea_j57 v (1 : Int32))
def f_M_hasArea (v : MV) (x1 : Int32) : Option Int32 := (ld 40 (md_kinds v) x1).bind fun u1 => (if u1 = (2 : Int32) then (f_M_hasArea_j52 v) else (ld 40 (md_kinds v) x1).bind fun u3 => (if u3 = (1 : Int32) then (f_M_x v x1 (0 : Int32)).bind fun u5 => (f_M_x v x1 (1 : Int32)).bind fun u6 => (if 0 ≤ (lg_cmp u5 u6) then (f_M_hasArea_j56 v) else (f_M_y v x1 (0 : Int32)).bind fun u8 => (f_M_y v x1 (1 : Int32)).bind fun u9 => (if 0 ≤ (lg_cmp u8 u9) then (f_M_hasArea_j56 v) else (f_M_hasArea_j52 v))) else (f_M_hasArea_j56 v)))
set_option maxHeartbeats 4000000 in
set_option maxRecDepth 100000 in
theorem k_M_hasArea (l : Launch) (dC : Nat → ClassId) (dI : Nat → Nat → Nat) (cL cI : ClassId) (qm : Nat → Nat) (v : MV) (x1 : Int32) (r : Int32) (h : f_M_hasArea v x1 = some r) : Met l yM_hasArea wsM_hasArea ({ frames := 1, cells := 0, slots := 0, locals := 22 }) (rd_Pc [.ref (qm 0), .int x1] (fun H => va_P (dC, dI) cls3 (mdW cL cI qm v) H) (dC, dI) cls3 [(cL, .long), (cI, .int)]) (vp_Si (fun z => z = r)) 0 0 (fun _ => False) := by
  refine Met.ofW (cc := cM_hasArea) (maxL := 2) (ret := (some .boolean)) (by decide) rfl ?_
  intro p e s m args below meth c s₁ B hml hv
  obtain ⟨rfl, hPm, hK⟩ := hv
  have hx := B.exec
  have hb := B.bytes
  have hr := B.returns
  have hw : ∀ w ∈ wG, w.before ([.ref (qm 0), .int x1] : List Value).toArray s = true := fun w hq => atoms_spec (ws := wsM_hasArea) B.pre w (List.mem_cons_of_mem _ hq)
  have hown : s.vm.findClass R_M = some m.cls := findClass_of_methodNamed B.named
  have hlocks := B.notSynchronized
  have hl := lv_entry ([.ref (qm 0), .int x1] : List Value) (n := 2) (Nat.le_of_ble_eq_true rfl)
  rw [lg_entry_eq]
  generalize (lg_sl ([.ref (qm 0), .int x1] : List Value) ++ List.replicate (2 - (lg_sl ([.ref (qm 0), .int x1] : List Value)).length) Slot.unset).toArray = ls at hl ⊢
  have hl : lv_has ls 2 [(0, .ref (qm 0)), (1, .int x1)] := hl
  have k57 : ∀ (s0 : Int32), f_M_hasArea_j57 v s0 = some r →  ∀ (ls : Array Slot), lv_has ls 2 [] → W p l e (headSpec wsM_hasArea ({ frames := 1, cells := 0, slots := 0, locals := 22 })).room s m ([.ref (qm 0), .int x1] : List Value).toArray below meth c s.heap [] 0 0 (MQ below (vp_Si (fun z => z = r)) ([.ref (qm 0), .int x1] : List Value).toArray s 0 0 (fun _ => False)) (F0 m 57 ls [.int s0]) := by
    intro s0 h  ls hl
    unfold f_M_hasArea_j57 at h
    obtain ⟨hz, hr9⟩ := rb_of h
    exact W.zret hx hb hr hz (fun t ht hW => ⟨_, rfl, hr9, ht⟩) nil_locs dM_hasArea_57
  have k56 : f_M_hasArea_j56 v = some r →  ∀ (ls : Array Slot), lv_has ls 2 [] → W p l e (headSpec wsM_hasArea ({ frames := 1, cells := 0, slots := 0, locals := 22 })).room s m ([.ref (qm 0), .int x1] : List Value).toArray below meth c s.heap [] 0 0 (MQ below (vp_Si (fun z => z = r)) ([.ref (qm 0), .int x1] : List Value).toArray s 0 0 (fun _ => False)) (F0 m 56 ls []) := by
    intro  h  ls hl
    unfold f_M_hasArea_j56 at h
    refine lv_iconst (v := 0) hx hb dM_hasArea_56 (by decide) ?_
    exact k57 (0 : Int32) h ls (lv_sub hl [] rfl)
  have k52 : f_M_hasArea_j52 v = some r →  ∀ (ls : Array Slot), lv_has ls 2 [] → W p l e (headSpec wsM_hasArea ({ frames := 1, cells := 0, slots := 0, locals := 22 })).room s m ([.ref (qm 0), .int x1] : List Value).toArray below meth c s.heap [] 0 0 (MQ below (vp_Si (fun z => z = r)) ([.ref (qm 0), .int x1] : List Value).toArray s 0 0 (fun _ => False)) (F0 m 52 ls []) := by
    intro  h  ls hl
    unfold f_M_hasArea_j52 at h
    refine lv_iconst (v := 1) hx hb dM_hasArea_52 (by decide) ?_
    refine lv_goto (tgt := 57) hx hb dM_hasArea_53 (by decide) ?_
    exact k57 (1 : Int32) h ls (lv_sub hl [] rfl)
  unfold f_M_hasArea at h
  refine lv_aload_n hx hb dM_hasArea_0 rfl (lv_at hl 0 rfl) ?_
  refine va_get (D := (dC, dI)) (ci := 2) (v := .ref (qm 1)) (C := R_M) (T := T_M) (N := 15) hx hb hw in_M hown hK hPm 0 rfl rfl 2 (by decide) (hw _ w_447) (fun _ h9 => h9) rfl dM_hasArea_1 ?_
  refine lv_iload_n hx hb dM_hasArea_4 rfl (lv_at hl 1 rfl) ?_
  obtain ⟨u1, hu1, h⟩ := ob_some h
  obtain ⟨hiu1, eu1⟩ := ld_of hu1
  refine va_iald hx hb hK hPm 1 1 rfl rfl hiu1 dM_hasArea_5 ?_
  rw [eu1]
  refine lv_iconst (v := 2) hx hb dM_hasArea_6 (by decide) ?_
  refine lv_icmp_eq (tgt := 52) hx hb dM_hasArea_7 (by decide) (fun c2 => ?_) (fun c2 => ?_)
  · have h := it_t c2 h
    exact k52 h ls (lv_sub hl [] rfl)
  · have h := it_f c2 h
    refine lv_aload_n hx hb dM_hasArea_10 rfl (lv_at hl 0 rfl) ?_
    refine va_get (D := (dC, dI)) (ci := 2) (v := .ref (qm 1)) (C := R_M) (T := T_M) (N := 15) hx hb hw in_M hown hK hPm 0 rfl rfl 2 (by decide) (hw _ w_447) (fun _ h9 => h9) rfl dM_hasArea_11 ?_
    refine lv_iload_n hx hb dM_hasArea_14 rfl (lv_at hl 1 rfl) ?_
    obtain ⟨u3, hu3, h⟩ := ob_some h
    obtain ⟨hiu3, eu3⟩ := ld_of hu3
    refine va_iald hx hb hK hPm 1 1 rfl rfl hiu3 dM_hasArea_15 ?_
    rw [eu3]
    refine lv_iconst (v := 1) hx hb dM_hasArea_16 (by decide) ?_
    refine lv_icmp_ne (tgt := 56) hx hb dM_hasArea_17 (by decide) (fun c4 => ?_) (fun c4 => ?_)
    · have h := it_f c4 h
      exact k56 h ls (lv_sub hl [] rfl)
    · have h := it_t c4 h
      refine lv_aload_n hx hb dM_hasArea_20 rfl (lv_at hl 0 rfl) ?_
      refine lv_iload_n hx hb dM_hasArea_21 rfl (lv_at hl 1 rfl) ?_
      refine lv_iconst (v := 0) hx hb dM_hasArea_22 (by decide) ?_
      obtain ⟨u5, hu5, h⟩ := ob_some h
      refine vp_callSl (va_Run.run (va_runV (As := [.int x1, .int (0 : Int32)]) (rest := []) ⟨hx, hb, hml, hown, hw⟩ (k_M_x l dC dI cL cI qm v x1 (0 : Int32) u5 hu5) (cwV 2 hw (gV w_550 w_552 wp_11 w_2 w_553) rfl rfl rfl (by decide +kernel) ⟨Nat.le_of_ble_eq_true rfl, Nat.le_of_ble_eq_true rfl⟩) ⟨rd_blind, va_recv hK hPm (ci := 2) (q0 := 0) rfl rfl, rd_pre hPm hK⟩ rfl rfl hl.1 rfl (lv_room (Nat.le_of_ble_eq_true rfl)) dM_hasArea_23 ⟨Nat.le_of_ble_eq_true rfl, Nat.le_of_ble_eq_true rfl⟩)) (fun z hz => ?_)
      rw [hz]; clear hz
      refine lv_aload_n hx hb dM_hasArea_26 rfl (lv_at hl 0 rfl) ?_
      refine lv_iload_n hx hb dM_hasArea_27 rfl (lv_at hl 1 rfl) ?_
      refine lv_iconst (v := 1) hx hb dM_hasArea_28 (by decide) ?_
      obtain ⟨u6, hu6, h⟩ := ob_some h
      refine vp_callSl (va_Run.run (va_runV (As := [.int x1, .int (1 : Int32)]) (rest := [.long u5]) ⟨hx, hb, hml, hown, hw⟩ (k_M_x l dC dI cL cI qm v x1 (1 : Int32) u6 hu6) (cwV 2 hw (gV w_550 w_552 wp_11 w_2 w_553) rfl rfl rfl (by decide +kernel) ⟨Nat.le_of_ble_eq_true rfl, Nat.le_of_ble_eq_true rfl⟩) ⟨rd_blind, va_recv hK hPm (ci := 2) (q0 := 0) rfl rfl, rd_pre hPm hK⟩ rfl rfl hl.1 rfl (lv_room (Nat.le_of_ble_eq_true rfl)) dM_hasArea_29 ⟨Nat.le_of_ble_eq_true rfl, Nat.le_of_ble_eq_true rfl⟩)) (fun z hz => ?_)
      rw [hz]; clear hz
      refine W.lcmp hx hb dM_hasArea_32 ?_
      refine lv_if_ge (tgt := 56) hx hb dM_hasArea_33 (by decide) (fun c7 => ?_) (fun c7 => ?_)
      · have h := it_t c7 h
        exact k56 h ls (lv_sub hl [] rfl)
      · have h := it_f c7 h
        refine lv_aload_n hx hb dM_hasArea_36 rfl (lv_at hl 0 rfl) ?_
        refine lv_iload_n hx hb dM_hasArea_37 rfl (lv_at hl 1 rfl) ?_
        refine lv_iconst (v := 0) hx hb dM_hasArea_38 (by decide) ?_
        obtain ⟨u8, hu8, h⟩ := ob_some h
        refine vp_callSl (va_Run.run (va_runV (As := [.int x1, .int (0 : Int32)]) (rest := []) ⟨hx, hb, hml, hown, hw⟩ (k_M_y l dC dI cL cI qm v x1 (0 : Int32) u8 hu8) (cwV 2 hw (gV w_554 w_556 wp_12 w_2 w_557) rfl rfl rfl (by decide +kernel) ⟨Nat.le_of_ble_eq_true rfl, Nat.le_of_ble_eq_true rfl⟩) ⟨rd_blind, va_recv hK hPm (ci := 2) (q0 := 0) rfl rfl, rd_pre hPm hK⟩ rfl rfl hl.1 rfl (lv_room (Nat.le_of_ble_eq_true rfl)) dM_hasArea_39 ⟨Nat.le_of_ble_eq_true rfl, Nat.le_of_ble_eq_true rfl⟩)) (fun z hz => ?_)
        rw [hz]; clear hz
        refine lv_aload_n hx hb dM_hasArea_42 rfl (lv_at hl 0 rfl) ?_
        refine lv_iload_n hx hb dM_hasArea_43 rfl (lv_at hl 1 rfl) ?_
        refine lv_iconst (v := 1) hx hb dM_hasArea_44 (by decide) ?_
        obtain ⟨u9, hu9, h⟩ := ob_some h
        refine vp_callSl (va_Run.run (va_runV (As := [.int x1, .int (1 : Int32)]) (rest := [.long u8]) ⟨hx, hb, hml, hown, hw⟩ (k_M_y l dC dI cL cI qm v x1 (1 : Int32) u9 hu9) (cwV 2 hw (gV w_554 w_556 wp_12 w_2 w_557) rfl rfl rfl (by decide +kernel) ⟨Nat.le_of_ble_eq_true rfl, Nat.le_of_ble_eq_true rfl⟩) ⟨rd_blind, va_recv hK hPm (ci := 2) (q0 := 0) rfl rfl, rd_pre hPm hK⟩ rfl rfl hl.1 rfl (lv_room (Nat.le_of_ble_eq_true rfl)) dM_hasArea_45 ⟨Nat.le_of_ble_eq_true rfl, Nat.le_of_ble_eq_true rfl⟩)) (fun z hz => ?_)
        rw [hz]; clear hz
        refine W.lcmp hx hb dM_hasArea_48 ?_
        refine lv_if_ge (tgt := 56) hx hb dM_hasArea_49 (by decide) (fun c10 => ?_) (fun c10 => ?_)
        · have h := it_t c10 h
          exact k56 h ls (lv_sub hl [] rfl)
        · have h := it_f c10 h
          exact k52 h ls (lv_sub hl [] rfl)
theorem dM_isInCore_0 : decode cM_isInCore 0 = .ok (.iconst 0, 1) := by decide +kernel
theorem dM_isInCore_1 : decode cM_isInCore 1 = .ok (.istore 7, 2) := by decide +kernel
theorem dM_isInCore_3 : decode cM_isInCore 3 = .ok (.bipush 48, 2) := by decide +kernel
theorem dM_isInCore_5 : decode cM_isInCore 5 = .ok (.iload_n 1, 1) := by decide +kernel
theorem dM_isInCore_6 : decode cM_isInCore 6 = .ok (.imul, 1) := by decide +kernel
theorem dM_isInCore_7 : decode cM_isInCore 7 = .ok (.istore 8, 2) := by decide +kernel
theorem dM_isInCore_9 : decode cM_isInCore 9 = .ok (.iload 8, 2) := by decide +kernel
theorem dM_isInCore_11 : decode cM_isInCore 11 = .ok (.bipush 48, 2) := by decide +kernel
theorem dM_isInCore_13 : decode cM_isInCore 13 = .ok (.iload_n 1, 1) := by decide +kernel
theorem dM_isInCore_14 : decode cM_isInCore 14 = .ok (.imul, 1) := by decide +kernel
theorem dM_isInCore_15 : decode cM_isInCore 15 = .ok (.aload_n 0, 1) := by decide +kernel
theorem dM_isInCore_16 : decode cM_isInCore 16 = .ok (.getfield 44, 3) := by decide +kernel
theorem dM_isInCore_19 : decode cM_isInCore 19 = .ok (.iload_n 1, 1) := by decide +kernel
theorem dM_isInCore_20 : decode cM_isInCore 20 = .ok (.iaload, 1) := by decide +kernel
theorem dM_isInCore_21 : decode cM_isInCore 21 = .ok (.iadd, 1) := by decide +kernel
theorem dM_isInCore_22 : decode cM_isInCore 22 = .ok (.if_icmp .ge 171, 3) := by decide +kernel
theorem dM_isInCore_25 : decode cM_isInCore 25 = .ok (.lload_n 3, 1) := by decide +kernel
theorem dM_isInCore_26 : decode cM_isInCore 26 = .ok (.lload 5, 2) := by decide +kernel
theorem dM_isInCore_28 : decode cM_isInCore 28 = .ok (.aload_n 0, 1) := by decide +kernel
theorem dM_isInCore_29 : decode cM_isInCore 29 = .ok (.getfield 32, 3) := by decide +kernel
theorem dM_isInCore_32 : decode cM_isInCore 32 = .ok (.iload 8, 2) := by decide +kernel
theorem dM_isInCore_34 : decode cM_isInCore 34 = .ok (.laload, 1) := by decide +kernel
theorem dM_isInCore_35 : decode cM_isInCore 35 = .ok (.aload_n 0, 1) := by decide +kernel
theorem dM_isInCore_36 : decode cM_isInCore 36 = .ok (.getfield 35, 3) := by decide +kernel
theorem dM_isInCore_39 : decode cM_isInCore 39 = .ok (.iload 8, 2) := by decide +kernel
theorem dM_isInCore_41 : decode cM_isInCore 41 = .ok (.laload, 1) := by decide +kernel
theorem dM_isInCore_42 : decode cM_isInCore 42 = .ok (.aload_n 0, 1) := by decide +kernel
theorem dM_isInCore_43 : decode cM_isInCore 43 = .ok (.getfield 38, 3) := by decide +kernel
theorem dM_isInCore_46 : decode cM_isInCore 46 = .ok (.iload 8, 2) := by decide +kernel
theorem dM_isInCore_48 : decode cM_isInCore 48 = .ok (.laload, 1) := by decide +kernel
theorem dM_isInCore_49 : decode cM_isInCore 49 = .ok (.aload_n 0, 1) := by decide +kernel
theorem dM_isInCore_50 : decode cM_isInCore 50 = .ok (.getfield 41, 3) := by decide +kernel
theorem dM_isInCore_53 : decode cM_isInCore 53 = .ok (.iload 8, 2) := by decide +kernel
theorem dM_isInCore_55 : decode cM_isInCore 55 = .ok (.laload, 1) := by decide +kernel
theorem dM_isInCore_56 : decode cM_isInCore 56 = .ok (.invokestatic 107, 3) := by decide +kernel
theorem dM_isInCore_59 : decode cM_isInCore 59 = .ok (.ifCond .eq 5, 3) := by decide +kernel
theorem dM_isInCore_62 : decode cM_isInCore 62 = .ok (.iconst 1, 1) := by decide +kernel
theorem dM_isInCore_63 : decode cM_isInCore 63 = .ok (.ireturn, 1) := by decide +kernel
theorem dM_isInCore_64 : decode cM_isInCore 64 = .ok (.aload_n 0, 1) := by decide +kernel
theorem dM_isInCore_65 : decode cM_isInCore 65 = .ok (.getfield 35, 3) := by decide +kernel
theorem dM_isInCore_68 : decode cM_isInCore 68 = .ok (.iload 8, 2) := by decide +kernel
theorem dM_isInCore_70 : decode cM_isInCore 70 = .ok (.laload, 1) := by decide +kernel
theorem dM_isInCore_71 : decode cM_isInCore 71 = .ok (.lload 5, 2) := by decide +kernel
theorem dM_isInCore_73 : decode cM_isInCore 73 = .ok (.lcmp, 1) := by decide +kernel
theorem dM_isInCore_74 : decode cM_isInCore 74 = .ok (.ifCond .le 7, 3) := by decide +kernel
theorem dM_isInCore_77 : decode cM_isInCore 77 = .ok (.iconst 1, 1) := by decide +kernel
theorem dM_isInCore_78 : decode cM_isInCore 78 = .ok (.goto 4, 3) := by decide +kernel
theorem dM_isInCore_81 : decode cM_isInCore 81 = .ok (.iconst 0, 1) := by decide +kernel
theorem dM_isInCore_82 : decode cM_isInCore 82 = .ok (.aload_n 0, 1) := by decide +kernel
theorem dM_isInCore_83 : decode cM_isInCore 83 = .ok (.getfield 41, 3) := by decide +kernel
theorem dM_isInCore_86 : decode cM_isInCore 86 = .ok (.iload 8, 2) := by decide +kernel
theorem dM_isInCore_88 : decode cM_isInCore 88 = .ok (.laload, 1) := by decide +kernel
theorem dM_isInCore_89 : decode cM_isInCore 89 = .ok (.lload 5, 2) := by decide +kernel
theorem dM_isInCore_91 : decode cM_isInCore 91 = .ok (.lcmp, 1) := by decide +kernel
theorem dM_isInCore_92 : decode cM_isInCore 92 = .ok (.ifCond .le 7, 3) := by decide +kernel
theorem dM_isInCore_95 : decode cM_isInCore 95 = .ok (.iconst 1, 1) := by decide +kernel
theorem dM_isInCore_96 : decode cM_isInCore 96 = .ok (.goto 4, 3) := by decide +kernel
theorem dM_isInCore_99 : decode cM_isInCore 99 = .ok (.iconst 0, 1) := by decide +kernel
theorem dM_isInCore_100 : decode cM_isInCore 100 = .ok (.if_icmp .eq 87, 3) := by decide +kernel
theorem dM_isInCore_103 : decode cM_isInCore 103 = .ok (.aload_n 0, 1) := by decide +kernel
theorem dM_isInCore_104 : decode cM_isInCore 104 = .ok (.getfield 32, 3) := by decide +kernel
theorem dM_isInCore_107 : decode cM_isInCore 107 = .ok (.iload 8, 2) := by decide +kernel
theorem dM_isInCore_109 : decode cM_isInCore 109 = .ok (.laload, 1) := by decide +kernel
theorem dM_isInCore_110 : decode cM_isInCore 110 = .ok (.aload_n 0, 1) := by decide +kernel
theorem dM_isInCore_111 : decode cM_isInCore 111 = .ok (.getfield 35, 3) := by decide +kernel
theorem dM_isInCore_114 : decode cM_isInCore 114 = .ok (.iload 8, 2) := by decide +kernel
theorem dM_isInCore_116 : decode cM_isInCore 116 = .ok (.laload, 1) := by decide +kernel
theorem dM_isInCore_117 : decode cM_isInCore 117 = .ok (.aload_n 0, 1) := by decide +kernel
theorem dM_isInCore_118 : decode cM_isInCore 118 = .ok (.getfield 38, 3) := by decide +kernel
theorem dM_isInCore_121 : decode cM_isInCore 121 = .ok (.iload 8, 2) := by decide +kernel
theorem dM_isInCore_123 : decode cM_isInCore 123 = .ok (.laload, 1) := by decide +kernel
theorem dM_isInCore_124 : decode cM_isInCore 124 = .ok (.aload_n 0, 1) := by decide +kernel
theorem dM_isInCore_125 : decode cM_isInCore 125 = .ok (.getfield 41, 3) := by decide +kernel
theorem dM_isInCore_128 : decode cM_isInCore 128 = .ok (.iload 8, 2) := by decide +kernel
theorem dM_isInCore_130 : decode cM_isInCore 130 = .ok (.laload, 1) := by decide +kernel
theorem dM_isInCore_131 : decode cM_isInCore 131 = .ok (.lload_n 3, 1) := by decide +kernel
theorem dM_isInCore_132 : decode cM_isInCore 132 = .ok (.lload 5, 2) := by decide +kernel
theorem dM_isInCore_134 : decode cM_isInCore 134 = .ok (.invokestatic 103, 3) := by decide +kernel
theorem dM_isInCore_137 : decode cM_isInCore 137 = .ok (.ifCond .le 7, 3) := by decide +kernel
theorem dM_isInCore_140 : decode cM_isInCore 140 = .ok (.iconst 1, 1) := by decide +kernel
theorem dM_isInCore_141 : decode cM_isInCore 141 = .ok (.goto 4, 3) := by decide +kernel
theorem dM_isInCore_144 : decode cM_isInCore 144 = .ok (.iconst 0, 1) := by decide +kernel
theorem dM_isInCore_145 : decode cM_isInCore 145 = .ok (.istore 9, 2) := by decide +kernel
theorem dM_isInCore_147 : decode cM_isInCore 147 = .ok (.iload 9, 2) := by decide +kernel
theorem dM_isInCore_149 : decode cM_isInCore 149 = .ok (.aload_n 0, 1) := by decide +kernel
theorem dM_isInCore_150 : decode cM_isInCore 150 = .ok (.getfield 41, 3) := by decide +kernel
theorem dM_isInCore_153 : decode cM_isInCore 153 = .ok (.iload 8, 2) := by decide +kernel
theorem dM_isInCore_155 : decode cM_isInCore 155 = .ok (.laload, 1) := by decide +kernel
theorem dM_isInCore_156 : decode cM_isInCore 156 = .ok (.aload_n 0, 1) := by decide +kernel
theorem dM_isInCore_157 : decode cM_isInCore 157 = .ok (.getfield 35, 3) := by decide +kernel
theorem dM_isInCore_160 : decode cM_isInCore 160 = .ok (.iload 8, 2) := by decide +kernel
theorem dM_isInCore_162 : decode cM_isInCore 162 = .ok (.laload, 1) := by decide +kernel
theorem dM_isInCore_163 : decode cM_isInCore 163 = .ok (.lcmp, 1) := by decide +kernel
theorem dM_isInCore_164 : decode cM_isInCore 164 = .ok (.ifCond .le 7, 3) := by decide +kernel
theorem dM_isInCore_167 : decode cM_isInCore 167 = .ok (.iconst 1, 1) := by decide +kernel
theorem dM_isInCore_168 : decode cM_isInCore 168 = .ok (.goto 4, 3) := by decide +kernel
theorem dM_isInCore_171 : decode cM_isInCore 171 = .ok (.iconst 0, 1) := by decide +kernel
theorem dM_isInCore_172 : decode cM_isInCore 172 = .ok (.if_icmp .ne 15, 3) := by decide +kernel
theorem dM_isInCore_175 : decode cM_isInCore 175 = .ok (.iload 7, 2) := by decide +kernel
theorem dM_isInCore_177 : decode cM_isInCore 177 = .ok (.ifCond .ne 7, 3) := by decide +kernel
theorem dM_isInCore_180 : decode cM_isInCore 180 = .ok (.iconst 1, 1) := by decide +kernel
theorem dM_isInCore_181 : decode cM_isInCore 181 = .ok (.goto 4, 3) := by decide +kernel
theorem dM_isInCore_184 : decode cM_isInCore 184 = .ok (.iconst 0, 1) := by decide +kernel
theorem dM_isInCore_185 : decode cM_isInCore 185 = .ok (.istore 7, 2) := by decide +kernel
theorem dM_isInCore_187 : decode cM_isInCore 187 = .ok (.iinc 8 1, 3) := by decide +kernel
theorem dM_isInCore_190 : decode cM_isInCore 190 = .ok (.goto (-181), 3) := by decide +kernel
theorem dM_isInCore_193 : decode cM_isInCore 193 = .ok (.iload 7, 2) := by decide +kernel
theorem dM_isInCore_195 : decode cM_isInCore 195 = .ok (.ifCond .eq 15, 3) := by decide +kernel
theorem dM_isInCore_198 : decode cM_isInCore 198 = .ok (.aload_n 0, 1) := by decide +kernel
theorem dM_isInCore_199 : decode cM_isInCore 199 = .ok (.iload_n 2, 1) := by decide +kernel
theorem dM_isInCore_200 : decode cM_isInCore 200 = .ok (.invokevirtual 145, 3) := by decide +kernel
theorem dM_isInCore_203 : decode cM_isInCore 203 = .ok (.ifCond .eq 7, 3) := by decide +kernel
theorem dM_isInCore_206 : decode cM_isInCore 206 = .ok (.iconst 1, 1) := by decide +kernel
theorem dM_isInCore_207 : decode cM_isInCore 207 = .ok (.goto 4, 3) := by decide +kernel
theorem dM_isInCore_210 : decode cM_isInCore 210 = .ok (.iconst 0, 1) := by decide +kernel
theorem dM_isInCore_211 : decode cM_isInCore 211 = .ok (.ireturn, 1) := by decide +kernel
def f_M_isInCore_j211 (v : MV) (s0 : Int32) : Option Int32 := rb s0
def f_M_isInCore_j210 (v : MV) : Option Int32 := (f_M_isInCore_j211 v (0 : Int32))
def f_M_isInCore_j187 (v : MV) (K9 : Int32 → Int32 → Int64 → Int64 → Int32 → Int32 → Option Int32) (p1 : Int32) (p2 : Int32) (p3 : Int64) (p5 : Int64) (p7 : Int32) (p8 : Int32) : Option Int32 := (K9 p1 p2 p3 p5 p7 (p8 + 1))
def f_M_isInCore_j185 (v : MV) (K9 : Int32 → Int32 → Int64 → Int64 → Int32 → Int32 → Option Int32) (p1 : Int32) (p2 : Int32) (p3 : Int64) (p5 : Int64) (p8 : Int32) (s0 : Int32) : Option Int32 := (f_M_isInCore_j187 v K9 p1 p2 p3 p5 s0 p8)
def f_M_isInCore_j172 (v : MV) (K9 : Int32 → Int32 → Int64 → Int64 → Int32 → Int32 → Option Int32) (p1 : Int32) (p2 : Int32) (p3 : Int64) (p5 : Int64) (p7 : Int32) (p8 : Int32) (s0 : Int32) (s1 : Int32) : Option Int32 := (if s0 = s1 then (if p7 = 0 then (f_M_isInCore_j185 v K9 p1 p2 p3 p5 p8 (1 : Int32)) else (f_M_isInCore_j185 v K9 p1 p2 p3 p5 p8 (0 : Int32))) else (f_M_isInCore_j187 v K9 p1 p2 p3 p5 p7 p8))
def f_M_isInCore_j145 (v : MV) (K9 : Int32 → Int32 → Int64 → Int64 → Int32 → Int32 → Option Int32) (p1 : Int32) (p2 : Int32) (p3 : Int64) (p5 : Int64) (p7 : Int32) (p8 : Int32) (s0 : Int32) : Option Int32 := (ld 96 (md_by v) p8).bind fun u23 => (ld 96 (md_ay v) p8).bind fun u24 => (if (lg_cmp u23 u24) ≤ 0 then (f_M_isInCore_j172 v K9 p1 p2 p3 p5 p7 p8 s0 (0 : Int32)) else (f_M_isInCore_j172 v K9 p1 p2 p3 p5 p7 p8 s0 (1 : Int32)))
def f_M_isInCore_j100 (v : MV) (K9 : Int32 → Int32 → Int64 → Int64 → Int32 → Int32 → Option Int32) (p1 : Int32) (p2 : Int32) (p3 : Int64) (p5 : Int64) (p7 : Int32) (p8 : Int32) (s0 : Int32) (s1 : Int32) : Option Int32 := (if s0 = s1 then (f_M_isInCore_j187 v K9 p1 p2 p3 p5 p7 p8) else (ld 96 (md_ax v) p8).bind fun u17 => (ld 96 (md_ay v) p8).bind fun u18 => (ld 96 (md_bx v) p8).bind fun u19 => (ld 96 (md_by v) p8).bind fun u20 => (f_M_turnOf u17 u18 u19 u20 p3 p5).bind fun u21 => (if u21 ≤ 0 then (f_M_isInCore_j145 v K9 p1 p2 p3 p5 p7 p8 (0 : Int32)) else (f_M_isInCore_j145 v K9 p1 p2 p3 p5 p7 p8 (1 : Int32))))
def f_M_isInCore_j82 (v : MV) (K9 : Int32 → Int32 → Int64 → Int64 → Int32 → Int32 → Option Int32) (p1 : Int32) (p2 : Int32) (p3 : Int64) (p5 : Int64) (p7 : Int32) (p8 : Int32) (s0 : Int32) : Option Int32 := (ld 96 (md_by v) p8).bind fun u14 => (if (lg_cmp u14 p5) ≤ 0 then (f_M_isInCore_j100 v K9 p1 p2 p3 p5 p7 p8 s0 (0 : Int32)) else (f_M_isInCore_j100 v K9 p1 p2 p3 p5 p7 p8 s0 (1 : Int32)))
def f_M_isInCore_l9 (v : MV) : Nat → Int32 → Int32 → Int64 → Int64 → Int32 → Int32 → Option Int32
 | 0, _, _, _, _, _, _ => none
 | n + 1, p1, p2, p3, p5, p7, p8 => (ld 2 (md_size v) p1).bind fun u1 => (if (((48 : Int32) * p1) + u1) ≤ p8 then (if p7 = 0 then (f_M_isInCore_j210 v) else (f_M_hasArea v p2).bind fun u4 => (if u4 = 0 then (f_M_isInCore_j210 v) else (f_M_isInCore_j211 v (1 : Int32)))) else (ld 96 (md_ax v) p8).bind fun u6 => (ld 96 (md_ay v) p8).bind fun u7 => (ld 96 (md_bx v) p8).bind fun u8 => (ld 96 (md_by v) p8).bind fun u9 => (f_M_isOn p3 p5 u6 u7 u8 u9).bind fun u10 => (if u10 = 0 then (ld 96 (md_ay v) p8).bind fun u12 => (if (lg_cmp u12 p5) ≤ 0 then (f_M_isInCore_j82 v (f_M_isInCore_l9 v n) p1 p2 p3 p5 p7 p8 (0 : Int32)) else (f_M_isInCore_j82 v (f_M_isInCore_l9 v n) p1 p2 p3 p5 p7 p8 (1 : Int32))) else rb (1 : Int32)))
def f_M_isInCore (v : MV) (x1 : Int32) (x2 : Int32) (x3 : Int64) (x5 : Int64) : Option Int32 := (f_M_isInCore_l9 v 64 x1 x2 x3 x5 (0 : Int32) ((48 : Int32) * x1))
set_option maxHeartbeats 4000000 in
set_option maxRecDepth 100000 in
theorem k_M_isInCore (l : Launch) (dC : Nat → ClassId) (dI : Nat → Nat → Nat) (cL cI : ClassId) (qm : Nat → Nat) (v : MV) (x1 : Int32) (x2 : Int32) (x3 : Int64) (x5 : Int64) (r : Int32) (h : f_M_isInCore v x1 x2 x3 x5 = some r) : Met l yM_isInCore wsM_isInCore ({ frames := 3, cells := 0, slots := 0, locals := 89 }) (rd_Pc [.ref (qm 0), .int x1, .int x2, .long x3, .long x5] (fun H => va_P (dC, dI) cls3 (mdW cL cI qm v) H) (dC, dI) cls3 [(cL, .long), (cI, .int)]) (vp_Si (fun z => z = r)) 0 0 (fun _ => False) := by
  refine Met.ofW (cc := cM_isInCore) (maxL := 10) (ret := (some .boolean)) (by decide) rfl ?_
  intro p e s m args below meth c s₁ B hml hv
  obtain ⟨rfl, hPm, hK⟩ := hv
  have hx := B.exec
  have hb := B.bytes
  have hr := B.returns
  have hw : ∀ w ∈ wG, w.before ([.ref (qm 0), .int x1, .int x2, .long x3, .long x5] : List Value).toArray s = true := fun w hq => atoms_spec (ws := wsM_isInCore) B.pre w (List.mem_cons_of_mem _ hq)
  have hown : s.vm.findClass R_M = some m.cls := findClass_of_methodNamed B.named
  have hlocks := B.notSynchronized
  have hl := lv_entry ([.ref (qm 0), .int x1, .int x2, .long x3, .long x5] : List Value) (n := 10) (Nat.le_of_ble_eq_true rfl)
  rw [lg_entry_eq]
  generalize (lg_sl ([.ref (qm 0), .int x1, .int x2, .long x3, .long x5] : List Value) ++ List.replicate (10 - (lg_sl ([.ref (qm 0), .int x1, .int x2, .long x3, .long x5] : List Value)).length) Slot.unset).toArray = ls at hl ⊢
  have hl : lv_has ls 10 [(0, .ref (qm 0)), (1, .int x1), (2, .int x2), (3, .long x3), (5, .long x5)] := hl
  have k211 : ∀ (s0 : Int32), f_M_isInCore_j211 v s0 = some r →  ∀ (ls : Array Slot), lv_has ls 10 [] → W p l e (headSpec wsM_isInCore ({ frames := 3, cells := 0, slots := 0, locals := 89 })).room s m ([.ref (qm 0), .int x1, .int x2, .long x3, .long x5] : List Value).toArray below meth c s.heap [] 0 0 (MQ below (vp_Si (fun z => z = r)) ([.ref (qm 0), .int x1, .int x2, .long x3, .long x5] : List Value).toArray s 0 0 (fun _ => False)) (F0 m 211 ls [.int s0]) := by
    intro s0 h  ls hl
    unfold f_M_isInCore_j211 at h
    obtain ⟨hz, hr9⟩ := rb_of h
    exact W.zret hx hb hr hz (fun t ht hW => ⟨_, rfl, hr9, ht⟩) nil_locs dM_isInCore_211
  have k210 : f_M_isInCore_j210 v = some r →  ∀ (ls : Array Slot), lv_has ls 10 [] → W p l e (headSpec wsM_isInCore ({ frames := 3, cells := 0, slots := 0, locals := 89 })).room s m ([.ref (qm 0), .int x1, .int x2, .long x3, .long x5] : List Value).toArray below meth c s.heap [] 0 0 (MQ below (vp_Si (fun z => z = r)) ([.ref (qm 0), .int x1, .int x2, .long x3, .long x5] : List Value).toArray s 0 0 (fun _ => False)) (F0 m 210 ls []) := by
    intro  h  ls hl
    unfold f_M_isInCore_j210 at h
    refine lv_iconst (v := 0) hx hb dM_isInCore_210 (by decide) ?_
    exact k211 (0 : Int32) h ls (lv_sub hl [] rfl)
  have k9 : ∀ (n9 : Nat), ∀ (p1 : Int32) (p2 : Int32) (p3 : Int64) (p5 : Int64) (p7 : Int32) (p8 : Int32), f_M_isInCore_l9 v n9 p1 p2 p3 p5 p7 p8 = some r →  ∀ (ls : Array Slot), lv_has ls 10 [(0, .ref (qm 0)), (1, .int p1), (2, .int p2), (3, .long p3), (5, .long p5), (7, .int p7), (8, .int p8)] → W p l e (headSpec wsM_isInCore ({ frames := 3, cells := 0, slots := 0, locals := 89 })).room s m ([.ref (qm 0), .int x1, .int x2, .long x3, .long x5] : List Value).toArray below meth c s.heap [] 0 0 (MQ below (vp_Si (fun z => z = r)) ([.ref (qm 0), .int x1, .int x2, .long x3, .long x5] : List Value).toArray s 0 0 (fun _ => False)) (F0 m 9 ls []) := by
    intro n9
    induction n9 with
    | zero => intro p1 p2 p3 p5 p7 p8 h; exact absurd h (by simp [f_M_isInCore_l9])
    | succ n9 ih9 =>
      have k187 : ∀ (p1 : Int32) (p2 : Int32) (p3 : Int64) (p5 : Int64) (p7 : Int32) (p8 : Int32), f_M_isInCore_j187 v (f_M_isInCore_l9 v n9) p1 p2 p3 p5 p7 p8 = some r →  ∀ (ls : Array Slot), lv_has ls 10 [(0, .ref (qm 0)), (1, .int p1), (2, .int p2), (3, .long p3), (5, .long p5), (7, .int p7), (8, .int p8)] → W p l e (headSpec wsM_isInCore ({ frames := 3, cells := 0, slots := 0, locals := 89 })).room s m ([.ref (qm 0), .int x1, .int x2, .long x3, .long x5] : List Value).toArray below meth c s.heap [] 0 0 (MQ below (vp_Si (fun z => z = r)) ([.ref (qm 0), .int x1, .int x2, .long x3, .long x5] : List Value).toArray s 0 0 (fun _ => False)) (F0 m 187 ls []) := by
        intro p1 p2 p3 p5 p7 p8 h  ls hl
        unfold f_M_isInCore_j187 at h
        refine lv_iinc (v := p8 + 1) (lv' := [(8, .int (p8 + 1)), (0, .ref (qm 0)), (1, .int p1), (2, .int p2), (3, .long p3), (5, .long p5), (7, .int p7)]) hx hb dM_isInCore_187 hl (k := 6) rfl rfl (by decide) rfl (fun ls hl => ?_)
        refine lv_goto (tgt := 9) hx hb dM_isInCore_190 (by decide) ?_
        exact ih9 p1 p2 p3 p5 p7 (p8 + 1) h ls (lv_sub hl [1, 2, 3, 4, 5, 6, 0] rfl)
      have k185 : ∀ (p1 : Int32) (p2 : Int32) (p3 : Int64) (p5 : Int64) (p8 : Int32) (s0 : Int32), f_M_isInCore_j185 v (f_M_isInCore_l9 v n9) p1 p2 p3 p5 p8 s0 = some r →  ∀ (ls : Array Slot), lv_has ls 10 [(0, .ref (qm 0)), (1, .int p1), (2, .int p2), (3, .long p3), (5, .long p5), (8, .int p8)] → W p l e (headSpec wsM_isInCore ({ frames := 3, cells := 0, slots := 0, locals := 89 })).room s m ([.ref (qm 0), .int x1, .int x2, .long x3, .long x5] : List Value).toArray below meth c s.heap [] 0 0 (MQ below (vp_Si (fun z => z = r)) ([.ref (qm 0), .int x1, .int x2, .long x3, .long x5] : List Value).toArray s 0 0 (fun _ => False)) (F0 m 185 ls [.int s0]) := by
        intro p1 p2 p3 p5 p8 s0 h  ls hl
        unfold f_M_isInCore_j185 at h
        refine lv_istore (lv' := [(7, .int s0), (0, .ref (qm 0)), (1, .int p1), (2, .int p2), (3, .long p3), (5, .long p5), (8, .int p8)]) hx hb dM_isInCore_185 hl (by decide) rfl (fun ls hl => ?_)
        exact k187 p1 p2 p3 p5 s0 p8 h ls (lv_sub hl [1, 2, 3, 4, 5, 0, 6] rfl)
      have k172 : ∀ (p1 : Int32) (p2 : Int32) (p3 : Int64) (p5 : Int64) (p7 : Int32) (p8 : Int32) (s0 : Int32) (s1 : Int32), f_M_isInCore_j172 v (f_M_isInCore_l9 v n9) p1 p2 p3 p5 p7 p8 s0 s1 = some r →  ∀ (ls : Array Slot), lv_has ls 10 [(0, .ref (qm 0)), (1, .int p1), (2, .int p2), (3, .long p3), (5, .long p5), (7, .int p7), (8, .int p8)] → W p l e (headSpec wsM_isInCore ({ frames := 3, cells := 0, slots := 0, locals := 89 })).room s m ([.ref (qm 0), .int x1, .int x2, .long x3, .long x5] : List Value).toArray below meth c s.heap [] 0 0 (MQ below (vp_Si (fun z => z = r)) ([.ref (qm 0), .int x1, .int x2, .long x3, .long x5] : List Value).toArray s 0 0 (fun _ => False)) (F0 m 172 ls [.int s1, .int s0]) := by
        intro p1 p2 p3 p5 p7 p8 s0 s1 h  ls hl
        unfold f_M_isInCore_j172 at h
        refine lv_icmp_ne (tgt := 187) hx hb dM_isInCore_172 (by decide) (fun c26 => ?_) (fun c26 => ?_)
        · have h := it_f c26 h
          exact k187 p1 p2 p3 p5 p7 p8 h ls (lv_sub hl [0, 1, 2, 3, 4, 5, 6] rfl)
        · have h := it_t c26 h
          refine lv_iload hx hb dM_isInCore_175 (lv_at hl 5 rfl) ?_
          refine lv_if_ne (tgt := 184) hx hb dM_isInCore_177 (by decide) (fun c27 => ?_) (fun c27 => ?_)
          · have h := it_f c27 h
            refine lv_iconst (v := 0) hx hb dM_isInCore_184 (by decide) ?_
            exact k185 p1 p2 p3 p5 p8 (0 : Int32) h ls (lv_sub hl [0, 1, 2, 3, 4, 6] rfl)
          · have h := it_t c27 h
            refine lv_iconst (v := 1) hx hb dM_isInCore_180 (by decide) ?_
            refine lv_goto (tgt := 185) hx hb dM_isInCore_181 (by decide) ?_
            exact k185 p1 p2 p3 p5 p8 (1 : Int32) h ls (lv_sub hl [0, 1, 2, 3, 4, 6] rfl)
      have k145 : ∀ (p1 : Int32) (p2 : Int32) (p3 : Int64) (p5 : Int64) (p7 : Int32) (p8 : Int32) (s0 : Int32), f_M_isInCore_j145 v (f_M_isInCore_l9 v n9) p1 p2 p3 p5 p7 p8 s0 = some r →  ∀ (ls : Array Slot), lv_has ls 10 [(0, .ref (qm 0)), (1, .int p1), (2, .int p2), (3, .long p3), (5, .long p5), (7, .int p7), (8, .int p8)] → W p l e (headSpec wsM_isInCore ({ frames := 3, cells := 0, slots := 0, locals := 89 })).room s m ([.ref (qm 0), .int x1, .int x2, .long x3, .long x5] : List Value).toArray below meth c s.heap [] 0 0 (MQ below (vp_Si (fun z => z = r)) ([.ref (qm 0), .int x1, .int x2, .long x3, .long x5] : List Value).toArray s 0 0 (fun _ => False)) (F0 m 145 ls [.int s0]) := by
        intro p1 p2 p3 p5 p7 p8 s0 h  ls hl
        unfold f_M_isInCore_j145 at h
        refine lv_istore (lv' := [(9, .int s0), (0, .ref (qm 0)), (1, .int p1), (2, .int p2), (3, .long p3), (5, .long p5), (7, .int p7), (8, .int p8)]) hx hb dM_isInCore_145 hl (by decide) rfl (fun ls hl => ?_)
        refine lv_iload hx hb dM_isInCore_147 (lv_at hl 0 rfl) ?_
        refine lv_aload_n hx hb dM_isInCore_149 rfl (lv_at hl 1 rfl) ?_
        refine va_get (D := (dC, dI)) (ci := 2) (v := .ref (qm 11)) (C := R_M) (T := T_M) (N := 15) hx hb hw in_M hown hK hPm 0 rfl rfl 12 (by decide) (hw _ w_457) (fun _ h9 => h9) rfl dM_isInCore_150 ?_
        refine lv_iload hx hb dM_isInCore_153 (lv_at hl 7 rfl) ?_
        obtain ⟨u23, hu23, h⟩ := ob_some h
        obtain ⟨hiu23, eu23⟩ := ld_of hu23
        refine va_lald hx hb hK hPm 11 0 rfl rfl hiu23 dM_isInCore_155 ?_
        rw [eu23]
        refine lv_aload_n hx hb dM_isInCore_156 rfl (lv_at hl 1 rfl) ?_
        refine va_get (D := (dC, dI)) (ci := 2) (v := .ref (qm 9)) (C := R_M) (T := T_M) (N := 15) hx hb hw in_M hown hK hPm 0 rfl rfl 10 (by decide) (hw _ w_455) (fun _ h9 => h9) rfl dM_isInCore_157 ?_
        refine lv_iload hx hb dM_isInCore_160 (lv_at hl 7 rfl) ?_
        obtain ⟨u24, hu24, h⟩ := ob_some h
        obtain ⟨hiu24, eu24⟩ := ld_of hu24
        refine va_lald hx hb hK hPm 9 0 rfl rfl hiu24 dM_isInCore_162 ?_
        rw [eu24]
        refine W.lcmp hx hb dM_isInCore_163 ?_
        refine lv_if_le (tgt := 171) hx hb dM_isInCore_164 (by decide) (fun c25 => ?_) (fun c25 => ?_)
        · have h := it_t c25 h
          refine lv_iconst (v := 0) hx hb dM_isInCore_171 (by decide) ?_
          exact k172 p1 p2 p3 p5 p7 p8 s0 (0 : Int32) h ls (lv_sub hl [1, 2, 3, 4, 5, 6, 7] rfl)
        · have h := it_f c25 h
          refine lv_iconst (v := 1) hx hb dM_isInCore_167 (by decide) ?_
          refine lv_goto (tgt := 172) hx hb dM_isInCore_168 (by decide) ?_
          exact k172 p1 p2 p3 p5 p7 p8 s0 (1 : Int32) h ls (lv_sub hl [1, 2, 3, 4, 5, 6, 7] rfl)
      have k100 : ∀ (p1 : Int32) (p2 : Int32) (p3 : Int64) (p5 : Int64) (p7 : Int32) (p8 : Int32) (s0 : Int32) (s1 : Int32), f_M_isInCore_j100 v (f_M_isInCore_l9 v n9) p1 p2 p3 p5 p7 p8 s0 s1 = some r →  ∀ (ls : Array Slot), lv_has ls 10 [(0, .ref (qm 0)), (1, .int p1), (2, .int p2), (3, .long p3), (5, .long p5), (7, .int p7), (8, .int p8)] → W p l e (headSpec wsM_isInCore ({ frames := 3, cells := 0, slots := 0, locals := 89 })).room s m ([.ref (qm 0), .int x1, .int x2, .long x3, .long x5] : List Value).toArray below meth c s.heap [] 0 0 (MQ below (vp_Si (fun z => z = r)) ([.ref (qm 0), .int x1, .int x2, .long x3, .long x5] : List Value).toArray s 0 0 (fun _ => False)) (F0 m 100 ls [.int s1, .int s0]) := by
        intro p1 p2 p3 p5 p7 p8 s0 s1 h  ls hl
        unfold f_M_isInCore_j100 at h
        refine lv_icmp_eq (tgt := 187) hx hb dM_isInCore_100 (by decide) (fun c16 => ?_) (fun c16 => ?_)
        · have h := it_t c16 h
          exact k187 p1 p2 p3 p5 p7 p8 h ls (lv_sub hl [0, 1, 2, 3, 4, 5, 6] rfl)
        · have h := it_f c16 h
          refine lv_aload_n hx hb dM_isInCore_103 rfl (lv_at hl 0 rfl) ?_
          refine va_get (D := (dC, dI)) (ci := 2) (v := .ref (qm 8)) (C := R_M) (T := T_M) (N := 15) hx hb hw in_M hown hK hPm 0 rfl rfl 9 (by decide) (hw _ w_454) (fun _ h9 => h9) rfl dM_isInCore_104 ?_
          refine lv_iload hx hb dM_isInCore_107 (lv_at hl 6 rfl) ?_
          obtain ⟨u17, hu17, h⟩ := ob_some h
          obtain ⟨hiu17, eu17⟩ := ld_of hu17
          refine va_lald hx hb hK hPm 8 0 rfl rfl hiu17 dM_isInCore_109 ?_
          rw [eu17]
          refine lv_aload_n hx hb dM_isInCore_110 rfl (lv_at hl 0 rfl) ?_
          refine va_get (D := (dC, dI)) (ci := 2) (v := .ref (qm 9)) (C := R_M) (T := T_M) (N := 15) hx hb hw in_M hown hK hPm 0 rfl rfl 10 (by decide) (hw _ w_455) (fun _ h9 => h9) rfl dM_isInCore_111 ?_
          refine lv_iload hx hb dM_isInCore_114 (lv_at hl 6 rfl) ?_
          obtain ⟨u18, hu18, h⟩ := ob_some h
          obtain ⟨hiu18, eu18⟩ := ld_of hu18
          refine va_lald hx hb hK hPm 9 0 rfl rfl hiu18 dM_isInCore_116 ?_
          rw [eu18]
          refine lv_aload_n hx hb dM_isInCore_117 rfl (lv_at hl 0 rfl) ?_
          refine va_get (D := (dC, dI)) (ci := 2) (v := .ref (qm 10)) (C := R_M) (T := T_M) (N := 15) hx hb hw in_M hown hK hPm 0 rfl rfl 11 (by decide) (hw _ w_456) (fun _ h9 => h9) rfl dM_isInCore_118 ?_
          refine lv_iload hx hb dM_isInCore_121 (lv_at hl 6 rfl) ?_
          obtain ⟨u19, hu19, h⟩ := ob_some h
          obtain ⟨hiu19, eu19⟩ := ld_of hu19
          refine va_lald hx hb hK hPm 10 0 rfl rfl hiu19 dM_isInCore_123 ?_
          rw [eu19]
          refine lv_aload_n hx hb dM_isInCore_124 rfl (lv_at hl 0 rfl) ?_
          refine va_get (D := (dC, dI)) (ci := 2) (v := .ref (qm 11)) (C := R_M) (T := T_M) (N := 15) hx hb hw in_M hown hK hPm 0 rfl rfl 12 (by decide) (hw _ w_457) (fun _ h9 => h9) rfl dM_isInCore_125 ?_
          refine lv_iload hx hb dM_isInCore_128 (lv_at hl 6 rfl) ?_
          obtain ⟨u20, hu20, h⟩ := ob_some h
          obtain ⟨hiu20, eu20⟩ := ld_of hu20
          refine va_lald hx hb hK hPm 11 0 rfl rfl hiu20 dM_isInCore_130 ?_
          rw [eu20]
          refine lv_lload_n hx hb dM_isInCore_131 rfl (lv_at hl 3 rfl) ?_
          refine lv_lload hx hb dM_isInCore_132 (lv_at hl 4 rfl) ?_
          obtain ⟨u21, hu21, h⟩ := ob_some h
          refine vp_callSi (va_Run.run (va_runS (As := [.long u17, .long u18, .long u19, .long u20, .long p3, .long p5]) (rest := []) ⟨hx, hb, hml, hown, hw⟩ (k_M_turnOf l dC dI cL cI u17 u18 u19 u20 p3 p5 u21 hu21) (va_cwS 6 hw (gS w_558 w_559 w_2 w_560) rfl rfl rfl (by decide +kernel) ⟨Nat.le_of_ble_eq_true rfl, Nat.le_of_ble_eq_true rfl⟩) ⟨rd_blind, rd_pre trivial hK⟩ rfl rfl hl.1 rfl (lv_room (Nat.le_of_ble_eq_true rfl)) dM_isInCore_134 ⟨Nat.le_of_ble_eq_true rfl, Nat.le_of_ble_eq_true rfl⟩)) (fun z hz => ?_)
          rw [hz]; clear hz
          refine lv_if_le (tgt := 144) hx hb dM_isInCore_137 (by decide) (fun c22 => ?_) (fun c22 => ?_)
          · have h := it_t c22 h
            refine lv_iconst (v := 0) hx hb dM_isInCore_144 (by decide) ?_
            exact k145 p1 p2 p3 p5 p7 p8 (0 : Int32) h ls (lv_sub hl [0, 1, 2, 3, 4, 5, 6] rfl)
          · have h := it_f c22 h
            refine lv_iconst (v := 1) hx hb dM_isInCore_140 (by decide) ?_
            refine lv_goto (tgt := 145) hx hb dM_isInCore_141 (by decide) ?_
            exact k145 p1 p2 p3 p5 p7 p8 (1 : Int32) h ls (lv_sub hl [0, 1, 2, 3, 4, 5, 6] rfl)
      have k82 : ∀ (p1 : Int32) (p2 : Int32) (p3 : Int64) (p5 : Int64) (p7 : Int32) (p8 : Int32) (s0 : Int32), f_M_isInCore_j82 v (f_M_isInCore_l9 v n9) p1 p2 p3 p5 p7 p8 s0 = some r →  ∀ (ls : Array Slot), lv_has ls 10 [(0, .ref (qm 0)), (1, .int p1), (2, .int p2), (3, .long p3), (5, .long p5), (7, .int p7), (8, .int p8)] → W p l e (headSpec wsM_isInCore ({ frames := 3, cells := 0, slots := 0, locals := 89 })).room s m ([.ref (qm 0), .int x1, .int x2, .long x3, .long x5] : List Value).toArray below meth c s.heap [] 0 0 (MQ below (vp_Si (fun z => z = r)) ([.ref (qm 0), .int x1, .int x2, .long x3, .long x5] : List Value).toArray s 0 0 (fun _ => False)) (F0 m 82 ls [.int s0]) := by
        intro p1 p2 p3 p5 p7 p8 s0 h  ls hl
        unfold f_M_isInCore_j82 at h
        refine lv_aload_n hx hb dM_isInCore_82 rfl (lv_at hl 0 rfl) ?_
        refine va_get (D := (dC, dI)) (ci := 2) (v := .ref (qm 11)) (C := R_M) (T := T_M) (N := 15) hx hb hw in_M hown hK hPm 0 rfl rfl 12 (by decide) (hw _ w_457) (fun _ h9 => h9) rfl dM_isInCore_83 ?_
        refine lv_iload hx hb dM_isInCore_86 (lv_at hl 6 rfl) ?_
        obtain ⟨u14, hu14, h⟩ := ob_some h
        obtain ⟨hiu14, eu14⟩ := ld_of hu14
        refine va_lald hx hb hK hPm 11 0 rfl rfl hiu14 dM_isInCore_88 ?_
        rw [eu14]
        refine lv_lload hx hb dM_isInCore_89 (lv_at hl 4 rfl) ?_
        refine W.lcmp hx hb dM_isInCore_91 ?_
        refine lv_if_le (tgt := 99) hx hb dM_isInCore_92 (by decide) (fun c15 => ?_) (fun c15 => ?_)
        · have h := it_t c15 h
          refine lv_iconst (v := 0) hx hb dM_isInCore_99 (by decide) ?_
          exact k100 p1 p2 p3 p5 p7 p8 s0 (0 : Int32) h ls (lv_sub hl [0, 1, 2, 3, 4, 5, 6] rfl)
        · have h := it_f c15 h
          refine lv_iconst (v := 1) hx hb dM_isInCore_95 (by decide) ?_
          refine lv_goto (tgt := 100) hx hb dM_isInCore_96 (by decide) ?_
          exact k100 p1 p2 p3 p5 p7 p8 s0 (1 : Int32) h ls (lv_sub hl [0, 1, 2, 3, 4, 5, 6] rfl)
      intro p1 p2 p3 p5 p7 p8 h  ls hl
      rw [f_M_isInCore_l9] at h
      refine lv_iload hx hb dM_isInCore_9 (lv_at hl 6 rfl) ?_
      refine lv_bipush (v := 48) hx hb dM_isInCore_11 (by decide) ?_
      refine lv_iload_n hx hb dM_isInCore_13 rfl (lv_at hl 1 rfl) ?_
      refine lv_imul hx hb dM_isInCore_14 ?_
      refine lv_aload_n hx hb dM_isInCore_15 rfl (lv_at hl 0 rfl) ?_
      refine va_get (D := (dC, dI)) (ci := 2) (v := .ref (qm 12)) (C := R_M) (T := T_M) (N := 15) hx hb hw in_M hown hK hPm 0 rfl rfl 13 (by decide) (hw _ w_458) (fun _ h9 => h9) rfl dM_isInCore_16 ?_
      refine lv_iload_n hx hb dM_isInCore_19 rfl (lv_at hl 1 rfl) ?_
      obtain ⟨u1, hu1, h⟩ := ob_some h
      obtain ⟨hiu1, eu1⟩ := ld_of hu1
      refine va_iald hx hb hK hPm 12 1 rfl rfl hiu1 dM_isInCore_20 ?_
      rw [eu1]
      refine lv_iadd hx hb dM_isInCore_21 ?_
      refine lv_icmp_ge (tgt := 193) hx hb dM_isInCore_22 (by decide) (fun c2 => ?_) (fun c2 => ?_)
      · have h := it_t c2 h
        refine lv_iload hx hb dM_isInCore_193 (lv_at hl 5 rfl) ?_
        refine lv_if_eq (tgt := 210) hx hb dM_isInCore_195 (by decide) (fun c3 => ?_) (fun c3 => ?_)
        · have h := it_t c3 h
          exact k210 h ls (lv_sub hl [] rfl)
        · have h := it_f c3 h
          refine lv_aload_n hx hb dM_isInCore_198 rfl (lv_at hl 0 rfl) ?_
          refine lv_iload_n hx hb dM_isInCore_199 rfl (lv_at hl 2 rfl) ?_
          obtain ⟨u4, hu4, h⟩ := ob_some h
          refine vp_callSi (va_Run.run (va_runV (As := [.int p2]) (rest := []) ⟨hx, hb, hml, hown, hw⟩ (k_M_hasArea l dC dI cL cI qm v p2 u4 hu4) (cwV 1 hw (gV w_619 w_621 wp_22 w_2 w_622) rfl rfl rfl (by decide +kernel) ⟨Nat.le_of_ble_eq_true rfl, Nat.le_of_ble_eq_true rfl⟩) ⟨rd_blind, va_recv hK hPm (ci := 2) (q0 := 0) rfl rfl, rd_pre hPm hK⟩ rfl rfl hl.1 rfl (lv_room (Nat.le_of_ble_eq_true rfl)) dM_isInCore_200 ⟨Nat.le_of_ble_eq_true rfl, Nat.le_of_ble_eq_true rfl⟩)) (fun z hz => ?_)
          rw [hz]; clear hz
          refine lv_if_eq (tgt := 210) hx hb dM_isInCore_203 (by decide) (fun c5 => ?_) (fun c5 => ?_)
          · have h := it_t c5 h
            exact k210 h ls (lv_sub hl [] rfl)
          · have h := it_f c5 h
            refine lv_iconst (v := 1) hx hb dM_isInCore_206 (by decide) ?_
            refine lv_goto (tgt := 211) hx hb dM_isInCore_207 (by decide) ?_
            exact k211 (1 : Int32) h ls (lv_sub hl [] rfl)
      · have h := it_f c2 h
        refine lv_lload_n hx hb dM_isInCore_25 rfl (lv_at hl 3 rfl) ?_
        refine lv_lload hx hb dM_isInCore_26 (lv_at hl 4 rfl) ?_
        refine lv_aload_n hx hb dM_isInCore_28 rfl (lv_at hl 0 rfl) ?_
        refine va_get (D := (dC, dI)) (ci := 2) (v := .ref (qm 8)) (C := R_M) (T := T_M) (N := 15) hx hb hw in_M hown hK hPm 0 rfl rfl 9 (by decide) (hw _ w_454) (fun _ h9 => h9) rfl dM_isInCore_29 ?_
        refine lv_iload hx hb dM_isInCore_32 (lv_at hl 6 rfl) ?_
        obtain ⟨u6, hu6, h⟩ := ob_some h
        obtain ⟨hiu6, eu6⟩ := ld_of hu6
        refine va_lald hx hb hK hPm 8 0 rfl rfl hiu6 dM_isInCore_34 ?_
        rw [eu6]
        refine lv_aload_n hx hb dM_isInCore_35 rfl (lv_at hl 0 rfl) ?_
        refine va_get (D := (dC, dI)) (ci := 2) (v := .ref (qm 9)) (C := R_M) (T := T_M) (N := 15) hx hb hw in_M hown hK hPm 0 rfl rfl 10 (by decide) (hw _ w_455) (fun _ h9 => h9) rfl dM_isInCore_36 ?_
        refine lv_iload hx hb dM_isInCore_39 (lv_at hl 6 rfl) ?_
        obtain ⟨u7, hu7, h⟩ := ob_some h
        obtain ⟨hiu7, eu7⟩ := ld_of hu7
        refine va_lald hx hb hK hPm 9 0 rfl rfl hiu7 dM_isInCore_41 ?_
        rw [eu7]
        refine lv_aload_n hx hb dM_isInCore_42 rfl (lv_at hl 0 rfl) ?_
        refine va_get (D := (dC, dI)) (ci := 2) (v := .ref (qm 10)) (C := R_M) (T := T_M) (N := 15) hx hb hw in_M hown hK hPm 0 rfl rfl 11 (by decide) (hw _ w_456) (fun _ h9 => h9) rfl dM_isInCore_43 ?_
        refine lv_iload hx hb dM_isInCore_46 (lv_at hl 6 rfl) ?_
        obtain ⟨u8, hu8, h⟩ := ob_some h
        obtain ⟨hiu8, eu8⟩ := ld_of hu8
        refine va_lald hx hb hK hPm 10 0 rfl rfl hiu8 dM_isInCore_48 ?_
        rw [eu8]
        refine lv_aload_n hx hb dM_isInCore_49 rfl (lv_at hl 0 rfl) ?_
        refine va_get (D := (dC, dI)) (ci := 2) (v := .ref (qm 11)) (C := R_M) (T := T_M) (N := 15) hx hb hw in_M hown hK hPm 0 rfl rfl 12 (by decide) (hw _ w_457) (fun _ h9 => h9) rfl dM_isInCore_50 ?_
        refine lv_iload hx hb dM_isInCore_53 (lv_at hl 6 rfl) ?_
        obtain ⟨u9, hu9, h⟩ := ob_some h
        obtain ⟨hiu9, eu9⟩ := ld_of hu9
        refine va_lald hx hb hK hPm 11 0 rfl rfl hiu9 dM_isInCore_55 ?_
        rw [eu9]
        obtain ⟨u10, hu10, h⟩ := ob_some h
        refine vp_callSi (va_Run.run (va_runS (As := [.long p3, .long p5, .long u6, .long u7, .long u8, .long u9]) (rest := []) ⟨hx, hb, hml, hown, hw⟩ (k_M_isOn l dC dI cL cI p3 p5 u6 u7 u8 u9 u10 hu10) (va_cwS 6 hw (gS w_578 w_579 w_2 w_580) rfl rfl rfl (by decide +kernel) ⟨Nat.le_of_ble_eq_true rfl, Nat.le_of_ble_eq_true rfl⟩) ⟨rd_blind, rd_pre trivial hK⟩ rfl rfl hl.1 rfl (lv_room (Nat.le_of_ble_eq_true rfl)) dM_isInCore_56 ⟨Nat.le_of_ble_eq_true rfl, Nat.le_of_ble_eq_true rfl⟩)) (fun z hz => ?_)
        rw [hz]; clear hz
        refine lv_if_eq (tgt := 64) hx hb dM_isInCore_59 (by decide) (fun c11 => ?_) (fun c11 => ?_)
        · have h := it_t c11 h
          refine lv_aload_n hx hb dM_isInCore_64 rfl (lv_at hl 0 rfl) ?_
          refine va_get (D := (dC, dI)) (ci := 2) (v := .ref (qm 9)) (C := R_M) (T := T_M) (N := 15) hx hb hw in_M hown hK hPm 0 rfl rfl 10 (by decide) (hw _ w_455) (fun _ h9 => h9) rfl dM_isInCore_65 ?_
          refine lv_iload hx hb dM_isInCore_68 (lv_at hl 6 rfl) ?_
          obtain ⟨u12, hu12, h⟩ := ob_some h
          obtain ⟨hiu12, eu12⟩ := ld_of hu12
          refine va_lald hx hb hK hPm 9 0 rfl rfl hiu12 dM_isInCore_70 ?_
          rw [eu12]
          refine lv_lload hx hb dM_isInCore_71 (lv_at hl 4 rfl) ?_
          refine W.lcmp hx hb dM_isInCore_73 ?_
          refine lv_if_le (tgt := 81) hx hb dM_isInCore_74 (by decide) (fun c13 => ?_) (fun c13 => ?_)
          · have h := it_t c13 h
            refine lv_iconst (v := 0) hx hb dM_isInCore_81 (by decide) ?_
            exact k82 p1 p2 p3 p5 p7 p8 (0 : Int32) h ls (lv_sub hl [0, 1, 2, 3, 4, 5, 6] rfl)
          · have h := it_f c13 h
            refine lv_iconst (v := 1) hx hb dM_isInCore_77 (by decide) ?_
            refine lv_goto (tgt := 82) hx hb dM_isInCore_78 (by decide) ?_
            exact k82 p1 p2 p3 p5 p7 p8 (1 : Int32) h ls (lv_sub hl [0, 1, 2, 3, 4, 5, 6] rfl)
        · have h := it_f c11 h
          refine lv_iconst (v := 1) hx hb dM_isInCore_62 (by decide) ?_
          obtain ⟨hz, hr9⟩ := rb_of h
          exact W.zret hx hb hr hz (fun t ht hW => ⟨_, rfl, hr9, ht⟩) nil_locs dM_isInCore_63
  unfold f_M_isInCore at h
  refine lv_iconst (v := 0) hx hb dM_isInCore_0 (by decide) ?_
  refine lv_istore (lv' := [(7, .int (0 : Int32)), (0, .ref (qm 0)), (1, .int x1), (2, .int x2), (3, .long x3), (5, .long x5)]) hx hb dM_isInCore_1 hl (by decide) rfl (fun ls hl => ?_)
  refine lv_bipush (v := 48) hx hb dM_isInCore_3 (by decide) ?_
  refine lv_iload_n hx hb dM_isInCore_5 rfl (lv_at hl 2 rfl) ?_
  refine lv_imul hx hb dM_isInCore_6 ?_
  refine lv_istore (lv' := [(8, .int ((48 : Int32) * x1)), (7, .int (0 : Int32)), (0, .ref (qm 0)), (1, .int x1), (2, .int x2), (3, .long x3), (5, .long x5)]) hx hb dM_isInCore_7 hl (by decide) rfl (fun ls hl => ?_)
  exact k9 64 x1 x2 x3 x5 (0 : Int32) ((48 : Int32) * x1) h ls (lv_sub hl [2, 3, 4, 5, 6, 1, 0] rfl)
theorem dM_haveCommon_0 : decode cM_haveCommon 0 = .ok (.iconst 0, 1) := by decide +kernel
theorem dM_haveCommon_1 : decode cM_haveCommon 1 = .ok (.istore_n 3, 1) := by decide +kernel
theorem dM_haveCommon_2 : decode cM_haveCommon 2 = .ok (.iload_n 3, 1) := by decide +kernel
theorem dM_haveCommon_3 : decode cM_haveCommon 3 = .ok (.aload_n 0, 1) := by decide +kernel
theorem dM_haveCommon_4 : decode cM_haveCommon 4 = .ok (.getfield 44, 3) := by decide +kernel
theorem dM_haveCommon_7 : decode cM_haveCommon 7 = .ok (.iconst 0, 1) := by decide +kernel
theorem dM_haveCommon_8 : decode cM_haveCommon 8 = .ok (.iaload, 1) := by decide +kernel
theorem dM_haveCommon_9 : decode cM_haveCommon 9 = .ok (.if_icmp .ge 116, 3) := by decide +kernel
theorem dM_haveCommon_12 : decode cM_haveCommon 12 = .ok (.aload_n 0, 1) := by decide +kernel
theorem dM_haveCommon_13 : decode cM_haveCommon 13 = .ok (.iconst 1, 1) := by decide +kernel
theorem dM_haveCommon_14 : decode cM_haveCommon 14 = .ok (.iload_n 2, 1) := by decide +kernel
theorem dM_haveCommon_15 : decode cM_haveCommon 15 = .ok (.aload_n 0, 1) := by decide +kernel
theorem dM_haveCommon_16 : decode cM_haveCommon 16 = .ok (.getfield 32, 3) := by decide +kernel
theorem dM_haveCommon_19 : decode cM_haveCommon 19 = .ok (.iload_n 3, 1) := by decide +kernel
theorem dM_haveCommon_20 : decode cM_haveCommon 20 = .ok (.laload, 1) := by decide +kernel
theorem dM_haveCommon_21 : decode cM_haveCommon 21 = .ok (.aload_n 0, 1) := by decide +kernel
theorem dM_haveCommon_22 : decode cM_haveCommon 22 = .ok (.getfield 35, 3) := by decide +kernel
theorem dM_haveCommon_25 : decode cM_haveCommon 25 = .ok (.iload_n 3, 1) := by decide +kernel
theorem dM_haveCommon_26 : decode cM_haveCommon 26 = .ok (.laload, 1) := by decide +kernel
theorem dM_haveCommon_27 : decode cM_haveCommon 27 = .ok (.invokevirtual 161, 3) := by decide +kernel
theorem dM_haveCommon_30 : decode cM_haveCommon 30 = .ok (.ifCond .eq 5, 3) := by decide +kernel
theorem dM_haveCommon_33 : decode cM_haveCommon 33 = .ok (.iconst 1, 1) := by decide +kernel
theorem dM_haveCommon_34 : decode cM_haveCommon 34 = .ok (.ireturn, 1) := by decide +kernel
theorem dM_haveCommon_35 : decode cM_haveCommon 35 = .ok (.bipush 48, 2) := by decide +kernel
theorem dM_haveCommon_37 : decode cM_haveCommon 37 = .ok (.istore 4, 2) := by decide +kernel
theorem dM_haveCommon_39 : decode cM_haveCommon 39 = .ok (.iload 4, 2) := by decide +kernel
theorem dM_haveCommon_41 : decode cM_haveCommon 41 = .ok (.bipush 48, 2) := by decide +kernel
theorem dM_haveCommon_43 : decode cM_haveCommon 43 = .ok (.aload_n 0, 1) := by decide +kernel
theorem dM_haveCommon_44 : decode cM_haveCommon 44 = .ok (.getfield 44, 3) := by decide +kernel
theorem dM_haveCommon_47 : decode cM_haveCommon 47 = .ok (.iconst 1, 1) := by decide +kernel
theorem dM_haveCommon_48 : decode cM_haveCommon 48 = .ok (.iaload, 1) := by decide +kernel
theorem dM_haveCommon_49 : decode cM_haveCommon 49 = .ok (.iadd, 1) := by decide +kernel
theorem dM_haveCommon_50 : decode cM_haveCommon 50 = .ok (.if_icmp .ge 69, 3) := by decide +kernel
theorem dM_haveCommon_53 : decode cM_haveCommon 53 = .ok (.aload_n 0, 1) := by decide +kernel
theorem dM_haveCommon_54 : decode cM_haveCommon 54 = .ok (.getfield 32, 3) := by decide +kernel
theorem dM_haveCommon_57 : decode cM_haveCommon 57 = .ok (.iload_n 3, 1) := by decide +kernel
theorem dM_haveCommon_58 : decode cM_haveCommon 58 = .ok (.laload, 1) := by decide +kernel
theorem dM_haveCommon_59 : decode cM_haveCommon 59 = .ok (.aload_n 0, 1) := by decide +kernel
theorem dM_haveCommon_60 : decode cM_haveCommon 60 = .ok (.getfield 35, 3) := by decide +kernel
theorem dM_haveCommon_63 : decode cM_haveCommon 63 = .ok (.iload_n 3, 1) := by decide +kernel
theorem dM_haveCommon_64 : decode cM_haveCommon 64 = .ok (.laload, 1) := by decide +kernel
theorem dM_haveCommon_65 : decode cM_haveCommon 65 = .ok (.aload_n 0, 1) := by decide +kernel
theorem dM_haveCommon_66 : decode cM_haveCommon 66 = .ok (.getfield 38, 3) := by decide +kernel
theorem dM_haveCommon_69 : decode cM_haveCommon 69 = .ok (.iload_n 3, 1) := by decide +kernel
theorem dM_haveCommon_70 : decode cM_haveCommon 70 = .ok (.laload, 1) := by decide +kernel
theorem dM_haveCommon_71 : decode cM_haveCommon 71 = .ok (.aload_n 0, 1) := by decide +kernel
theorem dM_haveCommon_72 : decode cM_haveCommon 72 = .ok (.getfield 41, 3) := by decide +kernel
theorem dM_haveCommon_75 : decode cM_haveCommon 75 = .ok (.iload_n 3, 1) := by decide +kernel
theorem dM_haveCommon_76 : decode cM_haveCommon 76 = .ok (.laload, 1) := by decide +kernel
theorem dM_haveCommon_77 : decode cM_haveCommon 77 = .ok (.aload_n 0, 1) := by decide +kernel
theorem dM_haveCommon_78 : decode cM_haveCommon 78 = .ok (.getfield 32, 3) := by decide +kernel
theorem dM_haveCommon_81 : decode cM_haveCommon 81 = .ok (.iload 4, 2) := by decide +kernel
theorem dM_haveCommon_83 : decode cM_haveCommon 83 = .ok (.laload, 1) := by decide +kernel
theorem dM_haveCommon_84 : decode cM_haveCommon 84 = .ok (.aload_n 0, 1) := by decide +kernel
theorem dM_haveCommon_85 : decode cM_haveCommon 85 = .ok (.getfield 35, 3) := by decide +kernel
theorem dM_haveCommon_88 : decode cM_haveCommon 88 = .ok (.iload 4, 2) := by decide +kernel
theorem dM_haveCommon_90 : decode cM_haveCommon 90 = .ok (.laload, 1) := by decide +kernel
theorem dM_haveCommon_91 : decode cM_haveCommon 91 = .ok (.aload_n 0, 1) := by decide +kernel
theorem dM_haveCommon_92 : decode cM_haveCommon 92 = .ok (.getfield 38, 3) := by decide +kernel
theorem dM_haveCommon_95 : decode cM_haveCommon 95 = .ok (.iload 4, 2) := by decide +kernel
theorem dM_haveCommon_97 : decode cM_haveCommon 97 = .ok (.laload, 1) := by decide +kernel
theorem dM_haveCommon_98 : decode cM_haveCommon 98 = .ok (.aload_n 0, 1) := by decide +kernel
theorem dM_haveCommon_99 : decode cM_haveCommon 99 = .ok (.getfield 41, 3) := by decide +kernel
theorem dM_haveCommon_102 : decode cM_haveCommon 102 = .ok (.iload 4, 2) := by decide +kernel
theorem dM_haveCommon_104 : decode cM_haveCommon 104 = .ok (.laload, 1) := by decide +kernel
theorem dM_haveCommon_105 : decode cM_haveCommon 105 = .ok (.invokestatic 122, 3) := by decide +kernel
theorem dM_haveCommon_108 : decode cM_haveCommon 108 = .ok (.ifCond .eq 5, 3) := by decide +kernel
theorem dM_haveCommon_111 : decode cM_haveCommon 111 = .ok (.iconst 1, 1) := by decide +kernel
theorem dM_haveCommon_112 : decode cM_haveCommon 112 = .ok (.ireturn, 1) := by decide +kernel
theorem dM_haveCommon_113 : decode cM_haveCommon 113 = .ok (.iinc 4 1, 3) := by decide +kernel
theorem dM_haveCommon_116 : decode cM_haveCommon 116 = .ok (.goto (-77), 3) := by decide +kernel
theorem dM_haveCommon_119 : decode cM_haveCommon 119 = .ok (.iinc 3 1, 3) := by decide +kernel
theorem dM_haveCommon_122 : decode cM_haveCommon 122 = .ok (.goto (-120), 3) := by decide +kernel
theorem dM_haveCommon_125 : decode cM_haveCommon 125 = .ok (.bipush 48, 2) := by decide +kernel
theorem dM_haveCommon_127 : decode cM_haveCommon 127 = .ok (.istore_n 3, 1) := by decide +kernel
theorem dM_haveCommon_128 : decode cM_haveCommon 128 = .ok (.iload_n 3, 1) := by decide +kernel
theorem dM_haveCommon_129 : decode cM_haveCommon 129 = .ok (.bipush 48, 2) := by decide +kernel
theorem dM_haveCommon_131 : decode cM_haveCommon 131 = .ok (.aload_n 0, 1) := by decide +kernel
theorem dM_haveCommon_132 : decode cM_haveCommon 132 = .ok (.getfield 44, 3) := by decide +kernel
theorem dM_haveCommon_135 : decode cM_haveCommon 135 = .ok (.iconst 1, 1) := by decide +kernel
theorem dM_haveCommon_136 : decode cM_haveCommon 136 = .ok (.iaload, 1) := by decide +kernel
theorem dM_haveCommon_137 : decode cM_haveCommon 137 = .ok (.iadd, 1) := by decide +kernel
theorem dM_haveCommon_138 : decode cM_haveCommon 138 = .ok (.if_icmp .ge 32, 3) := by decide +kernel
theorem dM_haveCommon_141 : decode cM_haveCommon 141 = .ok (.aload_n 0, 1) := by decide +kernel
theorem dM_haveCommon_142 : decode cM_haveCommon 142 = .ok (.iconst 0, 1) := by decide +kernel
theorem dM_haveCommon_143 : decode cM_haveCommon 143 = .ok (.iload_n 1, 1) := by decide +kernel
theorem dM_haveCommon_144 : decode cM_haveCommon 144 = .ok (.aload_n 0, 1) := by decide +kernel
theorem dM_haveCommon_145 : decode cM_haveCommon 145 = .ok (.getfield 32, 3) := by decide +kernel
theorem dM_haveCommon_148 : decode cM_haveCommon 148 = .ok (.iload_n 3, 1) := by decide +kernel
theorem dM_haveCommon_149 : decode cM_haveCommon 149 = .ok (.laload, 1) := by decide +kernel
theorem dM_haveCommon_150 : decode cM_haveCommon 150 = .ok (.aload_n 0, 1) := by decide +kernel
theorem dM_haveCommon_151 : decode cM_haveCommon 151 = .ok (.getfield 35, 3) := by decide +kernel
theorem dM_haveCommon_154 : decode cM_haveCommon 154 = .ok (.iload_n 3, 1) := by decide +kernel
theorem dM_haveCommon_155 : decode cM_haveCommon 155 = .ok (.laload, 1) := by decide +kernel
theorem dM_haveCommon_156 : decode cM_haveCommon 156 = .ok (.invokevirtual 161, 3) := by decide +kernel
theorem dM_haveCommon_159 : decode cM_haveCommon 159 = .ok (.ifCond .eq 5, 3) := by decide +kernel
theorem dM_haveCommon_162 : decode cM_haveCommon 162 = .ok (.iconst 1, 1) := by decide +kernel
theorem dM_haveCommon_163 : decode cM_haveCommon 163 = .ok (.ireturn, 1) := by decide +kernel
theorem dM_haveCommon_164 : decode cM_haveCommon 164 = .ok (.iinc 3 1, 3) := by decide +kernel
theorem dM_haveCommon_167 : decode cM_haveCommon 167 = .ok (.goto (-39), 3) := by decide +kernel
theorem dM_haveCommon_170 : decode cM_haveCommon 170 = .ok (.iconst 0, 1) := by decide +kernel
theorem dM_haveCommon_171 : decode cM_haveCommon 171 = .ok (.ireturn, 1) := by decide +kernel
def f_M_haveCommon_l128 (v : MV) : Nat → Int32 → Int32 → Option Int32
 | 0, _, _ => none
 | n + 1, p1, p3 => (ld 2 (md_size v) (1 : Int32)).bind fun u7 => (if ((48 : Int32) + u7) ≤ p3 then rb (0 : Int32) else (ld 96 (md_ax v) p3).bind fun u9 => (ld 96 (md_ay v) p3).bind fun u10 => (f_M_isInCore v (0 : Int32) p1 u9 u10).bind fun u11 => (if u11 = 0 then ((f_M_haveCommon_l128 v n) p1 (p3 + 1)) else rb (1 : Int32)))
def f_M_haveCommon_l39 (v : MV) (K2 : Int32 → Int32 → Int32 → Option Int32) : Nat → Int32 → Int32 → Int32 → Int32 → Option Int32
 | 0, _, _, _, _ => none
 | n + 1, p1, p2, p3, p4 => (ld 2 (md_size v) (1 : Int32)).bind fun u13 => (if ((48 : Int32) + u13) ≤ p4 then (K2 p1 p2 (p3 + 1)) else (ld 96 (md_ax v) p3).bind fun u15 => (ld 96 (md_ay v) p3).bind fun u16 => (ld 96 (md_bx v) p3).bind fun u17 => (ld 96 (md_by v) p3).bind fun u18 => (ld 96 (md_ax v) p4).bind fun u19 => (ld 96 (md_ay v) p4).bind fun u20 => (ld 96 (md_bx v) p4).bind fun u21 => (ld 96 (md_by v) p4).bind fun u22 => (f_M_meet u15 u16 u17 u18 u19 u20 u21 u22).bind fun u23 => (if u23 = 0 then ((f_M_haveCommon_l39 v K2 n) p1 p2 p3 (p4 + 1)) else rb (1 : Int32)))
def f_M_haveCommon_l2 (v : MV) : Nat → Int32 → Int32 → Int32 → Option Int32
 | 0, _, _, _ => none
 | n + 1, p1, p2, p3 => (ld 2 (md_size v) (0 : Int32)).bind fun u1 => (if u1 ≤ p3 then (f_M_haveCommon_l128 v 64 p1 (48 : Int32)) else (ld 96 (md_ax v) p3).bind fun u3 => (ld 96 (md_ay v) p3).bind fun u4 => (f_M_isInCore v (1 : Int32) p2 u3 u4).bind fun u5 => (if u5 = 0 then (f_M_haveCommon_l39 v (f_M_haveCommon_l2 v n) 64 p1 p2 p3 (48 : Int32)) else rb (1 : Int32)))
def f_M_haveCommon (v : MV) (x1 : Int32) (x2 : Int32) : Option Int32 := (f_M_haveCommon_l2 v 64 x1 x2 (0 : Int32))
set_option maxHeartbeats 4000000 in
set_option maxRecDepth 100000 in
theorem k_M_haveCommon (l : Launch) (dC : Nat → ClassId) (dI : Nat → Nat → Nat) (cL cI : ClassId) (qm : Nat → Nat) (v : MV) (x1 : Int32) (x2 : Int32) (r : Int32) (h : f_M_haveCommon v x1 x2 = some r) : Met l yM_haveCommon wsM_haveCommon ({ frames := 4, cells := 0, slots := 0, locals := 126 }) (rd_Pc [.ref (qm 0), .int x1, .int x2] (fun H => va_P (dC, dI) cls3 (mdW cL cI qm v) H) (dC, dI) cls3 [(cL, .long), (cI, .int)]) (vp_Si (fun z => z = r)) 0 0 (fun _ => False) := by
  refine Met.ofW (cc := cM_haveCommon) (maxL := 5) (ret := (some .boolean)) (by decide) rfl ?_
  intro p e s m args below meth c s₁ B hml hv
  obtain ⟨rfl, hPm, hK⟩ := hv
  have hx := B.exec
  have hb := B.bytes
  have hr := B.returns
  have hw : ∀ w ∈ wG, w.before ([.ref (qm 0), .int x1, .int x2] : List Value).toArray s = true := fun w hq => atoms_spec (ws := wsM_haveCommon) B.pre w (List.mem_cons_of_mem _ hq)
  have hown : s.vm.findClass R_M = some m.cls := findClass_of_methodNamed B.named
  have hlocks := B.notSynchronized
  have hl := lv_entry ([.ref (qm 0), .int x1, .int x2] : List Value) (n := 5) (Nat.le_of_ble_eq_true rfl)
  rw [lg_entry_eq]
  generalize (lg_sl ([.ref (qm 0), .int x1, .int x2] : List Value) ++ List.replicate (5 - (lg_sl ([.ref (qm 0), .int x1, .int x2] : List Value)).length) Slot.unset).toArray = ls at hl ⊢
  have hl : lv_has ls 5 [(0, .ref (qm 0)), (1, .int x1), (2, .int x2)] := hl
  have k128 : ∀ (n128 : Nat), ∀ (p1 : Int32) (p3 : Int32), f_M_haveCommon_l128 v n128 p1 p3 = some r →  ∀ (ls : Array Slot), lv_has ls 5 [(0, .ref (qm 0)), (1, .int p1), (3, .int p3)] → W p l e (headSpec wsM_haveCommon ({ frames := 4, cells := 0, slots := 0, locals := 126 })).room s m ([.ref (qm 0), .int x1, .int x2] : List Value).toArray below meth c s.heap [] 0 0 (MQ below (vp_Si (fun z => z = r)) ([.ref (qm 0), .int x1, .int x2] : List Value).toArray s 0 0 (fun _ => False)) (F0 m 128 ls []) := by
    intro n128
    induction n128 with
    | zero => intro p1 p3 h; exact absurd h (by simp [f_M_haveCommon_l128])
    | succ n128 ih128 =>
      intro p1 p3 h  ls hl
      rw [f_M_haveCommon_l128] at h
      refine lv_iload_n hx hb dM_haveCommon_128 rfl (lv_at hl 2 rfl) ?_
      refine lv_bipush (v := 48) hx hb dM_haveCommon_129 (by decide) ?_
      refine lv_aload_n hx hb dM_haveCommon_131 rfl (lv_at hl 0 rfl) ?_
      refine va_get (D := (dC, dI)) (ci := 2) (v := .ref (qm 12)) (C := R_M) (T := T_M) (N := 15) hx hb hw in_M hown hK hPm 0 rfl rfl 13 (by decide) (hw _ w_458) (fun _ h9 => h9) rfl dM_haveCommon_132 ?_
      refine lv_iconst (v := 1) hx hb dM_haveCommon_135 (by decide) ?_
      obtain ⟨u7, hu7, h⟩ := ob_some h
      obtain ⟨hiu7, eu7⟩ := ld_of hu7
      refine va_iald hx hb hK hPm 12 1 rfl rfl hiu7 dM_haveCommon_136 ?_
      rw [eu7]
      refine lv_iadd hx hb dM_haveCommon_137 ?_
      refine lv_icmp_ge (tgt := 170) hx hb dM_haveCommon_138 (by decide) (fun c8 => ?_) (fun c8 => ?_)
      · have h := it_t c8 h
        refine lv_iconst (v := 0) hx hb dM_haveCommon_170 (by decide) ?_
        obtain ⟨hz, hr9⟩ := rb_of h
        exact W.zret hx hb hr hz (fun t ht hW => ⟨_, rfl, hr9, ht⟩) nil_locs dM_haveCommon_171
      · have h := it_f c8 h
        refine lv_aload_n hx hb dM_haveCommon_141 rfl (lv_at hl 0 rfl) ?_
        refine lv_iconst (v := 0) hx hb dM_haveCommon_142 (by decide) ?_
        refine lv_iload_n hx hb dM_haveCommon_143 rfl (lv_at hl 1 rfl) ?_
        refine lv_aload_n hx hb dM_haveCommon_144 rfl (lv_at hl 0 rfl) ?_
        refine va_get (D := (dC, dI)) (ci := 2) (v := .ref (qm 8)) (C := R_M) (T := T_M) (N := 15) hx hb hw in_M hown hK hPm 0 rfl rfl 9 (by decide) (hw _ w_454) (fun _ h9 => h9) rfl dM_haveCommon_145 ?_
        refine lv_iload_n hx hb dM_haveCommon_148 rfl (lv_at hl 2 rfl) ?_
        obtain ⟨u9, hu9, h⟩ := ob_some h
        obtain ⟨hiu9, eu9⟩ := ld_of hu9
        refine va_lald hx hb hK hPm 8 0 rfl rfl hiu9 dM_haveCommon_149 ?_
        rw [eu9]
        refine lv_aload_n hx hb dM_haveCommon_150 rfl (lv_at hl 0 rfl) ?_
        refine va_get (D := (dC, dI)) (ci := 2) (v := .ref (qm 9)) (C := R_M) (T := T_M) (N := 15) hx hb hw in_M hown hK hPm 0 rfl rfl 10 (by decide) (hw _ w_455) (fun _ h9 => h9) rfl dM_haveCommon_151 ?_
        refine lv_iload_n hx hb dM_haveCommon_154 rfl (lv_at hl 2 rfl) ?_
        obtain ⟨u10, hu10, h⟩ := ob_some h
        obtain ⟨hiu10, eu10⟩ := ld_of hu10
        refine va_lald hx hb hK hPm 9 0 rfl rfl hiu10 dM_haveCommon_155 ?_
        rw [eu10]
        obtain ⟨u11, hu11, h⟩ := ob_some h
        refine vp_callSi (va_Run.run (va_runV (As := [.int (0 : Int32), .int p1, .long u9, .long u10]) (rest := []) ⟨hx, hb, hml, hown, hw⟩ (k_M_isInCore l dC dI cL cI qm v (0 : Int32) p1 u9 u10 u11 hu11) (cwV 4 hw (gV w_615 w_617 wp_21 w_2 w_618) rfl rfl rfl (by decide +kernel) ⟨Nat.le_of_ble_eq_true rfl, Nat.le_of_ble_eq_true rfl⟩) ⟨rd_blind, va_recv hK hPm (ci := 2) (q0 := 0) rfl rfl, rd_pre hPm hK⟩ rfl rfl hl.1 rfl (lv_room (Nat.le_of_ble_eq_true rfl)) dM_haveCommon_156 ⟨Nat.le_of_ble_eq_true rfl, Nat.le_of_ble_eq_true rfl⟩)) (fun z hz => ?_)
        rw [hz]; clear hz
        refine lv_if_eq (tgt := 164) hx hb dM_haveCommon_159 (by decide) (fun c12 => ?_) (fun c12 => ?_)
        · have h := it_t c12 h
          refine lv_iinc (v := p3 + 1) (lv' := [(3, .int (p3 + 1)), (0, .ref (qm 0)), (1, .int p1)]) hx hb dM_haveCommon_164 hl (k := 2) rfl rfl (by decide) rfl (fun ls hl => ?_)
          refine lv_goto (tgt := 128) hx hb dM_haveCommon_167 (by decide) ?_
          exact ih128 p1 (p3 + 1) h ls (lv_sub hl [1, 2, 0] rfl)
        · have h := it_f c12 h
          refine lv_iconst (v := 1) hx hb dM_haveCommon_162 (by decide) ?_
          obtain ⟨hz, hr9⟩ := rb_of h
          exact W.zret hx hb hr hz (fun t ht hW => ⟨_, rfl, hr9, ht⟩) nil_locs dM_haveCommon_163
  have k2 : ∀ (n2 : Nat), ∀ (p1 : Int32) (p2 : Int32) (p3 : Int32), f_M_haveCommon_l2 v n2 p1 p2 p3 = some r →  ∀ (ls : Array Slot), lv_has ls 5 [(0, .ref (qm 0)), (1, .int p1), (2, .int p2), (3, .int p3)] → W p l e (headSpec wsM_haveCommon ({ frames := 4, cells := 0, slots := 0, locals := 126 })).room s m ([.ref (qm 0), .int x1, .int x2] : List Value).toArray below meth c s.heap [] 0 0 (MQ below (vp_Si (fun z => z = r)) ([.ref (qm 0), .int x1, .int x2] : List Value).toArray s 0 0 (fun _ => False)) (F0 m 2 ls []) := by
    intro n2
    induction n2 with
    | zero => intro p1 p2 p3 h; exact absurd h (by simp [f_M_haveCommon_l2])
    | succ n2 ih2 =>
      have k39 : ∀ (n39 : Nat), ∀ (p1 : Int32) (p2 : Int32) (p3 : Int32) (p4 : Int32), f_M_haveCommon_l39 v (f_M_haveCommon_l2 v n2) n39 p1 p2 p3 p4 = some r →  ∀ (ls : Array Slot), lv_has ls 5 [(0, .ref (qm 0)), (1, .int p1), (2, .int p2), (3, .int p3), (4, .int p4)] → W p l e (headSpec wsM_haveCommon ({ frames := 4, cells := 0, slots := 0, locals := 126 })).room s m ([.ref (qm 0), .int x1, .int x2] : List Value).toArray below meth c s.heap [] 0 0 (MQ below (vp_Si (fun z => z = r)) ([.ref (qm 0), .int x1, .int x2] : List Value).toArray s 0 0 (fun _ => False)) (F0 m 39 ls []) := by
        intro n39
        induction n39 with
        | zero => intro p1 p2 p3 p4 h; exact absurd h (by simp [f_M_haveCommon_l39])
        | succ n39 ih39 =>
          intro p1 p2 p3 p4 h  ls hl
          rw [f_M_haveCommon_l39] at h
          refine lv_iload hx hb dM_haveCommon_39 (lv_at hl 4 rfl) ?_
          refine lv_bipush (v := 48) hx hb dM_haveCommon_41 (by decide) ?_
          refine lv_aload_n hx hb dM_haveCommon_43 rfl (lv_at hl 0 rfl) ?_
          refine va_get (D := (dC, dI)) (ci := 2) (v := .ref (qm 12)) (C := R_M) (T := T_M) (N := 15) hx hb hw in_M hown hK hPm 0 rfl rfl 13 (by decide) (hw _ w_458) (fun _ h9 => h9) rfl dM_haveCommon_44 ?_
          refine lv_iconst (v := 1) hx hb dM_haveCommon_47 (by decide) ?_
          obtain ⟨u13, hu13, h⟩ := ob_some h
          obtain ⟨hiu13, eu13⟩ := ld_of hu13
          refine va_iald hx hb hK hPm 12 1 rfl rfl hiu13 dM_haveCommon_48 ?_
          rw [eu13]
          refine lv_iadd hx hb dM_haveCommon_49 ?_
          refine lv_icmp_ge (tgt := 119) hx hb dM_haveCommon_50 (by decide) (fun c14 => ?_) (fun c14 => ?_)
          · have h := it_t c14 h
            refine lv_iinc (v := p3 + 1) (lv' := [(3, .int (p3 + 1)), (0, .ref (qm 0)), (1, .int p1), (2, .int p2), (4, .int p4)]) hx hb dM_haveCommon_119 hl (k := 3) rfl rfl (by decide) rfl (fun ls hl => ?_)
            refine lv_goto (tgt := 2) hx hb dM_haveCommon_122 (by decide) ?_
            exact ih2 p1 p2 (p3 + 1) h ls (lv_sub hl [1, 2, 3, 0] rfl)
          · have h := it_f c14 h
            refine lv_aload_n hx hb dM_haveCommon_53 rfl (lv_at hl 0 rfl) ?_
            refine va_get (D := (dC, dI)) (ci := 2) (v := .ref (qm 8)) (C := R_M) (T := T_M) (N := 15) hx hb hw in_M hown hK hPm 0 rfl rfl 9 (by decide) (hw _ w_454) (fun _ h9 => h9) rfl dM_haveCommon_54 ?_
            refine lv_iload_n hx hb dM_haveCommon_57 rfl (lv_at hl 3 rfl) ?_
            obtain ⟨u15, hu15, h⟩ := ob_some h
            obtain ⟨hiu15, eu15⟩ := ld_of hu15
            refine va_lald hx hb hK hPm 8 0 rfl rfl hiu15 dM_haveCommon_58 ?_
            rw [eu15]
            refine lv_aload_n hx hb dM_haveCommon_59 rfl (lv_at hl 0 rfl) ?_
            refine va_get (D := (dC, dI)) (ci := 2) (v := .ref (qm 9)) (C := R_M) (T := T_M) (N := 15) hx hb hw in_M hown hK hPm 0 rfl rfl 10 (by decide) (hw _ w_455) (fun _ h9 => h9) rfl dM_haveCommon_60 ?_
            refine lv_iload_n hx hb dM_haveCommon_63 rfl (lv_at hl 3 rfl) ?_
            obtain ⟨u16, hu16, h⟩ := ob_some h
            obtain ⟨hiu16, eu16⟩ := ld_of hu16
            refine va_lald hx hb hK hPm 9 0 rfl rfl hiu16 dM_haveCommon_64 ?_
            rw [eu16]
            refine lv_aload_n hx hb dM_haveCommon_65 rfl (lv_at hl 0 rfl) ?_
            refine va_get (D := (dC, dI)) (ci := 2) (v := .ref (qm 10)) (C := R_M) (T := T_M) (N := 15) hx hb hw in_M hown hK hPm 0 rfl rfl 11 (by decide) (hw _ w_456) (fun _ h9 => h9) rfl dM_haveCommon_66 ?_
            refine lv_iload_n hx hb dM_haveCommon_69 rfl (lv_at hl 3 rfl) ?_
            obtain ⟨u17, hu17, h⟩ := ob_some h
            obtain ⟨hiu17, eu17⟩ := ld_of hu17
            refine va_lald hx hb hK hPm 10 0 rfl rfl hiu17 dM_haveCommon_70 ?_
            rw [eu17]
            refine lv_aload_n hx hb dM_haveCommon_71 rfl (lv_at hl 0 rfl) ?_
            refine va_get (D := (dC, dI)) (ci := 2) (v := .ref (qm 11)) (C := R_M) (T := T_M) (N := 15) hx hb hw in_M hown hK hPm 0 rfl rfl 12 (by decide) (hw _ w_457) (fun _ h9 => h9) rfl dM_haveCommon_72 ?_
            refine lv_iload_n hx hb dM_haveCommon_75 rfl (lv_at hl 3 rfl) ?_
            obtain ⟨u18, hu18, h⟩ := ob_some h
            obtain ⟨hiu18, eu18⟩ := ld_of hu18
            refine va_lald hx hb hK hPm 11 0 rfl rfl hiu18 dM_haveCommon_76 ?_
            rw [eu18]
            refine lv_aload_n hx hb dM_haveCommon_77 rfl (lv_at hl 0 rfl) ?_
            refine va_get (D := (dC, dI)) (ci := 2) (v := .ref (qm 8)) (C := R_M) (T := T_M) (N := 15) hx hb hw in_M hown hK hPm 0 rfl rfl 9 (by decide) (hw _ w_454) (fun _ h9 => h9) rfl dM_haveCommon_78 ?_
            refine lv_iload hx hb dM_haveCommon_81 (lv_at hl 4 rfl) ?_
            obtain ⟨u19, hu19, h⟩ := ob_some h
            obtain ⟨hiu19, eu19⟩ := ld_of hu19
            refine va_lald hx hb hK hPm 8 0 rfl rfl hiu19 dM_haveCommon_83 ?_
            rw [eu19]
            refine lv_aload_n hx hb dM_haveCommon_84 rfl (lv_at hl 0 rfl) ?_
            refine va_get (D := (dC, dI)) (ci := 2) (v := .ref (qm 9)) (C := R_M) (T := T_M) (N := 15) hx hb hw in_M hown hK hPm 0 rfl rfl 10 (by decide) (hw _ w_455) (fun _ h9 => h9) rfl dM_haveCommon_85 ?_
            refine lv_iload hx hb dM_haveCommon_88 (lv_at hl 4 rfl) ?_
            obtain ⟨u20, hu20, h⟩ := ob_some h
            obtain ⟨hiu20, eu20⟩ := ld_of hu20
            refine va_lald hx hb hK hPm 9 0 rfl rfl hiu20 dM_haveCommon_90 ?_
            rw [eu20]
            refine lv_aload_n hx hb dM_haveCommon_91 rfl (lv_at hl 0 rfl) ?_
            refine va_get (D := (dC, dI)) (ci := 2) (v := .ref (qm 10)) (C := R_M) (T := T_M) (N := 15) hx hb hw in_M hown hK hPm 0 rfl rfl 11 (by decide) (hw _ w_456) (fun _ h9 => h9) rfl dM_haveCommon_92 ?_
            refine lv_iload hx hb dM_haveCommon_95 (lv_at hl 4 rfl) ?_
            obtain ⟨u21, hu21, h⟩ := ob_some h
            obtain ⟨hiu21, eu21⟩ := ld_of hu21
            refine va_lald hx hb hK hPm 10 0 rfl rfl hiu21 dM_haveCommon_97 ?_
            rw [eu21]
            refine lv_aload_n hx hb dM_haveCommon_98 rfl (lv_at hl 0 rfl) ?_
            refine va_get (D := (dC, dI)) (ci := 2) (v := .ref (qm 11)) (C := R_M) (T := T_M) (N := 15) hx hb hw in_M hown hK hPm 0 rfl rfl 12 (by decide) (hw _ w_457) (fun _ h9 => h9) rfl dM_haveCommon_99 ?_
            refine lv_iload hx hb dM_haveCommon_102 (lv_at hl 4 rfl) ?_
            obtain ⟨u22, hu22, h⟩ := ob_some h
            obtain ⟨hiu22, eu22⟩ := ld_of hu22
            refine va_lald hx hb hK hPm 11 0 rfl rfl hiu22 dM_haveCommon_104 ?_
            rw [eu22]
            obtain ⟨u23, hu23, h⟩ := ob_some h
            refine vp_callSi (va_Run.run (va_runS (As := [.long u15, .long u16, .long u17, .long u18, .long u19, .long u20, .long u21, .long u22]) (rest := []) ⟨hx, hb, hml, hown, hw⟩ (k_M_meet l dC dI cL cI u15 u16 u17 u18 u19 u20 u21 u22 u23 hu23) (va_cwS 8 hw (gS w_588 w_589 w_2 w_590) rfl rfl rfl (by decide +kernel) ⟨Nat.le_of_ble_eq_true rfl, Nat.le_of_ble_eq_true rfl⟩) ⟨rd_blind, rd_pre trivial hK⟩ rfl rfl hl.1 rfl (lv_room (Nat.le_of_ble_eq_true rfl)) dM_haveCommon_105 ⟨Nat.le_of_ble_eq_true rfl, Nat.le_of_ble_eq_true rfl⟩)) (fun z hz => ?_)
            rw [hz]; clear hz
            refine lv_if_eq (tgt := 113) hx hb dM_haveCommon_108 (by decide) (fun c24 => ?_) (fun c24 => ?_)
            · have h := it_t c24 h
              refine lv_iinc (v := p4 + 1) (lv' := [(4, .int (p4 + 1)), (0, .ref (qm 0)), (1, .int p1), (2, .int p2), (3, .int p3)]) hx hb dM_haveCommon_113 hl (k := 4) rfl rfl (by decide) rfl (fun ls hl => ?_)
              refine lv_goto (tgt := 39) hx hb dM_haveCommon_116 (by decide) ?_
              exact ih39 p1 p2 p3 (p4 + 1) h ls (lv_sub hl [1, 2, 3, 4, 0] rfl)
            · have h := it_f c24 h
              refine lv_iconst (v := 1) hx hb dM_haveCommon_111 (by decide) ?_
              obtain ⟨hz, hr9⟩ := rb_of h
              exact W.zret hx hb hr hz (fun t ht hW => ⟨_, rfl, hr9, ht⟩) nil_locs dM_haveCommon_112
      intro p1 p2 p3 h  ls hl
      rw [f_M_haveCommon_l2] at h
      refine lv_iload_n hx hb dM_haveCommon_2 rfl (lv_at hl 3 rfl) ?_
      refine lv_aload_n hx hb dM_haveCommon_3 rfl (lv_at hl 0 rfl) ?_
      refine va_get (D := (dC, dI)) (ci := 2) (v := .ref (qm 12)) (C := R_M) (T := T_M) (N := 15) hx hb hw in_M hown hK hPm 0 rfl rfl 13 (by decide) (hw _ w_458) (fun _ h9 => h9) rfl dM_haveCommon_4 ?_
      refine lv_iconst (v := 0) hx hb dM_haveCommon_7 (by decide) ?_
      obtain ⟨u1, hu1, h⟩ := ob_some h
      obtain ⟨hiu1, eu1⟩ := ld_of hu1
      refine va_iald hx hb hK hPm 12 1 rfl rfl hiu1 dM_haveCommon_8 ?_
      rw [eu1]
      refine lv_icmp_ge (tgt := 125) hx hb dM_haveCommon_9 (by decide) (fun c2 => ?_) (fun c2 => ?_)
      · have h := it_t c2 h
        refine lv_bipush (v := 48) hx hb dM_haveCommon_125 (by decide) ?_
        refine lv_istore_n (lv' := [(3, .int (48 : Int32)), (0, .ref (qm 0)), (1, .int p1), (2, .int p2)]) hx hb dM_haveCommon_127 rfl hl (by decide) rfl (fun ls hl => ?_)
        exact k128 64 p1 (48 : Int32) h ls (lv_sub hl [1, 2, 0] rfl)
      · have h := it_f c2 h
        refine lv_aload_n hx hb dM_haveCommon_12 rfl (lv_at hl 0 rfl) ?_
        refine lv_iconst (v := 1) hx hb dM_haveCommon_13 (by decide) ?_
        refine lv_iload_n hx hb dM_haveCommon_14 rfl (lv_at hl 2 rfl) ?_
        refine lv_aload_n hx hb dM_haveCommon_15 rfl (lv_at hl 0 rfl) ?_
        refine va_get (D := (dC, dI)) (ci := 2) (v := .ref (qm 8)) (C := R_M) (T := T_M) (N := 15) hx hb hw in_M hown hK hPm 0 rfl rfl 9 (by decide) (hw _ w_454) (fun _ h9 => h9) rfl dM_haveCommon_16 ?_
        refine lv_iload_n hx hb dM_haveCommon_19 rfl (lv_at hl 3 rfl) ?_
        obtain ⟨u3, hu3, h⟩ := ob_some h
        obtain ⟨hiu3, eu3⟩ := ld_of hu3
        refine va_lald hx hb hK hPm 8 0 rfl rfl hiu3 dM_haveCommon_20 ?_
        rw [eu3]
        refine lv_aload_n hx hb dM_haveCommon_21 rfl (lv_at hl 0 rfl) ?_
        refine va_get (D := (dC, dI)) (ci := 2) (v := .ref (qm 9)) (C := R_M) (T := T_M) (N := 15) hx hb hw in_M hown hK hPm 0 rfl rfl 10 (by decide) (hw _ w_455) (fun _ h9 => h9) rfl dM_haveCommon_22 ?_
        refine lv_iload_n hx hb dM_haveCommon_25 rfl (lv_at hl 3 rfl) ?_
        obtain ⟨u4, hu4, h⟩ := ob_some h
        obtain ⟨hiu4, eu4⟩ := ld_of hu4
        refine va_lald hx hb hK hPm 9 0 rfl rfl hiu4 dM_haveCommon_26 ?_
        rw [eu4]
        obtain ⟨u5, hu5, h⟩ := ob_some h
        refine vp_callSi (va_Run.run (va_runV (As := [.int (1 : Int32), .int p2, .long u3, .long u4]) (rest := []) ⟨hx, hb, hml, hown, hw⟩ (k_M_isInCore l dC dI cL cI qm v (1 : Int32) p2 u3 u4 u5 hu5) (cwV 4 hw (gV w_615 w_617 wp_21 w_2 w_618) rfl rfl rfl (by decide +kernel) ⟨Nat.le_of_ble_eq_true rfl, Nat.le_of_ble_eq_true rfl⟩) ⟨rd_blind, va_recv hK hPm (ci := 2) (q0 := 0) rfl rfl, rd_pre hPm hK⟩ rfl rfl hl.1 rfl (lv_room (Nat.le_of_ble_eq_true rfl)) dM_haveCommon_27 ⟨Nat.le_of_ble_eq_true rfl, Nat.le_of_ble_eq_true rfl⟩)) (fun z hz => ?_)
        rw [hz]; clear hz
        refine lv_if_eq (tgt := 35) hx hb dM_haveCommon_30 (by decide) (fun c6 => ?_) (fun c6 => ?_)
        · have h := it_t c6 h
          refine lv_bipush (v := 48) hx hb dM_haveCommon_35 (by decide) ?_
          refine lv_istore (lv' := [(4, .int (48 : Int32)), (0, .ref (qm 0)), (1, .int p1), (2, .int p2), (3, .int p3)]) hx hb dM_haveCommon_37 hl (by decide) rfl (fun ls hl => ?_)
          exact k39 64 p1 p2 p3 (48 : Int32) h ls (lv_sub hl [1, 2, 3, 4, 0] rfl)
        · have h := it_f c6 h
          refine lv_iconst (v := 1) hx hb dM_haveCommon_33 (by decide) ?_
          obtain ⟨hz, hr9⟩ := rb_of h
          exact W.zret hx hb hr hz (fun t ht hW => ⟨_, rfl, hr9, ht⟩) nil_locs dM_haveCommon_34
  unfold f_M_haveCommon at h
  refine lv_iconst (v := 0) hx hb dM_haveCommon_0 (by decide) ?_
  refine lv_istore_n (lv' := [(3, .int (0 : Int32)), (0, .ref (qm 0)), (1, .int x1), (2, .int x2)]) hx hb dM_haveCommon_1 rfl hl (by decide) rfl (fun ls hl => ?_)
  exact k2 64 x1 x2 (0 : Int32) h ls (lv_sub hl [1, 2, 3, 0] rfl)
