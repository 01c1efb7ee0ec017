/-! the reference: writing methods, laid by program -/
theorem dM_grow_0 : decode cM_grow 0 = .ok (.aload_n 0, 1) := by decide +kernel
theorem dM_grow_1 : decode cM_grow 1 = .ok (.aload_n 0, 1) := by decide +kernel
theorem dM_grow_2 : decode cM_grow 2 = .ok (.iload_n 1, 1) := by decide +kernel
theorem dM_grow_3 : decode cM_grow 3 = .ok (.invokevirtual 87, 3) := by decide +kernel
theorem dM_grow_6 : decode cM_grow 6 = .ok (.ifCond .ne 7, 3) := by decide +kernel
theorem dM_grow_9 : decode cM_grow 9 = .ok (.iconst 1, 1) := by decide +kernel
theorem dM_grow_10 : decode cM_grow 10 = .ok (.goto 36, 3) := by decide +kernel
theorem dM_grow_13 : decode cM_grow 13 = .ok (.aload_n 0, 1) := by decide +kernel
theorem dM_grow_14 : decode cM_grow 14 = .ok (.iload_n 1, 1) := by decide +kernel
theorem dM_grow_15 : decode cM_grow 15 = .ok (.invokevirtual 177, 3) := by decide +kernel
theorem dM_grow_18 : decode cM_grow 18 = .ok (.ifCond .ne 7, 3) := by decide +kernel
theorem dM_grow_21 : decode cM_grow 21 = .ok (.iconst 2, 1) := by decide +kernel
theorem dM_grow_22 : decode cM_grow 22 = .ok (.goto 24, 3) := by decide +kernel
theorem dM_grow_25 : decode cM_grow 25 = .ok (.lload_n 2, 1) := by decide +kernel
theorem dM_grow_26 : decode cM_grow 26 = .ok (.ldc2_w 183, 3) := by decide +kernel
theorem dM_grow_29 : decode cM_grow 29 = .ok (.lcmp, 1) := by decide +kernel
theorem dM_grow_30 : decode cM_grow 30 = .ok (.ifCond .lt 15, 3) := by decide +kernel
theorem dM_grow_33 : decode cM_grow 33 = .ok (.lload_n 2, 1) := by decide +kernel
theorem dM_grow_34 : decode cM_grow 34 = .ok (.ldc2_w 58, 3) := by decide +kernel
theorem dM_grow_37 : decode cM_grow 37 = .ok (.lcmp, 1) := by decide +kernel
theorem dM_grow_38 : decode cM_grow 38 = .ok (.ifCond .gt 7, 3) := by decide +kernel
theorem dM_grow_41 : decode cM_grow 41 = .ok (.iconst 0, 1) := by decide +kernel
theorem dM_grow_42 : decode cM_grow 42 = .ok (.goto 4, 3) := by decide +kernel
theorem dM_grow_45 : decode cM_grow 45 = .ok (.iconst 3, 1) := by decide +kernel
theorem dM_grow_46 : decode cM_grow 46 = .ok (.putfield 50, 3) := by decide +kernel
theorem dM_grow_49 : decode cM_grow 49 = .ok (.aload_n 0, 1) := by decide +kernel
theorem dM_grow_50 : decode cM_grow 50 = .ok (.getfield 50, 3) := by decide +kernel
theorem dM_grow_53 : decode cM_grow 53 = .ok (.ifCond .eq 5, 3) := by decide +kernel
theorem dM_grow_56 : decode cM_grow 56 = .ok (.iconst 0, 1) := by decide +kernel
theorem dM_grow_57 : decode cM_grow 57 = .ok (.ireturn, 1) := by decide +kernel
theorem dM_grow_58 : decode cM_grow 58 = .ok (.aload_n 0, 1) := by decide +kernel
theorem dM_grow_59 : decode cM_grow 59 = .ok (.getfield 60, 3) := by decide +kernel
theorem dM_grow_62 : decode cM_grow 62 = .ok (.bipush 40, 2) := by decide +kernel
theorem dM_grow_64 : decode cM_grow 64 = .ok (.if_icmp .eq 17, 3) := by decide +kernel
theorem dM_grow_67 : decode cM_grow 67 = .ok (.aload_n 0, 1) := by decide +kernel
theorem dM_grow_68 : decode cM_grow 68 = .ok (.getfield 13, 3) := by decide +kernel
theorem dM_grow_71 : decode cM_grow 71 = .ok (.iload_n 1, 1) := by decide +kernel
theorem dM_grow_72 : decode cM_grow 72 = .ok (.laload, 1) := by decide +kernel
theorem dM_grow_73 : decode cM_grow 73 = .ok (.lload_n 2, 1) := by decide +kernel
theorem dM_grow_74 : decode cM_grow 74 = .ok (.ladd, 1) := by decide +kernel
theorem dM_grow_75 : decode cM_grow 75 = .ok (.invokestatic 71, 3) := by decide +kernel
theorem dM_grow_78 : decode cM_grow 78 = .ok (.ifCond .ne 7, 3) := by decide +kernel
theorem dM_grow_81 : decode cM_grow 81 = .ok (.iconst (-1), 1) := by decide +kernel
theorem dM_grow_82 : decode cM_grow 82 = .ok (.goto 16, 3) := by decide +kernel
theorem dM_grow_85 : decode cM_grow 85 = .ok (.aload_n 0, 1) := by decide +kernel
theorem dM_grow_86 : decode cM_grow 86 = .ok (.iload_n 1, 1) := by decide +kernel
theorem dM_grow_87 : decode cM_grow 87 = .ok (.aload_n 0, 1) := by decide +kernel
theorem dM_grow_88 : decode cM_grow 88 = .ok (.getfield 13, 3) := by decide +kernel
theorem dM_grow_91 : decode cM_grow 91 = .ok (.iload_n 1, 1) := by decide +kernel
theorem dM_grow_92 : decode cM_grow 92 = .ok (.laload, 1) := by decide +kernel
theorem dM_grow_93 : decode cM_grow 93 = .ok (.lload_n 2, 1) := by decide +kernel
theorem dM_grow_94 : decode cM_grow 94 = .ok (.ladd, 1) := by decide +kernel
theorem dM_grow_95 : decode cM_grow 95 = .ok (.invokevirtual 185, 3) := by decide +kernel
theorem dM_grow_98 : decode cM_grow 98 = .ok (.ireturn, 1) := by decide +kernel
def f_M_grow_j98 (vv : MV) (s0 : Int32) : Option (Int32 × MV) := some (s0, vv)
def f_M_grow_j81 (vv : MV) : Option (Int32 × MV) := (f_M_grow_j98 vv (-1 : Int32))
def f_M_grow_j46 (vv : MV) (p1 : Int32) (p2 : Int64) (s1 : Int32) : Option (Int32 × MV) := (some (ms_thrown vv s1)).bind fun v7 => (if (md_thrown v7) = 0 then (if (md_shapes v7) = (40 : Int32) then (f_M_grow_j81 v7) else (ld 40 (md_radii v7) p1).bind fun u10 => (f_M_isRadius (u10 + p2)).bind fun u11 => (if u11 = 0 then (f_M_grow_j81 v7) else (ld 40 (md_radii v7) p1).bind fun u13 => (f_M_copy v7 p1 (u13 + p2)).bind fun u14 => (f_M_grow_j98 u14.2 u14.1))) else some ((0 : Int32), v7))
def f_M_grow_j45 (vv : MV) (p1 : Int32) (p2 : Int64) : Option (Int32 × MV) := (f_M_grow_j46 vv p1 p2 (3 : Int32))
def f_M_grow (v : MV) (x1 : Int32) (x2 : Int64) : Option (Int32 × MV) := (f_M_isShape v x1).bind fun u1 => (if u1 = 0 then (f_M_grow_j46 v x1 x2 (1 : Int32)) else (f_M_isWhole v x1).bind fun u3 => (if u3 = 0 then (f_M_grow_j46 v x1 x2 (2 : Int32)) else (if (lg_cmp x2 (-1000000000 : Int64)) < 0 then (f_M_grow_j45 v x1 x2) else (if 0 < (lg_cmp x2 (1000000000 : Int64)) then (f_M_grow_j45 v x1 x2) else (f_M_grow_j46 v x1 x2 (0 : Int32))))))
set_option maxHeartbeats 4000000 in
set_option maxRecDepth 100000 in
theorem k_M_grow (l : Launch) (dC : Nat → ClassId) (dI : Nat → Nat → Nat) (cL cI : ClassId) (qm : Nat → Nat) (v : MV) (x1 : Int32) (x2 : Int64) (r : (Int32 × MV)) (h : f_M_grow v x1 x2 = some r) : Met l yM_grow wsM_grow ({ frames := 2, cells := 0, slots := 0, locals := 50 }) (rd_Pc [.ref (qm 0), .int x1, .long x2] (fun H => va_P (dC, dI) cls3 (mdW cL cI qm v) H ∧ va_D (inQ qm) (mdW cL cI qm v)) (dC, dI) cls3 [(cL, .long), (cI, .int)]) (mu_Q (some (.int r.1)) (dC, dI) cls3 (mdW cL cI qm r.2) (inQ qm)) 0 0 (inQ qm) := by
  refine Met.ofW (cc := cM_grow) (maxL := 4) (ret := (some .int)) (by decide) rfl ?_
  intro p e s m args below meth c s₁ B hml hv
  obtain ⟨rfl, ⟨hPm, hD⟩, hK⟩ := hv
  have hx := B.exec
  have hb := B.bytes
  have hr := B.returns
  have hw : ∀ w ∈ wG, w.before ([.ref (qm 0), .int x1, .long x2] : List Value).toArray s = true := fun w hq => atoms_spec (ws := wsM_grow) B.pre w (List.mem_cons_of_mem _ hq)
  have hown : s.vm.findClass R_M = some m.cls := findClass_of_methodNamed B.named
  have hlocks := B.notSynchronized
  have hl := lv_entry ([.ref (qm 0), .int x1, .long x2] : List Value) (n := 4) (Nat.le_of_ble_eq_true rfl)
  rw [lg_entry_eq]
  generalize (lg_sl ([.ref (qm 0), .int x1, .long x2] : List Value) ++ List.replicate (4 - (lg_sl ([.ref (qm 0), .int x1, .long x2] : List Value)).length) Slot.unset).toArray = ls at hl ⊢
  have hl : lv_has ls 4 [(0, .ref (qm 0)), (1, .int x1), (2, .long x2)] := hl
  have k98 : ∀ (vv : MV) (s0 : Int32), f_M_grow_j98 vv s0 = some r → ∀ (H : Heap) (locs : List Loc), va_P (dC, dI) cls3 (mdW cL cI qm vv) H → va_D (inQ qm) (mdW cL cI qm vv) → va_S (inQ qm) s.heap H locs → ∀ (ls : Array Slot), lv_has ls 4 [] → W p l e (headSpec wsM_grow ({ frames := 2, cells := 0, slots := 0, locals := 50 })).room s m ([.ref (qm 0), .int x1, .long x2] : List Value).toArray below meth c H locs 0 0 (MQ below (mu_Q (some (.int r.1)) (dC, dI) cls3 (mdW cL cI qm r.2) (inQ qm)) ([.ref (qm 0), .int x1, .long x2] : List Value).toArray s 0 0 (inQ qm)) (F0 m 98 ls [.int s0]) := by
    intro vv s0 h H locs hPm hD hS ls hl
    unfold f_M_grow_j98 at h
    have h := Option.some.inj h
    subst h
    exact W.iret hx hb hr (fun t ht hW => ⟨rfl, by rw [ht]; exact hPm, hS.F ht⟩) hS.2.2 dM_grow_98
  have k81 : ∀ (vv : MV), f_M_grow_j81 vv = some r → ∀ (H : Heap) (locs : List Loc), va_P (dC, dI) cls3 (mdW cL cI qm vv) H → va_D (inQ qm) (mdW cL cI qm vv) → va_S (inQ qm) s.heap H locs → ∀ (ls : Array Slot), lv_has ls 4 [] → W p l e (headSpec wsM_grow ({ frames := 2, cells := 0, slots := 0, locals := 50 })).room s m ([.ref (qm 0), .int x1, .long x2] : List Value).toArray below meth c H locs 0 0 (MQ below (mu_Q (some (.int r.1)) (dC, dI) cls3 (mdW cL cI qm r.2) (inQ qm)) ([.ref (qm 0), .int x1, .long x2] : List Value).toArray s 0 0 (inQ qm)) (F0 m 81 ls []) := by
    intro vv h H locs hPm hD hS ls hl
    unfold f_M_grow_j81 at h
    refine lv_iconst (v := -1) hx hb dM_grow_81 (by decide) ?_
    refine lv_goto (tgt := 98) hx hb dM_grow_82 (by decide) ?_
    exact k98 vv (-1 : Int32) h H locs hPm hD hS ls (lv_sub hl [] rfl)
  have k46 : ∀ (vv : MV) (p1 : Int32) (p2 : Int64) (s1 : Int32), f_M_grow_j46 vv p1 p2 s1 = some r → ∀ (H : Heap) (locs : List Loc), va_P (dC, dI) cls3 (mdW cL cI qm vv) H → va_D (inQ qm) (mdW cL cI qm vv) → va_S (inQ qm) s.heap H locs → ∀ (ls : Array Slot), lv_has ls 4 [(0, .ref (qm 0)), (1, .int p1), (2, .long p2)] → W p l e (headSpec wsM_grow ({ frames := 2, cells := 0, slots := 0, locals := 50 })).room s m ([.ref (qm 0), .int x1, .long x2] : List Value).toArray below meth c H locs 0 0 (MQ below (mu_Q (some (.int r.1)) (dC, dI) cls3 (mdW cL cI qm r.2) (inQ qm)) ([.ref (qm 0), .int x1, .long x2] : List Value).toArray s 0 0 (inQ qm)) (F0 m 46 ls [.int s1, .ref (qm 0)]) := by
    intro vv p1 p2 s1 h H locs hPm hD hS ls hl
    unfold f_M_grow_j46 at h
    refine va_put (D := (dC, dI)) (ci := 2) (v := .int s1) (ty := .int) (C := R_M) (T := T_M) (N := 15) hx hb hw in_M t_M t_M_ok nm_M hown hK hPm hD hS 0 rfl rfl 0 (by decide) (hw _ w_445) (fun _ h9 => h9) rfl (by decide +kernel) rfl rfl (Nat.le_of_ble_eq_true rfl) dM_grow_46 (fun H locs hPm hD hS => ?_)
    obtain ⟨v7, hv7, h⟩ := ob_some h
    have hPm : va_P (dC, dI) cls3 (mdW cL cI qm (ms_thrown vv s1)) H := hPm
    have hD : va_D (inQ qm) (mdW cL cI qm (ms_thrown vv s1)) := hD
    rw [Option.some.inj hv7] at hPm hD
    refine lv_aload_n hx hb dM_grow_49 rfl (lv_at hl 0 rfl) ?_
    refine va_get (D := (dC, dI)) (ci := 2) (v := .int (md_thrown v7)) (C := R_M) (T := T_M) (N := 15) hx hb hw in_M hown hK hPm 0 rfl rfl 0 (by decide) (hw _ w_445) (fun _ h9 => h9) rfl dM_grow_50 ?_
    refine lv_if_eq (tgt := 58) hx hb dM_grow_53 (by decide) (fun c8 => ?_) (fun c8 => ?_)
    · have h := it_t c8 h
      refine lv_aload_n hx hb dM_grow_58 rfl (lv_at hl 0 rfl) ?_
      refine va_get (D := (dC, dI)) (ci := 2) (v := .int (md_shapes v7)) (C := R_M) (T := T_M) (N := 15) hx hb hw in_M hown hK hPm 0 rfl rfl 1 (by decide) (hw _ w_446) (fun _ h9 => h9) rfl dM_grow_59 ?_
      refine lv_bipush (v := 40) hx hb dM_grow_62 (by decide) ?_
      refine lv_icmp_eq (tgt := 81) hx hb dM_grow_64 (by decide) (fun c9 => ?_) (fun c9 => ?_)
      · have h := it_t c9 h
        exact k81 v7 h H locs hPm hD hS ls (lv_sub hl [] rfl)
      · have h := it_f c9 h
        refine lv_aload_n hx hb dM_grow_67 rfl (lv_at hl 0 rfl) ?_
        refine va_get (D := (dC, dI)) (ci := 2) (v := .ref (qm 2)) (C := R_M) (T := T_M) (N := 15) hx hb hw in_M hown hK hPm 0 rfl rfl 3 (by decide) (hw _ w_448) (fun _ h9 => h9) rfl dM_grow_68 ?_
        refine lv_iload_n hx hb dM_grow_71 rfl (lv_at hl 1 rfl) ?_
        obtain ⟨u10, hu10, h⟩ := ob_some h
        obtain ⟨hiu10, eu10⟩ := ld_of hu10
        refine va_lald hx hb hK hPm 2 0 rfl rfl hiu10 dM_grow_72 ?_
        rw [eu10]
        refine lv_lload_n hx hb dM_grow_73 rfl (lv_at hl 2 rfl) ?_
        refine lv_ladd hx hb dM_grow_74 ?_
        obtain ⟨u11, hu11, h⟩ := ob_some h
        refine vp_callSi (va_Run.run (va_runS (As := [.long (u10 + p2)]) (rest := []) ⟨hx, hb, hml, hown, hw⟩ (k_M_isRadius l dC dI cL cI (u10 + p2) u11 hu11) (va_cwS 1 hw (gS w_504 w_505 w_2 w_506) rfl rfl rfl (by decide +kernel) ⟨Nat.le_of_ble_eq_true rfl, Nat.le_of_ble_eq_true rfl⟩) ⟨rd_blind, rd_pre trivial hK⟩ rfl rfl hl.1 rfl (lv_room (Nat.le_of_ble_eq_true rfl)) dM_grow_75 ⟨Nat.le_of_ble_eq_true rfl, Nat.le_of_ble_eq_true rfl⟩)) (fun z hz => ?_)
        rw [hz]; clear hz
        refine lv_if_ne (tgt := 85) hx hb dM_grow_78 (by decide) (fun c12 => ?_) (fun c12 => ?_)
        · have h := it_f c12 h
          refine lv_aload_n hx hb dM_grow_85 rfl (lv_at hl 0 rfl) ?_
          refine lv_iload_n hx hb dM_grow_86 rfl (lv_at hl 1 rfl) ?_
          refine lv_aload_n hx hb dM_grow_87 rfl (lv_at hl 0 rfl) ?_
          refine va_get (D := (dC, dI)) (ci := 2) (v := .ref (qm 2)) (C := R_M) (T := T_M) (N := 15) hx hb hw in_M hown hK hPm 0 rfl rfl 3 (by decide) (hw _ w_448) (fun _ h9 => h9) rfl dM_grow_88 ?_
          refine lv_iload_n hx hb dM_grow_91 rfl (lv_at hl 1 rfl) ?_
          obtain ⟨u13, hu13, h⟩ := ob_some h
          obtain ⟨hiu13, eu13⟩ := ld_of hu13
          refine va_lald hx hb hK hPm 2 0 rfl rfl hiu13 dM_grow_92 ?_
          rw [eu13]
          refine lv_lload_n hx hb dM_grow_93 rfl (lv_at hl 2 rfl) ?_
          refine lv_ladd hx hb dM_grow_94 ?_
          obtain ⟨u14, hu14, h⟩ := ob_some h
          refine mu_call (va_runV (As := [.int p1, .long (u13 + p2)]) (rest := []) ⟨hx, hb, hml, hown, hw⟩ (k_M_copy l dC dI cL cI qm v7 p1 (u13 + p2) u14 hu14) (cwV 2 hw (gV w_649 w_651 wp_27 w_2 w_652) rfl rfl rfl (by decide +kernel) ⟨Nat.le_of_ble_eq_true rfl, Nat.le_of_ble_eq_true rfl⟩) ⟨rd_blind, va_recv hK hPm (ci := 2) (q0 := 0) rfl rfl, rd_pre ⟨hPm, hD⟩ hK⟩ rfl rfl hl.1 rfl (lv_room (Nat.le_of_ble_eq_true rfl)) dM_grow_95 ⟨Nat.le_of_ble_eq_true rfl, Nat.le_of_ble_eq_true rfl⟩) hS (fun _ z => z) (fun H locs hPm hS _ _ => ?_)
          have hD := md_D (u14.2) hD
          exact k98 u14.2 u14.1 h H locs hPm hD hS ls (lv_sub hl [] rfl)
        · have h := it_t c12 h
          exact k81 v7 h H locs hPm hD hS ls (lv_sub hl [] rfl)
    · have h := it_f c8 h
      refine lv_iconst (v := 0) hx hb dM_grow_56 (by decide) ?_
      have h := Option.some.inj h
      subst h
      exact W.iret hx hb hr (fun t ht hW => ⟨rfl, by rw [ht]; exact hPm, hS.F ht⟩) hS.2.2 dM_grow_57
  have k45 : ∀ (vv : MV) (p1 : Int32) (p2 : Int64), f_M_grow_j45 vv p1 p2 = some r → ∀ (H : Heap) (locs : List Loc), va_P (dC, dI) cls3 (mdW cL cI qm vv) H → va_D (inQ qm) (mdW cL cI qm vv) → va_S (inQ qm) s.heap H locs → ∀ (ls : Array Slot), lv_has ls 4 [(0, .ref (qm 0)), (1, .int p1), (2, .long p2)] → W p l e (headSpec wsM_grow ({ frames := 2, cells := 0, slots := 0, locals := 50 })).room s m ([.ref (qm 0), .int x1, .long x2] : List Value).toArray below meth c H locs 0 0 (MQ below (mu_Q (some (.int r.1)) (dC, dI) cls3 (mdW cL cI qm r.2) (inQ qm)) ([.ref (qm 0), .int x1, .long x2] : List Value).toArray s 0 0 (inQ qm)) (F0 m 45 ls [.ref (qm 0)]) := by
    intro vv p1 p2 h H locs hPm hD hS ls hl
    unfold f_M_grow_j45 at h
    refine lv_iconst (v := 3) hx hb dM_grow_45 (by decide) ?_
    exact k46 vv p1 p2 (3 : Int32) h H locs hPm hD hS ls (lv_sub hl [0, 1, 2] rfl)
  have hS : va_S (inQ qm) s.heap s.heap [] := va_S.rf
  obtain ⟨H, hH⟩ : ∃ H : Heap, H = s.heap := ⟨_, rfl⟩
  obtain ⟨locs, hlocs⟩ : ∃ L : List Loc, L = [] := ⟨_, rfl⟩
  suffices hgo : W p l e (headSpec wsM_grow ({ frames := 2, cells := 0, slots := 0, locals := 50 })).room s m ([.ref (qm 0), .int x1, .long x2] : List Value).toArray below meth c H locs 0 0 (MQ below (mu_Q (some (.int r.1)) (dC, dI) cls3 (mdW cL cI qm r.2) (inQ qm)) ([.ref (qm 0), .int x1, .long x2] : List Value).toArray s 0 0 (inQ qm)) (F0 m 0 ls []) by rw [hH, hlocs] at hgo; exact hgo
  rw [← hH] at hPm
  have hS : va_S (inQ qm) s.heap H locs := by rw [hH, hlocs]; exact hS
  clear hH hlocs
  unfold f_M_grow at h
  refine lv_aload_n hx hb dM_grow_0 rfl (lv_at hl 0 rfl) ?_
  refine lv_aload_n hx hb dM_grow_1 rfl (lv_at hl 0 rfl) ?_
  refine lv_iload_n hx hb dM_grow_2 rfl (lv_at hl 1 rfl) ?_
  obtain ⟨u1, hu1, h⟩ := ob_some h
  refine vp_callSi (va_Run.run (va_runV (As := [.int x1]) (rest := [.ref (qm 0)]) ⟨hx, hb, hml, hown, hw⟩ (k_M_isShape l dC dI cL cI qm v x1 u1 hu1) (cwV 1 hw (gV w_534 w_536 wp_8 w_2 w_537) rfl rfl rfl (by decide +kernel) ⟨Nat.le_of_ble_eq_true rfl, Nat.le_of_ble_eq_true rfl⟩) ⟨rd_blind, va_recv hK hPm (ci := 2) (q0 := 0) rfl rfl, rd_pre hPm hK⟩ rfl rfl hl.1 rfl (lv_room (Nat.le_of_ble_eq_true rfl)) dM_grow_3 ⟨Nat.le_of_ble_eq_true rfl, Nat.le_of_ble_eq_true rfl⟩)) (fun z hz => ?_)
  rw [hz]; clear hz
  refine lv_if_ne (tgt := 13) hx hb dM_grow_6 (by decide) (fun c2 => ?_) (fun c2 => ?_)
  · have h := it_f c2 h
    refine lv_aload_n hx hb dM_grow_13 rfl (lv_at hl 0 rfl) ?_
    refine lv_iload_n hx hb dM_grow_14 rfl (lv_at hl 1 rfl) ?_
    obtain ⟨u3, hu3, h⟩ := ob_some h
    refine vp_callSi (va_Run.run (va_runV (As := [.int x1]) (rest := [.ref (qm 0)]) ⟨hx, hb, hml, hown, hw⟩ (k_M_isWhole l dC dI cL cI qm v x1 u3 hu3) (cwV 1 hw (gV w_595 w_597 wp_16 w_2 w_598) rfl rfl rfl (by decide +kernel) ⟨Nat.le_of_ble_eq_true rfl, Nat.le_of_ble_eq_true rfl⟩) ⟨rd_blind, va_recv hK hPm (ci := 2) (q0 := 0) rfl rfl, rd_pre hPm hK⟩ rfl rfl hl.1 rfl (lv_room (Nat.le_of_ble_eq_true rfl)) dM_grow_15 ⟨Nat.le_of_ble_eq_true rfl, Nat.le_of_ble_eq_true rfl⟩)) (fun z hz => ?_)
    rw [hz]; clear hz
    refine lv_if_ne (tgt := 25) hx hb dM_grow_18 (by decide) (fun c4 => ?_) (fun c4 => ?_)
    · have h := it_f c4 h
      refine lv_lload_n hx hb dM_grow_25 rfl (lv_at hl 2 rfl) ?_
      refine lv_ldc2 (v := (-1000000000)) hx hb hown (hw _ w_648) dM_grow_26 ?_
      refine W.lcmp hx hb dM_grow_29 ?_
      refine lv_if_lt (tgt := 45) hx hb dM_grow_30 (by decide) (fun c5 => ?_) (fun c5 => ?_)
      · have h := it_t c5 h
        exact k45 v x1 x2 h H locs hPm hD hS ls (lv_sub hl [0, 1, 2] rfl)
      · have h := it_f c5 h
        refine lv_lload_n hx hb dM_grow_33 rfl (lv_at hl 2 rfl) ?_
        refine lv_ldc2 (v := 1000000000) hx hb hown (hw _ w_507) dM_grow_34 ?_
        refine W.lcmp hx hb dM_grow_37 ?_
        refine lv_if_gt (tgt := 45) hx hb dM_grow_38 (by decide) (fun c6 => ?_) (fun c6 => ?_)
        · have h := it_t c6 h
          exact k45 v x1 x2 h H locs hPm hD hS ls (lv_sub hl [0, 1, 2] rfl)
        · have h := it_f c6 h
          refine lv_iconst (v := 0) hx hb dM_grow_41 (by decide) ?_
          refine lv_goto (tgt := 46) hx hb dM_grow_42 (by decide) ?_
          exact k46 v x1 x2 (0 : Int32) h H locs hPm hD hS ls (lv_sub hl [0, 1, 2] rfl)
    · have h := it_t c4 h
      refine lv_iconst (v := 2) hx hb dM_grow_21 (by decide) ?_
      refine lv_goto (tgt := 46) hx hb dM_grow_22 (by decide) ?_
      exact k46 v x1 x2 (2 : Int32) h H locs hPm hD hS ls (lv_sub hl [0, 1, 2] rfl)
  · have h := it_t c2 h
    refine lv_iconst (v := 1) hx hb dM_grow_9 (by decide) ?_
    refine lv_goto (tgt := 46) hx hb dM_grow_10 (by decide) ?_
    exact k46 v x1 x2 (1 : Int32) h H locs hPm hD hS ls (lv_sub hl [0, 1, 2] rfl)
theorem dM_turn_0 : decode cM_turn 0 = .ok (.aload_n 0, 1) := by decide +kernel
theorem dM_turn_1 : decode cM_turn 1 = .ok (.aload_n 0, 1) := by decide +kernel
theorem dM_turn_2 : decode cM_turn 2 = .ok (.iload_n 1, 1) := by decide +kernel
theorem dM_turn_3 : decode cM_turn 3 = .ok (.invokevirtual 87, 3) := by decide +kernel
theorem dM_turn_6 : decode cM_turn 6 = .ok (.ifCond .ne 7, 3) := by decide +kernel
theorem dM_turn_9 : decode cM_turn 9 = .ok (.iconst 1, 1) := by decide +kernel
theorem dM_turn_10 : decode cM_turn 10 = .ok (.goto 16, 3) := by decide +kernel
theorem dM_turn_13 : decode cM_turn 13 = .ok (.aload_n 0, 1) := by decide +kernel
theorem dM_turn_14 : decode cM_turn 14 = .ok (.iload_n 1, 1) := by decide +kernel
theorem dM_turn_15 : decode cM_turn 15 = .ok (.invokevirtual 177, 3) := by decide +kernel
theorem dM_turn_18 : decode cM_turn 18 = .ok (.ifCond .ne 7, 3) := by decide +kernel
theorem dM_turn_21 : decode cM_turn 21 = .ok (.iconst 2, 1) := by decide +kernel
theorem dM_turn_22 : decode cM_turn 22 = .ok (.goto 4, 3) := by decide +kernel
theorem dM_turn_25 : decode cM_turn 25 = .ok (.iconst 0, 1) := by decide +kernel
theorem dM_turn_26 : decode cM_turn 26 = .ok (.putfield 50, 3) := by decide +kernel
theorem dM_turn_29 : decode cM_turn 29 = .ok (.aload_n 0, 1) := by decide +kernel
theorem dM_turn_30 : decode cM_turn 30 = .ok (.getfield 50, 3) := by decide +kernel
theorem dM_turn_33 : decode cM_turn 33 = .ok (.ifCond .eq 5, 3) := by decide +kernel
theorem dM_turn_36 : decode cM_turn 36 = .ok (.iconst 0, 1) := by decide +kernel
theorem dM_turn_37 : decode cM_turn 37 = .ok (.ireturn, 1) := by decide +kernel
theorem dM_turn_38 : decode cM_turn 38 = .ok (.aload_n 0, 1) := by decide +kernel
theorem dM_turn_39 : decode cM_turn 39 = .ok (.getfield 60, 3) := by decide +kernel
theorem dM_turn_42 : decode cM_turn 42 = .ok (.bipush 40, 2) := by decide +kernel
theorem dM_turn_44 : decode cM_turn 44 = .ok (.if_icmp .ne 5, 3) := by decide +kernel
theorem dM_turn_47 : decode cM_turn 47 = .ok (.iconst (-1), 1) := by decide +kernel
theorem dM_turn_48 : decode cM_turn 48 = .ok (.ireturn, 1) := by decide +kernel
theorem dM_turn_49 : decode cM_turn 49 = .ok (.aload_n 0, 1) := by decide +kernel
theorem dM_turn_50 : decode cM_turn 50 = .ok (.iload_n 1, 1) := by decide +kernel
theorem dM_turn_51 : decode cM_turn 51 = .ok (.aload_n 0, 1) := by decide +kernel
theorem dM_turn_52 : decode cM_turn 52 = .ok (.getfield 13, 3) := by decide +kernel
theorem dM_turn_55 : decode cM_turn 55 = .ok (.iload_n 1, 1) := by decide +kernel
theorem dM_turn_56 : decode cM_turn 56 = .ok (.laload, 1) := by decide +kernel
theorem dM_turn_57 : decode cM_turn 57 = .ok (.invokevirtual 185, 3) := by decide +kernel
theorem dM_turn_60 : decode cM_turn 60 = .ok (.istore 4, 2) := by decide +kernel
theorem dM_turn_62 : decode cM_turn 62 = .ok (.iload_n 2, 1) := by decide +kernel
theorem dM_turn_63 : decode cM_turn 63 = .ok (.iconst 4, 1) := by decide +kernel
theorem dM_turn_64 : decode cM_turn 64 = .ok (.irem, 1) := by decide +kernel
theorem dM_turn_65 : decode cM_turn 65 = .ok (.iconst 4, 1) := by decide +kernel
theorem dM_turn_66 : decode cM_turn 66 = .ok (.iadd, 1) := by decide +kernel
theorem dM_turn_67 : decode cM_turn 67 = .ok (.iconst 4, 1) := by decide +kernel
theorem dM_turn_68 : decode cM_turn 68 = .ok (.irem, 1) := by decide +kernel
theorem dM_turn_69 : decode cM_turn 69 = .ok (.istore 5, 2) := by decide +kernel
theorem dM_turn_71 : decode cM_turn 71 = .ok (.bipush 48, 2) := by decide +kernel
theorem dM_turn_73 : decode cM_turn 73 = .ok (.iload 4, 2) := by decide +kernel
theorem dM_turn_75 : decode cM_turn 75 = .ok (.imul, 1) := by decide +kernel
theorem dM_turn_76 : decode cM_turn 76 = .ok (.istore 6, 2) := by decide +kernel
theorem dM_turn_78 : decode cM_turn 78 = .ok (.iload 6, 2) := by decide +kernel
theorem dM_turn_80 : decode cM_turn 80 = .ok (.bipush 48, 2) := by decide +kernel
theorem dM_turn_82 : decode cM_turn 82 = .ok (.iload 4, 2) := by decide +kernel
theorem dM_turn_84 : decode cM_turn 84 = .ok (.imul, 1) := by decide +kernel
theorem dM_turn_85 : decode cM_turn 85 = .ok (.aload_n 0, 1) := by decide +kernel
theorem dM_turn_86 : decode cM_turn 86 = .ok (.getfield 23, 3) := by decide +kernel
theorem dM_turn_89 : decode cM_turn 89 = .ok (.iload 4, 2) := by decide +kernel
theorem dM_turn_91 : decode cM_turn 91 = .ok (.iaload, 1) := by decide +kernel
theorem dM_turn_92 : decode cM_turn 92 = .ok (.iadd, 1) := by decide +kernel
theorem dM_turn_93 : decode cM_turn 93 = .ok (.if_icmp .ge 79, 3) := by decide +kernel
theorem dM_turn_96 : decode cM_turn 96 = .ok (.iload_n 3, 1) := by decide +kernel
theorem dM_turn_97 : decode cM_turn 97 = .ok (.ifCond .eq 19, 3) := by decide +kernel
theorem dM_turn_100 : decode cM_turn 100 = .ok (.aload_n 0, 1) := by decide +kernel
theorem dM_turn_101 : decode cM_turn 101 = .ok (.getfield 17, 3) := by decide +kernel
theorem dM_turn_104 : decode cM_turn 104 = .ok (.iload 6, 2) := by decide +kernel
theorem dM_turn_106 : decode cM_turn 106 = .ok (.lconst 0, 1) := by decide +kernel
theorem dM_turn_107 : decode cM_turn 107 = .ok (.aload_n 0, 1) := by decide +kernel
theorem dM_turn_108 : decode cM_turn 108 = .ok (.getfield 17, 3) := by decide +kernel
theorem dM_turn_111 : decode cM_turn 111 = .ok (.iload 6, 2) := by decide +kernel
theorem dM_turn_113 : decode cM_turn 113 = .ok (.laload, 1) := by decide +kernel
theorem dM_turn_114 : decode cM_turn 114 = .ok (.lsub, 1) := by decide +kernel
theorem dM_turn_115 : decode cM_turn 115 = .ok (.lastore, 1) := by decide +kernel
theorem dM_turn_116 : decode cM_turn 116 = .ok (.iconst 0, 1) := by decide +kernel
theorem dM_turn_117 : decode cM_turn 117 = .ok (.istore 7, 2) := by decide +kernel
theorem dM_turn_119 : decode cM_turn 119 = .ok (.iload 7, 2) := by decide +kernel
theorem dM_turn_121 : decode cM_turn 121 = .ok (.iload 5, 2) := by decide +kernel
theorem dM_turn_123 : decode cM_turn 123 = .ok (.if_icmp .ge 43, 3) := by decide +kernel
theorem dM_turn_126 : decode cM_turn 126 = .ok (.aload_n 0, 1) := by decide +kernel
theorem dM_turn_127 : decode cM_turn 127 = .ok (.getfield 17, 3) := by decide +kernel
theorem dM_turn_130 : decode cM_turn 130 = .ok (.iload 6, 2) := by decide +kernel
theorem dM_turn_132 : decode cM_turn 132 = .ok (.laload, 1) := by decide +kernel
theorem dM_turn_133 : decode cM_turn 133 = .ok (.lstore 8, 2) := by decide +kernel
theorem dM_turn_135 : decode cM_turn 135 = .ok (.aload_n 0, 1) := by decide +kernel
theorem dM_turn_136 : decode cM_turn 136 = .ok (.getfield 17, 3) := by decide +kernel
theorem dM_turn_139 : decode cM_turn 139 = .ok (.iload 6, 2) := by decide +kernel
theorem dM_turn_141 : decode cM_turn 141 = .ok (.lconst 0, 1) := by decide +kernel
theorem dM_turn_142 : decode cM_turn 142 = .ok (.aload_n 0, 1) := by decide +kernel
theorem dM_turn_143 : decode cM_turn 143 = .ok (.getfield 20, 3) := by decide +kernel
theorem dM_turn_146 : decode cM_turn 146 = .ok (.iload 6, 2) := by decide +kernel
theorem dM_turn_148 : decode cM_turn 148 = .ok (.laload, 1) := by decide +kernel
theorem dM_turn_149 : decode cM_turn 149 = .ok (.lsub, 1) := by decide +kernel
theorem dM_turn_150 : decode cM_turn 150 = .ok (.lastore, 1) := by decide +kernel
theorem dM_turn_151 : decode cM_turn 151 = .ok (.aload_n 0, 1) := by decide +kernel
theorem dM_turn_152 : decode cM_turn 152 = .ok (.getfield 20, 3) := by decide +kernel
theorem dM_turn_155 : decode cM_turn 155 = .ok (.iload 6, 2) := by decide +kernel
theorem dM_turn_157 : decode cM_turn 157 = .ok (.lload 8, 2) := by decide +kernel
theorem dM_turn_159 : decode cM_turn 159 = .ok (.lastore, 1) := by decide +kernel
theorem dM_turn_160 : decode cM_turn 160 = .ok (.iinc 7 1, 3) := by decide +kernel
theorem dM_turn_163 : decode cM_turn 163 = .ok (.goto (-44), 3) := by decide +kernel
theorem dM_turn_166 : decode cM_turn 166 = .ok (.iinc 6 1, 3) := by decide +kernel
theorem dM_turn_169 : decode cM_turn 169 = .ok (.goto (-91), 3) := by decide +kernel
theorem dM_turn_172 : decode cM_turn 172 = .ok (.aload_n 0, 1) := by decide +kernel
theorem dM_turn_173 : decode cM_turn 173 = .ok (.getfield 7, 3) := by decide +kernel
theorem dM_turn_176 : decode cM_turn 176 = .ok (.iload 4, 2) := by decide +kernel
theorem dM_turn_178 : decode cM_turn 178 = .ok (.iaload, 1) := by decide +kernel
theorem dM_turn_179 : decode cM_turn 179 = .ok (.iconst 1, 1) := by decide +kernel
theorem dM_turn_180 : decode cM_turn 180 = .ok (.if_icmp .ne 12, 3) := by decide +kernel
theorem dM_turn_183 : decode cM_turn 183 = .ok (.aload_n 0, 1) := by decide +kernel
theorem dM_turn_184 : decode cM_turn 184 = .ok (.bipush 48, 2) := by decide +kernel
theorem dM_turn_186 : decode cM_turn 186 = .ok (.iload 4, 2) := by decide +kernel
theorem dM_turn_188 : decode cM_turn 188 = .ok (.imul, 1) := by decide +kernel
theorem dM_turn_189 : decode cM_turn 189 = .ok (.invokevirtual 188, 3) := by decide +kernel
theorem dM_turn_192 : decode cM_turn 192 = .ok (.iload 4, 2) := by decide +kernel
theorem dM_turn_194 : decode cM_turn 194 = .ok (.ireturn, 1) := by decide +kernel
def f_M_turn_j192 (vv : MV) (p4 : Int32) : Option (Int32 × MV) := some (p4, vv)
def f_M_turn_l119 (K78 : MV → Int32 → Int32 → Int32 → Int32 → Option (Int32 × MV)) : Nat → MV → Int32 → Int32 → Int32 → Int32 → Int32 → Option (Int32 × MV)
 | 0, _, _, _, _, _, _ => none
 | n + 1, vv, p3, p4, p5, p6, p7 => (if p5 ≤ p7 then (K78 vv p3 p4 p5 (p6 + 1)) else (ld 1920 (md_cornerX vv) p6).bind fun u21 => (ld 1920 (md_cornerY vv) p6).bind fun u22 => (ck 1920 p6).bind fun u23 => (some (ms_cornerX vv (vp_updL (md_cornerX vv) p6.toNatClampNeg ((0 : Int64) - u22)))).bind fun v24 => (ck 1920 p6).bind fun u25 => (some (ms_cornerY v24 (vp_updL (md_cornerY v24) p6.toNatClampNeg u21))).bind fun v26 => ((f_M_turn_l119 K78 n) v26 p3 p4 p5 p6 (p7 + 1)))
def f_M_turn_j116 (K78 : MV → Int32 → Int32 → Int32 → Int32 → Option (Int32 × MV)) (vv : MV) (p3 : Int32) (p4 : Int32) (p5 : Int32) (p6 : Int32) : Option (Int32 × MV) := (f_M_turn_l119 K78 64 vv p3 p4 p5 p6 (0 : Int32))
def f_M_turn_l78 : Nat → MV → Int32 → Int32 → Int32 → Int32 → Option (Int32 × MV)
 | 0, _, _, _, _, _ => none
 | n + 1, vv, p3, p4, p5, p6 => (ld 40 (md_many vv) p4).bind fun u11 => (if (((48 : Int32) * p4) + u11) ≤ p6 then (ld 40 (md_kinds vv) p4).bind fun u13 => (if u13 = (1 : Int32) then (f_M_order vv ((48 : Int32) * p4)).bind fun u15 => (f_M_turn_j192 u15 p4) else (f_M_turn_j192 vv p4)) else (if p3 = 0 then (f_M_turn_j116 (f_M_turn_l78 n) vv p3 p4 p5 p6) else (ld 1920 (md_cornerX vv) p6).bind fun u17 => (ck 1920 p6).bind fun u18 => (some (ms_cornerX vv (vp_updL (md_cornerX vv) p6.toNatClampNeg ((0 : Int64) - u17)))).bind fun v19 => (f_M_turn_j116 (f_M_turn_l78 n) v19 p3 p4 p5 p6)))
def f_M_turn_j26 (vv : MV) (p1 : Int32) (p2 : Int32) (p3 : Int32) (s1 : Int32) : Option (Int32 × MV) := (some (ms_thrown vv s1)).bind fun v5 => (if (md_thrown v5) = 0 then (if (md_shapes v5) = (40 : Int32) then some ((-1 : Int32), v5) else (ld 40 (md_radii v5) p1).bind fun u8 => (f_M_copy v5 p1 u8).bind fun u9 => (some (((p2 - p2 / (4 : Int32) * (4 : Int32)) + (4 : Int32)) - ((p2 - p2 / (4 : Int32) * (4 : Int32)) + (4 : Int32)) / (4 : Int32) * (4 : Int32))).bind fun u10 => (f_M_turn_l78 64 u9.2 p3 u9.1 u10 ((48 : Int32) * u9.1))) else some ((0 : Int32), v5))
def f_M_turn (v : MV) (x1 : Int32) (x2 : Int32) (x3 : Int32) : Option (Int32 × MV) := (f_M_isShape v x1).bind fun u1 => (if u1 = 0 then (f_M_turn_j26 v x1 x2 x3 (1 : Int32)) else (f_M_isWhole v x1).bind fun u3 => (if u3 = 0 then (f_M_turn_j26 v x1 x2 x3 (2 : Int32)) else (f_M_turn_j26 v x1 x2 x3 (0 : Int32))))
set_option maxHeartbeats 4000000 in
set_option maxRecDepth 100000 in
theorem k_M_turn (l : Launch) (dC : Nat → ClassId) (dI : Nat → Nat → Nat) (cL cI : ClassId) (qm : Nat → Nat) (v : MV) (x1 : Int32) (x2 : Int32) (x3 : Int32) (r : (Int32 × MV)) (h : f_M_turn v x1 x2 x3 = some r) : Met l yM_turn wsM_turn ({ frames := 2, cells := 0, slots := 0, locals := 50 }) (rd_Pc [.ref (qm 0), .int x1, .int x2, .int x3] (fun H => va_P (dC, dI) cls3 (mdW cL cI qm v) H ∧ va_D (inQ qm) (mdW cL cI qm v)) (dC, dI) cls3 [(cL, .long), (cI, .int)]) (mu_Q (some (.int r.1)) (dC, dI) cls3 (mdW cL cI qm r.2) (inQ qm)) 0 0 (inQ qm) := by
  refine Met.ofW (cc := cM_turn) (maxL := 10) (ret := (some .int)) (by decide) rfl ?_
  intro p e s m args below meth c s₁ B hml hv
  obtain ⟨rfl, ⟨hPm, hD⟩, hK⟩ := hv
  have hx := B.exec
  have hb := B.bytes
  have hr := B.returns
  have hw : ∀ w ∈ wG, w.before ([.ref (qm 0), .int x1, .int x2, .int x3] : List Value).toArray s = true := fun w hq => atoms_spec (ws := wsM_turn) B.pre w (List.mem_cons_of_mem _ hq)
  have hown : s.vm.findClass R_M = some m.cls := findClass_of_methodNamed B.named
  have hlocks := B.notSynchronized
  have hl := lv_entry ([.ref (qm 0), .int x1, .int x2, .int x3] : List Value) (n := 10) (Nat.le_of_ble_eq_true rfl)
  rw [lg_entry_eq]
  generalize (lg_sl ([.ref (qm 0), .int x1, .int x2, .int x3] : List Value) ++ List.replicate (10 - (lg_sl ([.ref (qm 0), .int x1, .int x2, .int x3] : List Value)).length) Slot.unset).toArray = ls at hl ⊢
  have hl : lv_has ls 10 [(0, .ref (qm 0)), (1, .int x1), (2, .int x2), (3, .int x3)] := hl
  have k192 : ∀ (vv : MV) (p4 : Int32), f_M_turn_j192 vv p4 = some r → ∀ (H : Heap) (locs : List Loc), va_P (dC, dI) cls3 (mdW cL cI qm vv) H → va_D (inQ qm) (mdW cL cI qm vv) → va_S (inQ qm) s.heap H locs → ∀ (ls : Array Slot), lv_has ls 10 [(4, .int p4)] → W p l e (headSpec wsM_turn ({ frames := 2, cells := 0, slots := 0, locals := 50 })).room s m ([.ref (qm 0), .int x1, .int x2, .int x3] : List Value).toArray below meth c H locs 0 0 (MQ below (mu_Q (some (.int r.1)) (dC, dI) cls3 (mdW cL cI qm r.2) (inQ qm)) ([.ref (qm 0), .int x1, .int x2, .int x3] : List Value).toArray s 0 0 (inQ qm)) (F0 m 192 ls []) := by
    intro vv p4 h H locs hPm hD hS ls hl
    unfold f_M_turn_j192 at h
    refine lv_iload hx hb dM_turn_192 (lv_at hl 0 rfl) ?_
    have h := Option.some.inj h
    subst h
    exact W.iret hx hb hr (fun t ht hW => ⟨rfl, by rw [ht]; exact hPm, hS.F ht⟩) hS.2.2 dM_turn_194
  have k78 : ∀ (n78 : Nat), ∀ (vv : MV) (p3 : Int32) (p4 : Int32) (p5 : Int32) (p6 : Int32), f_M_turn_l78 n78 vv p3 p4 p5 p6 = some r → ∀ (H : Heap) (locs : List Loc), va_P (dC, dI) cls3 (mdW cL cI qm vv) H → va_D (inQ qm) (mdW cL cI qm vv) → va_S (inQ qm) s.heap H locs → ∀ (ls : Array Slot), lv_has ls 10 [(0, .ref (qm 0)), (3, .int p3), (4, .int p4), (5, .int p5), (6, .int p6)] → W p l e (headSpec wsM_turn ({ frames := 2, cells := 0, slots := 0, locals := 50 })).room s m ([.ref (qm 0), .int x1, .int x2, .int x3] : List Value).toArray below meth c H locs 0 0 (MQ below (mu_Q (some (.int r.1)) (dC, dI) cls3 (mdW cL cI qm r.2) (inQ qm)) ([.ref (qm 0), .int x1, .int x2, .int x3] : List Value).toArray s 0 0 (inQ qm)) (F0 m 78 ls []) := by
    intro n78
    induction n78 with
    | zero => intro vv p3 p4 p5 p6 h; exact absurd h (by simp [f_M_turn_l78])
    | succ n78 ih78 =>
      have k119 : ∀ (n119 : Nat), ∀ (vv : MV) (p3 : Int32) (p4 : Int32) (p5 : Int32) (p6 : Int32) (p7 : Int32), f_M_turn_l119 (f_M_turn_l78 n78) n119 vv p3 p4 p5 p6 p7 = some r → ∀ (H : Heap) (locs : List Loc), va_P (dC, dI) cls3 (mdW cL cI qm vv) H → va_D (inQ qm) (mdW cL cI qm vv) → va_S (inQ qm) s.heap H locs → ∀ (ls : Array Slot), lv_has ls 10 [(0, .ref (qm 0)), (3, .int p3), (4, .int p4), (5, .int p5), (6, .int p6), (7, .int p7)] → W p l e (headSpec wsM_turn ({ frames := 2, cells := 0, slots := 0, locals := 50 })).room s m ([.ref (qm 0), .int x1, .int x2, .int x3] : List Value).toArray below meth c H locs 0 0 (MQ below (mu_Q (some (.int r.1)) (dC, dI) cls3 (mdW cL cI qm r.2) (inQ qm)) ([.ref (qm 0), .int x1, .int x2, .int x3] : List Value).toArray s 0 0 (inQ qm)) (F0 m 119 ls []) := by
        intro n119
        induction n119 with
        | zero => intro vv p3 p4 p5 p6 p7 h; exact absurd h (by simp [f_M_turn_l119])
        | succ n119 ih119 =>
          intro vv p3 p4 p5 p6 p7 h H locs hPm hD hS ls hl
          rw [f_M_turn_l119] at h
          refine lv_iload hx hb dM_turn_119 (lv_at hl 5 rfl) ?_
          refine lv_iload hx hb dM_turn_121 (lv_at hl 3 rfl) ?_
          refine lv_icmp_ge (tgt := 166) hx hb dM_turn_123 (by decide) (fun c20 => ?_) (fun c20 => ?_)
          · have h := it_t c20 h
            refine lv_iinc (v := p6 + 1) (lv' := [(6, .int (p6 + 1)), (0, .ref (qm 0)), (3, .int p3), (4, .int p4), (5, .int p5), (7, .int p7)]) hx hb dM_turn_166 hl (k := 4) rfl rfl (by decide) rfl (fun ls hl => ?_)
            refine lv_goto (tgt := 78) hx hb dM_turn_169 (by decide) ?_
            exact ih78 vv p3 p4 p5 (p6 + 1) h H locs hPm hD hS ls (lv_sub hl [1, 2, 3, 4, 0] rfl)
          · have h := it_f c20 h
            refine lv_aload_n hx hb dM_turn_126 rfl (lv_at hl 0 rfl) ?_
            refine va_get (D := (dC, dI)) (ci := 2) (v := .ref (qm 3)) (C := R_M) (T := T_M) (N := 15) hx hb hw in_M hown hK hPm 0 rfl rfl 4 (by decide) (hw _ w_449) (fun _ h9 => h9) rfl dM_turn_127 ?_
            refine lv_iload hx hb dM_turn_130 (lv_at hl 4 rfl) ?_
            obtain ⟨u21, hu21, h⟩ := ob_some h
            obtain ⟨hiu21, eu21⟩ := ld_of hu21
            refine va_lald hx hb hK hPm 3 0 rfl rfl hiu21 dM_turn_132 ?_
            rw [eu21]
            refine lv_lstore (lv' := [(8, .long u21), (0, .ref (qm 0)), (3, .int p3), (4, .int p4), (5, .int p5), (6, .int p6), (7, .int p7)]) hx hb dM_turn_133 hl (by decide) rfl (fun ls hl => ?_)
            refine lv_aload_n hx hb dM_turn_135 rfl (lv_at hl 1 rfl) ?_
            refine va_get (D := (dC, dI)) (ci := 2) (v := .ref (qm 3)) (C := R_M) (T := T_M) (N := 15) hx hb hw in_M hown hK hPm 0 rfl rfl 4 (by decide) (hw _ w_449) (fun _ h9 => h9) rfl dM_turn_136 ?_
            refine lv_iload hx hb dM_turn_139 (lv_at hl 5 rfl) ?_
            refine lv_lconst (v := 0) hx hb dM_turn_141 (by decide) ?_
            refine lv_aload_n hx hb dM_turn_142 rfl (lv_at hl 1 rfl) ?_
            refine va_get (D := (dC, dI)) (ci := 2) (v := .ref (qm 4)) (C := R_M) (T := T_M) (N := 15) hx hb hw in_M hown hK hPm 0 rfl rfl 5 (by decide) (hw _ w_450) (fun _ h9 => h9) rfl dM_turn_143 ?_
            refine lv_iload hx hb dM_turn_146 (lv_at hl 5 rfl) ?_
            obtain ⟨u22, hu22, h⟩ := ob_some h
            obtain ⟨hiu22, eu22⟩ := ld_of hu22
            refine va_lald hx hb hK hPm 4 0 rfl rfl hiu22 dM_turn_148 ?_
            rw [eu22]
            refine lv_lsub hx hb dM_turn_149 ?_
            obtain ⟨u23, hu23, h⟩ := ob_some h
            refine va_last hx hb hK hPm hD hS 3 0 rfl rfl (ck_of hu23) dM_turn_150 (fun H locs hPm hD hS => ?_)
            obtain ⟨v24, hv24, h⟩ := ob_some h
            have hPm : va_P (dC, dI) cls3 (mdW cL cI qm (ms_cornerX vv (vp_updL (md_cornerX vv) p6.toNatClampNeg ((0 : Int64) - u22)))) H := hPm
            have hD : va_D (inQ qm) (mdW cL cI qm (ms_cornerX vv (vp_updL (md_cornerX vv) p6.toNatClampNeg ((0 : Int64) - u22)))) := hD
            rw [Option.some.inj hv24] at hPm hD
            refine lv_aload_n hx hb dM_turn_151 rfl (lv_at hl 1 rfl) ?_
            refine va_get (D := (dC, dI)) (ci := 2) (v := .ref (qm 4)) (C := R_M) (T := T_M) (N := 15) hx hb hw in_M hown hK hPm 0 rfl rfl 5 (by decide) (hw _ w_450) (fun _ h9 => h9) rfl dM_turn_152 ?_
            refine lv_iload hx hb dM_turn_155 (lv_at hl 5 rfl) ?_
            refine lv_lload hx hb dM_turn_157 (lv_at hl 0 rfl) ?_
            obtain ⟨u25, hu25, h⟩ := ob_some h
            refine va_last hx hb hK hPm hD hS 4 0 rfl rfl (ck_of hu25) dM_turn_159 (fun H locs hPm hD hS => ?_)
            obtain ⟨v26, hv26, h⟩ := ob_some h
            have hPm : va_P (dC, dI) cls3 (mdW cL cI qm (ms_cornerY v24 (vp_updL (md_cornerY v24) p6.toNatClampNeg u21))) H := hPm
            have hD : va_D (inQ qm) (mdW cL cI qm (ms_cornerY v24 (vp_updL (md_cornerY v24) p6.toNatClampNeg u21))) := hD
            rw [Option.some.inj hv26] at hPm hD
            refine lv_iinc (v := p7 + 1) (lv' := [(7, .int (p7 + 1)), (8, .long u21), (0, .ref (qm 0)), (3, .int p3), (4, .int p4), (5, .int p5), (6, .int p6)]) hx hb dM_turn_160 hl (k := 6) rfl rfl (by decide) rfl (fun ls hl => ?_)
            refine lv_goto (tgt := 119) hx hb dM_turn_163 (by decide) ?_
            exact ih119 v26 p3 p4 p5 p6 (p7 + 1) h H locs hPm hD hS ls (lv_sub hl [2, 3, 4, 5, 6, 0] rfl)
      have k116 : ∀ (vv : MV) (p3 : Int32) (p4 : Int32) (p5 : Int32) (p6 : Int32), f_M_turn_j116 (f_M_turn_l78 n78) vv p3 p4 p5 p6 = some r → ∀ (H : Heap) (locs : List Loc), va_P (dC, dI) cls3 (mdW cL cI qm vv) H → va_D (inQ qm) (mdW cL cI qm vv) → va_S (inQ qm) s.heap H locs → ∀ (ls : Array Slot), lv_has ls 10 [(0, .ref (qm 0)), (3, .int p3), (4, .int p4), (5, .int p5), (6, .int p6)] → W p l e (headSpec wsM_turn ({ frames := 2, cells := 0, slots := 0, locals := 50 })).room s m ([.ref (qm 0), .int x1, .int x2, .int x3] : List Value).toArray below meth c H locs 0 0 (MQ below (mu_Q (some (.int r.1)) (dC, dI) cls3 (mdW cL cI qm r.2) (inQ qm)) ([.ref (qm 0), .int x1, .int x2, .int x3] : List Value).toArray s 0 0 (inQ qm)) (F0 m 116 ls []) := by
        intro vv p3 p4 p5 p6 h H locs hPm hD hS ls hl
        unfold f_M_turn_j116 at h
        refine lv_iconst (v := 0) hx hb dM_turn_116 (by decide) ?_
        refine lv_istore (lv' := [(7, .int (0 : Int32)), (0, .ref (qm 0)), (3, .int p3), (4, .int p4), (5, .int p5), (6, .int p6)]) hx hb dM_turn_117 hl (by decide) rfl (fun ls hl => ?_)
        exact k119 64 vv p3 p4 p5 p6 (0 : Int32) h H locs hPm hD hS ls (lv_sub hl [1, 2, 3, 4, 5, 0] rfl)
      intro vv p3 p4 p5 p6 h H locs hPm hD hS ls hl
      rw [f_M_turn_l78] at h
      refine lv_iload hx hb dM_turn_78 (lv_at hl 4 rfl) ?_
      refine lv_bipush (v := 48) hx hb dM_turn_80 (by decide) ?_
      refine lv_iload hx hb dM_turn_82 (lv_at hl 2 rfl) ?_
      refine lv_imul hx hb dM_turn_84 ?_
      refine lv_aload_n hx hb dM_turn_85 rfl (lv_at hl 0 rfl) ?_
      refine va_get (D := (dC, dI)) (ci := 2) (v := .ref (qm 5)) (C := R_M) (T := T_M) (N := 15) hx hb hw in_M hown hK hPm 0 rfl rfl 6 (by decide) (hw _ w_451) (fun _ h9 => h9) rfl dM_turn_86 ?_
      refine lv_iload hx hb dM_turn_89 (lv_at hl 2 rfl) ?_
      obtain ⟨u11, hu11, h⟩ := ob_some h
      obtain ⟨hiu11, eu11⟩ := ld_of hu11
      refine va_iald hx hb hK hPm 5 1 rfl rfl hiu11 dM_turn_91 ?_
      rw [eu11]
      refine lv_iadd hx hb dM_turn_92 ?_
      refine lv_icmp_ge (tgt := 172) hx hb dM_turn_93 (by decide) (fun c12 => ?_) (fun c12 => ?_)
      · have h := it_t c12 h
        refine lv_aload_n hx hb dM_turn_172 rfl (lv_at hl 0 rfl) ?_
        refine va_get (D := (dC, dI)) (ci := 2) (v := .ref (qm 1)) (C := R_M) (T := T_M) (N := 15) hx hb hw in_M hown hK hPm 0 rfl rfl 2 (by decide) (hw _ w_447) (fun _ h9 => h9) rfl dM_turn_173 ?_
        refine lv_iload hx hb dM_turn_176 (lv_at hl 2 rfl) ?_
        obtain ⟨u13, hu13, h⟩ := ob_some h
        obtain ⟨hiu13, eu13⟩ := ld_of hu13
        refine va_iald hx hb hK hPm 1 1 rfl rfl hiu13 dM_turn_178 ?_
        rw [eu13]
        refine lv_iconst (v := 1) hx hb dM_turn_179 (by decide) ?_
        refine lv_icmp_ne (tgt := 192) hx hb dM_turn_180 (by decide) (fun c14 => ?_) (fun c14 => ?_)
        · have h := it_f c14 h
          exact k192 vv p4 h H locs hPm hD hS ls (lv_sub hl [2] rfl)
        · have h := it_t c14 h
          refine lv_aload_n hx hb dM_turn_183 rfl (lv_at hl 0 rfl) ?_
          refine lv_bipush (v := 48) hx hb dM_turn_184 (by decide) ?_
          refine lv_iload hx hb dM_turn_186 (lv_at hl 2 rfl) ?_
          refine lv_imul hx hb dM_turn_188 ?_
          obtain ⟨u15, hu15, h⟩ := ob_some h
          refine mu_call (va_runV (As := [.int ((48 : Int32) * p4)]) (rest := []) ⟨hx, hb, hml, hown, hw⟩ (k_M_order l dC dI cL cI qm vv ((48 : Int32) * p4) u15 hu15) (cwV 1 hw (gV w_657 w_659 wp_28 w_2 w_660) rfl rfl rfl (by decide +kernel) ⟨Nat.le_of_ble_eq_true rfl, Nat.le_of_ble_eq_true rfl⟩) ⟨rd_blind, va_recv hK hPm (ci := 2) (q0 := 0) rfl rfl, rd_pre ⟨hPm, hD⟩ hK⟩ rfl rfl hl.1 rfl (lv_room (Nat.le_of_ble_eq_true rfl)) dM_turn_189 ⟨Nat.le_of_ble_eq_true rfl, Nat.le_of_ble_eq_true rfl⟩) hS (fun _ z => z) (fun H locs hPm hS _ _ => ?_)
          have hD := md_D (u15) hD
          exact k192 u15 p4 h H locs hPm hD hS ls (lv_sub hl [2] rfl)
      · have h := it_f c12 h
        refine lv_iload_n hx hb dM_turn_96 rfl (lv_at hl 1 rfl) ?_
        refine lv_if_eq (tgt := 116) hx hb dM_turn_97 (by decide) (fun c16 => ?_) (fun c16 => ?_)
        · have h := it_t c16 h
          exact k116 vv p3 p4 p5 p6 h H locs hPm hD hS ls (lv_sub hl [0, 1, 2, 3, 4] rfl)
        · have h := it_f c16 h
          refine lv_aload_n hx hb dM_turn_100 rfl (lv_at hl 0 rfl) ?_
          refine va_get (D := (dC, dI)) (ci := 2) (v := .ref (qm 3)) (C := R_M) (T := T_M) (N := 15) hx hb hw in_M hown hK hPm 0 rfl rfl 4 (by decide) (hw _ w_449) (fun _ h9 => h9) rfl dM_turn_101 ?_
          refine lv_iload hx hb dM_turn_104 (lv_at hl 4 rfl) ?_
          refine lv_lconst (v := 0) hx hb dM_turn_106 (by decide) ?_
          refine lv_aload_n hx hb dM_turn_107 rfl (lv_at hl 0 rfl) ?_
          refine va_get (D := (dC, dI)) (ci := 2) (v := .ref (qm 3)) (C := R_M) (T := T_M) (N := 15) hx hb hw in_M hown hK hPm 0 rfl rfl 4 (by decide) (hw _ w_449) (fun _ h9 => h9) rfl dM_turn_108 ?_
          refine lv_iload hx hb dM_turn_111 (lv_at hl 4 rfl) ?_
          obtain ⟨u17, hu17, h⟩ := ob_some h
          obtain ⟨hiu17, eu17⟩ := ld_of hu17
          refine va_lald hx hb hK hPm 3 0 rfl rfl hiu17 dM_turn_113 ?_
          rw [eu17]
          refine lv_lsub hx hb dM_turn_114 ?_
          obtain ⟨u18, hu18, h⟩ := ob_some h
          refine va_last hx hb hK hPm hD hS 3 0 rfl rfl (ck_of hu18) dM_turn_115 (fun H locs hPm hD hS => ?_)
          obtain ⟨v19, hv19, h⟩ := ob_some h
          have hPm : va_P (dC, dI) cls3 (mdW cL cI qm (ms_cornerX vv (vp_updL (md_cornerX vv) p6.toNatClampNeg ((0 : Int64) - u17)))) H := hPm
          have hD : va_D (inQ qm) (mdW cL cI qm (ms_cornerX vv (vp_updL (md_cornerX vv) p6.toNatClampNeg ((0 : Int64) - u17)))) := hD
          rw [Option.some.inj hv19] at hPm hD
          exact k116 v19 p3 p4 p5 p6 h H locs hPm hD hS ls (lv_sub hl [0, 1, 2, 3, 4] rfl)
  have k26 : ∀ (vv : MV) (p1 : Int32) (p2 : Int32) (p3 : Int32) (s1 : Int32), f_M_turn_j26 vv p1 p2 p3 s1 = some r → ∀ (H : Heap) (locs : List Loc), va_P (dC, dI) cls3 (mdW cL cI qm vv) H → va_D (inQ qm) (mdW cL cI qm vv) → va_S (inQ qm) s.heap H locs → ∀ (ls : Array Slot), lv_has ls 10 [(0, .ref (qm 0)), (1, .int p1), (2, .int p2), (3, .int p3)] → W p l e (headSpec wsM_turn ({ frames := 2, cells := 0, slots := 0, locals := 50 })).room s m ([.ref (qm 0), .int x1, .int x2, .int x3] : List Value).toArray below meth c H locs 0 0 (MQ below (mu_Q (some (.int r.1)) (dC, dI) cls3 (mdW cL cI qm r.2) (inQ qm)) ([.ref (qm 0), .int x1, .int x2, .int x3] : List Value).toArray s 0 0 (inQ qm)) (F0 m 26 ls [.int s1, .ref (qm 0)]) := by
    intro vv p1 p2 p3 s1 h H locs hPm hD hS ls hl
    unfold f_M_turn_j26 at h
    refine va_put (D := (dC, dI)) (ci := 2) (v := .int s1) (ty := .int) (C := R_M) (T := T_M) (N := 15) hx hb hw in_M t_M t_M_ok nm_M hown hK hPm hD hS 0 rfl rfl 0 (by decide) (hw _ w_445) (fun _ h9 => h9) rfl (by decide +kernel) rfl rfl (Nat.le_of_ble_eq_true rfl) dM_turn_26 (fun H locs hPm hD hS => ?_)
    obtain ⟨v5, hv5, h⟩ := ob_some h
    have hPm : va_P (dC, dI) cls3 (mdW cL cI qm (ms_thrown vv s1)) H := hPm
    have hD : va_D (inQ qm) (mdW cL cI qm (ms_thrown vv s1)) := hD
    rw [Option.some.inj hv5] at hPm hD
    refine lv_aload_n hx hb dM_turn_29 rfl (lv_at hl 0 rfl) ?_
    refine va_get (D := (dC, dI)) (ci := 2) (v := .int (md_thrown v5)) (C := R_M) (T := T_M) (N := 15) hx hb hw in_M hown hK hPm 0 rfl rfl 0 (by decide) (hw _ w_445) (fun _ h9 => h9) rfl dM_turn_30 ?_
    refine lv_if_eq (tgt := 38) hx hb dM_turn_33 (by decide) (fun c6 => ?_) (fun c6 => ?_)
    · have h := it_t c6 h
      refine lv_aload_n hx hb dM_turn_38 rfl (lv_at hl 0 rfl) ?_
      refine va_get (D := (dC, dI)) (ci := 2) (v := .int (md_shapes v5)) (C := R_M) (T := T_M) (N := 15) hx hb hw in_M hown hK hPm 0 rfl rfl 1 (by decide) (hw _ w_446) (fun _ h9 => h9) rfl dM_turn_39 ?_
      refine lv_bipush (v := 40) hx hb dM_turn_42 (by decide) ?_
      refine lv_icmp_ne (tgt := 49) hx hb dM_turn_44 (by decide) (fun c7 => ?_) (fun c7 => ?_)
      · have h := it_f c7 h
        refine lv_aload_n hx hb dM_turn_49 rfl (lv_at hl 0 rfl) ?_
        refine lv_iload_n hx hb dM_turn_50 rfl (lv_at hl 1 rfl) ?_
        refine lv_aload_n hx hb dM_turn_51 rfl (lv_at hl 0 rfl) ?_
        refine va_get (D := (dC, dI)) (ci := 2) (v := .ref (qm 2)) (C := R_M) (T := T_M) (N := 15) hx hb hw in_M hown hK hPm 0 rfl rfl 3 (by decide) (hw _ w_448) (fun _ h9 => h9) rfl dM_turn_52 ?_
        refine lv_iload_n hx hb dM_turn_55 rfl (lv_at hl 1 rfl) ?_
        obtain ⟨u8, hu8, h⟩ := ob_some h
        obtain ⟨hiu8, eu8⟩ := ld_of hu8
        refine va_lald hx hb hK hPm 2 0 rfl rfl hiu8 dM_turn_56 ?_
        rw [eu8]
        obtain ⟨u9, hu9, h⟩ := ob_some h
        refine mu_call (va_runV (As := [.int p1, .long u8]) (rest := []) ⟨hx, hb, hml, hown, hw⟩ (k_M_copy l dC dI cL cI qm v5 p1 u8 u9 hu9) (cwV 2 hw (gV w_649 w_651 wp_27 w_2 w_652) rfl rfl rfl (by decide +kernel) ⟨Nat.le_of_ble_eq_true rfl, Nat.le_of_ble_eq_true rfl⟩) ⟨rd_blind, va_recv hK hPm (ci := 2) (q0 := 0) rfl rfl, rd_pre ⟨hPm, hD⟩ hK⟩ rfl rfl hl.1 rfl (lv_room (Nat.le_of_ble_eq_true rfl)) dM_turn_57 ⟨Nat.le_of_ble_eq_true rfl, Nat.le_of_ble_eq_true rfl⟩) hS (fun _ z => z) (fun H locs hPm hS _ _ => ?_)
        have hD := md_D (u9.2) hD
        refine lv_istore (lv' := [(4, .int u9.1), (0, .ref (qm 0)), (1, .int p1), (2, .int p2), (3, .int p3)]) hx hb dM_turn_60 hl (by decide) rfl (fun ls hl => ?_)
        refine lv_iload_n hx hb dM_turn_62 rfl (lv_at hl 3 rfl) ?_
        refine lv_iconst (v := 4) hx hb dM_turn_63 (by decide) ?_
        refine lv_irem hx hb dM_turn_64 (by decide) ?_
        refine lv_iconst (v := 4) hx hb dM_turn_65 (by decide) ?_
        refine lv_iadd hx hb dM_turn_66 ?_
        refine lv_iconst (v := 4) hx hb dM_turn_67 (by decide) ?_
        refine lv_irem hx hb dM_turn_68 (by decide) ?_
        obtain ⟨u10, hu10, h⟩ := ob_some h
        rw [Option.some.inj hu10]
        refine lv_istore (lv' := [(5, .int u10), (4, .int u9.1), (0, .ref (qm 0)), (1, .int p1), (2, .int p2), (3, .int p3)]) hx hb dM_turn_69 hl (by decide) rfl (fun ls hl => ?_)
        refine lv_bipush (v := 48) hx hb dM_turn_71 (by decide) ?_
        refine lv_iload hx hb dM_turn_73 (lv_at hl 1 rfl) ?_
        refine lv_imul hx hb dM_turn_75 ?_
        refine lv_istore (lv' := [(6, .int ((48 : Int32) * u9.1)), (5, .int u10), (4, .int u9.1), (0, .ref (qm 0)), (1, .int p1), (2, .int p2), (3, .int p3)]) hx hb dM_turn_76 hl (by decide) rfl (fun ls hl => ?_)
        exact k78 64 u9.2 p3 u9.1 u10 ((48 : Int32) * u9.1) h H locs hPm hD hS ls (lv_sub hl [3, 6, 2, 1, 0] rfl)
      · have h := it_t c7 h
        refine lv_iconst (v := -1) hx hb dM_turn_47 (by decide) ?_
        have h := Option.some.inj h
        subst h
        exact W.iret hx hb hr (fun t ht hW => ⟨rfl, by rw [ht]; exact hPm, hS.F ht⟩) hS.2.2 dM_turn_48
    · have h := it_f c6 h
      refine lv_iconst (v := 0) hx hb dM_turn_36 (by decide) ?_
      have h := Option.some.inj h
      subst h
      exact W.iret hx hb hr (fun t ht hW => ⟨rfl, by rw [ht]; exact hPm, hS.F ht⟩) hS.2.2 dM_turn_37
  have hS : va_S (inQ qm) s.heap s.heap [] := va_S.rf
  obtain ⟨H, hH⟩ : ∃ H : Heap, H = s.heap := ⟨_, rfl⟩
  obtain ⟨locs, hlocs⟩ : ∃ L : List Loc, L = [] := ⟨_, rfl⟩
  suffices hgo : W p l e (headSpec wsM_turn ({ frames := 2, cells := 0, slots := 0, locals := 50 })).room s m ([.ref (qm 0), .int x1, .int x2, .int x3] : List Value).toArray below meth c H locs 0 0 (MQ below (mu_Q (some (.int r.1)) (dC, dI) cls3 (mdW cL cI qm r.2) (inQ qm)) ([.ref (qm 0), .int x1, .int x2, .int x3] : List Value).toArray s 0 0 (inQ qm)) (F0 m 0 ls []) by rw [hH, hlocs] at hgo; exact hgo
  rw [← hH] at hPm
  have hS : va_S (inQ qm) s.heap H locs := by rw [hH, hlocs]; exact hS
  clear hH hlocs
  unfold f_M_turn at h
  refine lv_aload_n hx hb dM_turn_0 rfl (lv_at hl 0 rfl) ?_
  refine lv_aload_n hx hb dM_turn_1 rfl (lv_at hl 0 rfl) ?_
  refine lv_iload_n hx hb dM_turn_2 rfl (lv_at hl 1 rfl) ?_
  obtain ⟨u1, hu1, h⟩ := ob_some h
  refine vp_callSi (va_Run.run (va_runV (As := [.int x1]) (rest := [.ref (qm 0)]) ⟨hx, hb, hml, hown, hw⟩ (k_M_isShape l dC dI cL cI qm v x1 u1 hu1) (cwV 1 hw (gV w_534 w_536 wp_8 w_2 w_537) rfl rfl rfl (by decide +kernel) ⟨Nat.le_of_ble_eq_true rfl, Nat.le_of_ble_eq_true rfl⟩) ⟨rd_blind, va_recv hK hPm (ci := 2) (q0 := 0) rfl rfl, rd_pre hPm hK⟩ rfl rfl hl.1 rfl (lv_room (Nat.le_of_ble_eq_true rfl)) dM_turn_3 ⟨Nat.le_of_ble_eq_true rfl, Nat.le_of_ble_eq_true rfl⟩)) (fun z hz => ?_)
  rw [hz]; clear hz
  refine lv_if_ne (tgt := 13) hx hb dM_turn_6 (by decide) (fun c2 => ?_) (fun c2 => ?_)
  · have h := it_f c2 h
    refine lv_aload_n hx hb dM_turn_13 rfl (lv_at hl 0 rfl) ?_
    refine lv_iload_n hx hb dM_turn_14 rfl (lv_at hl 1 rfl) ?_
    obtain ⟨u3, hu3, h⟩ := ob_some h
    refine vp_callSi (va_Run.run (va_runV (As := [.int x1]) (rest := [.ref (qm 0)]) ⟨hx, hb, hml, hown, hw⟩ (k_M_isWhole l dC dI cL cI qm v x1 u3 hu3) (cwV 1 hw (gV w_595 w_597 wp_16 w_2 w_598) rfl rfl rfl (by decide +kernel) ⟨Nat.le_of_ble_eq_true rfl, Nat.le_of_ble_eq_true rfl⟩) ⟨rd_blind, va_recv hK hPm (ci := 2) (q0 := 0) rfl rfl, rd_pre hPm hK⟩ rfl rfl hl.1 rfl (lv_room (Nat.le_of_ble_eq_true rfl)) dM_turn_15 ⟨Nat.le_of_ble_eq_true rfl, Nat.le_of_ble_eq_true rfl⟩)) (fun z hz => ?_)
    rw [hz]; clear hz
    refine lv_if_ne (tgt := 25) hx hb dM_turn_18 (by decide) (fun c4 => ?_) (fun c4 => ?_)
    · have h := it_f c4 h
      refine lv_iconst (v := 0) hx hb dM_turn_25 (by decide) ?_
      exact k26 v x1 x2 x3 (0 : Int32) h H locs hPm hD hS ls (lv_sub hl [0, 1, 2, 3] rfl)
    · have h := it_t c4 h
      refine lv_iconst (v := 2) hx hb dM_turn_21 (by decide) ?_
      refine lv_goto (tgt := 26) hx hb dM_turn_22 (by decide) ?_
      exact k26 v x1 x2 x3 (2 : Int32) h H locs hPm hD hS ls (lv_sub hl [0, 1, 2, 3] rfl)
  · have h := it_t c2 h
    refine lv_iconst (v := 1) hx hb dM_turn_9 (by decide) ?_
    refine lv_goto (tgt := 26) hx hb dM_turn_10 (by decide) ?_
    exact k26 v x1 x2 x3 (1 : Int32) h H locs hPm hD hS ls (lv_sub hl [0, 1, 2, 3] rfl)
theorem dM_boxOf_0 : decode cM_boxOf 0 = .ok (.aload_n 0, 1) := by decide +kernel
theorem dM_boxOf_1 : decode cM_boxOf 1 = .ok (.aload_n 0, 1) := by decide +kernel
theorem dM_boxOf_2 : decode cM_boxOf 2 = .ok (.iload_n 1, 1) := by decide +kernel
theorem dM_boxOf_3 : decode cM_boxOf 3 = .ok (.invokevirtual 87, 3) := by decide +kernel
theorem dM_boxOf_6 : decode cM_boxOf 6 = .ok (.ifCond .eq 12, 3) := by decide +kernel
theorem dM_boxOf_9 : decode cM_boxOf 9 = .ok (.iload_n 2, 1) := by decide +kernel
theorem dM_boxOf_10 : decode cM_boxOf 10 = .ok (.ifCond .lt 8, 3) := by decide +kernel
theorem dM_boxOf_13 : decode cM_boxOf 13 = .ok (.iload_n 2, 1) := by decide +kernel
theorem dM_boxOf_14 : decode cM_boxOf 14 = .ok (.iconst 3, 1) := by decide +kernel
theorem dM_boxOf_15 : decode cM_boxOf 15 = .ok (.if_icmp .le 7, 3) := by decide +kernel
theorem dM_boxOf_18 : decode cM_boxOf 18 = .ok (.iconst 1, 1) := by decide +kernel
theorem dM_boxOf_19 : decode cM_boxOf 19 = .ok (.goto 16, 3) := by decide +kernel
theorem dM_boxOf_22 : decode cM_boxOf 22 = .ok (.aload_n 0, 1) := by decide +kernel
theorem dM_boxOf_23 : decode cM_boxOf 23 = .ok (.iload_n 1, 1) := by decide +kernel
theorem dM_boxOf_24 : decode cM_boxOf 24 = .ok (.invokevirtual 177, 3) := by decide +kernel
theorem dM_boxOf_27 : decode cM_boxOf 27 = .ok (.ifCond .ne 7, 3) := by decide +kernel
theorem dM_boxOf_30 : decode cM_boxOf 30 = .ok (.iconst 2, 1) := by decide +kernel
theorem dM_boxOf_31 : decode cM_boxOf 31 = .ok (.goto 4, 3) := by decide +kernel
theorem dM_boxOf_34 : decode cM_boxOf 34 = .ok (.iconst 0, 1) := by decide +kernel
theorem dM_boxOf_35 : decode cM_boxOf 35 = .ok (.putfield 50, 3) := by decide +kernel
theorem dM_boxOf_38 : decode cM_boxOf 38 = .ok (.aload_n 0, 1) := by decide +kernel
theorem dM_boxOf_39 : decode cM_boxOf 39 = .ok (.getfield 50, 3) := by decide +kernel
theorem dM_boxOf_42 : decode cM_boxOf 42 = .ok (.ifCond .eq 5, 3) := by decide +kernel
theorem dM_boxOf_45 : decode cM_boxOf 45 = .ok (.lconst 0, 1) := by decide +kernel
theorem dM_boxOf_46 : decode cM_boxOf 46 = .ok (.lreturn, 1) := by decide +kernel
theorem dM_boxOf_47 : decode cM_boxOf 47 = .ok (.iload_n 2, 1) := by decide +kernel
theorem dM_boxOf_48 : decode cM_boxOf 48 = .ok (.iconst 2, 1) := by decide +kernel
theorem dM_boxOf_49 : decode cM_boxOf 49 = .ok (.irem, 1) := by decide +kernel
theorem dM_boxOf_50 : decode cM_boxOf 50 = .ok (.ifCond .ne 7, 3) := by decide +kernel
theorem dM_boxOf_53 : decode cM_boxOf 53 = .ok (.iconst 1, 1) := by decide +kernel
theorem dM_boxOf_54 : decode cM_boxOf 54 = .ok (.goto 4, 3) := by decide +kernel
theorem dM_boxOf_57 : decode cM_boxOf 57 = .ok (.iconst 0, 1) := by decide +kernel
theorem dM_boxOf_58 : decode cM_boxOf 58 = .ok (.istore_n 3, 1) := by decide +kernel
theorem dM_boxOf_59 : decode cM_boxOf 59 = .ok (.iload_n 3, 1) := by decide +kernel
theorem dM_boxOf_60 : decode cM_boxOf 60 = .ok (.ifCond .eq 12, 3) := by decide +kernel
theorem dM_boxOf_63 : decode cM_boxOf 63 = .ok (.aload_n 0, 1) := by decide +kernel
theorem dM_boxOf_64 : decode cM_boxOf 64 = .ok (.iload_n 1, 1) := by decide +kernel
theorem dM_boxOf_65 : decode cM_boxOf 65 = .ok (.iconst 0, 1) := by decide +kernel
theorem dM_boxOf_66 : decode cM_boxOf 66 = .ok (.invokevirtual 111, 3) := by decide +kernel
theorem dM_boxOf_69 : decode cM_boxOf 69 = .ok (.goto 9, 3) := by decide +kernel
theorem dM_boxOf_72 : decode cM_boxOf 72 = .ok (.aload_n 0, 1) := by decide +kernel
theorem dM_boxOf_73 : decode cM_boxOf 73 = .ok (.iload_n 1, 1) := by decide +kernel
theorem dM_boxOf_74 : decode cM_boxOf 74 = .ok (.iconst 0, 1) := by decide +kernel
theorem dM_boxOf_75 : decode cM_boxOf 75 = .ok (.invokevirtual 115, 3) := by decide +kernel
theorem dM_boxOf_78 : decode cM_boxOf 78 = .ok (.lstore 4, 2) := by decide +kernel
theorem dM_boxOf_80 : decode cM_boxOf 80 = .ok (.iconst 1, 1) := by decide +kernel
theorem dM_boxOf_81 : decode cM_boxOf 81 = .ok (.istore 6, 2) := by decide +kernel
theorem dM_boxOf_83 : decode cM_boxOf 83 = .ok (.iload 6, 2) := by decide +kernel
theorem dM_boxOf_85 : decode cM_boxOf 85 = .ok (.aload_n 0, 1) := by decide +kernel
theorem dM_boxOf_86 : decode cM_boxOf 86 = .ok (.getfield 23, 3) := by decide +kernel
theorem dM_boxOf_89 : decode cM_boxOf 89 = .ok (.iload_n 1, 1) := by decide +kernel
theorem dM_boxOf_90 : decode cM_boxOf 90 = .ok (.iaload, 1) := by decide +kernel
theorem dM_boxOf_91 : decode cM_boxOf 91 = .ok (.if_icmp .ge 82, 3) := by decide +kernel
theorem dM_boxOf_94 : decode cM_boxOf 94 = .ok (.iload_n 3, 1) := by decide +kernel
theorem dM_boxOf_95 : decode cM_boxOf 95 = .ok (.ifCond .eq 13, 3) := by decide +kernel
theorem dM_boxOf_98 : decode cM_boxOf 98 = .ok (.aload_n 0, 1) := by decide +kernel
theorem dM_boxOf_99 : decode cM_boxOf 99 = .ok (.iload_n 1, 1) := by decide +kernel
theorem dM_boxOf_100 : decode cM_boxOf 100 = .ok (.iload 6, 2) := by decide +kernel
theorem dM_boxOf_102 : decode cM_boxOf 102 = .ok (.invokevirtual 111, 3) := by decide +kernel
theorem dM_boxOf_105 : decode cM_boxOf 105 = .ok (.goto 10, 3) := by decide +kernel
theorem dM_boxOf_108 : decode cM_boxOf 108 = .ok (.aload_n 0, 1) := by decide +kernel
theorem dM_boxOf_109 : decode cM_boxOf 109 = .ok (.iload_n 1, 1) := by decide +kernel
theorem dM_boxOf_110 : decode cM_boxOf 110 = .ok (.iload 6, 2) := by decide +kernel
theorem dM_boxOf_112 : decode cM_boxOf 112 = .ok (.invokevirtual 115, 3) := by decide +kernel
theorem dM_boxOf_115 : decode cM_boxOf 115 = .ok (.lstore 7, 2) := by decide +kernel
theorem dM_boxOf_117 : decode cM_boxOf 117 = .ok (.iload_n 2, 1) := by decide +kernel
theorem dM_boxOf_118 : decode cM_boxOf 118 = .ok (.iconst 2, 1) := by decide +kernel
theorem dM_boxOf_119 : decode cM_boxOf 119 = .ok (.if_icmp .ge 19, 3) := by decide +kernel
theorem dM_boxOf_122 : decode cM_boxOf 122 = .ok (.lload 7, 2) := by decide +kernel
theorem dM_boxOf_124 : decode cM_boxOf 124 = .ok (.lload 4, 2) := by decide +kernel
theorem dM_boxOf_126 : decode cM_boxOf 126 = .ok (.lcmp, 1) := by decide +kernel
theorem dM_boxOf_127 : decode cM_boxOf 127 = .ok (.ifCond .ge 7, 3) := by decide +kernel
theorem dM_boxOf_130 : decode cM_boxOf 130 = .ok (.iconst 1, 1) := by decide +kernel
theorem dM_boxOf_131 : decode cM_boxOf 131 = .ok (.goto 20, 3) := by decide +kernel
theorem dM_boxOf_134 : decode cM_boxOf 134 = .ok (.iconst 0, 1) := by decide +kernel
theorem dM_boxOf_135 : decode cM_boxOf 135 = .ok (.goto 16, 3) := by decide +kernel
theorem dM_boxOf_138 : decode cM_boxOf 138 = .ok (.lload 7, 2) := by decide +kernel
theorem dM_boxOf_140 : decode cM_boxOf 140 = .ok (.lload 4, 2) := by decide +kernel
theorem dM_boxOf_142 : decode cM_boxOf 142 = .ok (.lcmp, 1) := by decide +kernel
theorem dM_boxOf_143 : decode cM_boxOf 143 = .ok (.ifCond .le 7, 3) := by decide +kernel
theorem dM_boxOf_146 : decode cM_boxOf 146 = .ok (.iconst 1, 1) := by decide +kernel
theorem dM_boxOf_147 : decode cM_boxOf 147 = .ok (.goto 4, 3) := by decide +kernel
theorem dM_boxOf_150 : decode cM_boxOf 150 = .ok (.iconst 0, 1) := by decide +kernel
theorem dM_boxOf_151 : decode cM_boxOf 151 = .ok (.istore 9, 2) := by decide +kernel
theorem dM_boxOf_153 : decode cM_boxOf 153 = .ok (.iload 9, 2) := by decide +kernel
theorem dM_boxOf_155 : decode cM_boxOf 155 = .ok (.ifCond .eq 8, 3) := by decide +kernel
theorem dM_boxOf_158 : decode cM_boxOf 158 = .ok (.lload 7, 2) := by decide +kernel
theorem dM_boxOf_160 : decode cM_boxOf 160 = .ok (.goto 5, 3) := by decide +kernel
theorem dM_boxOf_163 : decode cM_boxOf 163 = .ok (.lload 4, 2) := by decide +kernel
theorem dM_boxOf_165 : decode cM_boxOf 165 = .ok (.lstore 4, 2) := by decide +kernel
theorem dM_boxOf_167 : decode cM_boxOf 167 = .ok (.iinc 6 1, 3) := by decide +kernel
theorem dM_boxOf_170 : decode cM_boxOf 170 = .ok (.goto (-87), 3) := by decide +kernel
theorem dM_boxOf_173 : decode cM_boxOf 173 = .ok (.iload_n 2, 1) := by decide +kernel
theorem dM_boxOf_174 : decode cM_boxOf 174 = .ok (.iconst 2, 1) := by decide +kernel
theorem dM_boxOf_175 : decode cM_boxOf 175 = .ok (.if_icmp .ge 15, 3) := by decide +kernel
theorem dM_boxOf_178 : decode cM_boxOf 178 = .ok (.lload 4, 2) := by decide +kernel
theorem dM_boxOf_180 : decode cM_boxOf 180 = .ok (.aload_n 0, 1) := by decide +kernel
theorem dM_boxOf_181 : decode cM_boxOf 181 = .ok (.getfield 13, 3) := by decide +kernel
theorem dM_boxOf_184 : decode cM_boxOf 184 = .ok (.iload_n 1, 1) := by decide +kernel
theorem dM_boxOf_185 : decode cM_boxOf 185 = .ok (.laload, 1) := by decide +kernel
theorem dM_boxOf_186 : decode cM_boxOf 186 = .ok (.lsub, 1) := by decide +kernel
theorem dM_boxOf_187 : decode cM_boxOf 187 = .ok (.goto 12, 3) := by decide +kernel
theorem dM_boxOf_190 : decode cM_boxOf 190 = .ok (.lload 4, 2) := by decide +kernel
theorem dM_boxOf_192 : decode cM_boxOf 192 = .ok (.aload_n 0, 1) := by decide +kernel
theorem dM_boxOf_193 : decode cM_boxOf 193 = .ok (.getfield 13, 3) := by decide +kernel
theorem dM_boxOf_196 : decode cM_boxOf 196 = .ok (.iload_n 1, 1) := by decide +kernel
theorem dM_boxOf_197 : decode cM_boxOf 197 = .ok (.laload, 1) := by decide +kernel
theorem dM_boxOf_198 : decode cM_boxOf 198 = .ok (.ladd, 1) := by decide +kernel
theorem dM_boxOf_199 : decode cM_boxOf 199 = .ok (.lreturn, 1) := by decide +kernel
def f_M_boxOf_j199 (vv : MV) (s0 : Int64) : Option (Int64 × MV) := some (s0, vv)
def f_M_boxOf_j165 (K83 : MV → Int32 → Int32 → Int32 → Int64 → Int32 → Option (Int64 × MV)) (vv : MV) (p1 : Int32) (p2 : Int32) (p3 : Int32) (p6 : Int32) (s0 : Int64) : Option (Int64 × MV) := (K83 vv p1 p2 p3 s0 (p6 + 1))
def f_M_boxOf_j151 (K83 : MV → Int32 → Int32 → Int32 → Int64 → Int32 → Option (Int64 × MV)) (vv : MV) (p1 : Int32) (p2 : Int32) (p3 : Int32) (p4 : Int64) (p6 : Int32) (p7 : Int64) (s0 : Int32) : Option (Int64 × MV) := (if s0 = 0 then (f_M_boxOf_j165 K83 vv p1 p2 p3 p6 p4) else (f_M_boxOf_j165 K83 vv p1 p2 p3 p6 p7))
def f_M_boxOf_j115 (K83 : MV → Int32 → Int32 → Int32 → Int64 → Int32 → Option (Int64 × MV)) (vv : MV) (p1 : Int32) (p2 : Int32) (p3 : Int32) (p4 : Int64) (p6 : Int32) (s0 : Int64) : Option (Int64 × MV) := (if (2 : Int32) ≤ p2 then (if (lg_cmp s0 p4) ≤ 0 then (f_M_boxOf_j151 K83 vv p1 p2 p3 p4 p6 s0 (0 : Int32)) else (f_M_boxOf_j151 K83 vv p1 p2 p3 p4 p6 s0 (1 : Int32))) else (if 0 ≤ (lg_cmp s0 p4) then (f_M_boxOf_j151 K83 vv p1 p2 p3 p4 p6 s0 (0 : Int32)) else (f_M_boxOf_j151 K83 vv p1 p2 p3 p4 p6 s0 (1 : Int32))))
def f_M_boxOf_l83 : Nat → MV → Int32 → Int32 → Int32 → Int64 → Int32 → Option (Int64 × MV)
 | 0, _, _, _, _, _, _ => none
 | n + 1, vv, p1, p2, p3, p4, p6 => (ld 40 (md_many vv) p1).bind fun u13 => (if u13 ≤ p6 then (if (2 : Int32) ≤ p2 then (ld 40 (md_radii vv) p1).bind fun u16 => (f_M_boxOf_j199 vv (p4 + u16)) else (ld 40 (md_radii vv) p1).bind fun u17 => (f_M_boxOf_j199 vv (p4 - u17))) else (if p3 = 0 then (f_M_y vv p1 p6).bind fun u19 => (f_M_boxOf_j115 (f_M_boxOf_l83 n) vv p1 p2 p3 p4 p6 u19) else (f_M_x vv p1 p6).bind fun u20 => (f_M_boxOf_j115 (f_M_boxOf_l83 n) vv p1 p2 p3 p4 p6 u20)))
def f_M_boxOf_j78 (vv : MV) (p1 : Int32) (p2 : Int32) (p3 : Int32) (s0 : Int64) : Option (Int64 × MV) := (f_M_boxOf_l83 64 vv p1 p2 p3 s0 (1 : Int32))
def f_M_boxOf_j58 (vv : MV) (p1 : Int32) (p2 : Int32) (s0 : Int32) : Option (Int64 × MV) := (if s0 = 0 then (f_M_y vv p1 (0 : Int32)).bind fun u11 => (f_M_boxOf_j78 vv p1 p2 s0 u11) else (f_M_x vv p1 (0 : Int32)).bind fun u12 => (f_M_boxOf_j78 vv p1 p2 s0 u12))
def f_M_boxOf_j35 (vv : MV) (p1 : Int32) (p2 : Int32) (s1 : Int32) : Option (Int64 × MV) := (some (ms_thrown vv s1)).bind fun v7 => (if (md_thrown v7) = 0 then (if (p2 - p2 / (2 : Int32) * (2 : Int32)) = 0 then (f_M_boxOf_j58 v7 p1 p2 (1 : Int32)) else (f_M_boxOf_j58 v7 p1 p2 (0 : Int32))) else some ((0 : Int64), v7))
def f_M_boxOf_j18 (vv : MV) (p1 : Int32) (p2 : Int32) : Option (Int64 × MV) := (f_M_boxOf_j35 vv p1 p2 (1 : Int32))
def f_M_boxOf (v : MV) (x1 : Int32) (x2 : Int32) : Option (Int64 × MV) := (f_M_isShape v x1).bind fun u1 => (if u1 = 0 then (f_M_boxOf_j18 v x1 x2) else (if x2 < 0 then (f_M_boxOf_j18 v x1 x2) else (if x2 ≤ (3 : Int32) then (f_M_isWhole v x1).bind fun u5 => (if u5 = 0 then (f_M_boxOf_j35 v x1 x2 (2 : Int32)) else (f_M_boxOf_j35 v x1 x2 (0 : Int32))) else (f_M_boxOf_j18 v x1 x2))))
set_option maxHeartbeats 4000000 in
set_option maxRecDepth 100000 in
theorem k_M_boxOf (l : Launch) (dC : Nat → ClassId) (dI : Nat → Nat → Nat) (cL cI : ClassId) (qm : Nat → Nat) (v : MV) (x1 : Int32) (x2 : Int32) (r : (Int64 × MV)) (h : f_M_boxOf v x1 x2 = some r) : Met l yM_boxOf wsM_boxOf ({ frames := 2, cells := 0, slots := 0, locals := 42 }) (rd_Pc [.ref (qm 0), .int x1, .int x2] (fun H => va_P (dC, dI) cls3 (mdW cL cI qm v) H ∧ va_D (inQ qm) (mdW cL cI qm v)) (dC, dI) cls3 [(cL, .long), (cI, .int)]) (mu_Q (some (.long r.1)) (dC, dI) cls3 (mdW cL cI qm r.2) (inQ qm)) 0 0 (inQ qm) := by
  refine Met.ofW (cc := cM_boxOf) (maxL := 10) (ret := (some .long)) (by decide) rfl ?_
  intro p e s m args below meth c s₁ B hml hv
  obtain ⟨rfl, ⟨hPm, hD⟩, hK⟩ := hv
  have hx := B.exec
  have hb := B.bytes
  have hr := B.returns
  have hw : ∀ w ∈ wG, w.before ([.ref (qm 0), .int x1, .int x2] : List Value).toArray s = true := fun w hq => atoms_spec (ws := wsM_boxOf) B.pre w (List.mem_cons_of_mem _ hq)
  have hown : s.vm.findClass R_M = some m.cls := findClass_of_methodNamed B.named
  have hlocks := B.notSynchronized
  have hl := lv_entry ([.ref (qm 0), .int x1, .int x2] : List Value) (n := 10) (Nat.le_of_ble_eq_true rfl)
  rw [lg_entry_eq]
  generalize (lg_sl ([.ref (qm 0), .int x1, .int x2] : List Value) ++ List.replicate (10 - (lg_sl ([.ref (qm 0), .int x1, .int x2] : List Value)).length) Slot.unset).toArray = ls at hl ⊢
  have hl : lv_has ls 10 [(0, .ref (qm 0)), (1, .int x1), (2, .int x2)] := hl
  have k199 : ∀ (vv : MV) (s0 : Int64), f_M_boxOf_j199 vv s0 = some r → ∀ (H : Heap) (locs : List Loc), va_P (dC, dI) cls3 (mdW cL cI qm vv) H → va_D (inQ qm) (mdW cL cI qm vv) → va_S (inQ qm) s.heap H locs → ∀ (ls : Array Slot), lv_has ls 10 [] → W p l e (headSpec wsM_boxOf ({ frames := 2, cells := 0, slots := 0, locals := 42 })).room s m ([.ref (qm 0), .int x1, .int x2] : List Value).toArray below meth c H locs 0 0 (MQ below (mu_Q (some (.long r.1)) (dC, dI) cls3 (mdW cL cI qm r.2) (inQ qm)) ([.ref (qm 0), .int x1, .int x2] : List Value).toArray s 0 0 (inQ qm)) (F0 m 199 ls [.long s0]) := by
    intro vv s0 h H locs hPm hD hS ls hl
    unfold f_M_boxOf_j199 at h
    have h := Option.some.inj h
    subst h
    exact W.lret hx hb hr (fun t ht hW => ⟨rfl, by rw [ht]; exact hPm, hS.F ht⟩) hS.2.2 dM_boxOf_199
  have k83 : ∀ (n83 : Nat), ∀ (vv : MV) (p1 : Int32) (p2 : Int32) (p3 : Int32) (p4 : Int64) (p6 : Int32), f_M_boxOf_l83 n83 vv p1 p2 p3 p4 p6 = some r → ∀ (H : Heap) (locs : List Loc), va_P (dC, dI) cls3 (mdW cL cI qm vv) H → va_D (inQ qm) (mdW cL cI qm vv) → va_S (inQ qm) s.heap H locs → ∀ (ls : Array Slot), lv_has ls 10 [(0, .ref (qm 0)), (1, .int p1), (2, .int p2), (3, .int p3), (4, .long p4), (6, .int p6)] → W p l e (headSpec wsM_boxOf ({ frames := 2, cells := 0, slots := 0, locals := 42 })).room s m ([.ref (qm 0), .int x1, .int x2] : List Value).toArray below meth c H locs 0 0 (MQ below (mu_Q (some (.long r.1)) (dC, dI) cls3 (mdW cL cI qm r.2) (inQ qm)) ([.ref (qm 0), .int x1, .int x2] : List Value).toArray s 0 0 (inQ qm)) (F0 m 83 ls []) := by
    intro n83
    induction n83 with
    | zero => intro vv p1 p2 p3 p4 p6 h; exact absurd h (by simp [f_M_boxOf_l83])
    | succ n83 ih83 =>
      have k165 : ∀ (vv : MV) (p1 : Int32) (p2 : Int32) (p3 : Int32) (p6 : Int32) (s0 : Int64), f_M_boxOf_j165 (f_M_boxOf_l83 n83) vv p1 p2 p3 p6 s0 = some r → ∀ (H : Heap) (locs : List Loc), va_P (dC, dI) cls3 (mdW cL cI qm vv) H → va_D (inQ qm) (mdW cL cI qm vv) → va_S (inQ qm) s.heap H locs → ∀ (ls : Array Slot), lv_has ls 10 [(0, .ref (qm 0)), (1, .int p1), (2, .int p2), (3, .int p3), (6, .int p6)] → W p l e (headSpec wsM_boxOf ({ frames := 2, cells := 0, slots := 0, locals := 42 })).room s m ([.ref (qm 0), .int x1, .int x2] : List Value).toArray below meth c H locs 0 0 (MQ below (mu_Q (some (.long r.1)) (dC, dI) cls3 (mdW cL cI qm r.2) (inQ qm)) ([.ref (qm 0), .int x1, .int x2] : List Value).toArray s 0 0 (inQ qm)) (F0 m 165 ls [.long s0]) := by
        intro vv p1 p2 p3 p6 s0 h H locs hPm hD hS ls hl
        unfold f_M_boxOf_j165 at h
        refine lv_lstore (lv' := [(4, .long s0), (0, .ref (qm 0)), (1, .int p1), (2, .int p2), (3, .int p3), (6, .int p6)]) hx hb dM_boxOf_165 hl (by decide) rfl (fun ls hl => ?_)
        refine lv_iinc (v := p6 + 1) (lv' := [(6, .int (p6 + 1)), (4, .long s0), (0, .ref (qm 0)), (1, .int p1), (2, .int p2), (3, .int p3)]) hx hb dM_boxOf_167 hl (k := 5) rfl rfl (by decide) rfl (fun ls hl => ?_)
        refine lv_goto (tgt := 83) hx hb dM_boxOf_170 (by decide) ?_
        exact ih83 vv p1 p2 p3 s0 (p6 + 1) h H locs hPm hD hS ls (lv_sub hl [2, 3, 4, 5, 1, 0] rfl)
      have k151 : ∀ (vv : MV) (p1 : Int32) (p2 : Int32) (p3 : Int32) (p4 : Int64) (p6 : Int32) (p7 : Int64) (s0 : Int32), f_M_boxOf_j151 (f_M_boxOf_l83 n83) vv p1 p2 p3 p4 p6 p7 s0 = some r → ∀ (H : Heap) (locs : List Loc), va_P (dC, dI) cls3 (mdW cL cI qm vv) H → va_D (inQ qm) (mdW cL cI qm vv) → va_S (inQ qm) s.heap H locs → ∀ (ls : Array Slot), lv_has ls 10 [(0, .ref (qm 0)), (1, .int p1), (2, .int p2), (3, .int p3), (4, .long p4), (6, .int p6), (7, .long p7)] → W p l e (headSpec wsM_boxOf ({ frames := 2, cells := 0, slots := 0, locals := 42 })).room s m ([.ref (qm 0), .int x1, .int x2] : List Value).toArray below meth c H locs 0 0 (MQ below (mu_Q (some (.long r.1)) (dC, dI) cls3 (mdW cL cI qm r.2) (inQ qm)) ([.ref (qm 0), .int x1, .int x2] : List Value).toArray s 0 0 (inQ qm)) (F0 m 151 ls [.int s0]) := by
        intro vv p1 p2 p3 p4 p6 p7 s0 h H locs hPm hD hS ls hl
        unfold f_M_boxOf_j151 at h
        refine lv_istore (lv' := [(9, .int s0), (0, .ref (qm 0)), (1, .int p1), (2, .int p2), (3, .int p3), (4, .long p4), (6, .int p6), (7, .long p7)]) hx hb dM_boxOf_151 hl (by decide) rfl (fun ls hl => ?_)
        refine lv_iload hx hb dM_boxOf_153 (lv_at hl 0 rfl) ?_
        refine lv_if_eq (tgt := 163) hx hb dM_boxOf_155 (by decide) (fun c24 => ?_) (fun c24 => ?_)
        · have h := it_t c24 h
          refine lv_lload hx hb dM_boxOf_163 (lv_at hl 5 rfl) ?_
          exact k165 vv p1 p2 p3 p6 p4 h H locs hPm hD hS ls (lv_sub hl [1, 2, 3, 4, 6] rfl)
        · have h := it_f c24 h
          refine lv_lload hx hb dM_boxOf_158 (lv_at hl 7 rfl) ?_
          refine lv_goto (tgt := 165) hx hb dM_boxOf_160 (by decide) ?_
          exact k165 vv p1 p2 p3 p6 p7 h H locs hPm hD hS ls (lv_sub hl [1, 2, 3, 4, 6] rfl)
      have k115 : ∀ (vv : MV) (p1 : Int32) (p2 : Int32) (p3 : Int32) (p4 : Int64) (p6 : Int32) (s0 : Int64), f_M_boxOf_j115 (f_M_boxOf_l83 n83) vv p1 p2 p3 p4 p6 s0 = some r → ∀ (H : Heap) (locs : List Loc), va_P (dC, dI) cls3 (mdW cL cI qm vv) H → va_D (inQ qm) (mdW cL cI qm vv) → va_S (inQ qm) s.heap H locs → ∀ (ls : Array Slot), lv_has ls 10 [(0, .ref (qm 0)), (1, .int p1), (2, .int p2), (3, .int p3), (4, .long p4), (6, .int p6)] → W p l e (headSpec wsM_boxOf ({ frames := 2, cells := 0, slots := 0, locals := 42 })).room s m ([.ref (qm 0), .int x1, .int x2] : List Value).toArray below meth c H locs 0 0 (MQ below (mu_Q (some (.long r.1)) (dC, dI) cls3 (mdW cL cI qm r.2) (inQ qm)) ([.ref (qm 0), .int x1, .int x2] : List Value).toArray s 0 0 (inQ qm)) (F0 m 115 ls [.long s0]) := by
        intro vv p1 p2 p3 p4 p6 s0 h H locs hPm hD hS ls hl
        unfold f_M_boxOf_j115 at h
        refine lv_lstore (lv' := [(7, .long s0), (0, .ref (qm 0)), (1, .int p1), (2, .int p2), (3, .int p3), (4, .long p4), (6, .int p6)]) hx hb dM_boxOf_115 hl (by decide) rfl (fun ls hl => ?_)
        refine lv_iload_n hx hb dM_boxOf_117 rfl (lv_at hl 3 rfl) ?_
        refine lv_iconst (v := 2) hx hb dM_boxOf_118 (by decide) ?_
        refine lv_icmp_ge (tgt := 138) hx hb dM_boxOf_119 (by decide) (fun c21 => ?_) (fun c21 => ?_)
        · have h := it_t c21 h
          refine lv_lload hx hb dM_boxOf_138 (lv_at hl 0 rfl) ?_
          refine lv_lload hx hb dM_boxOf_140 (lv_at hl 5 rfl) ?_
          refine W.lcmp hx hb dM_boxOf_142 ?_
          refine lv_if_le (tgt := 150) hx hb dM_boxOf_143 (by decide) (fun c22 => ?_) (fun c22 => ?_)
          · have h := it_t c22 h
            refine lv_iconst (v := 0) hx hb dM_boxOf_150 (by decide) ?_
            exact k151 vv p1 p2 p3 p4 p6 s0 (0 : Int32) h H locs hPm hD hS ls (lv_sub hl [1, 2, 3, 4, 5, 6, 0] rfl)
          · have h := it_f c22 h
            refine lv_iconst (v := 1) hx hb dM_boxOf_146 (by decide) ?_
            refine lv_goto (tgt := 151) hx hb dM_boxOf_147 (by decide) ?_
            exact k151 vv p1 p2 p3 p4 p6 s0 (1 : Int32) h H locs hPm hD hS ls (lv_sub hl [1, 2, 3, 4, 5, 6, 0] rfl)
        · have h := it_f c21 h
          refine lv_lload hx hb dM_boxOf_122 (lv_at hl 0 rfl) ?_
          refine lv_lload hx hb dM_boxOf_124 (lv_at hl 5 rfl) ?_
          refine W.lcmp hx hb dM_boxOf_126 ?_
          refine lv_if_ge (tgt := 134) hx hb dM_boxOf_127 (by decide) (fun c23 => ?_) (fun c23 => ?_)
          · have h := it_t c23 h
            refine lv_iconst (v := 0) hx hb dM_boxOf_134 (by decide) ?_
            refine lv_goto (tgt := 151) hx hb dM_boxOf_135 (by decide) ?_
            exact k151 vv p1 p2 p3 p4 p6 s0 (0 : Int32) h H locs hPm hD hS ls (lv_sub hl [1, 2, 3, 4, 5, 6, 0] rfl)
          · have h := it_f c23 h
            refine lv_iconst (v := 1) hx hb dM_boxOf_130 (by decide) ?_
            refine lv_goto (tgt := 151) hx hb dM_boxOf_131 (by decide) ?_
            exact k151 vv p1 p2 p3 p4 p6 s0 (1 : Int32) h H locs hPm hD hS ls (lv_sub hl [1, 2, 3, 4, 5, 6, 0] rfl)
      intro vv p1 p2 p3 p4 p6 h H locs hPm hD hS ls hl
      rw [f_M_boxOf_l83] at h
      refine lv_iload hx hb dM_boxOf_83 (lv_at hl 5 rfl) ?_
      refine lv_aload_n hx hb dM_boxOf_85 rfl (lv_at hl 0 rfl) ?_
      refine va_get (D := (dC, dI)) (ci := 2) (v := .ref (qm 5)) (C := R_M) (T := T_M) (N := 15) hx hb hw in_M hown hK hPm 0 rfl rfl 6 (by decide) (hw _ w_451) (fun _ h9 => h9) rfl dM_boxOf_86 ?_
      refine lv_iload_n hx hb dM_boxOf_89 rfl (lv_at hl 1 rfl) ?_
      obtain ⟨u13, hu13, h⟩ := ob_some h
      obtain ⟨hiu13, eu13⟩ := ld_of hu13
      refine va_iald hx hb hK hPm 5 1 rfl rfl hiu13 dM_boxOf_90 ?_
      rw [eu13]
      refine lv_icmp_ge (tgt := 173) hx hb dM_boxOf_91 (by decide) (fun c14 => ?_) (fun c14 => ?_)
      · have h := it_t c14 h
        refine lv_iload_n hx hb dM_boxOf_173 rfl (lv_at hl 2 rfl) ?_
        refine lv_iconst (v := 2) hx hb dM_boxOf_174 (by decide) ?_
        refine lv_icmp_ge (tgt := 190) hx hb dM_boxOf_175 (by decide) (fun c15 => ?_) (fun c15 => ?_)
        · have h := it_t c15 h
          refine lv_lload hx hb dM_boxOf_190 (lv_at hl 4 rfl) ?_
          refine lv_aload_n hx hb dM_boxOf_192 rfl (lv_at hl 0 rfl) ?_
          refine va_get (D := (dC, dI)) (ci := 2) (v := .ref (qm 2)) (C := R_M) (T := T_M) (N := 15) hx hb hw in_M hown hK hPm 0 rfl rfl 3 (by decide) (hw _ w_448) (fun _ h9 => h9) rfl dM_boxOf_193 ?_
          refine lv_iload_n hx hb dM_boxOf_196 rfl (lv_at hl 1 rfl) ?_
          obtain ⟨u16, hu16, h⟩ := ob_some h
          obtain ⟨hiu16, eu16⟩ := ld_of hu16
          refine va_lald hx hb hK hPm 2 0 rfl rfl hiu16 dM_boxOf_197 ?_
          rw [eu16]
          refine lv_ladd hx hb dM_boxOf_198 ?_
          exact k199 vv (p4 + u16) h H locs hPm hD hS ls (lv_sub hl [] rfl)
        · have h := it_f c15 h
          refine lv_lload hx hb dM_boxOf_178 (lv_at hl 4 rfl) ?_
          refine lv_aload_n hx hb dM_boxOf_180 rfl (lv_at hl 0 rfl) ?_
          refine va_get (D := (dC, dI)) (ci := 2) (v := .ref (qm 2)) (C := R_M) (T := T_M) (N := 15) hx hb hw in_M hown hK hPm 0 rfl rfl 3 (by decide) (hw _ w_448) (fun _ h9 => h9) rfl dM_boxOf_181 ?_
          refine lv_iload_n hx hb dM_boxOf_184 rfl (lv_at hl 1 rfl) ?_
          obtain ⟨u17, hu17, h⟩ := ob_some h
          obtain ⟨hiu17, eu17⟩ := ld_of hu17
          refine va_lald hx hb hK hPm 2 0 rfl rfl hiu17 dM_boxOf_185 ?_
          rw [eu17]
          refine lv_lsub hx hb dM_boxOf_186 ?_
          refine lv_goto (tgt := 199) hx hb dM_boxOf_187 (by decide) ?_
          exact k199 vv (p4 - u17) h H locs hPm hD hS ls (lv_sub hl [] rfl)
      · have h := it_f c14 h
        refine lv_iload_n hx hb dM_boxOf_94 rfl (lv_at hl 3 rfl) ?_
        refine lv_if_eq (tgt := 108) hx hb dM_boxOf_95 (by decide) (fun c18 => ?_) (fun c18 => ?_)
        · have h := it_t c18 h
          refine lv_aload_n hx hb dM_boxOf_108 rfl (lv_at hl 0 rfl) ?_
          refine lv_iload_n hx hb dM_boxOf_109 rfl (lv_at hl 1 rfl) ?_
          refine lv_iload hx hb dM_boxOf_110 (lv_at hl 5 rfl) ?_
          obtain ⟨u19, hu19, h⟩ := ob_some h
          refine vp_callSl (va_Run.run (va_runV (As := [.int p1, .int p6]) (rest := []) ⟨hx, hb, hml, hown, hw⟩ (k_M_y l dC dI cL cI qm vv p1 p6 u19 hu19) (cwV 2 hw (gV w_554 w_556 wp_12 w_2 w_557) rfl rfl rfl (by decide +kernel) ⟨Nat.le_of_ble_eq_true rfl, Nat.le_of_ble_eq_true rfl⟩) ⟨rd_blind, va_recv hK hPm (ci := 2) (q0 := 0) rfl rfl, rd_pre hPm hK⟩ rfl rfl hl.1 rfl (lv_room (Nat.le_of_ble_eq_true rfl)) dM_boxOf_112 ⟨Nat.le_of_ble_eq_true rfl, Nat.le_of_ble_eq_true rfl⟩)) (fun z hz => ?_)
          rw [hz]; clear hz
          exact k115 vv p1 p2 p3 p4 p6 u19 h H locs hPm hD hS ls (lv_sub hl [0, 1, 2, 3, 4, 5] rfl)
        · have h := it_f c18 h
          refine lv_aload_n hx hb dM_boxOf_98 rfl (lv_at hl 0 rfl) ?_
          refine lv_iload_n hx hb dM_boxOf_99 rfl (lv_at hl 1 rfl) ?_
          refine lv_iload hx hb dM_boxOf_100 (lv_at hl 5 rfl) ?_
          obtain ⟨u20, hu20, h⟩ := ob_some h
          refine vp_callSl (va_Run.run (va_runV (As := [.int p1, .int p6]) (rest := []) ⟨hx, hb, hml, hown, hw⟩ (k_M_x l dC dI cL cI qm vv p1 p6 u20 hu20) (cwV 2 hw (gV w_550 w_552 wp_11 w_2 w_553) rfl rfl rfl (by decide +kernel) ⟨Nat.le_of_ble_eq_true rfl, Nat.le_of_ble_eq_true rfl⟩) ⟨rd_blind, va_recv hK hPm (ci := 2) (q0 := 0) rfl rfl, rd_pre hPm hK⟩ rfl rfl hl.1 rfl (lv_room (Nat.le_of_ble_eq_true rfl)) dM_boxOf_102 ⟨Nat.le_of_ble_eq_true rfl, Nat.le_of_ble_eq_true rfl⟩)) (fun z hz => ?_)
          rw [hz]; clear hz
          refine lv_goto (tgt := 115) hx hb dM_boxOf_105 (by decide) ?_
          exact k115 vv p1 p2 p3 p4 p6 u20 h H locs hPm hD hS ls (lv_sub hl [0, 1, 2, 3, 4, 5] rfl)
  have k78 : ∀ (vv : MV) (p1 : Int32) (p2 : Int32) (p3 : Int32) (s0 : Int64), f_M_boxOf_j78 vv p1 p2 p3 s0 = some r → ∀ (H : Heap) (locs : List Loc), va_P (dC, dI) cls3 (mdW cL cI qm vv) H → va_D (inQ qm) (mdW cL cI qm vv) → va_S (inQ qm) s.heap H locs → ∀ (ls : Array Slot), lv_has ls 10 [(0, .ref (qm 0)), (1, .int p1), (2, .int p2), (3, .int p3)] → W p l e (headSpec wsM_boxOf ({ frames := 2, cells := 0, slots := 0, locals := 42 })).room s m ([.ref (qm 0), .int x1, .int x2] : List Value).toArray below meth c H locs 0 0 (MQ below (mu_Q (some (.long r.1)) (dC, dI) cls3 (mdW cL cI qm r.2) (inQ qm)) ([.ref (qm 0), .int x1, .int x2] : List Value).toArray s 0 0 (inQ qm)) (F0 m 78 ls [.long s0]) := by
    intro vv p1 p2 p3 s0 h H locs hPm hD hS ls hl
    unfold f_M_boxOf_j78 at h
    refine lv_lstore (lv' := [(4, .long s0), (0, .ref (qm 0)), (1, .int p1), (2, .int p2), (3, .int p3)]) hx hb dM_boxOf_78 hl (by decide) rfl (fun ls hl => ?_)
    refine lv_iconst (v := 1) hx hb dM_boxOf_80 (by decide) ?_
    refine lv_istore (lv' := [(6, .int (1 : Int32)), (4, .long s0), (0, .ref (qm 0)), (1, .int p1), (2, .int p2), (3, .int p3)]) hx hb dM_boxOf_81 hl (by decide) rfl (fun ls hl => ?_)
    exact k83 64 vv p1 p2 p3 s0 (1 : Int32) h H locs hPm hD hS ls (lv_sub hl [2, 3, 4, 5, 1, 0] rfl)
  have k58 : ∀ (vv : MV) (p1 : Int32) (p2 : Int32) (s0 : Int32), f_M_boxOf_j58 vv p1 p2 s0 = some r → ∀ (H : Heap) (locs : List Loc), va_P (dC, dI) cls3 (mdW cL cI qm vv) H → va_D (inQ qm) (mdW cL cI qm vv) → va_S (inQ qm) s.heap H locs → ∀ (ls : Array Slot), lv_has ls 10 [(0, .ref (qm 0)), (1, .int p1), (2, .int p2)] → W p l e (headSpec wsM_boxOf ({ frames := 2, cells := 0, slots := 0, locals := 42 })).room s m ([.ref (qm 0), .int x1, .int x2] : List Value).toArray below meth c H locs 0 0 (MQ below (mu_Q (some (.long r.1)) (dC, dI) cls3 (mdW cL cI qm r.2) (inQ qm)) ([.ref (qm 0), .int x1, .int x2] : List Value).toArray s 0 0 (inQ qm)) (F0 m 58 ls [.int s0]) := by
    intro vv p1 p2 s0 h H locs hPm hD hS ls hl
    unfold f_M_boxOf_j58 at h
    refine lv_istore_n (lv' := [(3, .int s0), (0, .ref (qm 0)), (1, .int p1), (2, .int p2)]) hx hb dM_boxOf_58 rfl hl (by decide) rfl (fun ls hl => ?_)
    refine lv_iload_n hx hb dM_boxOf_59 rfl (lv_at hl 0 rfl) ?_
    refine lv_if_eq (tgt := 72) hx hb dM_boxOf_60 (by decide) (fun c10 => ?_) (fun c10 => ?_)
    · have h := it_t c10 h
      refine lv_aload_n hx hb dM_boxOf_72 rfl (lv_at hl 1 rfl) ?_
      refine lv_iload_n hx hb dM_boxOf_73 rfl (lv_at hl 2 rfl) ?_
      refine lv_iconst (v := 0) hx hb dM_boxOf_74 (by decide) ?_
      obtain ⟨u11, hu11, h⟩ := ob_some h
      refine vp_callSl (va_Run.run (va_runV (As := [.int p1, .int (0 : Int32)]) (rest := []) ⟨hx, hb, hml, hown, hw⟩ (k_M_y l dC dI cL cI qm vv p1 (0 : Int32) u11 hu11) (cwV 2 hw (gV w_554 w_556 wp_12 w_2 w_557) rfl rfl rfl (by decide +kernel) ⟨Nat.le_of_ble_eq_true rfl, Nat.le_of_ble_eq_true rfl⟩) ⟨rd_blind, va_recv hK hPm (ci := 2) (q0 := 0) rfl rfl, rd_pre hPm hK⟩ rfl rfl hl.1 rfl (lv_room (Nat.le_of_ble_eq_true rfl)) dM_boxOf_75 ⟨Nat.le_of_ble_eq_true rfl, Nat.le_of_ble_eq_true rfl⟩)) (fun z hz => ?_)
      rw [hz]; clear hz
      exact k78 vv p1 p2 s0 u11 h H locs hPm hD hS ls (lv_sub hl [1, 2, 3, 0] rfl)
    · have h := it_f c10 h
      refine lv_aload_n hx hb dM_boxOf_63 rfl (lv_at hl 1 rfl) ?_
      refine lv_iload_n hx hb dM_boxOf_64 rfl (lv_at hl 2 rfl) ?_
      refine lv_iconst (v := 0) hx hb dM_boxOf_65 (by decide) ?_
      obtain ⟨u12, hu12, h⟩ := ob_some h
      refine vp_callSl (va_Run.run (va_runV (As := [.int p1, .int (0 : Int32)]) (rest := []) ⟨hx, hb, hml, hown, hw⟩ (k_M_x l dC dI cL cI qm vv p1 (0 : Int32) u12 hu12) (cwV 2 hw (gV w_550 w_552 wp_11 w_2 w_553) rfl rfl rfl (by decide +kernel) ⟨Nat.le_of_ble_eq_true rfl, Nat.le_of_ble_eq_true rfl⟩) ⟨rd_blind, va_recv hK hPm (ci := 2) (q0 := 0) rfl rfl, rd_pre hPm hK⟩ rfl rfl hl.1 rfl (lv_room (Nat.le_of_ble_eq_true rfl)) dM_boxOf_66 ⟨Nat.le_of_ble_eq_true rfl, Nat.le_of_ble_eq_true rfl⟩)) (fun z hz => ?_)
      rw [hz]; clear hz
      refine lv_goto (tgt := 78) hx hb dM_boxOf_69 (by decide) ?_
      exact k78 vv p1 p2 s0 u12 h H locs hPm hD hS ls (lv_sub hl [1, 2, 3, 0] rfl)
  have k35 : ∀ (vv : MV) (p1 : Int32) (p2 : Int32) (s1 : Int32), f_M_boxOf_j35 vv p1 p2 s1 = some r → ∀ (H : Heap) (locs : List Loc), va_P (dC, dI) cls3 (mdW cL cI qm vv) H → va_D (inQ qm) (mdW cL cI qm vv) → va_S (inQ qm) s.heap H locs → ∀ (ls : Array Slot), lv_has ls 10 [(0, .ref (qm 0)), (1, .int p1), (2, .int p2)] → W p l e (headSpec wsM_boxOf ({ frames := 2, cells := 0, slots := 0, locals := 42 })).room s m ([.ref (qm 0), .int x1, .int x2] : List Value).toArray below meth c H locs 0 0 (MQ below (mu_Q (some (.long r.1)) (dC, dI) cls3 (mdW cL cI qm r.2) (inQ qm)) ([.ref (qm 0), .int x1, .int x2] : List Value).toArray s 0 0 (inQ qm)) (F0 m 35 ls [.int s1, .ref (qm 0)]) := by
    intro vv p1 p2 s1 h H locs hPm hD hS ls hl
    unfold f_M_boxOf_j35 at h
    refine va_put (D := (dC, dI)) (ci := 2) (v := .int s1) (ty := .int) (C := R_M) (T := T_M) (N := 15) hx hb hw in_M t_M t_M_ok nm_M hown hK hPm hD hS 0 rfl rfl 0 (by decide) (hw _ w_445) (fun _ h9 => h9) rfl (by decide +kernel) rfl rfl (Nat.le_of_ble_eq_true rfl) dM_boxOf_35 (fun H locs hPm hD hS => ?_)
    obtain ⟨v7, hv7, h⟩ := ob_some h
    have hPm : va_P (dC, dI) cls3 (mdW cL cI qm (ms_thrown vv s1)) H := hPm
    have hD : va_D (inQ qm) (mdW cL cI qm (ms_thrown vv s1)) := hD
    rw [Option.some.inj hv7] at hPm hD
    refine lv_aload_n hx hb dM_boxOf_38 rfl (lv_at hl 0 rfl) ?_
    refine va_get (D := (dC, dI)) (ci := 2) (v := .int (md_thrown v7)) (C := R_M) (T := T_M) (N := 15) hx hb hw in_M hown hK hPm 0 rfl rfl 0 (by decide) (hw _ w_445) (fun _ h9 => h9) rfl dM_boxOf_39 ?_
    refine lv_if_eq (tgt := 47) hx hb dM_boxOf_42 (by decide) (fun c8 => ?_) (fun c8 => ?_)
    · have h := it_t c8 h
      refine lv_iload_n hx hb dM_boxOf_47 rfl (lv_at hl 2 rfl) ?_
      refine lv_iconst (v := 2) hx hb dM_boxOf_48 (by decide) ?_
      refine lv_irem hx hb dM_boxOf_49 (by decide) ?_
      refine lv_if_ne (tgt := 57) hx hb dM_boxOf_50 (by decide) (fun c9 => ?_) (fun c9 => ?_)
      · have h := it_f c9 h
        refine lv_iconst (v := 0) hx hb dM_boxOf_57 (by decide) ?_
        exact k58 v7 p1 p2 (0 : Int32) h H locs hPm hD hS ls (lv_sub hl [0, 1, 2] rfl)
      · have h := it_t c9 h
        refine lv_iconst (v := 1) hx hb dM_boxOf_53 (by decide) ?_
        refine lv_goto (tgt := 58) hx hb dM_boxOf_54 (by decide) ?_
        exact k58 v7 p1 p2 (1 : Int32) h H locs hPm hD hS ls (lv_sub hl [0, 1, 2] rfl)
    · have h := it_f c8 h
      refine lv_lconst (v := 0) hx hb dM_boxOf_45 (by decide) ?_
      have h := Option.some.inj h
      subst h
      exact W.lret hx hb hr (fun t ht hW => ⟨rfl, by rw [ht]; exact hPm, hS.F ht⟩) hS.2.2 dM_boxOf_46
  have k18 : ∀ (vv : MV) (p1 : Int32) (p2 : Int32), f_M_boxOf_j18 vv p1 p2 = some r → ∀ (H : Heap) (locs : List Loc), va_P (dC, dI) cls3 (mdW cL cI qm vv) H → va_D (inQ qm) (mdW cL cI qm vv) → va_S (inQ qm) s.heap H locs → ∀ (ls : Array Slot), lv_has ls 10 [(0, .ref (qm 0)), (1, .int p1), (2, .int p2)] → W p l e (headSpec wsM_boxOf ({ frames := 2, cells := 0, slots := 0, locals := 42 })).room s m ([.ref (qm 0), .int x1, .int x2] : List Value).toArray below meth c H locs 0 0 (MQ below (mu_Q (some (.long r.1)) (dC, dI) cls3 (mdW cL cI qm r.2) (inQ qm)) ([.ref (qm 0), .int x1, .int x2] : List Value).toArray s 0 0 (inQ qm)) (F0 m 18 ls [.ref (qm 0)]) := by
    intro vv p1 p2 h H locs hPm hD hS ls hl
    unfold f_M_boxOf_j18 at h
    refine lv_iconst (v := 1) hx hb dM_boxOf_18 (by decide) ?_
    refine lv_goto (tgt := 35) hx hb dM_boxOf_19 (by decide) ?_
    exact k35 vv p1 p2 (1 : Int32) h H locs hPm hD hS ls (lv_sub hl [0, 1, 2] rfl)
  have hS : va_S (inQ qm) s.heap s.heap [] := va_S.rf
  obtain ⟨H, hH⟩ : ∃ H : Heap, H = s.heap := ⟨_, rfl⟩
  obtain ⟨locs, hlocs⟩ : ∃ L : List Loc, L = [] := ⟨_, rfl⟩
  suffices hgo : W p l e (headSpec wsM_boxOf ({ frames := 2, cells := 0, slots := 0, locals := 42 })).room s m ([.ref (qm 0), .int x1, .int x2] : List Value).toArray below meth c H locs 0 0 (MQ below (mu_Q (some (.long r.1)) (dC, dI) cls3 (mdW cL cI qm r.2) (inQ qm)) ([.ref (qm 0), .int x1, .int x2] : List Value).toArray s 0 0 (inQ qm)) (F0 m 0 ls []) by rw [hH, hlocs] at hgo; exact hgo
  rw [← hH] at hPm
  have hS : va_S (inQ qm) s.heap H locs := by rw [hH, hlocs]; exact hS
  clear hH hlocs
  unfold f_M_boxOf at h
  refine lv_aload_n hx hb dM_boxOf_0 rfl (lv_at hl 0 rfl) ?_
  refine lv_aload_n hx hb dM_boxOf_1 rfl (lv_at hl 0 rfl) ?_
  refine lv_iload_n hx hb dM_boxOf_2 rfl (lv_at hl 1 rfl) ?_
  obtain ⟨u1, hu1, h⟩ := ob_some h
  refine vp_callSi (va_Run.run (va_runV (As := [.int x1]) (rest := [.ref (qm 0)]) ⟨hx, hb, hml, hown, hw⟩ (k_M_isShape l dC dI cL cI qm v x1 u1 hu1) (cwV 1 hw (gV w_534 w_536 wp_8 w_2 w_537) rfl rfl rfl (by decide +kernel) ⟨Nat.le_of_ble_eq_true rfl, Nat.le_of_ble_eq_true rfl⟩) ⟨rd_blind, va_recv hK hPm (ci := 2) (q0 := 0) rfl rfl, rd_pre hPm hK⟩ rfl rfl hl.1 rfl (lv_room (Nat.le_of_ble_eq_true rfl)) dM_boxOf_3 ⟨Nat.le_of_ble_eq_true rfl, Nat.le_of_ble_eq_true rfl⟩)) (fun z hz => ?_)
  rw [hz]; clear hz
  refine lv_if_eq (tgt := 18) hx hb dM_boxOf_6 (by decide) (fun c2 => ?_) (fun c2 => ?_)
  · have h := it_t c2 h
    exact k18 v x1 x2 h H locs hPm hD hS ls (lv_sub hl [0, 1, 2] rfl)
  · have h := it_f c2 h
    refine lv_iload_n hx hb dM_boxOf_9 rfl (lv_at hl 2 rfl) ?_
    refine lv_if_lt (tgt := 18) hx hb dM_boxOf_10 (by decide) (fun c3 => ?_) (fun c3 => ?_)
    · have h := it_t c3 h
      exact k18 v x1 x2 h H locs hPm hD hS ls (lv_sub hl [0, 1, 2] rfl)
    · have h := it_f c3 h
      refine lv_iload_n hx hb dM_boxOf_13 rfl (lv_at hl 2 rfl) ?_
      refine lv_iconst (v := 3) hx hb dM_boxOf_14 (by decide) ?_
      refine lv_icmp_le (tgt := 22) hx hb dM_boxOf_15 (by decide) (fun c4 => ?_) (fun c4 => ?_)
      · have h := it_t c4 h
        refine lv_aload_n hx hb dM_boxOf_22 rfl (lv_at hl 0 rfl) ?_
        refine lv_iload_n hx hb dM_boxOf_23 rfl (lv_at hl 1 rfl) ?_
        obtain ⟨u5, hu5, h⟩ := ob_some h
        refine vp_callSi (va_Run.run (va_runV (As := [.int x1]) (rest := [.ref (qm 0)]) ⟨hx, hb, hml, hown, hw⟩ (k_M_isWhole l dC dI cL cI qm v x1 u5 hu5) (cwV 1 hw (gV w_595 w_597 wp_16 w_2 w_598) rfl rfl rfl (by decide +kernel) ⟨Nat.le_of_ble_eq_true rfl, Nat.le_of_ble_eq_true rfl⟩) ⟨rd_blind, va_recv hK hPm (ci := 2) (q0 := 0) rfl rfl, rd_pre hPm hK⟩ rfl rfl hl.1 rfl (lv_room (Nat.le_of_ble_eq_true rfl)) dM_boxOf_24 ⟨Nat.le_of_ble_eq_true rfl, Nat.le_of_ble_eq_true rfl⟩)) (fun z hz => ?_)
        rw [hz]; clear hz
        refine lv_if_ne (tgt := 34) hx hb dM_boxOf_27 (by decide) (fun c6 => ?_) (fun c6 => ?_)
        · have h := it_f c6 h
          refine lv_iconst (v := 0) hx hb dM_boxOf_34 (by decide) ?_
          exact k35 v x1 x2 (0 : Int32) h H locs hPm hD hS ls (lv_sub hl [0, 1, 2] rfl)
        · have h := it_t c6 h
          refine lv_iconst (v := 2) hx hb dM_boxOf_30 (by decide) ?_
          refine lv_goto (tgt := 35) hx hb dM_boxOf_31 (by decide) ?_
          exact k35 v x1 x2 (2 : Int32) h H locs hPm hD hS ls (lv_sub hl [0, 1, 2] rfl)
      · have h := it_f c4 h
        exact k18 v x1 x2 h H locs hPm hD hS ls (lv_sub hl [0, 1, 2] rfl)
theorem dM_kind_0 : decode cM_kind 0 = .ok (.aload_n 0, 1) := by decide +kernel
theorem dM_kind_1 : decode cM_kind 1 = .ok (.aload_n 0, 1) := by decide +kernel
theorem dM_kind_2 : decode cM_kind 2 = .ok (.iload_n 1, 1) := by decide +kernel
theorem dM_kind_3 : decode cM_kind 3 = .ok (.invokevirtual 87, 3) := by decide +kernel
theorem dM_kind_6 : decode cM_kind 6 = .ok (.ifCond .eq 7, 3) := by decide +kernel
theorem dM_kind_9 : decode cM_kind 9 = .ok (.iconst 0, 1) := by decide +kernel
theorem dM_kind_10 : decode cM_kind 10 = .ok (.goto 4, 3) := by decide +kernel
theorem dM_kind_13 : decode cM_kind 13 = .ok (.iconst 1, 1) := by decide +kernel
theorem dM_kind_14 : decode cM_kind 14 = .ok (.putfield 50, 3) := by decide +kernel
theorem dM_kind_17 : decode cM_kind 17 = .ok (.aload_n 0, 1) := by decide +kernel
theorem dM_kind_18 : decode cM_kind 18 = .ok (.getfield 50, 3) := by decide +kernel
theorem dM_kind_21 : decode cM_kind 21 = .ok (.ifCond .eq 5, 3) := by decide +kernel
theorem dM_kind_24 : decode cM_kind 24 = .ok (.iconst 0, 1) := by decide +kernel
theorem dM_kind_25 : decode cM_kind 25 = .ok (.ireturn, 1) := by decide +kernel
theorem dM_kind_26 : decode cM_kind 26 = .ok (.aload_n 0, 1) := by decide +kernel
theorem dM_kind_27 : decode cM_kind 27 = .ok (.getfield 7, 3) := by decide +kernel
theorem dM_kind_30 : decode cM_kind 30 = .ok (.iload_n 1, 1) := by decide +kernel
theorem dM_kind_31 : decode cM_kind 31 = .ok (.iaload, 1) := by decide +kernel
theorem dM_kind_32 : decode cM_kind 32 = .ok (.iconst 2, 1) := by decide +kernel
theorem dM_kind_33 : decode cM_kind 33 = .ok (.if_icmp .ne 18, 3) := by decide +kernel
theorem dM_kind_36 : decode cM_kind 36 = .ok (.aload_n 0, 1) := by decide +kernel
theorem dM_kind_37 : decode cM_kind 37 = .ok (.getfield 13, 3) := by decide +kernel
theorem dM_kind_40 : decode cM_kind 40 = .ok (.iload_n 1, 1) := by decide +kernel
theorem dM_kind_41 : decode cM_kind 41 = .ok (.laload, 1) := by decide +kernel
theorem dM_kind_42 : decode cM_kind 42 = .ok (.lconst 0, 1) := by decide +kernel
theorem dM_kind_43 : decode cM_kind 43 = .ok (.lcmp, 1) := by decide +kernel
theorem dM_kind_44 : decode cM_kind 44 = .ok (.ifCond .le 7, 3) := by decide +kernel
theorem dM_kind_47 : decode cM_kind 47 = .ok (.iconst 4, 1) := by decide +kernel
theorem dM_kind_48 : decode cM_kind 48 = .ok (.goto 9, 3) := by decide +kernel
theorem dM_kind_51 : decode cM_kind 51 = .ok (.aload_n 0, 1) := by decide +kernel
theorem dM_kind_52 : decode cM_kind 52 = .ok (.getfield 7, 3) := by decide +kernel
theorem dM_kind_55 : decode cM_kind 55 = .ok (.iload_n 1, 1) := by decide +kernel
theorem dM_kind_56 : decode cM_kind 56 = .ok (.iaload, 1) := by decide +kernel
theorem dM_kind_57 : decode cM_kind 57 = .ok (.ireturn, 1) := by decide +kernel
def f_M_kind_j57 (vv : MV) (s0 : Int32) : Option (Int32 × MV) := some (s0, vv)
def f_M_kind_j51 (vv : MV) (p1 : Int32) : Option (Int32 × MV) := (ld 40 (md_kinds vv) p1).bind fun u9 => (f_M_kind_j57 vv u9)
def f_M_kind_j14 (vv : MV) (p1 : Int32) (s1 : Int32) : Option (Int32 × MV) := (some (ms_thrown vv s1)).bind fun v3 => (if (md_thrown v3) = 0 then (ld 40 (md_kinds v3) p1).bind fun u5 => (if u5 = (2 : Int32) then (ld 40 (md_radii v3) p1).bind fun u7 => (if (lg_cmp u7 (0 : Int64)) ≤ 0 then (f_M_kind_j51 v3 p1) else (f_M_kind_j57 v3 (4 : Int32))) else (f_M_kind_j51 v3 p1)) else some ((0 : Int32), v3))
def f_M_kind (v : MV) (x1 : Int32) : Option (Int32 × MV) := (f_M_isShape v x1).bind fun u1 => (if u1 = 0 then (f_M_kind_j14 v x1 (1 : Int32)) else (f_M_kind_j14 v x1 (0 : Int32)))
set_option maxHeartbeats 4000000 in
set_option maxRecDepth 100000 in
theorem k_M_kind (l : Launch) (dC : Nat → ClassId) (dI : Nat → Nat → Nat) (cL cI : ClassId) (qm : Nat → Nat) (v : MV) (x1 : Int32) (r : (Int32 × MV)) (h : f_M_kind v x1 = some r) : Met l yM_kind wsM_kind ({ frames := 1, cells := 0, slots := 0, locals := 21 }) (rd_Pc [.ref (qm 0), .int x1] (fun H => va_P (dC, dI) cls3 (mdW cL cI qm v) H ∧ va_D (inQ qm) (mdW cL cI qm v)) (dC, dI) cls3 [(cL, .long), (cI, .int)]) (mu_Q (some (.int r.1)) (dC, dI) cls3 (mdW cL cI qm r.2) (inQ qm)) 0 0 (inQ qm) := by
  refine Met.ofW (cc := cM_kind) (maxL := 2) (ret := (some .int)) (by decide) rfl ?_
  intro p e s m args below meth c s₁ B hml hv
  obtain ⟨rfl, ⟨hPm, hD⟩, hK⟩ := hv
  have hx := B.exec
  have hb := B.bytes
  have hr := B.returns
  have hw : ∀ w ∈ wG, w.before ([.ref (qm 0), .int x1] : List Value).toArray s = true := fun w hq => atoms_spec (ws := wsM_kind) B.pre w (List.mem_cons_of_mem _ hq)
  have hown : s.vm.findClass R_M = some m.cls := findClass_of_methodNamed B.named
  have hlocks := B.notSynchronized
  have hl := lv_entry ([.ref (qm 0), .int x1] : List Value) (n := 2) (Nat.le_of_ble_eq_true rfl)
  rw [lg_entry_eq]
  generalize (lg_sl ([.ref (qm 0), .int x1] : List Value) ++ List.replicate (2 - (lg_sl ([.ref (qm 0), .int x1] : List Value)).length) Slot.unset).toArray = ls at hl ⊢
  have hl : lv_has ls 2 [(0, .ref (qm 0)), (1, .int x1)] := hl
  have k57 : ∀ (vv : MV) (s0 : Int32), f_M_kind_j57 vv s0 = some r → ∀ (H : Heap) (locs : List Loc), va_P (dC, dI) cls3 (mdW cL cI qm vv) H → va_D (inQ qm) (mdW cL cI qm vv) → va_S (inQ qm) s.heap H locs → ∀ (ls : Array Slot), lv_has ls 2 [] → W p l e (headSpec wsM_kind ({ frames := 1, cells := 0, slots := 0, locals := 21 })).room s m ([.ref (qm 0), .int x1] : List Value).toArray below meth c H locs 0 0 (MQ below (mu_Q (some (.int r.1)) (dC, dI) cls3 (mdW cL cI qm r.2) (inQ qm)) ([.ref (qm 0), .int x1] : List Value).toArray s 0 0 (inQ qm)) (F0 m 57 ls [.int s0]) := by
    intro vv s0 h H locs hPm hD hS ls hl
    unfold f_M_kind_j57 at h
    have h := Option.some.inj h
    subst h
    exact W.iret hx hb hr (fun t ht hW => ⟨rfl, by rw [ht]; exact hPm, hS.F ht⟩) hS.2.2 dM_kind_57
  have k51 : ∀ (vv : MV) (p1 : Int32), f_M_kind_j51 vv p1 = some r → ∀ (H : Heap) (locs : List Loc), va_P (dC, dI) cls3 (mdW cL cI qm vv) H → va_D (inQ qm) (mdW cL cI qm vv) → va_S (inQ qm) s.heap H locs → ∀ (ls : Array Slot), lv_has ls 2 [(0, .ref (qm 0)), (1, .int p1)] → W p l e (headSpec wsM_kind ({ frames := 1, cells := 0, slots := 0, locals := 21 })).room s m ([.ref (qm 0), .int x1] : List Value).toArray below meth c H locs 0 0 (MQ below (mu_Q (some (.int r.1)) (dC, dI) cls3 (mdW cL cI qm r.2) (inQ qm)) ([.ref (qm 0), .int x1] : List Value).toArray s 0 0 (inQ qm)) (F0 m 51 ls []) := by
    intro vv p1 h H locs hPm hD hS ls hl
    unfold f_M_kind_j51 at h
    refine lv_aload_n hx hb dM_kind_51 rfl (lv_at hl 0 rfl) ?_
    refine va_get (D := (dC, dI)) (ci := 2) (v := .ref (qm 1)) (C := R_M) (T := T_M) (N := 15) hx hb hw in_M hown hK hPm 0 rfl rfl 2 (by decide) (hw _ w_447) (fun _ h9 => h9) rfl dM_kind_52 ?_
    refine lv_iload_n hx hb dM_kind_55 rfl (lv_at hl 1 rfl) ?_
    obtain ⟨u9, hu9, h⟩ := ob_some h
    obtain ⟨hiu9, eu9⟩ := ld_of hu9
    refine va_iald hx hb hK hPm 1 1 rfl rfl hiu9 dM_kind_56 ?_
    rw [eu9]
    exact k57 vv u9 h H locs hPm hD hS ls (lv_sub hl [] rfl)
  have k14 : ∀ (vv : MV) (p1 : Int32) (s1 : Int32), f_M_kind_j14 vv p1 s1 = some r → ∀ (H : Heap) (locs : List Loc), va_P (dC, dI) cls3 (mdW cL cI qm vv) H → va_D (inQ qm) (mdW cL cI qm vv) → va_S (inQ qm) s.heap H locs → ∀ (ls : Array Slot), lv_has ls 2 [(0, .ref (qm 0)), (1, .int p1)] → W p l e (headSpec wsM_kind ({ frames := 1, cells := 0, slots := 0, locals := 21 })).room s m ([.ref (qm 0), .int x1] : List Value).toArray below meth c H locs 0 0 (MQ below (mu_Q (some (.int r.1)) (dC, dI) cls3 (mdW cL cI qm r.2) (inQ qm)) ([.ref (qm 0), .int x1] : List Value).toArray s 0 0 (inQ qm)) (F0 m 14 ls [.int s1, .ref (qm 0)]) := by
    intro vv p1 s1 h H locs hPm hD hS ls hl
    unfold f_M_kind_j14 at h
    refine va_put (D := (dC, dI)) (ci := 2) (v := .int s1) (ty := .int) (C := R_M) (T := T_M) (N := 15) hx hb hw in_M t_M t_M_ok nm_M hown hK hPm hD hS 0 rfl rfl 0 (by decide) (hw _ w_445) (fun _ h9 => h9) rfl (by decide +kernel) rfl rfl (Nat.le_of_ble_eq_true rfl) dM_kind_14 (fun H locs hPm hD hS => ?_)
    obtain ⟨v3, hv3, h⟩ := ob_some h
    have hPm : va_P (dC, dI) cls3 (mdW cL cI qm (ms_thrown vv s1)) H := hPm
    have hD : va_D (inQ qm) (mdW cL cI qm (ms_thrown vv s1)) := hD
    rw [Option.some.inj hv3] at hPm hD
    refine lv_aload_n hx hb dM_kind_17 rfl (lv_at hl 0 rfl) ?_
    refine va_get (D := (dC, dI)) (ci := 2) (v := .int (md_thrown v3)) (C := R_M) (T := T_M) (N := 15) hx hb hw in_M hown hK hPm 0 rfl rfl 0 (by decide) (hw _ w_445) (fun _ h9 => h9) rfl dM_kind_18 ?_
    refine lv_if_eq (tgt := 26) hx hb dM_kind_21 (by decide) (fun c4 => ?_) (fun c4 => ?_)
    · have h := it_t c4 h
      refine lv_aload_n hx hb dM_kind_26 rfl (lv_at hl 0 rfl) ?_
      refine va_get (D := (dC, dI)) (ci := 2) (v := .ref (qm 1)) (C := R_M) (T := T_M) (N := 15) hx hb hw in_M hown hK hPm 0 rfl rfl 2 (by decide) (hw _ w_447) (fun _ h9 => h9) rfl dM_kind_27 ?_
      refine lv_iload_n hx hb dM_kind_30 rfl (lv_at hl 1 rfl) ?_
      obtain ⟨u5, hu5, h⟩ := ob_some h
      obtain ⟨hiu5, eu5⟩ := ld_of hu5
      refine va_iald hx hb hK hPm 1 1 rfl rfl hiu5 dM_kind_31 ?_
      rw [eu5]
      refine lv_iconst (v := 2) hx hb dM_kind_32 (by decide) ?_
      refine lv_icmp_ne (tgt := 51) hx hb dM_kind_33 (by decide) (fun c6 => ?_) (fun c6 => ?_)
      · have h := it_f c6 h
        exact k51 v3 p1 h H locs hPm hD hS ls (lv_sub hl [0, 1] rfl)
      · have h := it_t c6 h
        refine lv_aload_n hx hb dM_kind_36 rfl (lv_at hl 0 rfl) ?_
        refine va_get (D := (dC, dI)) (ci := 2) (v := .ref (qm 2)) (C := R_M) (T := T_M) (N := 15) hx hb hw in_M hown hK hPm 0 rfl rfl 3 (by decide) (hw _ w_448) (fun _ h9 => h9) rfl dM_kind_37 ?_
        refine lv_iload_n hx hb dM_kind_40 rfl (lv_at hl 1 rfl) ?_
        obtain ⟨u7, hu7, h⟩ := ob_some h
        obtain ⟨hiu7, eu7⟩ := ld_of hu7
        refine va_lald hx hb hK hPm 2 0 rfl rfl hiu7 dM_kind_41 ?_
        rw [eu7]
        refine lv_lconst (v := 0) hx hb dM_kind_42 (by decide) ?_
        refine W.lcmp hx hb dM_kind_43 ?_
        refine lv_if_le (tgt := 51) hx hb dM_kind_44 (by decide) (fun c8 => ?_) (fun c8 => ?_)
        · have h := it_t c8 h
          exact k51 v3 p1 h H locs hPm hD hS ls (lv_sub hl [0, 1] rfl)
        · have h := it_f c8 h
          refine lv_iconst (v := 4) hx hb dM_kind_47 (by decide) ?_
          refine lv_goto (tgt := 57) hx hb dM_kind_48 (by decide) ?_
          exact k57 v3 (4 : Int32) h H locs hPm hD hS ls (lv_sub hl [] rfl)
    · have h := it_f c4 h
      refine lv_iconst (v := 0) hx hb dM_kind_24 (by decide) ?_
      have h := Option.some.inj h
      subst h
      exact W.iret hx hb hr (fun t ht hW => ⟨rfl, by rw [ht]; exact hPm, hS.F ht⟩) hS.2.2 dM_kind_25
  have hS : va_S (inQ qm) s.heap s.heap [] := va_S.rf
  obtain ⟨H, hH⟩ : ∃ H : Heap, H = s.heap := ⟨_, rfl⟩
  obtain ⟨locs, hlocs⟩ : ∃ L : List Loc, L = [] := ⟨_, rfl⟩
  suffices hgo : W p l e (headSpec wsM_kind ({ frames := 1, cells := 0, slots := 0, locals := 21 })).room s m ([.ref (qm 0), .int x1] : List Value).toArray below meth c H locs 0 0 (MQ below (mu_Q (some (.int r.1)) (dC, dI) cls3 (mdW cL cI qm r.2) (inQ qm)) ([.ref (qm 0), .int x1] : List Value).toArray s 0 0 (inQ qm)) (F0 m 0 ls []) by rw [hH, hlocs] at hgo; exact hgo
  rw [← hH] at hPm
  have hS : va_S (inQ qm) s.heap H locs := by rw [hH, hlocs]; exact hS
  clear hH hlocs
  unfold f_M_kind at h
  refine lv_aload_n hx hb dM_kind_0 rfl (lv_at hl 0 rfl) ?_
  refine lv_aload_n hx hb dM_kind_1 rfl (lv_at hl 0 rfl) ?_
  refine lv_iload_n hx hb dM_kind_2 rfl (lv_at hl 1 rfl) ?_
  obtain ⟨u1, hu1, h⟩ := ob_some h
  refine vp_callSi (va_Run.run (va_runV (As := [.int x1]) (rest := [.ref (qm 0)]) ⟨hx, hb, hml, hown, hw⟩ (k_M_isShape l dC dI cL cI qm v x1 u1 hu1) (cwV 1 hw (gV w_534 w_536 wp_8 w_2 w_537) rfl rfl rfl (by decide +kernel) ⟨Nat.le_of_ble_eq_true rfl, Nat.le_of_ble_eq_true rfl⟩) ⟨rd_blind, va_recv hK hPm (ci := 2) (q0 := 0) rfl rfl, rd_pre hPm hK⟩ rfl rfl hl.1 rfl (lv_room (Nat.le_of_ble_eq_true rfl)) dM_kind_3 ⟨Nat.le_of_ble_eq_true rfl, Nat.le_of_ble_eq_true rfl⟩)) (fun z hz => ?_)
  rw [hz]; clear hz
  refine lv_if_eq (tgt := 13) hx hb dM_kind_6 (by decide) (fun c2 => ?_) (fun c2 => ?_)
  · have h := it_t c2 h
    refine lv_iconst (v := 1) hx hb dM_kind_13 (by decide) ?_
    exact k14 v x1 (1 : Int32) h H locs hPm hD hS ls (lv_sub hl [0, 1] rfl)
  · have h := it_f c2 h
    refine lv_iconst (v := 0) hx hb dM_kind_9 (by decide) ?_
    refine lv_goto (tgt := 14) hx hb dM_kind_10 (by decide) ?_
    exact k14 v x1 (0 : Int32) h H locs hPm hD hS ls (lv_sub hl [0, 1] rfl)
theorem dM_same_0 : decode cM_same 0 = .ok (.aload_n 0, 1) := by decide +kernel
theorem dM_same_1 : decode cM_same 1 = .ok (.aload_n 0, 1) := by decide +kernel
theorem dM_same_2 : decode cM_same 2 = .ok (.iload_n 1, 1) := by decide +kernel
theorem dM_same_3 : decode cM_same 3 = .ok (.invokevirtual 87, 3) := by decide +kernel
theorem dM_same_6 : decode cM_same 6 = .ok (.ifCond .eq 11, 3) := by decide +kernel
theorem dM_same_9 : decode cM_same 9 = .ok (.aload_n 0, 1) := by decide +kernel
theorem dM_same_10 : decode cM_same 10 = .ok (.iload_n 2, 1) := by decide +kernel
theorem dM_same_11 : decode cM_same 11 = .ok (.invokevirtual 87, 3) := by decide +kernel
theorem dM_same_14 : decode cM_same 14 = .ok (.ifCond .ne 7, 3) := by decide +kernel
theorem dM_same_17 : decode cM_same 17 = .ok (.iconst 1, 1) := by decide +kernel
theorem dM_same_18 : decode cM_same 18 = .ok (.goto 24, 3) := by decide +kernel
theorem dM_same_21 : decode cM_same 21 = .ok (.aload_n 0, 1) := by decide +kernel
theorem dM_same_22 : decode cM_same 22 = .ok (.iload_n 1, 1) := by decide +kernel
theorem dM_same_23 : decode cM_same 23 = .ok (.invokevirtual 177, 3) := by decide +kernel
theorem dM_same_26 : decode cM_same 26 = .ok (.ifCond .eq 11, 3) := by decide +kernel
theorem dM_same_29 : decode cM_same 29 = .ok (.aload_n 0, 1) := by decide +kernel
theorem dM_same_30 : decode cM_same 30 = .ok (.iload_n 2, 1) := by decide +kernel
theorem dM_same_31 : decode cM_same 31 = .ok (.invokevirtual 177, 3) := by decide +kernel
theorem dM_same_34 : decode cM_same 34 = .ok (.ifCond .ne 7, 3) := by decide +kernel
theorem dM_same_37 : decode cM_same 37 = .ok (.iconst 2, 1) := by decide +kernel
theorem dM_same_38 : decode cM_same 38 = .ok (.goto 4, 3) := by decide +kernel
theorem dM_same_41 : decode cM_same 41 = .ok (.iconst 0, 1) := by decide +kernel
theorem dM_same_42 : decode cM_same 42 = .ok (.putfield 50, 3) := by decide +kernel
theorem dM_same_45 : decode cM_same 45 = .ok (.aload_n 0, 1) := by decide +kernel
theorem dM_same_46 : decode cM_same 46 = .ok (.getfield 50, 3) := by decide +kernel
theorem dM_same_49 : decode cM_same 49 = .ok (.ifCond .ne 32, 3) := by decide +kernel
theorem dM_same_52 : decode cM_same 52 = .ok (.aload_n 0, 1) := by decide +kernel
theorem dM_same_53 : decode cM_same 53 = .ok (.getfield 13, 3) := by decide +kernel
theorem dM_same_56 : decode cM_same 56 = .ok (.iload_n 1, 1) := by decide +kernel
theorem dM_same_57 : decode cM_same 57 = .ok (.laload, 1) := by decide +kernel
theorem dM_same_58 : decode cM_same 58 = .ok (.aload_n 0, 1) := by decide +kernel
theorem dM_same_59 : decode cM_same 59 = .ok (.getfield 13, 3) := by decide +kernel
theorem dM_same_62 : decode cM_same 62 = .ok (.iload_n 2, 1) := by decide +kernel
theorem dM_same_63 : decode cM_same 63 = .ok (.laload, 1) := by decide +kernel
theorem dM_same_64 : decode cM_same 64 = .ok (.lcmp, 1) := by decide +kernel
theorem dM_same_65 : decode cM_same 65 = .ok (.ifCond .ne 16, 3) := by decide +kernel
theorem dM_same_68 : decode cM_same 68 = .ok (.aload_n 0, 1) := by decide +kernel
theorem dM_same_69 : decode cM_same 69 = .ok (.iload_n 1, 1) := by decide +kernel
theorem dM_same_70 : decode cM_same 70 = .ok (.invokevirtual 145, 3) := by decide +kernel
theorem dM_same_73 : decode cM_same 73 = .ok (.aload_n 0, 1) := by decide +kernel
theorem dM_same_74 : decode cM_same 74 = .ok (.iload_n 2, 1) := by decide +kernel
theorem dM_same_75 : decode cM_same 75 = .ok (.invokevirtual 145, 3) := by decide +kernel
theorem dM_same_78 : decode cM_same 78 = .ok (.if_icmp .eq 5, 3) := by decide +kernel
theorem dM_same_81 : decode cM_same 81 = .ok (.iconst 0, 1) := by decide +kernel
theorem dM_same_82 : decode cM_same 82 = .ok (.ireturn, 1) := by decide +kernel
theorem dM_same_83 : decode cM_same 83 = .ok (.aload_n 0, 1) := by decide +kernel
theorem dM_same_84 : decode cM_same 84 = .ok (.iconst 0, 1) := by decide +kernel
theorem dM_same_85 : decode cM_same 85 = .ok (.iload_n 1, 1) := by decide +kernel
theorem dM_same_86 : decode cM_same 86 = .ok (.invokevirtual 165, 3) := by decide +kernel
theorem dM_same_89 : decode cM_same 89 = .ok (.aload_n 0, 1) := by decide +kernel
theorem dM_same_90 : decode cM_same 90 = .ok (.iconst 1, 1) := by decide +kernel
theorem dM_same_91 : decode cM_same 91 = .ok (.iload_n 2, 1) := by decide +kernel
theorem dM_same_92 : decode cM_same 92 = .ok (.invokevirtual 165, 3) := by decide +kernel
theorem dM_same_95 : decode cM_same 95 = .ok (.aload_n 0, 1) := by decide +kernel
theorem dM_same_96 : decode cM_same 96 = .ok (.iconst 0, 1) := by decide +kernel
theorem dM_same_97 : decode cM_same 97 = .ok (.iconst 1, 1) := by decide +kernel
theorem dM_same_98 : decode cM_same 98 = .ok (.invokevirtual 203, 3) := by decide +kernel
theorem dM_same_101 : decode cM_same 101 = .ok (.ifCond .eq 16, 3) := by decide +kernel
theorem dM_same_104 : decode cM_same 104 = .ok (.aload_n 0, 1) := by decide +kernel
theorem dM_same_105 : decode cM_same 105 = .ok (.iconst 1, 1) := by decide +kernel
theorem dM_same_106 : decode cM_same 106 = .ok (.iconst 0, 1) := by decide +kernel
theorem dM_same_107 : decode cM_same 107 = .ok (.invokevirtual 203, 3) := by decide +kernel
theorem dM_same_110 : decode cM_same 110 = .ok (.ifCond .eq 7, 3) := by decide +kernel
theorem dM_same_113 : decode cM_same 113 = .ok (.iconst 1, 1) := by decide +kernel
theorem dM_same_114 : decode cM_same 114 = .ok (.goto 4, 3) := by decide +kernel
theorem dM_same_117 : decode cM_same 117 = .ok (.iconst 0, 1) := by decide +kernel
theorem dM_same_118 : decode cM_same 118 = .ok (.ireturn, 1) := by decide +kernel
def f_M_same_j118 (vv : MV) (s0 : Int32) : Option (Int32 × MV) := (rb s0).bind fun uz => some (uz, vv)
def f_M_same_j117 (vv : MV) : Option (Int32 × MV) := (f_M_same_j118 vv (0 : Int32))
def f_M_same_j81 (vv : MV) : Option (Int32 × MV) := (rb (0 : Int32)).bind fun uz => some (uz, vv)
def f_M_same_j42 (vv : MV) (p1 : Int32) (p2 : Int32) (s1 : Int32) : Option (Int32 × MV) := (some (ms_thrown vv s1)).bind fun v9 => (if (md_thrown v9) = 0 then (ld 40 (md_radii v9) p1).bind fun u11 => (ld 40 (md_radii v9) p2).bind fun u12 => (if (lg_cmp u11 u12) = 0 then (f_M_hasArea v9 p1).bind fun u14 => (f_M_hasArea v9 p2).bind fun u15 => (if u14 = u15 then (f_M_pieces v9 (0 : Int32) p1).bind fun u17 => (f_M_pieces u17 (1 : Int32) p2).bind fun u18 => (f_M_covers u18 (0 : Int32) (1 : Int32)).bind fun u19 => (if u19 = 0 then (f_M_same_j117 u18) else (f_M_covers u18 (1 : Int32) (0 : Int32)).bind fun u21 => (if u21 = 0 then (f_M_same_j117 u18) else (f_M_same_j118 u18 (1 : Int32)))) else (f_M_same_j81 v9)) else (f_M_same_j81 v9)) else (f_M_same_j81 v9))
def f_M_same_j37 (vv : MV) (p1 : Int32) (p2 : Int32) : Option (Int32 × MV) := (f_M_same_j42 vv p1 p2 (2 : Int32))
def f_M_same_j17 (vv : MV) (p1 : Int32) (p2 : Int32) : Option (Int32 × MV) := (f_M_same_j42 vv p1 p2 (1 : Int32))
def f_M_same (v : MV) (x1 : Int32) (x2 : Int32) : Option (Int32 × MV) := (f_M_isShape v x1).bind fun u1 => (if u1 = 0 then (f_M_same_j17 v x1 x2) else (f_M_isShape v x2).bind fun u3 => (if u3 = 0 then (f_M_same_j17 v x1 x2) else (f_M_isWhole v x1).bind fun u5 => (if u5 = 0 then (f_M_same_j37 v x1 x2) else (f_M_isWhole v x2).bind fun u7 => (if u7 = 0 then (f_M_same_j37 v x1 x2) else (f_M_same_j42 v x1 x2 (0 : Int32))))))
set_option maxHeartbeats 4000000 in
set_option maxRecDepth 100000 in
theorem k_M_same (l : Launch) (dC : Nat → ClassId) (dI : Nat → Nat → Nat) (cL cI : ClassId) (qm : Nat → Nat) (v : MV) (x1 : Int32) (x2 : Int32) (r : (Int32 × MV)) (h : f_M_same v x1 x2 = some r) : Met l yM_same wsM_same ({ frames := 5, cells := 0, slots := 0, locals := 146 }) (rd_Pc [.ref (qm 0), .int x1, .int x2] (fun H => va_P (dC, dI) cls3 (mdW cL cI qm v) H ∧ va_D (inQ qm) (mdW cL cI qm v)) (dC, dI) cls3 [(cL, .long), (cI, .int)]) (mu_Q (some (.int r.1)) (dC, dI) cls3 (mdW cL cI qm r.2) (inQ qm)) 0 0 (inQ qm) := by
  refine Met.ofW (cc := cM_same) (maxL := 3) (ret := (some .boolean)) (by decide) rfl ?_
  intro p e s m args below meth c s₁ B hml hv
  obtain ⟨rfl, ⟨hPm, hD⟩, hK⟩ := hv
  have hx := B.exec
  have hb := B.bytes
  have hr := B.returns
  have hw : ∀ w ∈ wG, w.before ([.ref (qm 0), .int x1, .int x2] : List Value).toArray s = true := fun w hq => atoms_spec (ws := wsM_same) B.pre w (List.mem_cons_of_mem _ hq)
  have hown : s.vm.findClass R_M = some m.cls := findClass_of_methodNamed B.named
  have hlocks := B.notSynchronized
  have hl := lv_entry ([.ref (qm 0), .int x1, .int x2] : List Value) (n := 3) (Nat.le_of_ble_eq_true rfl)
  rw [lg_entry_eq]
  generalize (lg_sl ([.ref (qm 0), .int x1, .int x2] : List Value) ++ List.replicate (3 - (lg_sl ([.ref (qm 0), .int x1, .int x2] : List Value)).length) Slot.unset).toArray = ls at hl ⊢
  have hl : lv_has ls 3 [(0, .ref (qm 0)), (1, .int x1), (2, .int x2)] := hl
  have k118 : ∀ (vv : MV) (s0 : Int32), f_M_same_j118 vv s0 = some r → ∀ (H : Heap) (locs : List Loc), va_P (dC, dI) cls3 (mdW cL cI qm vv) H → va_D (inQ qm) (mdW cL cI qm vv) → va_S (inQ qm) s.heap H locs → ∀ (ls : Array Slot), lv_has ls 3 [] → W p l e (headSpec wsM_same ({ frames := 5, cells := 0, slots := 0, locals := 146 })).room s m ([.ref (qm 0), .int x1, .int x2] : List Value).toArray below meth c H locs 0 0 (MQ below (mu_Q (some (.int r.1)) (dC, dI) cls3 (mdW cL cI qm r.2) (inQ qm)) ([.ref (qm 0), .int x1, .int x2] : List Value).toArray s 0 0 (inQ qm)) (F0 m 118 ls [.int s0]) := by
    intro vv s0 h H locs hPm hD hS ls hl
    unfold f_M_same_j118 at h
    obtain ⟨uz, huz, h⟩ := ob_some h
    obtain ⟨hz, hr9⟩ := rb_of huz
    have h := Option.some.inj h
    subst hr9
    subst h
    exact W.zret hx hb hr hz (fun t ht hW => ⟨rfl, by rw [ht]; exact hPm, hS.F ht⟩) hS.2.2 dM_same_118
  have k117 : ∀ (vv : MV), f_M_same_j117 vv = some r → ∀ (H : Heap) (locs : List Loc), va_P (dC, dI) cls3 (mdW cL cI qm vv) H → va_D (inQ qm) (mdW cL cI qm vv) → va_S (inQ qm) s.heap H locs → ∀ (ls : Array Slot), lv_has ls 3 [] → W p l e (headSpec wsM_same ({ frames := 5, cells := 0, slots := 0, locals := 146 })).room s m ([.ref (qm 0), .int x1, .int x2] : List Value).toArray below meth c H locs 0 0 (MQ below (mu_Q (some (.int r.1)) (dC, dI) cls3 (mdW cL cI qm r.2) (inQ qm)) ([.ref (qm 0), .int x1, .int x2] : List Value).toArray s 0 0 (inQ qm)) (F0 m 117 ls []) := by
    intro vv h H locs hPm hD hS ls hl
    unfold f_M_same_j117 at h
    refine lv_iconst (v := 0) hx hb dM_same_117 (by decide) ?_
    exact k118 vv (0 : Int32) h H locs hPm hD hS ls (lv_sub hl [] rfl)
  have k81 : ∀ (vv : MV), f_M_same_j81 vv = some r → ∀ (H : Heap) (locs : List Loc), va_P (dC, dI) cls3 (mdW cL cI qm vv) H → va_D (inQ qm) (mdW cL cI qm vv) → va_S (inQ qm) s.heap H locs → ∀ (ls : Array Slot), lv_has ls 3 [] → W p l e (headSpec wsM_same ({ frames := 5, cells := 0, slots := 0, locals := 146 })).room s m ([.ref (qm 0), .int x1, .int x2] : List Value).toArray below meth c H locs 0 0 (MQ below (mu_Q (some (.int r.1)) (dC, dI) cls3 (mdW cL cI qm r.2) (inQ qm)) ([.ref (qm 0), .int x1, .int x2] : List Value).toArray s 0 0 (inQ qm)) (F0 m 81 ls []) := by
    intro vv h H locs hPm hD hS ls hl
    unfold f_M_same_j81 at h
    refine lv_iconst (v := 0) hx hb dM_same_81 (by decide) ?_
    obtain ⟨uz, huz, h⟩ := ob_some h
    obtain ⟨hz, hr9⟩ := rb_of huz
    have h := Option.some.inj h
    subst hr9
    subst h
    exact W.zret hx hb hr hz (fun t ht hW => ⟨rfl, by rw [ht]; exact hPm, hS.F ht⟩) hS.2.2 dM_same_82
  have k42 : ∀ (vv : MV) (p1 : Int32) (p2 : Int32) (s1 : Int32), f_M_same_j42 vv p1 p2 s1 = some r → ∀ (H : Heap) (locs : List Loc), va_P (dC, dI) cls3 (mdW cL cI qm vv) H → va_D (inQ qm) (mdW cL cI qm vv) → va_S (inQ qm) s.heap H locs → ∀ (ls : Array Slot), lv_has ls 3 [(0, .ref (qm 0)), (1, .int p1), (2, .int p2)] → W p l e (headSpec wsM_same ({ frames := 5, cells := 0, slots := 0, locals := 146 })).room s m ([.ref (qm 0), .int x1, .int x2] : List Value).toArray below meth c H locs 0 0 (MQ below (mu_Q (some (.int r.1)) (dC, dI) cls3 (mdW cL cI qm r.2) (inQ qm)) ([.ref (qm 0), .int x1, .int x2] : List Value).toArray s 0 0 (inQ qm)) (F0 m 42 ls [.int s1, .ref (qm 0)]) := by
    intro vv p1 p2 s1 h H locs hPm hD hS ls hl
    unfold f_M_same_j42 at h
    refine va_put (D := (dC, dI)) (ci := 2) (v := .int s1) (ty := .int) (C := R_M) (T := T_M) (N := 15) hx hb hw in_M t_M t_M_ok nm_M hown hK hPm hD hS 0 rfl rfl 0 (by decide) (hw _ w_445) (fun _ h9 => h9) rfl (by decide +kernel) rfl rfl (Nat.le_of_ble_eq_true rfl) dM_same_42 (fun H locs hPm hD hS => ?_)
    obtain ⟨v9, hv9, h⟩ := ob_some h
    have hPm : va_P (dC, dI) cls3 (mdW cL cI qm (ms_thrown vv s1)) H := hPm
    have hD : va_D (inQ qm) (mdW cL cI qm (ms_thrown vv s1)) := hD
    rw [Option.some.inj hv9] at hPm hD
    refine lv_aload_n hx hb dM_same_45 rfl (lv_at hl 0 rfl) ?_
    refine va_get (D := (dC, dI)) (ci := 2) (v := .int (md_thrown v9)) (C := R_M) (T := T_M) (N := 15) hx hb hw in_M hown hK hPm 0 rfl rfl 0 (by decide) (hw _ w_445) (fun _ h9 => h9) rfl dM_same_46 ?_
    refine lv_if_ne (tgt := 81) hx hb dM_same_49 (by decide) (fun c10 => ?_) (fun c10 => ?_)
    · have h := it_f c10 h
      exact k81 v9 h H locs hPm hD hS ls (lv_sub hl [] rfl)
    · have h := it_t c10 h
      refine lv_aload_n hx hb dM_same_52 rfl (lv_at hl 0 rfl) ?_
      refine va_get (D := (dC, dI)) (ci := 2) (v := .ref (qm 2)) (C := R_M) (T := T_M) (N := 15) hx hb hw in_M hown hK hPm 0 rfl rfl 3 (by decide) (hw _ w_448) (fun _ h9 => h9) rfl dM_same_53 ?_
      refine lv_iload_n hx hb dM_same_56 rfl (lv_at hl 1 rfl) ?_
      obtain ⟨u11, hu11, h⟩ := ob_some h
      obtain ⟨hiu11, eu11⟩ := ld_of hu11
      refine va_lald hx hb hK hPm 2 0 rfl rfl hiu11 dM_same_57 ?_
      rw [eu11]
      refine lv_aload_n hx hb dM_same_58 rfl (lv_at hl 0 rfl) ?_
      refine va_get (D := (dC, dI)) (ci := 2) (v := .ref (qm 2)) (C := R_M) (T := T_M) (N := 15) hx hb hw in_M hown hK hPm 0 rfl rfl 3 (by decide) (hw _ w_448) (fun _ h9 => h9) rfl dM_same_59 ?_
      refine lv_iload_n hx hb dM_same_62 rfl (lv_at hl 2 rfl) ?_
      obtain ⟨u12, hu12, h⟩ := ob_some h
      obtain ⟨hiu12, eu12⟩ := ld_of hu12
      refine va_lald hx hb hK hPm 2 0 rfl rfl hiu12 dM_same_63 ?_
      rw [eu12]
      refine W.lcmp hx hb dM_same_64 ?_
      refine lv_if_ne (tgt := 81) hx hb dM_same_65 (by decide) (fun c13 => ?_) (fun c13 => ?_)
      · have h := it_f c13 h
        exact k81 v9 h H locs hPm hD hS ls (lv_sub hl [] rfl)
      · have h := it_t c13 h
        refine lv_aload_n hx hb dM_same_68 rfl (lv_at hl 0 rfl) ?_
        refine lv_iload_n hx hb dM_same_69 rfl (lv_at hl 1 rfl) ?_
        obtain ⟨u14, hu14, h⟩ := ob_some h
        refine vp_callSi (va_Run.run (va_runV (As := [.int p1]) (rest := []) ⟨hx, hb, hml, hown, hw⟩ (k_M_hasArea l dC dI cL cI qm v9 p1 u14 hu14) (cwV 1 hw (gV w_619 w_621 wp_22 w_2 w_622) rfl rfl rfl (by decide +kernel) ⟨Nat.le_of_ble_eq_true rfl, Nat.le_of_ble_eq_true rfl⟩) ⟨rd_blind, va_recv hK hPm (ci := 2) (q0 := 0) rfl rfl, rd_pre hPm hK⟩ rfl rfl hl.1 rfl (lv_room (Nat.le_of_ble_eq_true rfl)) dM_same_70 ⟨Nat.le_of_ble_eq_true rfl, Nat.le_of_ble_eq_true rfl⟩)) (fun z hz => ?_)
        rw [hz]; clear hz
        refine lv_aload_n hx hb dM_same_73 rfl (lv_at hl 0 rfl) ?_
        refine lv_iload_n hx hb dM_same_74 rfl (lv_at hl 2 rfl) ?_
        obtain ⟨u15, hu15, h⟩ := ob_some h
        refine vp_callSi (va_Run.run (va_runV (As := [.int p2]) (rest := [.int u14]) ⟨hx, hb, hml, hown, hw⟩ (k_M_hasArea l dC dI cL cI qm v9 p2 u15 hu15) (cwV 1 hw (gV w_619 w_621 wp_22 w_2 w_622) rfl rfl rfl (by decide +kernel) ⟨Nat.le_of_ble_eq_true rfl, Nat.le_of_ble_eq_true rfl⟩) ⟨rd_blind, va_recv hK hPm (ci := 2) (q0 := 0) rfl rfl, rd_pre hPm hK⟩ rfl rfl hl.1 rfl (lv_room (Nat.le_of_ble_eq_true rfl)) dM_same_75 ⟨Nat.le_of_ble_eq_true rfl, Nat.le_of_ble_eq_true rfl⟩)) (fun z hz => ?_)
        rw [hz]; clear hz
        refine lv_icmp_eq (tgt := 83) hx hb dM_same_78 (by decide) (fun c16 => ?_) (fun c16 => ?_)
        · have h := it_t c16 h
          refine lv_aload_n hx hb dM_same_83 rfl (lv_at hl 0 rfl) ?_
          refine lv_iconst (v := 0) hx hb dM_same_84 (by decide) ?_
          refine lv_iload_n hx hb dM_same_85 rfl (lv_at hl 1 rfl) ?_
          obtain ⟨u17, hu17, h⟩ := ob_some h
          refine mu_call (va_runV (As := [.int (0 : Int32), .int p1]) (rest := []) ⟨hx, hb, hml, hown, hw⟩ (k_M_pieces l dC dI cL cI qm v9 (0 : Int32) p1 u17 hu17) (cwV 2 hw (gV w_603 w_605 wp_18 w_2 w_606) rfl rfl rfl (by decide +kernel) ⟨Nat.le_of_ble_eq_true rfl, Nat.le_of_ble_eq_true rfl⟩) ⟨rd_blind, va_recv hK hPm (ci := 2) (q0 := 0) rfl rfl, rd_pre ⟨hPm, hD⟩ hK⟩ rfl rfl hl.1 rfl (lv_room (Nat.le_of_ble_eq_true rfl)) dM_same_86 ⟨Nat.le_of_ble_eq_true rfl, Nat.le_of_ble_eq_true rfl⟩) hS (fun _ z => z) (fun H locs hPm hS _ _ => ?_)
          have hD := md_D (u17) hD
          refine lv_aload_n hx hb dM_same_89 rfl (lv_at hl 0 rfl) ?_
          refine lv_iconst (v := 1) hx hb dM_same_90 (by decide) ?_
          refine lv_iload_n hx hb dM_same_91 rfl (lv_at hl 2 rfl) ?_
          obtain ⟨u18, hu18, h⟩ := ob_some h
          refine mu_call (va_runV (As := [.int (1 : Int32), .int p2]) (rest := []) ⟨hx, hb, hml, hown, hw⟩ (k_M_pieces l dC dI cL cI qm u17 (1 : Int32) p2 u18 hu18) (cwV 2 hw (gV w_603 w_605 wp_18 w_2 w_606) rfl rfl rfl (by decide +kernel) ⟨Nat.le_of_ble_eq_true rfl, Nat.le_of_ble_eq_true rfl⟩) ⟨rd_blind, va_recv hK hPm (ci := 2) (q0 := 0) rfl rfl, rd_pre ⟨hPm, hD⟩ hK⟩ rfl rfl hl.1 rfl (lv_room (Nat.le_of_ble_eq_true rfl)) dM_same_92 ⟨Nat.le_of_ble_eq_true rfl, Nat.le_of_ble_eq_true rfl⟩) hS (fun _ z => z) (fun H locs hPm hS _ _ => ?_)
          have hD := md_D (u18) hD
          refine lv_aload_n hx hb dM_same_95 rfl (lv_at hl 0 rfl) ?_
          refine lv_iconst (v := 0) hx hb dM_same_96 (by decide) ?_
          refine lv_iconst (v := 1) hx hb dM_same_97 (by decide) ?_
          obtain ⟨u19, hu19, h⟩ := ob_some h
          refine vp_callSi (va_Run.run (va_runV (As := [.int (0 : Int32), .int (1 : Int32)]) (rest := []) ⟨hx, hb, hml, hown, hw⟩ (k_M_covers l dC dI cL cI qm u18 (0 : Int32) (1 : Int32) u19 hu19) (cwV 2 hw (gV w_673 w_675 wp_29 w_2 w_676) rfl rfl rfl (by decide +kernel) ⟨Nat.le_of_ble_eq_true rfl, Nat.le_of_ble_eq_true rfl⟩) ⟨rd_blind, va_recv hK hPm (ci := 2) (q0 := 0) rfl rfl, rd_pre hPm hK⟩ rfl rfl hl.1 rfl (lv_room (Nat.le_of_ble_eq_true rfl)) dM_same_98 ⟨Nat.le_of_ble_eq_true rfl, Nat.le_of_ble_eq_true rfl⟩)) (fun z hz => ?_)
          rw [hz]; clear hz
          refine lv_if_eq (tgt := 117) hx hb dM_same_101 (by decide) (fun c20 => ?_) (fun c20 => ?_)
          · have h := it_t c20 h
            exact k117 u18 h H locs hPm hD hS ls (lv_sub hl [] rfl)
          · have h := it_f c20 h
            refine lv_aload_n hx hb dM_same_104 rfl (lv_at hl 0 rfl) ?_
            refine lv_iconst (v := 1) hx hb dM_same_105 (by decide) ?_
            refine lv_iconst (v := 0) hx hb dM_same_106 (by decide) ?_
            obtain ⟨u21, hu21, h⟩ := ob_some h
            refine vp_callSi (va_Run.run (va_runV (As := [.int (1 : Int32), .int (0 : Int32)]) (rest := []) ⟨hx, hb, hml, hown, hw⟩ (k_M_covers l dC dI cL cI qm u18 (1 : Int32) (0 : Int32) u21 hu21) (cwV 2 hw (gV w_673 w_675 wp_29 w_2 w_676) rfl rfl rfl (by decide +kernel) ⟨Nat.le_of_ble_eq_true rfl, Nat.le_of_ble_eq_true rfl⟩) ⟨rd_blind, va_recv hK hPm (ci := 2) (q0 := 0) rfl rfl, rd_pre hPm hK⟩ rfl rfl hl.1 rfl (lv_room (Nat.le_of_ble_eq_true rfl)) dM_same_107 ⟨Nat.le_of_ble_eq_true rfl, Nat.le_of_ble_eq_true rfl⟩)) (fun z hz => ?_)
            rw [hz]; clear hz
            refine lv_if_eq (tgt := 117) hx hb dM_same_110 (by decide) (fun c22 => ?_) (fun c22 => ?_)
            · have h := it_t c22 h
              exact k117 u18 h H locs hPm hD hS ls (lv_sub hl [] rfl)
            · have h := it_f c22 h
              refine lv_iconst (v := 1) hx hb dM_same_113 (by decide) ?_
              refine lv_goto (tgt := 118) hx hb dM_same_114 (by decide) ?_
              exact k118 u18 (1 : Int32) h H locs hPm hD hS ls (lv_sub hl [] rfl)
        · have h := it_f c16 h
          exact k81 v9 h H locs hPm hD hS ls (lv_sub hl [] rfl)
  have k37 : ∀ (vv : MV) (p1 : Int32) (p2 : Int32), f_M_same_j37 vv p1 p2 = some r → ∀ (H : Heap) (locs : List Loc), va_P (dC, dI) cls3 (mdW cL cI qm vv) H → va_D (inQ qm) (mdW cL cI qm vv) → va_S (inQ qm) s.heap H locs → ∀ (ls : Array Slot), lv_has ls 3 [(0, .ref (qm 0)), (1, .int p1), (2, .int p2)] → W p l e (headSpec wsM_same ({ frames := 5, cells := 0, slots := 0, locals := 146 })).room s m ([.ref (qm 0), .int x1, .int x2] : List Value).toArray below meth c H locs 0 0 (MQ below (mu_Q (some (.int r.1)) (dC, dI) cls3 (mdW cL cI qm r.2) (inQ qm)) ([.ref (qm 0), .int x1, .int x2] : List Value).toArray s 0 0 (inQ qm)) (F0 m 37 ls [.ref (qm 0)]) := by
    intro vv p1 p2 h H locs hPm hD hS ls hl
    unfold f_M_same_j37 at h
    refine lv_iconst (v := 2) hx hb dM_same_37 (by decide) ?_
    refine lv_goto (tgt := 42) hx hb dM_same_38 (by decide) ?_
    exact k42 vv p1 p2 (2 : Int32) h H locs hPm hD hS ls (lv_sub hl [0, 1, 2] rfl)
  have k17 : ∀ (vv : MV) (p1 : Int32) (p2 : Int32), f_M_same_j17 vv p1 p2 = some r → ∀ (H : Heap) (locs : List Loc), va_P (dC, dI) cls3 (mdW cL cI qm vv) H → va_D (inQ qm) (mdW cL cI qm vv) → va_S (inQ qm) s.heap H locs → ∀ (ls : Array Slot), lv_has ls 3 [(0, .ref (qm 0)), (1, .int p1), (2, .int p2)] → W p l e (headSpec wsM_same ({ frames := 5, cells := 0, slots := 0, locals := 146 })).room s m ([.ref (qm 0), .int x1, .int x2] : List Value).toArray below meth c H locs 0 0 (MQ below (mu_Q (some (.int r.1)) (dC, dI) cls3 (mdW cL cI qm r.2) (inQ qm)) ([.ref (qm 0), .int x1, .int x2] : List Value).toArray s 0 0 (inQ qm)) (F0 m 17 ls [.ref (qm 0)]) := by
    intro vv p1 p2 h H locs hPm hD hS ls hl
    unfold f_M_same_j17 at h
    refine lv_iconst (v := 1) hx hb dM_same_17 (by decide) ?_
    refine lv_goto (tgt := 42) hx hb dM_same_18 (by decide) ?_
    exact k42 vv p1 p2 (1 : Int32) h H locs hPm hD hS ls (lv_sub hl [0, 1, 2] rfl)
  have hS : va_S (inQ qm) s.heap s.heap [] := va_S.rf
  obtain ⟨H, hH⟩ : ∃ H : Heap, H = s.heap := ⟨_, rfl⟩
  obtain ⟨locs, hlocs⟩ : ∃ L : List Loc, L = [] := ⟨_, rfl⟩
  suffices hgo : W p l e (headSpec wsM_same ({ frames := 5, cells := 0, slots := 0, locals := 146 })).room s m ([.ref (qm 0), .int x1, .int x2] : List Value).toArray below meth c H locs 0 0 (MQ below (mu_Q (some (.int r.1)) (dC, dI) cls3 (mdW cL cI qm r.2) (inQ qm)) ([.ref (qm 0), .int x1, .int x2] : List Value).toArray s 0 0 (inQ qm)) (F0 m 0 ls []) by rw [hH, hlocs] at hgo; exact hgo
  rw [← hH] at hPm
  have hS : va_S (inQ qm) s.heap H locs := by rw [hH, hlocs]; exact hS
  clear hH hlocs
  unfold f_M_same at h
  refine lv_aload_n hx hb dM_same_0 rfl (lv_at hl 0 rfl) ?_
  refine lv_aload_n hx hb dM_same_1 rfl (lv_at hl 0 rfl) ?_
  refine lv_iload_n hx hb dM_same_2 rfl (lv_at hl 1 rfl) ?_
  obtain ⟨u1, hu1, h⟩ := ob_some h
  refine vp_callSi (va_Run.run (va_runV (As := [.int x1]) (rest := [.ref (qm 0)]) ⟨hx, hb, hml, hown, hw⟩ (k_M_isShape l dC dI cL cI qm v x1 u1 hu1) (cwV 1 hw (gV w_534 w_536 wp_8 w_2 w_537) rfl rfl rfl (by decide +kernel) ⟨Nat.le_of_ble_eq_true rfl, Nat.le_of_ble_eq_true rfl⟩) ⟨rd_blind, va_recv hK hPm (ci := 2) (q0 := 0) rfl rfl, rd_pre hPm hK⟩ rfl rfl hl.1 rfl (lv_room (Nat.le_of_ble_eq_true rfl)) dM_same_3 ⟨Nat.le_of_ble_eq_true rfl, Nat.le_of_ble_eq_true rfl⟩)) (fun z hz => ?_)
  rw [hz]; clear hz
  refine lv_if_eq (tgt := 17) hx hb dM_same_6 (by decide) (fun c2 => ?_) (fun c2 => ?_)
  · have h := it_t c2 h
    exact k17 v x1 x2 h H locs hPm hD hS ls (lv_sub hl [0, 1, 2] rfl)
  · have h := it_f c2 h
    refine lv_aload_n hx hb dM_same_9 rfl (lv_at hl 0 rfl) ?_
    refine lv_iload_n hx hb dM_same_10 rfl (lv_at hl 2 rfl) ?_
    obtain ⟨u3, hu3, h⟩ := ob_some h
    refine vp_callSi (va_Run.run (va_runV (As := [.int x2]) (rest := [.ref (qm 0)]) ⟨hx, hb, hml, hown, hw⟩ (k_M_isShape l dC dI cL cI qm v x2 u3 hu3) (cwV 1 hw (gV w_534 w_536 wp_8 w_2 w_537) rfl rfl rfl (by decide +kernel) ⟨Nat.le_of_ble_eq_true rfl, Nat.le_of_ble_eq_true rfl⟩) ⟨rd_blind, va_recv hK hPm (ci := 2) (q0 := 0) rfl rfl, rd_pre hPm hK⟩ rfl rfl hl.1 rfl (lv_room (Nat.le_of_ble_eq_true rfl)) dM_same_11 ⟨Nat.le_of_ble_eq_true rfl, Nat.le_of_ble_eq_true rfl⟩)) (fun z hz => ?_)
    rw [hz]; clear hz
    refine lv_if_ne (tgt := 21) hx hb dM_same_14 (by decide) (fun c4 => ?_) (fun c4 => ?_)
    · have h := it_f c4 h
      refine lv_aload_n hx hb dM_same_21 rfl (lv_at hl 0 rfl) ?_
      refine lv_iload_n hx hb dM_same_22 rfl (lv_at hl 1 rfl) ?_
      obtain ⟨u5, hu5, h⟩ := ob_some h
      refine vp_callSi (va_Run.run (va_runV (As := [.int x1]) (rest := [.ref (qm 0)]) ⟨hx, hb, hml, hown, hw⟩ (k_M_isWhole l dC dI cL cI qm v x1 u5 hu5) (cwV 1 hw (gV w_595 w_597 wp_16 w_2 w_598) rfl rfl rfl (by decide +kernel) ⟨Nat.le_of_ble_eq_true rfl, Nat.le_of_ble_eq_true rfl⟩) ⟨rd_blind, va_recv hK hPm (ci := 2) (q0 := 0) rfl rfl, rd_pre hPm hK⟩ rfl rfl hl.1 rfl (lv_room (Nat.le_of_ble_eq_true rfl)) dM_same_23 ⟨Nat.le_of_ble_eq_true rfl, Nat.le_of_ble_eq_true rfl⟩)) (fun z hz => ?_)
      rw [hz]; clear hz
      refine lv_if_eq (tgt := 37) hx hb dM_same_26 (by decide) (fun c6 => ?_) (fun c6 => ?_)
      · have h := it_t c6 h
        exact k37 v x1 x2 h H locs hPm hD hS ls (lv_sub hl [0, 1, 2] rfl)
      · have h := it_f c6 h
        refine lv_aload_n hx hb dM_same_29 rfl (lv_at hl 0 rfl) ?_
        refine lv_iload_n hx hb dM_same_30 rfl (lv_at hl 2 rfl) ?_
        obtain ⟨u7, hu7, h⟩ := ob_some h
        refine vp_callSi (va_Run.run (va_runV (As := [.int x2]) (rest := [.ref (qm 0)]) ⟨hx, hb, hml, hown, hw⟩ (k_M_isWhole l dC dI cL cI qm v x2 u7 hu7) (cwV 1 hw (gV w_595 w_597 wp_16 w_2 w_598) rfl rfl rfl (by decide +kernel) ⟨Nat.le_of_ble_eq_true rfl, Nat.le_of_ble_eq_true rfl⟩) ⟨rd_blind, va_recv hK hPm (ci := 2) (q0 := 0) rfl rfl, rd_pre hPm hK⟩ rfl rfl hl.1 rfl (lv_room (Nat.le_of_ble_eq_true rfl)) dM_same_31 ⟨Nat.le_of_ble_eq_true rfl, Nat.le_of_ble_eq_true rfl⟩)) (fun z hz => ?_)
        rw [hz]; clear hz
        refine lv_if_ne (tgt := 41) hx hb dM_same_34 (by decide) (fun c8 => ?_) (fun c8 => ?_)
        · have h := it_f c8 h
          refine lv_iconst (v := 0) hx hb dM_same_41 (by decide) ?_
          exact k42 v x1 x2 (0 : Int32) h H locs hPm hD hS ls (lv_sub hl [0, 1, 2] rfl)
        · have h := it_t c8 h
          exact k37 v x1 x2 h H locs hPm hD hS ls (lv_sub hl [0, 1, 2] rfl)
    · have h := it_t c4 h
      exact k17 v x1 x2 h H locs hPm hD hS ls (lv_sub hl [0, 1, 2] rfl)
