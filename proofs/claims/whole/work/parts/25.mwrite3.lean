/-! the reference: writing methods, laid by program -/
theorem dM_corner_0 : decode cM_corner 0 = .ok (.aload_n 0, 1) := by decide +kernel
theorem dM_corner_1 : decode cM_corner 1 = .ok (.aload_n 0, 1) := by decide +kernel
theorem dM_corner_2 : decode cM_corner 2 = .ok (.iload_n 1, 1) := by decide +kernel
theorem dM_corner_3 : decode cM_corner 3 = .ok (.invokevirtual 87, 3) := by decide +kernel
theorem dM_corner_6 : decode cM_corner 6 = .ok (.ifCond .ne 7, 3) := by decide +kernel
theorem dM_corner_9 : decode cM_corner 9 = .ok (.iconst 1, 1) := by decide +kernel
theorem dM_corner_10 : decode cM_corner 10 = .ok (.goto 52, 3) := by decide +kernel
theorem dM_corner_13 : decode cM_corner 13 = .ok (.aload_n 0, 1) := by decide +kernel
theorem dM_corner_14 : decode cM_corner 14 = .ok (.getfield 7, 3) := by decide +kernel
theorem dM_corner_17 : decode cM_corner 17 = .ok (.iload_n 1, 1) := by decide +kernel
theorem dM_corner_18 : decode cM_corner 18 = .ok (.iaload, 1) := by decide +kernel
theorem dM_corner_19 : decode cM_corner 19 = .ok (.iconst 2, 1) := by decide +kernel
theorem dM_corner_20 : decode cM_corner 20 = .ok (.if_icmp .lt 24, 3) := by decide +kernel
theorem dM_corner_23 : decode cM_corner 23 = .ok (.aload_n 0, 1) := by decide +kernel
theorem dM_corner_24 : decode cM_corner 24 = .ok (.getfield 7, 3) := by decide +kernel
theorem dM_corner_27 : decode cM_corner 27 = .ok (.iload_n 1, 1) := by decide +kernel
theorem dM_corner_28 : decode cM_corner 28 = .ok (.iaload, 1) := by decide +kernel
theorem dM_corner_29 : decode cM_corner 29 = .ok (.iconst 2, 1) := by decide +kernel
theorem dM_corner_30 : decode cM_corner 30 = .ok (.if_icmp .ne 18, 3) := by decide +kernel
theorem dM_corner_33 : decode cM_corner 33 = .ok (.aload_n 0, 1) := by decide +kernel
theorem dM_corner_34 : decode cM_corner 34 = .ok (.getfield 13, 3) := by decide +kernel
theorem dM_corner_37 : decode cM_corner 37 = .ok (.iload_n 1, 1) := by decide +kernel
theorem dM_corner_38 : decode cM_corner 38 = .ok (.laload, 1) := by decide +kernel
theorem dM_corner_39 : decode cM_corner 39 = .ok (.lconst 0, 1) := by decide +kernel
theorem dM_corner_40 : decode cM_corner 40 = .ok (.lcmp, 1) := by decide +kernel
theorem dM_corner_41 : decode cM_corner 41 = .ok (.ifCond .le 7, 3) := by decide +kernel
theorem dM_corner_44 : decode cM_corner 44 = .ok (.iconst 2, 1) := by decide +kernel
theorem dM_corner_45 : decode cM_corner 45 = .ok (.goto 17, 3) := by decide +kernel
theorem dM_corner_48 : decode cM_corner 48 = .ok (.lload_n 2, 1) := by decide +kernel
theorem dM_corner_49 : decode cM_corner 49 = .ok (.lload 4, 2) := by decide +kernel
theorem dM_corner_51 : decode cM_corner 51 = .ok (.invokestatic 67, 3) := by decide +kernel
theorem dM_corner_54 : decode cM_corner 54 = .ok (.ifCond .eq 7, 3) := by decide +kernel
theorem dM_corner_57 : decode cM_corner 57 = .ok (.iconst 0, 1) := by decide +kernel
theorem dM_corner_58 : decode cM_corner 58 = .ok (.goto 4, 3) := by decide +kernel
theorem dM_corner_61 : decode cM_corner 61 = .ok (.iconst 3, 1) := by decide +kernel
theorem dM_corner_62 : decode cM_corner 62 = .ok (.putfield 50, 3) := by decide +kernel
theorem dM_corner_65 : decode cM_corner 65 = .ok (.aload_n 0, 1) := by decide +kernel
theorem dM_corner_66 : decode cM_corner 66 = .ok (.getfield 50, 3) := by decide +kernel
theorem dM_corner_69 : decode cM_corner 69 = .ok (.ifCond .ne 14, 3) := by decide +kernel
theorem dM_corner_72 : decode cM_corner 72 = .ok (.aload_n 0, 1) := by decide +kernel
theorem dM_corner_73 : decode cM_corner 73 = .ok (.getfield 23, 3) := by decide +kernel
theorem dM_corner_76 : decode cM_corner 76 = .ok (.iload_n 1, 1) := by decide +kernel
theorem dM_corner_77 : decode cM_corner 77 = .ok (.iaload, 1) := by decide +kernel
theorem dM_corner_78 : decode cM_corner 78 = .ok (.bipush 48, 2) := by decide +kernel
theorem dM_corner_80 : decode cM_corner 80 = .ok (.if_icmp .ne 5, 3) := by decide +kernel
theorem dM_corner_83 : decode cM_corner 83 = .ok (.iconst 0, 1) := by decide +kernel
theorem dM_corner_84 : decode cM_corner 84 = .ok (.ireturn, 1) := by decide +kernel
theorem dM_corner_85 : decode cM_corner 85 = .ok (.bipush 48, 2) := by decide +kernel
theorem dM_corner_87 : decode cM_corner 87 = .ok (.iload_n 1, 1) := by decide +kernel
theorem dM_corner_88 : decode cM_corner 88 = .ok (.imul, 1) := by decide +kernel
theorem dM_corner_89 : decode cM_corner 89 = .ok (.aload_n 0, 1) := by decide +kernel
theorem dM_corner_90 : decode cM_corner 90 = .ok (.getfield 23, 3) := by decide +kernel
theorem dM_corner_93 : decode cM_corner 93 = .ok (.iload_n 1, 1) := by decide +kernel
theorem dM_corner_94 : decode cM_corner 94 = .ok (.iaload, 1) := by decide +kernel
theorem dM_corner_95 : decode cM_corner 95 = .ok (.iadd, 1) := by decide +kernel
theorem dM_corner_96 : decode cM_corner 96 = .ok (.iconst 1, 1) := by decide +kernel
theorem dM_corner_97 : decode cM_corner 97 = .ok (.isub, 1) := by decide +kernel
theorem dM_corner_98 : decode cM_corner 98 = .ok (.istore 6, 2) := by decide +kernel
theorem dM_corner_100 : decode cM_corner 100 = .ok (.aload_n 0, 1) := by decide +kernel
theorem dM_corner_101 : decode cM_corner 101 = .ok (.getfield 23, 3) := by decide +kernel
theorem dM_corner_104 : decode cM_corner 104 = .ok (.iload_n 1, 1) := by decide +kernel
theorem dM_corner_105 : decode cM_corner 105 = .ok (.iaload, 1) := by decide +kernel
theorem dM_corner_106 : decode cM_corner 106 = .ok (.aload_n 0, 1) := by decide +kernel
theorem dM_corner_107 : decode cM_corner 107 = .ok (.iload_n 1, 1) := by decide +kernel
theorem dM_corner_108 : decode cM_corner 108 = .ok (.invokevirtual 63, 3) := by decide +kernel
theorem dM_corner_111 : decode cM_corner 111 = .ok (.if_icmp .le 7, 3) := by decide +kernel
theorem dM_corner_114 : decode cM_corner 114 = .ok (.iconst 1, 1) := by decide +kernel
theorem dM_corner_115 : decode cM_corner 115 = .ok (.goto 4, 3) := by decide +kernel
theorem dM_corner_118 : decode cM_corner 118 = .ok (.iconst 0, 1) := by decide +kernel
theorem dM_corner_119 : decode cM_corner 119 = .ok (.istore 7, 2) := by decide +kernel
theorem dM_corner_121 : decode cM_corner 121 = .ok (.iload 7, 2) := by decide +kernel
theorem dM_corner_123 : decode cM_corner 123 = .ok (.ifCond .eq 30, 3) := by decide +kernel
theorem dM_corner_126 : decode cM_corner 126 = .ok (.aload_n 0, 1) := by decide +kernel
theorem dM_corner_127 : decode cM_corner 127 = .ok (.getfield 17, 3) := by decide +kernel
theorem dM_corner_130 : decode cM_corner 130 = .ok (.iload 6, 2) := by decide +kernel
theorem dM_corner_132 : decode cM_corner 132 = .ok (.laload, 1) := by decide +kernel
theorem dM_corner_133 : decode cM_corner 133 = .ok (.lload_n 2, 1) := by decide +kernel
theorem dM_corner_134 : decode cM_corner 134 = .ok (.lcmp, 1) := by decide +kernel
theorem dM_corner_135 : decode cM_corner 135 = .ok (.ifCond .ne 18, 3) := by decide +kernel
theorem dM_corner_138 : decode cM_corner 138 = .ok (.aload_n 0, 1) := by decide +kernel
theorem dM_corner_139 : decode cM_corner 139 = .ok (.getfield 20, 3) := by decide +kernel
theorem dM_corner_142 : decode cM_corner 142 = .ok (.iload 6, 2) := by decide +kernel
theorem dM_corner_144 : decode cM_corner 144 = .ok (.laload, 1) := by decide +kernel
theorem dM_corner_145 : decode cM_corner 145 = .ok (.lload 4, 2) := by decide +kernel
theorem dM_corner_147 : decode cM_corner 147 = .ok (.lcmp, 1) := by decide +kernel
theorem dM_corner_148 : decode cM_corner 148 = .ok (.ifCond .ne 5, 3) := by decide +kernel
theorem dM_corner_151 : decode cM_corner 151 = .ok (.iconst 0, 1) := by decide +kernel
theorem dM_corner_152 : decode cM_corner 152 = .ok (.ireturn, 1) := by decide +kernel
theorem dM_corner_153 : decode cM_corner 153 = .ok (.aload_n 0, 1) := by decide +kernel
theorem dM_corner_154 : decode cM_corner 154 = .ok (.iload_n 1, 1) := by decide +kernel
theorem dM_corner_155 : decode cM_corner 155 = .ok (.lload_n 2, 1) := by decide +kernel
theorem dM_corner_156 : decode cM_corner 156 = .ok (.lload 4, 2) := by decide +kernel
theorem dM_corner_158 : decode cM_corner 158 = .ok (.invokevirtual 79, 3) := by decide +kernel
theorem dM_corner_161 : decode cM_corner 161 = .ok (.iconst 1, 1) := by decide +kernel
theorem dM_corner_162 : decode cM_corner 162 = .ok (.ireturn, 1) := by decide +kernel
def f_M_corner_j153 (vv : MV) (p1 : Int32) (p2 : Int64) (p4 : Int64) : Option (Int32 × MV) := (f_M_add vv p1 p2 p4).bind fun u25 => (rb (1 : Int32)).bind fun uz => some (uz, u25)
def f_M_corner_j119 (vv : MV) (p1 : Int32) (p2 : Int64) (p4 : Int64) (p6 : Int32) (s0 : Int32) : Option (Int32 × MV) := (if s0 = 0 then (f_M_corner_j153 vv p1 p2 p4) else (ld 1920 (md_cornerX vv) p6).bind fun u21 => (if (lg_cmp u21 p2) = 0 then (ld 1920 (md_cornerY vv) p6).bind fun u23 => (if (lg_cmp u23 p4) = 0 then (rb (0 : Int32)).bind fun uz => some (uz, vv) else (f_M_corner_j153 vv p1 p2 p4)) else (f_M_corner_j153 vv p1 p2 p4)))
def f_M_corner_j83 (vv : MV) : Option (Int32 × MV) := (rb (0 : Int32)).bind fun uz => some (uz, vv)
def f_M_corner_j62 (vv : MV) (p1 : Int32) (p2 : Int64) (p4 : Int64) (s1 : Int32) : Option (Int32 × MV) := (some (ms_thrown vv s1)).bind fun v11 => (if (md_thrown v11) = 0 then (ld 40 (md_many v11) p1).bind fun u13 => (if u13 = (48 : Int32) then (f_M_corner_j83 v11) else (ld 40 (md_many v11) p1).bind fun u15 => (some ((((48 : Int32) * p1) + u15) - (1 : Int32))).bind fun u16 => (ld 40 (md_many v11) p1).bind fun u17 => (f_M_closed v11 p1).bind fun u18 => (if u17 ≤ u18 then (f_M_corner_j119 v11 p1 p2 p4 u16 (0 : Int32)) else (f_M_corner_j119 v11 p1 p2 p4 u16 (1 : Int32)))) else (f_M_corner_j83 v11))
def f_M_corner_j48 (vv : MV) (p1 : Int32) (p2 : Int64) (p4 : Int64) : Option (Int32 × MV) := (f_M_isPlace p2 p4).bind fun u9 => (if u9 = 0 then (f_M_corner_j62 vv p1 p2 p4 (3 : Int32)) else (f_M_corner_j62 vv p1 p2 p4 (0 : Int32)))
def f_M_corner_j44 (vv : MV) (p1 : Int32) (p2 : Int64) (p4 : Int64) : Option (Int32 × MV) := (f_M_corner_j62 vv p1 p2 p4 (2 : Int32))
def f_M_corner (v : MV) (x1 : Int32) (x2 : Int64) (x4 : Int64) : Option (Int32 × MV) := (f_M_isShape v x1).bind fun u1 => (if u1 = 0 then (f_M_corner_j62 v x1 x2 x4 (1 : Int32)) else (ld 40 (md_kinds v) x1).bind fun u3 => (if u3 < (2 : Int32) then (f_M_corner_j44 v x1 x2 x4) else (ld 40 (md_kinds v) x1).bind fun u5 => (if u5 = (2 : Int32) then (ld 40 (md_radii v) x1).bind fun u7 => (if (lg_cmp u7 (0 : Int64)) ≤ 0 then (f_M_corner_j48 v x1 x2 x4) else (f_M_corner_j44 v x1 x2 x4)) else (f_M_corner_j48 v x1 x2 x4))))
set_option maxHeartbeats 4000000 in
set_option maxRecDepth 100000 in
theorem k_M_corner (l : Launch) (dC : Nat → ClassId) (dI : Nat → Nat → Nat) (cL cI : ClassId) (qm : Nat → Nat) (v : MV) (x1 : Int32) (x2 : Int64) (x4 : Int64) (r : (Int32 × MV)) (h : f_M_corner v x1 x2 x4 = some r) : Met l yM_corner wsM_corner ({ frames := 1, cells := 0, slots := 0, locals := 25 }) (rd_Pc [.ref (qm 0), .int x1, .long x2, .long x4] (fun H => va_P (dC, dI) cls3 (mdW cL cI qm v) H ∧ va_D (inQ qm) (mdW cL cI qm v)) (dC, dI) cls3 [(cL, .long), (cI, .int)]) (mu_Q (some (.int r.1)) (dC, dI) cls3 (mdW cL cI qm r.2) (inQ qm)) 0 0 (inQ qm) := by
  refine Met.ofW (cc := cM_corner) (maxL := 8) (ret := (some .boolean)) (by decide) rfl ?_
  intro p e s m args below meth c s₁ B hml hv
  obtain ⟨rfl, ⟨hPm, hD⟩, hK⟩ := hv
  have hx := B.exec
  have hb := B.bytes
  have hr := B.returns
  have hw : ∀ w ∈ wG, w.before ([.ref (qm 0), .int x1, .long x2, .long x4] : List Value).toArray s = true := fun w hq => atoms_spec (ws := wsM_corner) B.pre w (List.mem_cons_of_mem _ hq)
  have hown : s.vm.findClass R_M = some m.cls := findClass_of_methodNamed B.named
  have hlocks := B.notSynchronized
  have hl := lv_entry ([.ref (qm 0), .int x1, .long x2, .long x4] : List Value) (n := 8) (Nat.le_of_ble_eq_true rfl)
  rw [lg_entry_eq]
  generalize (lg_sl ([.ref (qm 0), .int x1, .long x2, .long x4] : List Value) ++ List.replicate (8 - (lg_sl ([.ref (qm 0), .int x1, .long x2, .long x4] : List Value)).length) Slot.unset).toArray = ls at hl ⊢
  have hl : lv_has ls 8 [(0, .ref (qm 0)), (1, .int x1), (2, .long x2), (4, .long x4)] := hl
  have k153 : ∀ (vv : MV) (p1 : Int32) (p2 : Int64) (p4 : Int64), f_M_corner_j153 vv p1 p2 p4 = some r → ∀ (H : Heap) (locs : List Loc), va_P (dC, dI) cls3 (mdW cL cI qm vv) H → va_D (inQ qm) (mdW cL cI qm vv) → va_S (inQ qm) s.heap H locs → ∀ (ls : Array Slot), lv_has ls 8 [(0, .ref (qm 0)), (1, .int p1), (2, .long p2), (4, .long p4)] → W p l e (headSpec wsM_corner ({ frames := 1, cells := 0, slots := 0, locals := 25 })).room s m ([.ref (qm 0), .int x1, .long x2, .long x4] : List Value).toArray below meth c H locs 0 0 (MQ below (mu_Q (some (.int r.1)) (dC, dI) cls3 (mdW cL cI qm r.2) (inQ qm)) ([.ref (qm 0), .int x1, .long x2, .long x4] : List Value).toArray s 0 0 (inQ qm)) (F0 m 153 ls []) := by
    intro vv p1 p2 p4 h H locs hPm hD hS ls hl
    unfold f_M_corner_j153 at h
    refine lv_aload_n hx hb dM_corner_153 rfl (lv_at hl 0 rfl) ?_
    refine lv_iload_n hx hb dM_corner_154 rfl (lv_at hl 1 rfl) ?_
    refine lv_lload_n hx hb dM_corner_155 rfl (lv_at hl 2 rfl) ?_
    refine lv_lload hx hb dM_corner_156 (lv_at hl 3 rfl) ?_
    obtain ⟨u25, hu25, h⟩ := ob_some h
    refine mu_call (va_runV (As := [.int p1, .long p2, .long p4]) (rest := []) ⟨hx, hb, hml, hown, hw⟩ (k_M_add l dC dI cL cI qm vv p1 p2 p4 u25 hu25) (cwV 3 hw (gV w_512 w_514 wp_7 w_2 w_515) rfl rfl rfl (by decide +kernel) ⟨Nat.le_of_ble_eq_true rfl, Nat.le_of_ble_eq_true rfl⟩) ⟨rd_blind, va_recv hK hPm (ci := 2) (q0 := 0) rfl rfl, rd_pre ⟨hPm, hD⟩ hK⟩ rfl rfl hl.1 rfl (lv_room (Nat.le_of_ble_eq_true rfl)) dM_corner_158 ⟨Nat.le_of_ble_eq_true rfl, Nat.le_of_ble_eq_true rfl⟩) hS (fun _ z => z) (fun H locs hPm hS _ _ => ?_)
    have hD := md_D (u25) hD
    refine lv_iconst (v := 1) hx hb dM_corner_161 (by decide) ?_
    obtain ⟨uz, huz, h⟩ := ob_some h
    obtain ⟨hz, hr9⟩ := rb_of huz
    have h := Option.some.inj h
    subst hr9
    subst h
    exact W.zret hx hb hr hz (fun t ht hW => ⟨rfl, by rw [ht]; exact hPm, hS.F ht⟩) hS.2.2 dM_corner_162
  have k119 : ∀ (vv : MV) (p1 : Int32) (p2 : Int64) (p4 : Int64) (p6 : Int32) (s0 : Int32), f_M_corner_j119 vv p1 p2 p4 p6 s0 = some r → ∀ (H : Heap) (locs : List Loc), va_P (dC, dI) cls3 (mdW cL cI qm vv) H → va_D (inQ qm) (mdW cL cI qm vv) → va_S (inQ qm) s.heap H locs → ∀ (ls : Array Slot), lv_has ls 8 [(0, .ref (qm 0)), (1, .int p1), (2, .long p2), (4, .long p4), (6, .int p6)] → W p l e (headSpec wsM_corner ({ frames := 1, cells := 0, slots := 0, locals := 25 })).room s m ([.ref (qm 0), .int x1, .long x2, .long x4] : List Value).toArray below meth c H locs 0 0 (MQ below (mu_Q (some (.int r.1)) (dC, dI) cls3 (mdW cL cI qm r.2) (inQ qm)) ([.ref (qm 0), .int x1, .long x2, .long x4] : List Value).toArray s 0 0 (inQ qm)) (F0 m 119 ls [.int s0]) := by
    intro vv p1 p2 p4 p6 s0 h H locs hPm hD hS ls hl
    unfold f_M_corner_j119 at h
    refine lv_istore (lv' := [(7, .int s0), (0, .ref (qm 0)), (1, .int p1), (2, .long p2), (4, .long p4), (6, .int p6)]) hx hb dM_corner_119 hl (by decide) rfl (fun ls hl => ?_)
    refine lv_iload hx hb dM_corner_121 (lv_at hl 0 rfl) ?_
    refine lv_if_eq (tgt := 153) hx hb dM_corner_123 (by decide) (fun c20 => ?_) (fun c20 => ?_)
    · have h := it_t c20 h
      exact k153 vv p1 p2 p4 h H locs hPm hD hS ls (lv_sub hl [1, 2, 3, 4] rfl)
    · have h := it_f c20 h
      refine lv_aload_n hx hb dM_corner_126 rfl (lv_at hl 1 rfl) ?_
      refine va_get (D := (dC, dI)) (ci := 2) (v := .ref (qm 3)) (C := R_M) (T := T_M) (N := 15) hx hb hw in_M hown hK hPm 0 rfl rfl 4 (by decide) (hw _ w_449) (fun _ h9 => h9) rfl dM_corner_127 ?_
      refine lv_iload hx hb dM_corner_130 (lv_at hl 5 rfl) ?_
      obtain ⟨u21, hu21, h⟩ := ob_some h
      obtain ⟨hiu21, eu21⟩ := ld_of hu21
      refine va_lald hx hb hK hPm 3 0 rfl rfl hiu21 dM_corner_132 ?_
      rw [eu21]
      refine lv_lload_n hx hb dM_corner_133 rfl (lv_at hl 3 rfl) ?_
      refine W.lcmp hx hb dM_corner_134 ?_
      refine lv_if_ne (tgt := 153) hx hb dM_corner_135 (by decide) (fun c22 => ?_) (fun c22 => ?_)
      · have h := it_f c22 h
        exact k153 vv p1 p2 p4 h H locs hPm hD hS ls (lv_sub hl [1, 2, 3, 4] rfl)
      · have h := it_t c22 h
        refine lv_aload_n hx hb dM_corner_138 rfl (lv_at hl 1 rfl) ?_
        refine va_get (D := (dC, dI)) (ci := 2) (v := .ref (qm 4)) (C := R_M) (T := T_M) (N := 15) hx hb hw in_M hown hK hPm 0 rfl rfl 5 (by decide) (hw _ w_450) (fun _ h9 => h9) rfl dM_corner_139 ?_
        refine lv_iload hx hb dM_corner_142 (lv_at hl 5 rfl) ?_
        obtain ⟨u23, hu23, h⟩ := ob_some h
        obtain ⟨hiu23, eu23⟩ := ld_of hu23
        refine va_lald hx hb hK hPm 4 0 rfl rfl hiu23 dM_corner_144 ?_
        rw [eu23]
        refine lv_lload hx hb dM_corner_145 (lv_at hl 4 rfl) ?_
        refine W.lcmp hx hb dM_corner_147 ?_
        refine lv_if_ne (tgt := 153) hx hb dM_corner_148 (by decide) (fun c24 => ?_) (fun c24 => ?_)
        · have h := it_f c24 h
          exact k153 vv p1 p2 p4 h H locs hPm hD hS ls (lv_sub hl [1, 2, 3, 4] rfl)
        · have h := it_t c24 h
          refine lv_iconst (v := 0) hx hb dM_corner_151 (by decide) ?_
          obtain ⟨uz, huz, h⟩ := ob_some h
          obtain ⟨hz, hr9⟩ := rb_of huz
          have h := Option.some.inj h
          subst hr9
          subst h
          exact W.zret hx hb hr hz (fun t ht hW => ⟨rfl, by rw [ht]; exact hPm, hS.F ht⟩) hS.2.2 dM_corner_152
  have k83 : ∀ (vv : MV), f_M_corner_j83 vv = some r → ∀ (H : Heap) (locs : List Loc), va_P (dC, dI) cls3 (mdW cL cI qm vv) H → va_D (inQ qm) (mdW cL cI qm vv) → va_S (inQ qm) s.heap H locs → ∀ (ls : Array Slot), lv_has ls 8 [] → W p l e (headSpec wsM_corner ({ frames := 1, cells := 0, slots := 0, locals := 25 })).room s m ([.ref (qm 0), .int x1, .long x2, .long x4] : List Value).toArray below meth c H locs 0 0 (MQ below (mu_Q (some (.int r.1)) (dC, dI) cls3 (mdW cL cI qm r.2) (inQ qm)) ([.ref (qm 0), .int x1, .long x2, .long x4] : List Value).toArray s 0 0 (inQ qm)) (F0 m 83 ls []) := by
    intro vv h H locs hPm hD hS ls hl
    unfold f_M_corner_j83 at h
    refine lv_iconst (v := 0) hx hb dM_corner_83 (by decide) ?_
    obtain ⟨uz, huz, h⟩ := ob_some h
    obtain ⟨hz, hr9⟩ := rb_of huz
    have h := Option.some.inj h
    subst hr9
    subst h
    exact W.zret hx hb hr hz (fun t ht hW => ⟨rfl, by rw [ht]; exact hPm, hS.F ht⟩) hS.2.2 dM_corner_84
  have k62 : ∀ (vv : MV) (p1 : Int32) (p2 : Int64) (p4 : Int64) (s1 : Int32), f_M_corner_j62 vv p1 p2 p4 s1 = some r → ∀ (H : Heap) (locs : List Loc), va_P (dC, dI) cls3 (mdW cL cI qm vv) H → va_D (inQ qm) (mdW cL cI qm vv) → va_S (inQ qm) s.heap H locs → ∀ (ls : Array Slot), lv_has ls 8 [(0, .ref (qm 0)), (1, .int p1), (2, .long p2), (4, .long p4)] → W p l e (headSpec wsM_corner ({ frames := 1, cells := 0, slots := 0, locals := 25 })).room s m ([.ref (qm 0), .int x1, .long x2, .long x4] : List Value).toArray below meth c H locs 0 0 (MQ below (mu_Q (some (.int r.1)) (dC, dI) cls3 (mdW cL cI qm r.2) (inQ qm)) ([.ref (qm 0), .int x1, .long x2, .long x4] : List Value).toArray s 0 0 (inQ qm)) (F0 m 62 ls [.int s1, .ref (qm 0)]) := by
    intro vv p1 p2 p4 s1 h H locs hPm hD hS ls hl
    unfold f_M_corner_j62 at h
    refine va_put (D := (dC, dI)) (ci := 2) (v := .int s1) (ty := .int) (C := R_M) (T := T_M) (N := 15) hx hb hw in_M t_M t_M_ok nm_M hown hK hPm hD hS 0 rfl rfl 0 (by decide) (hw _ w_445) (fun _ h9 => h9) rfl (by decide +kernel) rfl rfl (Nat.le_of_ble_eq_true rfl) dM_corner_62 (fun H locs hPm hD hS => ?_)
    obtain ⟨v11, hv11, h⟩ := ob_some h
    have hPm : va_P (dC, dI) cls3 (mdW cL cI qm (ms_thrown vv s1)) H := hPm
    have hD : va_D (inQ qm) (mdW cL cI qm (ms_thrown vv s1)) := hD
    rw [Option.some.inj hv11] at hPm hD
    refine lv_aload_n hx hb dM_corner_65 rfl (lv_at hl 0 rfl) ?_
    refine va_get (D := (dC, dI)) (ci := 2) (v := .int (md_thrown v11)) (C := R_M) (T := T_M) (N := 15) hx hb hw in_M hown hK hPm 0 rfl rfl 0 (by decide) (hw _ w_445) (fun _ h9 => h9) rfl dM_corner_66 ?_
    refine lv_if_ne (tgt := 83) hx hb dM_corner_69 (by decide) (fun c12 => ?_) (fun c12 => ?_)
    · have h := it_f c12 h
      exact k83 v11 h H locs hPm hD hS ls (lv_sub hl [] rfl)
    · have h := it_t c12 h
      refine lv_aload_n hx hb dM_corner_72 rfl (lv_at hl 0 rfl) ?_
      refine va_get (D := (dC, dI)) (ci := 2) (v := .ref (qm 5)) (C := R_M) (T := T_M) (N := 15) hx hb hw in_M hown hK hPm 0 rfl rfl 6 (by decide) (hw _ w_451) (fun _ h9 => h9) rfl dM_corner_73 ?_
      refine lv_iload_n hx hb dM_corner_76 rfl (lv_at hl 1 rfl) ?_
      obtain ⟨u13, hu13, h⟩ := ob_some h
      obtain ⟨hiu13, eu13⟩ := ld_of hu13
      refine va_iald hx hb hK hPm 5 1 rfl rfl hiu13 dM_corner_77 ?_
      rw [eu13]
      refine lv_bipush (v := 48) hx hb dM_corner_78 (by decide) ?_
      refine lv_icmp_ne (tgt := 85) hx hb dM_corner_80 (by decide) (fun c14 => ?_) (fun c14 => ?_)
      · have h := it_f c14 h
        refine lv_bipush (v := 48) hx hb dM_corner_85 (by decide) ?_
        refine lv_iload_n hx hb dM_corner_87 rfl (lv_at hl 1 rfl) ?_
        refine lv_imul hx hb dM_corner_88 ?_
        refine lv_aload_n hx hb dM_corner_89 rfl (lv_at hl 0 rfl) ?_
        refine va_get (D := (dC, dI)) (ci := 2) (v := .ref (qm 5)) (C := R_M) (T := T_M) (N := 15) hx hb hw in_M hown hK hPm 0 rfl rfl 6 (by decide) (hw _ w_451) (fun _ h9 => h9) rfl dM_corner_90 ?_
        refine lv_iload_n hx hb dM_corner_93 rfl (lv_at hl 1 rfl) ?_
        obtain ⟨u15, hu15, h⟩ := ob_some h
        obtain ⟨hiu15, eu15⟩ := ld_of hu15
        refine va_iald hx hb hK hPm 5 1 rfl rfl hiu15 dM_corner_94 ?_
        rw [eu15]
        refine lv_iadd hx hb dM_corner_95 ?_
        refine lv_iconst (v := 1) hx hb dM_corner_96 (by decide) ?_
        refine lv_isub hx hb dM_corner_97 ?_
        obtain ⟨u16, hu16, h⟩ := ob_some h
        rw [Option.some.inj hu16]
        refine lv_istore (lv' := [(6, .int u16), (0, .ref (qm 0)), (1, .int p1), (2, .long p2), (4, .long p4)]) hx hb dM_corner_98 hl (by decide) rfl (fun ls hl => ?_)
        refine lv_aload_n hx hb dM_corner_100 rfl (lv_at hl 1 rfl) ?_
        refine va_get (D := (dC, dI)) (ci := 2) (v := .ref (qm 5)) (C := R_M) (T := T_M) (N := 15) hx hb hw in_M hown hK hPm 0 rfl rfl 6 (by decide) (hw _ w_451) (fun _ h9 => h9) rfl dM_corner_101 ?_
        refine lv_iload_n hx hb dM_corner_104 rfl (lv_at hl 2 rfl) ?_
        obtain ⟨u17, hu17, h⟩ := ob_some h
        obtain ⟨hiu17, eu17⟩ := ld_of hu17
        refine va_iald hx hb hK hPm 5 1 rfl rfl hiu17 dM_corner_105 ?_
        rw [eu17]
        refine lv_aload_n hx hb dM_corner_106 rfl (lv_at hl 1 rfl) ?_
        refine lv_iload_n hx hb dM_corner_107 rfl (lv_at hl 2 rfl) ?_
        obtain ⟨u18, hu18, h⟩ := ob_some h
        refine vp_callSi (va_Run.run (va_runV (As := [.int p1]) (rest := [.int u17]) ⟨hx, hb, hml, hown, hw⟩ (k_M_closed l dC dI cL cI qm v11 p1 u18 hu18) (cwV 1 hw (gV w_538 w_540 wp_9 w_2 w_541) rfl rfl rfl (by decide +kernel) ⟨Nat.le_of_ble_eq_true rfl, Nat.le_of_ble_eq_true rfl⟩) ⟨rd_blind, va_recv hK hPm (ci := 2) (q0 := 0) rfl rfl, rd_pre hPm hK⟩ rfl rfl hl.1 rfl (lv_room (Nat.le_of_ble_eq_true rfl)) dM_corner_108 ⟨Nat.le_of_ble_eq_true rfl, Nat.le_of_ble_eq_true rfl⟩)) (fun z hz => ?_)
        rw [hz]; clear hz
        refine lv_icmp_le (tgt := 118) hx hb dM_corner_111 (by decide) (fun c19 => ?_) (fun c19 => ?_)
        · have h := it_t c19 h
          refine lv_iconst (v := 0) hx hb dM_corner_118 (by decide) ?_
          exact k119 v11 p1 p2 p4 u16 (0 : Int32) h H locs hPm hD hS ls (lv_sub hl [1, 2, 3, 4, 0] rfl)
        · have h := it_f c19 h
          refine lv_iconst (v := 1) hx hb dM_corner_114 (by decide) ?_
          refine lv_goto (tgt := 119) hx hb dM_corner_115 (by decide) ?_
          exact k119 v11 p1 p2 p4 u16 (1 : Int32) h H locs hPm hD hS ls (lv_sub hl [1, 2, 3, 4, 0] rfl)
      · have h := it_t c14 h
        exact k83 v11 h H locs hPm hD hS ls (lv_sub hl [] rfl)
  have k48 : ∀ (vv : MV) (p1 : Int32) (p2 : Int64) (p4 : Int64), f_M_corner_j48 vv p1 p2 p4 = some r → ∀ (H : Heap) (locs : List Loc), va_P (dC, dI) cls3 (mdW cL cI qm vv) H → va_D (inQ qm) (mdW cL cI qm vv) → va_S (inQ qm) s.heap H locs → ∀ (ls : Array Slot), lv_has ls 8 [(0, .ref (qm 0)), (1, .int p1), (2, .long p2), (4, .long p4)] → W p l e (headSpec wsM_corner ({ frames := 1, cells := 0, slots := 0, locals := 25 })).room s m ([.ref (qm 0), .int x1, .long x2, .long x4] : List Value).toArray below meth c H locs 0 0 (MQ below (mu_Q (some (.int r.1)) (dC, dI) cls3 (mdW cL cI qm r.2) (inQ qm)) ([.ref (qm 0), .int x1, .long x2, .long x4] : List Value).toArray s 0 0 (inQ qm)) (F0 m 48 ls [.ref (qm 0)]) := by
    intro vv p1 p2 p4 h H locs hPm hD hS ls hl
    unfold f_M_corner_j48 at h
    refine lv_lload_n hx hb dM_corner_48 rfl (lv_at hl 2 rfl) ?_
    refine lv_lload hx hb dM_corner_49 (lv_at hl 3 rfl) ?_
    obtain ⟨u9, hu9, h⟩ := ob_some h
    refine vp_callSi (va_Run.run (va_runS (As := [.long p2, .long p4]) (rest := [.ref (qm 0)]) ⟨hx, hb, hml, hown, hw⟩ (k_M_isPlace l dC dI cL cI p2 p4 u9 hu9) (va_cwS 2 hw (gS w_499 w_500 w_2 w_501) rfl rfl rfl (by decide +kernel) ⟨Nat.le_of_ble_eq_true rfl, Nat.le_of_ble_eq_true rfl⟩) ⟨rd_blind, rd_pre trivial hK⟩ rfl rfl hl.1 rfl (lv_room (Nat.le_of_ble_eq_true rfl)) dM_corner_51 ⟨Nat.le_of_ble_eq_true rfl, Nat.le_of_ble_eq_true rfl⟩)) (fun z hz => ?_)
    rw [hz]; clear hz
    refine lv_if_eq (tgt := 61) hx hb dM_corner_54 (by decide) (fun c10 => ?_) (fun c10 => ?_)
    · have h := it_t c10 h
      refine lv_iconst (v := 3) hx hb dM_corner_61 (by decide) ?_
      exact k62 vv p1 p2 p4 (3 : Int32) h H locs hPm hD hS ls (lv_sub hl [0, 1, 2, 3] rfl)
    · have h := it_f c10 h
      refine lv_iconst (v := 0) hx hb dM_corner_57 (by decide) ?_
      refine lv_goto (tgt := 62) hx hb dM_corner_58 (by decide) ?_
      exact k62 vv p1 p2 p4 (0 : Int32) h H locs hPm hD hS ls (lv_sub hl [0, 1, 2, 3] rfl)
  have k44 : ∀ (vv : MV) (p1 : Int32) (p2 : Int64) (p4 : Int64), f_M_corner_j44 vv p1 p2 p4 = some r → ∀ (H : Heap) (locs : List Loc), va_P (dC, dI) cls3 (mdW cL cI qm vv) H → va_D (inQ qm) (mdW cL cI qm vv) → va_S (inQ qm) s.heap H locs → ∀ (ls : Array Slot), lv_has ls 8 [(0, .ref (qm 0)), (1, .int p1), (2, .long p2), (4, .long p4)] → W p l e (headSpec wsM_corner ({ frames := 1, cells := 0, slots := 0, locals := 25 })).room s m ([.ref (qm 0), .int x1, .long x2, .long x4] : List Value).toArray below meth c H locs 0 0 (MQ below (mu_Q (some (.int r.1)) (dC, dI) cls3 (mdW cL cI qm r.2) (inQ qm)) ([.ref (qm 0), .int x1, .long x2, .long x4] : List Value).toArray s 0 0 (inQ qm)) (F0 m 44 ls [.ref (qm 0)]) := by
    intro vv p1 p2 p4 h H locs hPm hD hS ls hl
    unfold f_M_corner_j44 at h
    refine lv_iconst (v := 2) hx hb dM_corner_44 (by decide) ?_
    refine lv_goto (tgt := 62) hx hb dM_corner_45 (by decide) ?_
    exact k62 vv p1 p2 p4 (2 : Int32) h H locs hPm hD hS ls (lv_sub hl [0, 1, 2, 3] rfl)
  have hS : va_S (inQ qm) s.heap s.heap [] := va_S.rf
  obtain ⟨H, hH⟩ : ∃ H : Heap, H = s.heap := ⟨_, rfl⟩
  obtain ⟨locs, hlocs⟩ : ∃ L : List Loc, L = [] := ⟨_, rfl⟩
  suffices hgo : W p l e (headSpec wsM_corner ({ frames := 1, cells := 0, slots := 0, locals := 25 })).room s m ([.ref (qm 0), .int x1, .long x2, .long x4] : List Value).toArray below meth c H locs 0 0 (MQ below (mu_Q (some (.int r.1)) (dC, dI) cls3 (mdW cL cI qm r.2) (inQ qm)) ([.ref (qm 0), .int x1, .long x2, .long x4] : List Value).toArray s 0 0 (inQ qm)) (F0 m 0 ls []) by rw [hH, hlocs] at hgo; exact hgo
  rw [← hH] at hPm
  have hS : va_S (inQ qm) s.heap H locs := by rw [hH, hlocs]; exact hS
  clear hH hlocs
  unfold f_M_corner at h
  refine lv_aload_n hx hb dM_corner_0 rfl (lv_at hl 0 rfl) ?_
  refine lv_aload_n hx hb dM_corner_1 rfl (lv_at hl 0 rfl) ?_
  refine lv_iload_n hx hb dM_corner_2 rfl (lv_at hl 1 rfl) ?_
  obtain ⟨u1, hu1, h⟩ := ob_some h
  refine vp_callSi (va_Run.run (va_runV (As := [.int x1]) (rest := [.ref (qm 0)]) ⟨hx, hb, hml, hown, hw⟩ (k_M_isShape l dC dI cL cI qm v x1 u1 hu1) (cwV 1 hw (gV w_534 w_536 wp_8 w_2 w_537) rfl rfl rfl (by decide +kernel) ⟨Nat.le_of_ble_eq_true rfl, Nat.le_of_ble_eq_true rfl⟩) ⟨rd_blind, va_recv hK hPm (ci := 2) (q0 := 0) rfl rfl, rd_pre hPm hK⟩ rfl rfl hl.1 rfl (lv_room (Nat.le_of_ble_eq_true rfl)) dM_corner_3 ⟨Nat.le_of_ble_eq_true rfl, Nat.le_of_ble_eq_true rfl⟩)) (fun z hz => ?_)
  rw [hz]; clear hz
  refine lv_if_ne (tgt := 13) hx hb dM_corner_6 (by decide) (fun c2 => ?_) (fun c2 => ?_)
  · have h := it_f c2 h
    refine lv_aload_n hx hb dM_corner_13 rfl (lv_at hl 0 rfl) ?_
    refine va_get (D := (dC, dI)) (ci := 2) (v := .ref (qm 1)) (C := R_M) (T := T_M) (N := 15) hx hb hw in_M hown hK hPm 0 rfl rfl 2 (by decide) (hw _ w_447) (fun _ h9 => h9) rfl dM_corner_14 ?_
    refine lv_iload_n hx hb dM_corner_17 rfl (lv_at hl 1 rfl) ?_
    obtain ⟨u3, hu3, h⟩ := ob_some h
    obtain ⟨hiu3, eu3⟩ := ld_of hu3
    refine va_iald hx hb hK hPm 1 1 rfl rfl hiu3 dM_corner_18 ?_
    rw [eu3]
    refine lv_iconst (v := 2) hx hb dM_corner_19 (by decide) ?_
    refine lv_icmp_lt (tgt := 44) hx hb dM_corner_20 (by decide) (fun c4 => ?_) (fun c4 => ?_)
    · have h := it_t c4 h
      exact k44 v x1 x2 x4 h H locs hPm hD hS ls (lv_sub hl [0, 1, 2, 3] rfl)
    · have h := it_f c4 h
      refine lv_aload_n hx hb dM_corner_23 rfl (lv_at hl 0 rfl) ?_
      refine va_get (D := (dC, dI)) (ci := 2) (v := .ref (qm 1)) (C := R_M) (T := T_M) (N := 15) hx hb hw in_M hown hK hPm 0 rfl rfl 2 (by decide) (hw _ w_447) (fun _ h9 => h9) rfl dM_corner_24 ?_
      refine lv_iload_n hx hb dM_corner_27 rfl (lv_at hl 1 rfl) ?_
      obtain ⟨u5, hu5, h⟩ := ob_some h
      obtain ⟨hiu5, eu5⟩ := ld_of hu5
      refine va_iald hx hb hK hPm 1 1 rfl rfl hiu5 dM_corner_28 ?_
      rw [eu5]
      refine lv_iconst (v := 2) hx hb dM_corner_29 (by decide) ?_
      refine lv_icmp_ne (tgt := 48) hx hb dM_corner_30 (by decide) (fun c6 => ?_) (fun c6 => ?_)
      · have h := it_f c6 h
        exact k48 v x1 x2 x4 h H locs hPm hD hS ls (lv_sub hl [0, 1, 2, 3] rfl)
      · have h := it_t c6 h
        refine lv_aload_n hx hb dM_corner_33 rfl (lv_at hl 0 rfl) ?_
        refine va_get (D := (dC, dI)) (ci := 2) (v := .ref (qm 2)) (C := R_M) (T := T_M) (N := 15) hx hb hw in_M hown hK hPm 0 rfl rfl 3 (by decide) (hw _ w_448) (fun _ h9 => h9) rfl dM_corner_34 ?_
        refine lv_iload_n hx hb dM_corner_37 rfl (lv_at hl 1 rfl) ?_
        obtain ⟨u7, hu7, h⟩ := ob_some h
        obtain ⟨hiu7, eu7⟩ := ld_of hu7
        refine va_lald hx hb hK hPm 2 0 rfl rfl hiu7 dM_corner_38 ?_
        rw [eu7]
        refine lv_lconst (v := 0) hx hb dM_corner_39 (by decide) ?_
        refine W.lcmp hx hb dM_corner_40 ?_
        refine lv_if_le (tgt := 48) hx hb dM_corner_41 (by decide) (fun c8 => ?_) (fun c8 => ?_)
        · have h := it_t c8 h
          exact k48 v x1 x2 x4 h H locs hPm hD hS ls (lv_sub hl [0, 1, 2, 3] rfl)
        · have h := it_f c8 h
          exact k44 v x1 x2 x4 h H locs hPm hD hS ls (lv_sub hl [0, 1, 2, 3] rfl)
  · have h := it_t c2 h
    refine lv_iconst (v := 1) hx hb dM_corner_9 (by decide) ?_
    refine lv_goto (tgt := 62) hx hb dM_corner_10 (by decide) ?_
    exact k62 v x1 x2 x4 (1 : Int32) h H locs hPm hD hS ls (lv_sub hl [0, 1, 2, 3] rfl)
theorem dM_ring_0 : decode cM_ring 0 = .ok (.aload_n 0, 1) := by decide +kernel
theorem dM_ring_1 : decode cM_ring 1 = .ok (.aload_n 0, 1) := by decide +kernel
theorem dM_ring_2 : decode cM_ring 2 = .ok (.iload_n 1, 1) := by decide +kernel
theorem dM_ring_3 : decode cM_ring 3 = .ok (.invokevirtual 87, 3) := by decide +kernel
theorem dM_ring_6 : decode cM_ring 6 = .ok (.ifCond .ne 7, 3) := by decide +kernel
theorem dM_ring_9 : decode cM_ring 9 = .ok (.iconst 1, 1) := by decide +kernel
theorem dM_ring_10 : decode cM_ring 10 = .ok (.goto 32, 3) := by decide +kernel
theorem dM_ring_13 : decode cM_ring 13 = .ok (.aload_n 0, 1) := by decide +kernel
theorem dM_ring_14 : decode cM_ring 14 = .ok (.getfield 7, 3) := by decide +kernel
theorem dM_ring_17 : decode cM_ring 17 = .ok (.iload_n 1, 1) := by decide +kernel
theorem dM_ring_18 : decode cM_ring 18 = .ok (.iaload, 1) := by decide +kernel
theorem dM_ring_19 : decode cM_ring 19 = .ok (.iconst 2, 1) := by decide +kernel
theorem dM_ring_20 : decode cM_ring 20 = .ok (.if_icmp .ne 17, 3) := by decide +kernel
theorem dM_ring_23 : decode cM_ring 23 = .ok (.aload_n 0, 1) := by decide +kernel
theorem dM_ring_24 : decode cM_ring 24 = .ok (.iload_n 1, 1) := by decide +kernel
theorem dM_ring_25 : decode cM_ring 25 = .ok (.invokevirtual 63, 3) := by decide +kernel
theorem dM_ring_28 : decode cM_ring 28 = .ok (.aload_n 0, 1) := by decide +kernel
theorem dM_ring_29 : decode cM_ring 29 = .ok (.getfield 23, 3) := by decide +kernel
theorem dM_ring_32 : decode cM_ring 32 = .ok (.iload_n 1, 1) := by decide +kernel
theorem dM_ring_33 : decode cM_ring 33 = .ok (.iaload, 1) := by decide +kernel
theorem dM_ring_34 : decode cM_ring 34 = .ok (.if_icmp .ne 7, 3) := by decide +kernel
theorem dM_ring_37 : decode cM_ring 37 = .ok (.iconst 2, 1) := by decide +kernel
theorem dM_ring_38 : decode cM_ring 38 = .ok (.goto 4, 3) := by decide +kernel
theorem dM_ring_41 : decode cM_ring 41 = .ok (.iconst 0, 1) := by decide +kernel
theorem dM_ring_42 : decode cM_ring 42 = .ok (.putfield 50, 3) := by decide +kernel
theorem dM_ring_45 : decode cM_ring 45 = .ok (.aload_n 0, 1) := by decide +kernel
theorem dM_ring_46 : decode cM_ring 46 = .ok (.getfield 50, 3) := by decide +kernel
theorem dM_ring_49 : decode cM_ring 49 = .ok (.ifCond .eq 5, 3) := by decide +kernel
theorem dM_ring_52 : decode cM_ring 52 = .ok (.iconst 0, 1) := by decide +kernel
theorem dM_ring_53 : decode cM_ring 53 = .ok (.ireturn, 1) := by decide +kernel
theorem dM_ring_54 : decode cM_ring 54 = .ok (.aload_n 0, 1) := by decide +kernel
theorem dM_ring_55 : decode cM_ring 55 = .ok (.iload_n 1, 1) := by decide +kernel
theorem dM_ring_56 : decode cM_ring 56 = .ok (.invokevirtual 63, 3) := by decide +kernel
theorem dM_ring_59 : decode cM_ring 59 = .ok (.istore_n 2, 1) := by decide +kernel
theorem dM_ring_60 : decode cM_ring 60 = .ok (.aload_n 0, 1) := by decide +kernel
theorem dM_ring_61 : decode cM_ring 61 = .ok (.getfield 23, 3) := by decide +kernel
theorem dM_ring_64 : decode cM_ring 64 = .ok (.iload_n 1, 1) := by decide +kernel
theorem dM_ring_65 : decode cM_ring 65 = .ok (.iaload, 1) := by decide +kernel
theorem dM_ring_66 : decode cM_ring 66 = .ok (.istore_n 3, 1) := by decide +kernel
theorem dM_ring_67 : decode cM_ring 67 = .ok (.aload_n 0, 1) := by decide +kernel
theorem dM_ring_68 : decode cM_ring 68 = .ok (.iload_n 1, 1) := by decide +kernel
theorem dM_ring_69 : decode cM_ring 69 = .ok (.iload_n 2, 1) := by decide +kernel
theorem dM_ring_70 : decode cM_ring 70 = .ok (.iload_n 3, 1) := by decide +kernel
theorem dM_ring_71 : decode cM_ring 71 = .ok (.invokevirtual 134, 3) := by decide +kernel
theorem dM_ring_74 : decode cM_ring 74 = .ok (.istore 4, 2) := by decide +kernel
theorem dM_ring_76 : decode cM_ring 76 = .ok (.iload 4, 2) := by decide +kernel
theorem dM_ring_78 : decode cM_ring 78 = .ok (.ifCond .ne 17, 3) := by decide +kernel
theorem dM_ring_81 : decode cM_ring 81 = .ok (.aload_n 0, 1) := by decide +kernel
theorem dM_ring_82 : decode cM_ring 82 = .ok (.iload_n 1, 1) := by decide +kernel
theorem dM_ring_83 : decode cM_ring 83 = .ok (.iload_n 2, 1) := by decide +kernel
theorem dM_ring_84 : decode cM_ring 84 = .ok (.iload_n 3, 1) := by decide +kernel
theorem dM_ring_85 : decode cM_ring 85 = .ok (.invokevirtual 138, 3) := by decide +kernel
theorem dM_ring_88 : decode cM_ring 88 = .ok (.ifCond .ne 7, 3) := by decide +kernel
theorem dM_ring_91 : decode cM_ring 91 = .ok (.iconst 1, 1) := by decide +kernel
theorem dM_ring_92 : decode cM_ring 92 = .ok (.goto 4, 3) := by decide +kernel
theorem dM_ring_95 : decode cM_ring 95 = .ok (.iconst 0, 1) := by decide +kernel
theorem dM_ring_96 : decode cM_ring 96 = .ok (.istore 5, 2) := by decide +kernel
theorem dM_ring_98 : decode cM_ring 98 = .ok (.iload 5, 2) := by decide +kernel
theorem dM_ring_100 : decode cM_ring 100 = .ok (.ifCond .eq 32, 3) := by decide +kernel
theorem dM_ring_103 : decode cM_ring 103 = .ok (.aload_n 0, 1) := by decide +kernel
theorem dM_ring_104 : decode cM_ring 104 = .ok (.getfield 26, 3) := by decide +kernel
theorem dM_ring_107 : decode cM_ring 107 = .ok (.bipush 16, 2) := by decide +kernel
theorem dM_ring_109 : decode cM_ring 109 = .ok (.iload_n 1, 1) := by decide +kernel
theorem dM_ring_110 : decode cM_ring 110 = .ok (.imul, 1) := by decide +kernel
theorem dM_ring_111 : decode cM_ring 111 = .ok (.aload_n 0, 1) := by decide +kernel
theorem dM_ring_112 : decode cM_ring 112 = .ok (.getfield 29, 3) := by decide +kernel
theorem dM_ring_115 : decode cM_ring 115 = .ok (.iload_n 1, 1) := by decide +kernel
theorem dM_ring_116 : decode cM_ring 116 = .ok (.iaload, 1) := by decide +kernel
theorem dM_ring_117 : decode cM_ring 117 = .ok (.iadd, 1) := by decide +kernel
theorem dM_ring_118 : decode cM_ring 118 = .ok (.iload_n 3, 1) := by decide +kernel
theorem dM_ring_119 : decode cM_ring 119 = .ok (.iastore, 1) := by decide +kernel
theorem dM_ring_120 : decode cM_ring 120 = .ok (.aload_n 0, 1) := by decide +kernel
theorem dM_ring_121 : decode cM_ring 121 = .ok (.getfield 29, 3) := by decide +kernel
theorem dM_ring_124 : decode cM_ring 124 = .ok (.iload_n 1, 1) := by decide +kernel
theorem dM_ring_125 : decode cM_ring 125 = .ok (.dup2, 1) := by decide +kernel
theorem dM_ring_126 : decode cM_ring 126 = .ok (.iaload, 1) := by decide +kernel
theorem dM_ring_127 : decode cM_ring 127 = .ok (.iconst 1, 1) := by decide +kernel
theorem dM_ring_128 : decode cM_ring 128 = .ok (.iadd, 1) := by decide +kernel
theorem dM_ring_129 : decode cM_ring 129 = .ok (.iastore, 1) := by decide +kernel
theorem dM_ring_130 : decode cM_ring 130 = .ok (.iconst 1, 1) := by decide +kernel
theorem dM_ring_131 : decode cM_ring 131 = .ok (.ireturn, 1) := by decide +kernel
theorem dM_ring_132 : decode cM_ring 132 = .ok (.aload_n 0, 1) := by decide +kernel
theorem dM_ring_133 : decode cM_ring 133 = .ok (.getfield 23, 3) := by decide +kernel
theorem dM_ring_136 : decode cM_ring 136 = .ok (.iload_n 1, 1) := by decide +kernel
theorem dM_ring_137 : decode cM_ring 137 = .ok (.iload_n 2, 1) := by decide +kernel
theorem dM_ring_138 : decode cM_ring 138 = .ok (.iastore, 1) := by decide +kernel
theorem dM_ring_139 : decode cM_ring 139 = .ok (.iload 4, 2) := by decide +kernel
theorem dM_ring_141 : decode cM_ring 141 = .ok (.ifCond .eq 16, 3) := by decide +kernel
theorem dM_ring_144 : decode cM_ring 144 = .ok (.aload_n 0, 1) := by decide +kernel
theorem dM_ring_145 : decode cM_ring 145 = .ok (.getfield 29, 3) := by decide +kernel
theorem dM_ring_148 : decode cM_ring 148 = .ok (.iload_n 1, 1) := by decide +kernel
theorem dM_ring_149 : decode cM_ring 149 = .ok (.iaload, 1) := by decide +kernel
theorem dM_ring_150 : decode cM_ring 150 = .ok (.ifCond .le 7, 3) := by decide +kernel
theorem dM_ring_153 : decode cM_ring 153 = .ok (.iconst 1, 1) := by decide +kernel
theorem dM_ring_154 : decode cM_ring 154 = .ok (.goto 4, 3) := by decide +kernel
theorem dM_ring_157 : decode cM_ring 157 = .ok (.iconst 0, 1) := by decide +kernel
theorem dM_ring_158 : decode cM_ring 158 = .ok (.ireturn, 1) := by decide +kernel
def f_M_ring_j158 (vv : MV) (s0 : Int32) : Option (Int32 × MV) := (rb s0).bind fun uz => some (uz, vv)
def f_M_ring_j157 (vv : MV) : Option (Int32 × MV) := (f_M_ring_j158 vv (0 : Int32))
def f_M_ring_j96 (vv : MV) (p1 : Int32) (p2 : Int32) (p3 : Int32) (p4 : Int32) (s0 : Int32) : Option (Int32 × MV) := (if s0 = 0 then (ck 40 p1).bind fun u17 => (some (ms_many vv (upd (md_many vv) p1.toNatClampNeg p2))).bind fun v18 => (if p4 = 0 then (f_M_ring_j157 v18) else (ld 40 (md_rings v18) p1).bind fun u20 => (if u20 ≤ 0 then (f_M_ring_j157 v18) else (f_M_ring_j158 v18 (1 : Int32)))) else (ld 40 (md_rings vv) p1).bind fun u22 => (ck 640 (((16 : Int32) * p1) + u22)).bind fun u23 => (some (ms_ends vv (upd (md_ends vv) (((16 : Int32) * p1) + u22).toNatClampNeg p3))).bind fun v24 => (ld 40 (md_rings v24) p1).bind fun u25 => (ck 40 p1).bind fun u26 => (some (ms_rings v24 (upd (md_rings v24) p1.toNatClampNeg (u25 + (1 : Int32))))).bind fun v27 => (rb (1 : Int32)).bind fun uz => some (uz, v27))
def f_M_ring_j95 (vv : MV) (p1 : Int32) (p2 : Int32) (p3 : Int32) (p4 : Int32) : Option (Int32 × MV) := (f_M_ring_j96 vv p1 p2 p3 p4 (0 : Int32))
def f_M_ring_j42 (vv : MV) (p1 : Int32) (s1 : Int32) : Option (Int32 × MV) := (some (ms_thrown vv s1)).bind fun v8 => (if (md_thrown v8) = 0 then (f_M_closed v8 p1).bind fun u10 => (ld 40 (md_many v8) p1).bind fun u11 => (f_M_isEmpty v8 p1 u10 u11).bind fun u12 => (if u12 = 0 then (f_M_isCrossing v8 p1 u10 u11).bind fun u14 => (if u14 = 0 then (f_M_ring_j96 v8 p1 u10 u11 u12 (1 : Int32)) else (f_M_ring_j95 v8 p1 u10 u11 u12)) else (f_M_ring_j95 v8 p1 u10 u11 u12)) else (rb (0 : Int32)).bind fun uz => some (uz, v8))
def f_M_ring_j37 (vv : MV) (p1 : Int32) : Option (Int32 × MV) := (f_M_ring_j42 vv p1 (2 : Int32))
def f_M_ring (v : MV) (x1 : Int32) : Option (Int32 × MV) := (f_M_isShape v x1).bind fun u1 => (if u1 = 0 then (f_M_ring_j42 v x1 (1 : Int32)) else (ld 40 (md_kinds v) x1).bind fun u3 => (if u3 = (2 : Int32) then (f_M_closed v x1).bind fun u5 => (ld 40 (md_many v) x1).bind fun u6 => (if u5 = u6 then (f_M_ring_j37 v x1) else (f_M_ring_j42 v x1 (0 : Int32))) else (f_M_ring_j37 v x1)))
set_option maxHeartbeats 4000000 in
set_option maxRecDepth 100000 in
theorem k_M_ring (l : Launch) (dC : Nat → ClassId) (dI : Nat → Nat → Nat) (cL cI : ClassId) (qm : Nat → Nat) (v : MV) (x1 : Int32) (r : (Int32 × MV)) (h : f_M_ring v x1 = some r) : Met l yM_ring wsM_ring ({ frames := 6, cells := 0, slots := 0, locals := 183 }) (rd_Pc [.ref (qm 0), .int x1] (fun H => va_P (dC, dI) cls3 (mdW cL cI qm v) H ∧ va_D (inQ qm) (mdW cL cI qm v)) (dC, dI) cls3 [(cL, .long), (cI, .int)]) (mu_Q (some (.int r.1)) (dC, dI) cls3 (mdW cL cI qm r.2) (inQ qm)) 0 0 (inQ qm) := by
  refine Met.ofW (cc := cM_ring) (maxL := 6) (ret := (some .boolean)) (by decide) rfl ?_
  intro p e s m args below meth c s₁ B hml hv
  obtain ⟨rfl, ⟨hPm, hD⟩, hK⟩ := hv
  have hx := B.exec
  have hb := B.bytes
  have hr := B.returns
  have hw : ∀ w ∈ wG, w.before ([.ref (qm 0), .int x1] : List Value).toArray s = true := fun w hq => atoms_spec (ws := wsM_ring) B.pre w (List.mem_cons_of_mem _ hq)
  have hown : s.vm.findClass R_M = some m.cls := findClass_of_methodNamed B.named
  have hlocks := B.notSynchronized
  have hl := lv_entry ([.ref (qm 0), .int x1] : List Value) (n := 6) (Nat.le_of_ble_eq_true rfl)
  rw [lg_entry_eq]
  generalize (lg_sl ([.ref (qm 0), .int x1] : List Value) ++ List.replicate (6 - (lg_sl ([.ref (qm 0), .int x1] : List Value)).length) Slot.unset).toArray = ls at hl ⊢
  have hl : lv_has ls 6 [(0, .ref (qm 0)), (1, .int x1)] := hl
  have k158 : ∀ (vv : MV) (s0 : Int32), f_M_ring_j158 vv s0 = some r → ∀ (H : Heap) (locs : List Loc), va_P (dC, dI) cls3 (mdW cL cI qm vv) H → va_D (inQ qm) (mdW cL cI qm vv) → va_S (inQ qm) s.heap H locs → ∀ (ls : Array Slot), lv_has ls 6 [] → W p l e (headSpec wsM_ring ({ frames := 6, cells := 0, slots := 0, locals := 183 })).room s m ([.ref (qm 0), .int x1] : List Value).toArray below meth c H locs 0 0 (MQ below (mu_Q (some (.int r.1)) (dC, dI) cls3 (mdW cL cI qm r.2) (inQ qm)) ([.ref (qm 0), .int x1] : List Value).toArray s 0 0 (inQ qm)) (F0 m 158 ls [.int s0]) := by
    intro vv s0 h H locs hPm hD hS ls hl
    unfold f_M_ring_j158 at h
    obtain ⟨uz, huz, h⟩ := ob_some h
    obtain ⟨hz, hr9⟩ := rb_of huz
    have h := Option.some.inj h
    subst hr9
    subst h
    exact W.zret hx hb hr hz (fun t ht hW => ⟨rfl, by rw [ht]; exact hPm, hS.F ht⟩) hS.2.2 dM_ring_158
  have k157 : ∀ (vv : MV), f_M_ring_j157 vv = some r → ∀ (H : Heap) (locs : List Loc), va_P (dC, dI) cls3 (mdW cL cI qm vv) H → va_D (inQ qm) (mdW cL cI qm vv) → va_S (inQ qm) s.heap H locs → ∀ (ls : Array Slot), lv_has ls 6 [] → W p l e (headSpec wsM_ring ({ frames := 6, cells := 0, slots := 0, locals := 183 })).room s m ([.ref (qm 0), .int x1] : List Value).toArray below meth c H locs 0 0 (MQ below (mu_Q (some (.int r.1)) (dC, dI) cls3 (mdW cL cI qm r.2) (inQ qm)) ([.ref (qm 0), .int x1] : List Value).toArray s 0 0 (inQ qm)) (F0 m 157 ls []) := by
    intro vv h H locs hPm hD hS ls hl
    unfold f_M_ring_j157 at h
    refine lv_iconst (v := 0) hx hb dM_ring_157 (by decide) ?_
    exact k158 vv (0 : Int32) h H locs hPm hD hS ls (lv_sub hl [] rfl)
  have k96 : ∀ (vv : MV) (p1 : Int32) (p2 : Int32) (p3 : Int32) (p4 : Int32) (s0 : Int32), f_M_ring_j96 vv p1 p2 p3 p4 s0 = some r → ∀ (H : Heap) (locs : List Loc), va_P (dC, dI) cls3 (mdW cL cI qm vv) H → va_D (inQ qm) (mdW cL cI qm vv) → va_S (inQ qm) s.heap H locs → ∀ (ls : Array Slot), lv_has ls 6 [(0, .ref (qm 0)), (1, .int p1), (2, .int p2), (3, .int p3), (4, .int p4)] → W p l e (headSpec wsM_ring ({ frames := 6, cells := 0, slots := 0, locals := 183 })).room s m ([.ref (qm 0), .int x1] : List Value).toArray below meth c H locs 0 0 (MQ below (mu_Q (some (.int r.1)) (dC, dI) cls3 (mdW cL cI qm r.2) (inQ qm)) ([.ref (qm 0), .int x1] : List Value).toArray s 0 0 (inQ qm)) (F0 m 96 ls [.int s0]) := by
    intro vv p1 p2 p3 p4 s0 h H locs hPm hD hS ls hl
    unfold f_M_ring_j96 at h
    refine lv_istore (lv' := [(5, .int s0), (0, .ref (qm 0)), (1, .int p1), (2, .int p2), (3, .int p3), (4, .int p4)]) hx hb dM_ring_96 hl (by decide) rfl (fun ls hl => ?_)
    refine lv_iload hx hb dM_ring_98 (lv_at hl 0 rfl) ?_
    refine lv_if_eq (tgt := 132) hx hb dM_ring_100 (by decide) (fun c16 => ?_) (fun c16 => ?_)
    · have h := it_t c16 h
      refine lv_aload_n hx hb dM_ring_132 rfl (lv_at hl 1 rfl) ?_
      refine va_get (D := (dC, dI)) (ci := 2) (v := .ref (qm 5)) (C := R_M) (T := T_M) (N := 15) hx hb hw in_M hown hK hPm 0 rfl rfl 6 (by decide) (hw _ w_451) (fun _ h9 => h9) rfl dM_ring_133 ?_
      refine lv_iload_n hx hb dM_ring_136 rfl (lv_at hl 2 rfl) ?_
      refine lv_iload_n hx hb dM_ring_137 rfl (lv_at hl 3 rfl) ?_
      obtain ⟨u17, hu17, h⟩ := ob_some h
      refine va_iast hx hb hK hPm hD hS 5 1 rfl rfl (ck_of hu17) dM_ring_138 (fun H locs hPm hD hS => ?_)
      obtain ⟨v18, hv18, h⟩ := ob_some h
      have hPm : va_P (dC, dI) cls3 (mdW cL cI qm (ms_many vv (upd (md_many vv) p1.toNatClampNeg p2))) H := hPm
      have hD : va_D (inQ qm) (mdW cL cI qm (ms_many vv (upd (md_many vv) p1.toNatClampNeg p2))) := hD
      rw [Option.some.inj hv18] at hPm hD
      refine lv_iload hx hb dM_ring_139 (lv_at hl 5 rfl) ?_
      refine lv_if_eq (tgt := 157) hx hb dM_ring_141 (by decide) (fun c19 => ?_) (fun c19 => ?_)
      · have h := it_t c19 h
        exact k157 v18 h H locs hPm hD hS ls (lv_sub hl [] rfl)
      · have h := it_f c19 h
        refine lv_aload_n hx hb dM_ring_144 rfl (lv_at hl 1 rfl) ?_
        refine va_get (D := (dC, dI)) (ci := 2) (v := .ref (qm 7)) (C := R_M) (T := T_M) (N := 15) hx hb hw in_M hown hK hPm 0 rfl rfl 8 (by decide) (hw _ w_453) (fun _ h9 => h9) rfl dM_ring_145 ?_
        refine lv_iload_n hx hb dM_ring_148 rfl (lv_at hl 2 rfl) ?_
        obtain ⟨u20, hu20, h⟩ := ob_some h
        obtain ⟨hiu20, eu20⟩ := ld_of hu20
        refine va_iald hx hb hK hPm 7 1 rfl rfl hiu20 dM_ring_149 ?_
        rw [eu20]
        refine lv_if_le (tgt := 157) hx hb dM_ring_150 (by decide) (fun c21 => ?_) (fun c21 => ?_)
        · have h := it_t c21 h
          exact k157 v18 h H locs hPm hD hS ls (lv_sub hl [] rfl)
        · have h := it_f c21 h
          refine lv_iconst (v := 1) hx hb dM_ring_153 (by decide) ?_
          refine lv_goto (tgt := 158) hx hb dM_ring_154 (by decide) ?_
          exact k158 v18 (1 : Int32) h H locs hPm hD hS ls (lv_sub hl [] rfl)
    · have h := it_f c16 h
      refine lv_aload_n hx hb dM_ring_103 rfl (lv_at hl 1 rfl) ?_
      refine va_get (D := (dC, dI)) (ci := 2) (v := .ref (qm 6)) (C := R_M) (T := T_M) (N := 15) hx hb hw in_M hown hK hPm 0 rfl rfl 7 (by decide) (hw _ w_452) (fun _ h9 => h9) rfl dM_ring_104 ?_
      refine lv_bipush (v := 16) hx hb dM_ring_107 (by decide) ?_
      refine lv_iload_n hx hb dM_ring_109 rfl (lv_at hl 2 rfl) ?_
      refine lv_imul hx hb dM_ring_110 ?_
      refine lv_aload_n hx hb dM_ring_111 rfl (lv_at hl 1 rfl) ?_
      refine va_get (D := (dC, dI)) (ci := 2) (v := .ref (qm 7)) (C := R_M) (T := T_M) (N := 15) hx hb hw in_M hown hK hPm 0 rfl rfl 8 (by decide) (hw _ w_453) (fun _ h9 => h9) rfl dM_ring_112 ?_
      refine lv_iload_n hx hb dM_ring_115 rfl (lv_at hl 2 rfl) ?_
      obtain ⟨u22, hu22, h⟩ := ob_some h
      obtain ⟨hiu22, eu22⟩ := ld_of hu22
      refine va_iald hx hb hK hPm 7 1 rfl rfl hiu22 dM_ring_116 ?_
      rw [eu22]
      refine lv_iadd hx hb dM_ring_117 ?_
      refine lv_iload_n hx hb dM_ring_118 rfl (lv_at hl 4 rfl) ?_
      obtain ⟨u23, hu23, h⟩ := ob_some h
      refine va_iast hx hb hK hPm hD hS 6 1 rfl rfl (ck_of hu23) dM_ring_119 (fun H locs hPm hD hS => ?_)
      obtain ⟨v24, hv24, h⟩ := ob_some h
      have hPm : va_P (dC, dI) cls3 (mdW cL cI qm (ms_ends vv (upd (md_ends vv) (((16 : Int32) * p1) + u22).toNatClampNeg p3))) H := hPm
      have hD : va_D (inQ qm) (mdW cL cI qm (ms_ends vv (upd (md_ends vv) (((16 : Int32) * p1) + u22).toNatClampNeg p3))) := hD
      rw [Option.some.inj hv24] at hPm hD
      refine lv_aload_n hx hb dM_ring_120 rfl (lv_at hl 1 rfl) ?_
      refine va_get (D := (dC, dI)) (ci := 2) (v := .ref (qm 7)) (C := R_M) (T := T_M) (N := 15) hx hb hw in_M hown hK hPm 0 rfl rfl 8 (by decide) (hw _ w_453) (fun _ h9 => h9) rfl dM_ring_121 ?_
      refine lv_iload_n hx hb dM_ring_124 rfl (lv_at hl 2 rfl) ?_
      refine lv_dup2_11 hx hb dM_ring_125 rfl rfl ?_
      obtain ⟨u25, hu25, h⟩ := ob_some h
      obtain ⟨hiu25, eu25⟩ := ld_of hu25
      refine va_iald hx hb hK hPm 7 1 rfl rfl hiu25 dM_ring_126 ?_
      rw [eu25]
      refine lv_iconst (v := 1) hx hb dM_ring_127 (by decide) ?_
      refine lv_iadd hx hb dM_ring_128 ?_
      obtain ⟨u26, hu26, h⟩ := ob_some h
      refine va_iast hx hb hK hPm hD hS 7 1 rfl rfl (ck_of hu26) dM_ring_129 (fun H locs hPm hD hS => ?_)
      obtain ⟨v27, hv27, h⟩ := ob_some h
      have hPm : va_P (dC, dI) cls3 (mdW cL cI qm (ms_rings v24 (upd (md_rings v24) p1.toNatClampNeg (u25 + (1 : Int32))))) H := hPm
      have hD : va_D (inQ qm) (mdW cL cI qm (ms_rings v24 (upd (md_rings v24) p1.toNatClampNeg (u25 + (1 : Int32))))) := hD
      rw [Option.some.inj hv27] at hPm hD
      refine lv_iconst (v := 1) hx hb dM_ring_130 (by decide) ?_
      obtain ⟨uz, huz, h⟩ := ob_some h
      obtain ⟨hz, hr9⟩ := rb_of huz
      have h := Option.some.inj h
      subst hr9
      subst h
      exact W.zret hx hb hr hz (fun t ht hW => ⟨rfl, by rw [ht]; exact hPm, hS.F ht⟩) hS.2.2 dM_ring_131
  have k95 : ∀ (vv : MV) (p1 : Int32) (p2 : Int32) (p3 : Int32) (p4 : Int32), f_M_ring_j95 vv p1 p2 p3 p4 = some r → ∀ (H : Heap) (locs : List Loc), va_P (dC, dI) cls3 (mdW cL cI qm vv) H → va_D (inQ qm) (mdW cL cI qm vv) → va_S (inQ qm) s.heap H locs → ∀ (ls : Array Slot), lv_has ls 6 [(0, .ref (qm 0)), (1, .int p1), (2, .int p2), (3, .int p3), (4, .int p4)] → W p l e (headSpec wsM_ring ({ frames := 6, cells := 0, slots := 0, locals := 183 })).room s m ([.ref (qm 0), .int x1] : List Value).toArray below meth c H locs 0 0 (MQ below (mu_Q (some (.int r.1)) (dC, dI) cls3 (mdW cL cI qm r.2) (inQ qm)) ([.ref (qm 0), .int x1] : List Value).toArray s 0 0 (inQ qm)) (F0 m 95 ls []) := by
    intro vv p1 p2 p3 p4 h H locs hPm hD hS ls hl
    unfold f_M_ring_j95 at h
    refine lv_iconst (v := 0) hx hb dM_ring_95 (by decide) ?_
    exact k96 vv p1 p2 p3 p4 (0 : Int32) h H locs hPm hD hS ls (lv_sub hl [0, 1, 2, 3, 4] rfl)
  have k42 : ∀ (vv : MV) (p1 : Int32) (s1 : Int32), f_M_ring_j42 vv p1 s1 = some r → ∀ (H : Heap) (locs : List Loc), va_P (dC, dI) cls3 (mdW cL cI qm vv) H → va_D (inQ qm) (mdW cL cI qm vv) → va_S (inQ qm) s.heap H locs → ∀ (ls : Array Slot), lv_has ls 6 [(0, .ref (qm 0)), (1, .int p1)] → W p l e (headSpec wsM_ring ({ frames := 6, cells := 0, slots := 0, locals := 183 })).room s m ([.ref (qm 0), .int x1] : List Value).toArray below meth c H locs 0 0 (MQ below (mu_Q (some (.int r.1)) (dC, dI) cls3 (mdW cL cI qm r.2) (inQ qm)) ([.ref (qm 0), .int x1] : List Value).toArray s 0 0 (inQ qm)) (F0 m 42 ls [.int s1, .ref (qm 0)]) := by
    intro vv p1 s1 h H locs hPm hD hS ls hl
    unfold f_M_ring_j42 at h
    refine va_put (D := (dC, dI)) (ci := 2) (v := .int s1) (ty := .int) (C := R_M) (T := T_M) (N := 15) hx hb hw in_M t_M t_M_ok nm_M hown hK hPm hD hS 0 rfl rfl 0 (by decide) (hw _ w_445) (fun _ h9 => h9) rfl (by decide +kernel) rfl rfl (Nat.le_of_ble_eq_true rfl) dM_ring_42 (fun H locs hPm hD hS => ?_)
    obtain ⟨v8, hv8, h⟩ := ob_some h
    have hPm : va_P (dC, dI) cls3 (mdW cL cI qm (ms_thrown vv s1)) H := hPm
    have hD : va_D (inQ qm) (mdW cL cI qm (ms_thrown vv s1)) := hD
    rw [Option.some.inj hv8] at hPm hD
    refine lv_aload_n hx hb dM_ring_45 rfl (lv_at hl 0 rfl) ?_
    refine va_get (D := (dC, dI)) (ci := 2) (v := .int (md_thrown v8)) (C := R_M) (T := T_M) (N := 15) hx hb hw in_M hown hK hPm 0 rfl rfl 0 (by decide) (hw _ w_445) (fun _ h9 => h9) rfl dM_ring_46 ?_
    refine lv_if_eq (tgt := 54) hx hb dM_ring_49 (by decide) (fun c9 => ?_) (fun c9 => ?_)
    · have h := it_t c9 h
      refine lv_aload_n hx hb dM_ring_54 rfl (lv_at hl 0 rfl) ?_
      refine lv_iload_n hx hb dM_ring_55 rfl (lv_at hl 1 rfl) ?_
      obtain ⟨u10, hu10, h⟩ := ob_some h
      refine vp_callSi (va_Run.run (va_runV (As := [.int p1]) (rest := []) ⟨hx, hb, hml, hown, hw⟩ (k_M_closed l dC dI cL cI qm v8 p1 u10 hu10) (cwV 1 hw (gV w_538 w_540 wp_9 w_2 w_541) rfl rfl rfl (by decide +kernel) ⟨Nat.le_of_ble_eq_true rfl, Nat.le_of_ble_eq_true rfl⟩) ⟨rd_blind, va_recv hK hPm (ci := 2) (q0 := 0) rfl rfl, rd_pre hPm hK⟩ rfl rfl hl.1 rfl (lv_room (Nat.le_of_ble_eq_true rfl)) dM_ring_56 ⟨Nat.le_of_ble_eq_true rfl, Nat.le_of_ble_eq_true rfl⟩)) (fun z hz => ?_)
      rw [hz]; clear hz
      refine lv_istore_n (lv' := [(2, .int u10), (0, .ref (qm 0)), (1, .int p1)]) hx hb dM_ring_59 rfl hl (by decide) rfl (fun ls hl => ?_)
      refine lv_aload_n hx hb dM_ring_60 rfl (lv_at hl 1 rfl) ?_
      refine va_get (D := (dC, dI)) (ci := 2) (v := .ref (qm 5)) (C := R_M) (T := T_M) (N := 15) hx hb hw in_M hown hK hPm 0 rfl rfl 6 (by decide) (hw _ w_451) (fun _ h9 => h9) rfl dM_ring_61 ?_
      refine lv_iload_n hx hb dM_ring_64 rfl (lv_at hl 2 rfl) ?_
      obtain ⟨u11, hu11, h⟩ := ob_some h
      obtain ⟨hiu11, eu11⟩ := ld_of hu11
      refine va_iald hx hb hK hPm 5 1 rfl rfl hiu11 dM_ring_65 ?_
      rw [eu11]
      refine lv_istore_n (lv' := [(3, .int u11), (2, .int u10), (0, .ref (qm 0)), (1, .int p1)]) hx hb dM_ring_66 rfl hl (by decide) rfl (fun ls hl => ?_)
      refine lv_aload_n hx hb dM_ring_67 rfl (lv_at hl 2 rfl) ?_
      refine lv_iload_n hx hb dM_ring_68 rfl (lv_at hl 3 rfl) ?_
      refine lv_iload_n hx hb dM_ring_69 rfl (lv_at hl 1 rfl) ?_
      refine lv_iload_n hx hb dM_ring_70 rfl (lv_at hl 0 rfl) ?_
      obtain ⟨u12, hu12, h⟩ := ob_some h
      refine vp_callSi (va_Run.run (va_runV (As := [.int p1, .int u10, .int u11]) (rest := []) ⟨hx, hb, hml, hown, hw⟩ (k_M_isEmpty l dC dI cL cI qm v8 p1 u10 u11 u12 hu12) (cwV 3 hw (gV w_546 w_548 wp_10 w_2 w_549) rfl rfl rfl (by decide +kernel) ⟨Nat.le_of_ble_eq_true rfl, Nat.le_of_ble_eq_true rfl⟩) ⟨rd_blind, va_recv hK hPm (ci := 2) (q0 := 0) rfl rfl, rd_pre hPm hK⟩ rfl rfl hl.1 rfl (lv_room (Nat.le_of_ble_eq_true rfl)) dM_ring_71 ⟨Nat.le_of_ble_eq_true rfl, Nat.le_of_ble_eq_true rfl⟩)) (fun z hz => ?_)
      rw [hz]; clear hz
      refine lv_istore (lv' := [(4, .int u12), (3, .int u11), (2, .int u10), (0, .ref (qm 0)), (1, .int p1)]) hx hb dM_ring_74 hl (by decide) rfl (fun ls hl => ?_)
      refine lv_iload hx hb dM_ring_76 (lv_at hl 0 rfl) ?_
      refine lv_if_ne (tgt := 95) hx hb dM_ring_78 (by decide) (fun c13 => ?_) (fun c13 => ?_)
      · have h := it_f c13 h
        exact k95 v8 p1 u10 u11 u12 h H locs hPm hD hS ls (lv_sub hl [3, 4, 2, 1, 0] rfl)
      · have h := it_t c13 h
        refine lv_aload_n hx hb dM_ring_81 rfl (lv_at hl 3 rfl) ?_
        refine lv_iload_n hx hb dM_ring_82 rfl (lv_at hl 4 rfl) ?_
        refine lv_iload_n hx hb dM_ring_83 rfl (lv_at hl 2 rfl) ?_
        refine lv_iload_n hx hb dM_ring_84 rfl (lv_at hl 1 rfl) ?_
        obtain ⟨u14, hu14, h⟩ := ob_some h
        refine vp_callSi (va_Run.run (va_runV (As := [.int p1, .int u10, .int u11]) (rest := []) ⟨hx, hb, hml, hown, hw⟩ (k_M_isCrossing l dC dI cL cI qm v8 p1 u10 u11 u14 hu14) (cwV 3 hw (gV w_567 w_569 wp_13 w_2 w_570) rfl rfl rfl (by decide +kernel) ⟨Nat.le_of_ble_eq_true rfl, Nat.le_of_ble_eq_true rfl⟩) ⟨rd_blind, va_recv hK hPm (ci := 2) (q0 := 0) rfl rfl, rd_pre hPm hK⟩ rfl rfl hl.1 rfl (lv_room (Nat.le_of_ble_eq_true rfl)) dM_ring_85 ⟨Nat.le_of_ble_eq_true rfl, Nat.le_of_ble_eq_true rfl⟩)) (fun z hz => ?_)
        rw [hz]; clear hz
        refine lv_if_ne (tgt := 95) hx hb dM_ring_88 (by decide) (fun c15 => ?_) (fun c15 => ?_)
        · have h := it_f c15 h
          exact k95 v8 p1 u10 u11 u12 h H locs hPm hD hS ls (lv_sub hl [3, 4, 2, 1, 0] rfl)
        · have h := it_t c15 h
          refine lv_iconst (v := 1) hx hb dM_ring_91 (by decide) ?_
          refine lv_goto (tgt := 96) hx hb dM_ring_92 (by decide) ?_
          exact k96 v8 p1 u10 u11 u12 (1 : Int32) h H locs hPm hD hS ls (lv_sub hl [3, 4, 2, 1, 0] rfl)
    · have h := it_f c9 h
      refine lv_iconst (v := 0) hx hb dM_ring_52 (by decide) ?_
      obtain ⟨uz, huz, h⟩ := ob_some h
      obtain ⟨hz, hr9⟩ := rb_of huz
      have h := Option.some.inj h
      subst hr9
      subst h
      exact W.zret hx hb hr hz (fun t ht hW => ⟨rfl, by rw [ht]; exact hPm, hS.F ht⟩) hS.2.2 dM_ring_53
  have k37 : ∀ (vv : MV) (p1 : Int32), f_M_ring_j37 vv p1 = some r → ∀ (H : Heap) (locs : List Loc), va_P (dC, dI) cls3 (mdW cL cI qm vv) H → va_D (inQ qm) (mdW cL cI qm vv) → va_S (inQ qm) s.heap H locs → ∀ (ls : Array Slot), lv_has ls 6 [(0, .ref (qm 0)), (1, .int p1)] → W p l e (headSpec wsM_ring ({ frames := 6, cells := 0, slots := 0, locals := 183 })).room s m ([.ref (qm 0), .int x1] : List Value).toArray below meth c H locs 0 0 (MQ below (mu_Q (some (.int r.1)) (dC, dI) cls3 (mdW cL cI qm r.2) (inQ qm)) ([.ref (qm 0), .int x1] : List Value).toArray s 0 0 (inQ qm)) (F0 m 37 ls [.ref (qm 0)]) := by
    intro vv p1 h H locs hPm hD hS ls hl
    unfold f_M_ring_j37 at h
    refine lv_iconst (v := 2) hx hb dM_ring_37 (by decide) ?_
    refine lv_goto (tgt := 42) hx hb dM_ring_38 (by decide) ?_
    exact k42 vv p1 (2 : Int32) h H locs hPm hD hS ls (lv_sub hl [0, 1] rfl)
  have hS : va_S (inQ qm) s.heap s.heap [] := va_S.rf
  obtain ⟨H, hH⟩ : ∃ H : Heap, H = s.heap := ⟨_, rfl⟩
  obtain ⟨locs, hlocs⟩ : ∃ L : List Loc, L = [] := ⟨_, rfl⟩
  suffices hgo : W p l e (headSpec wsM_ring ({ frames := 6, cells := 0, slots := 0, locals := 183 })).room s m ([.ref (qm 0), .int x1] : List Value).toArray below meth c H locs 0 0 (MQ below (mu_Q (some (.int r.1)) (dC, dI) cls3 (mdW cL cI qm r.2) (inQ qm)) ([.ref (qm 0), .int x1] : List Value).toArray s 0 0 (inQ qm)) (F0 m 0 ls []) by rw [hH, hlocs] at hgo; exact hgo
  rw [← hH] at hPm
  have hS : va_S (inQ qm) s.heap H locs := by rw [hH, hlocs]; exact hS
  clear hH hlocs
  unfold f_M_ring at h
  refine lv_aload_n hx hb dM_ring_0 rfl (lv_at hl 0 rfl) ?_
  refine lv_aload_n hx hb dM_ring_1 rfl (lv_at hl 0 rfl) ?_
  refine lv_iload_n hx hb dM_ring_2 rfl (lv_at hl 1 rfl) ?_
  obtain ⟨u1, hu1, h⟩ := ob_some h
  refine vp_callSi (va_Run.run (va_runV (As := [.int x1]) (rest := [.ref (qm 0)]) ⟨hx, hb, hml, hown, hw⟩ (k_M_isShape l dC dI cL cI qm v x1 u1 hu1) (cwV 1 hw (gV w_534 w_536 wp_8 w_2 w_537) rfl rfl rfl (by decide +kernel) ⟨Nat.le_of_ble_eq_true rfl, Nat.le_of_ble_eq_true rfl⟩) ⟨rd_blind, va_recv hK hPm (ci := 2) (q0 := 0) rfl rfl, rd_pre hPm hK⟩ rfl rfl hl.1 rfl (lv_room (Nat.le_of_ble_eq_true rfl)) dM_ring_3 ⟨Nat.le_of_ble_eq_true rfl, Nat.le_of_ble_eq_true rfl⟩)) (fun z hz => ?_)
  rw [hz]; clear hz
  refine lv_if_ne (tgt := 13) hx hb dM_ring_6 (by decide) (fun c2 => ?_) (fun c2 => ?_)
  · have h := it_f c2 h
    refine lv_aload_n hx hb dM_ring_13 rfl (lv_at hl 0 rfl) ?_
    refine va_get (D := (dC, dI)) (ci := 2) (v := .ref (qm 1)) (C := R_M) (T := T_M) (N := 15) hx hb hw in_M hown hK hPm 0 rfl rfl 2 (by decide) (hw _ w_447) (fun _ h9 => h9) rfl dM_ring_14 ?_
    refine lv_iload_n hx hb dM_ring_17 rfl (lv_at hl 1 rfl) ?_
    obtain ⟨u3, hu3, h⟩ := ob_some h
    obtain ⟨hiu3, eu3⟩ := ld_of hu3
    refine va_iald hx hb hK hPm 1 1 rfl rfl hiu3 dM_ring_18 ?_
    rw [eu3]
    refine lv_iconst (v := 2) hx hb dM_ring_19 (by decide) ?_
    refine lv_icmp_ne (tgt := 37) hx hb dM_ring_20 (by decide) (fun c4 => ?_) (fun c4 => ?_)
    · have h := it_f c4 h
      exact k37 v x1 h H locs hPm hD hS ls (lv_sub hl [0, 1] rfl)
    · have h := it_t c4 h
      refine lv_aload_n hx hb dM_ring_23 rfl (lv_at hl 0 rfl) ?_
      refine lv_iload_n hx hb dM_ring_24 rfl (lv_at hl 1 rfl) ?_
      obtain ⟨u5, hu5, h⟩ := ob_some h
      refine vp_callSi (va_Run.run (va_runV (As := [.int x1]) (rest := [.ref (qm 0)]) ⟨hx, hb, hml, hown, hw⟩ (k_M_closed l dC dI cL cI qm v x1 u5 hu5) (cwV 1 hw (gV w_538 w_540 wp_9 w_2 w_541) rfl rfl rfl (by decide +kernel) ⟨Nat.le_of_ble_eq_true rfl, Nat.le_of_ble_eq_true rfl⟩) ⟨rd_blind, va_recv hK hPm (ci := 2) (q0 := 0) rfl rfl, rd_pre hPm hK⟩ rfl rfl hl.1 rfl (lv_room (Nat.le_of_ble_eq_true rfl)) dM_ring_25 ⟨Nat.le_of_ble_eq_true rfl, Nat.le_of_ble_eq_true rfl⟩)) (fun z hz => ?_)
      rw [hz]; clear hz
      refine lv_aload_n hx hb dM_ring_28 rfl (lv_at hl 0 rfl) ?_
      refine va_get (D := (dC, dI)) (ci := 2) (v := .ref (qm 5)) (C := R_M) (T := T_M) (N := 15) hx hb hw in_M hown hK hPm 0 rfl rfl 6 (by decide) (hw _ w_451) (fun _ h9 => h9) rfl dM_ring_29 ?_
      refine lv_iload_n hx hb dM_ring_32 rfl (lv_at hl 1 rfl) ?_
      obtain ⟨u6, hu6, h⟩ := ob_some h
      obtain ⟨hiu6, eu6⟩ := ld_of hu6
      refine va_iald hx hb hK hPm 5 1 rfl rfl hiu6 dM_ring_33 ?_
      rw [eu6]
      refine lv_icmp_ne (tgt := 41) hx hb dM_ring_34 (by decide) (fun c7 => ?_) (fun c7 => ?_)
      · have h := it_f c7 h
        refine lv_iconst (v := 0) hx hb dM_ring_41 (by decide) ?_
        exact k42 v x1 (0 : Int32) h H locs hPm hD hS ls (lv_sub hl [0, 1] rfl)
      · have h := it_t c7 h
        exact k37 v x1 h H locs hPm hD hS ls (lv_sub hl [0, 1] rfl)
  · have h := it_t c2 h
    refine lv_iconst (v := 1) hx hb dM_ring_9 (by decide) ?_
    refine lv_goto (tgt := 42) hx hb dM_ring_10 (by decide) ?_
    exact k42 v x1 (1 : Int32) h H locs hPm hD hS ls (lv_sub hl [0, 1] rfl)
theorem dM_coresApart_0 : decode cM_coresApart 0 = .ok (.aload_n 0, 1) := by decide +kernel
theorem dM_coresApart_1 : decode cM_coresApart 1 = .ok (.iconst 0, 1) := by decide +kernel
theorem dM_coresApart_2 : decode cM_coresApart 2 = .ok (.iload_n 1, 1) := by decide +kernel
theorem dM_coresApart_3 : decode cM_coresApart 3 = .ok (.invokevirtual 165, 3) := by decide +kernel
theorem dM_coresApart_6 : decode cM_coresApart 6 = .ok (.aload_n 0, 1) := by decide +kernel
theorem dM_coresApart_7 : decode cM_coresApart 7 = .ok (.iconst 1, 1) := by decide +kernel
theorem dM_coresApart_8 : decode cM_coresApart 8 = .ok (.iload_n 2, 1) := by decide +kernel
theorem dM_coresApart_9 : decode cM_coresApart 9 = .ok (.invokevirtual 165, 3) := by decide +kernel
theorem dM_coresApart_12 : decode cM_coresApart 12 = .ok (.aload_n 0, 1) := by decide +kernel
theorem dM_coresApart_13 : decode cM_coresApart 13 = .ok (.iload_n 1, 1) := by decide +kernel
theorem dM_coresApart_14 : decode cM_coresApart 14 = .ok (.iload_n 2, 1) := by decide +kernel
theorem dM_coresApart_15 : decode cM_coresApart 15 = .ok (.invokevirtual 169, 3) := by decide +kernel
theorem dM_coresApart_18 : decode cM_coresApart 18 = .ok (.ifCond .eq 15, 3) := by decide +kernel
theorem dM_coresApart_21 : decode cM_coresApart 21 = .ok (.lload_n 3, 1) := by decide +kernel
theorem dM_coresApart_22 : decode cM_coresApart 22 = .ok (.lconst 0, 1) := by decide +kernel
theorem dM_coresApart_23 : decode cM_coresApart 23 = .ok (.lcmp, 1) := by decide +kernel
theorem dM_coresApart_24 : decode cM_coresApart 24 = .ok (.ifCond .le 7, 3) := by decide +kernel
theorem dM_coresApart_27 : decode cM_coresApart 27 = .ok (.iconst (-1), 1) := by decide +kernel
theorem dM_coresApart_28 : decode cM_coresApart 28 = .ok (.goto 4, 3) := by decide +kernel
theorem dM_coresApart_31 : decode cM_coresApart 31 = .ok (.iconst 0, 1) := by decide +kernel
theorem dM_coresApart_32 : decode cM_coresApart 32 = .ok (.ireturn, 1) := by decide +kernel
theorem dM_coresApart_33 : decode cM_coresApart 33 = .ok (.iconst 1, 1) := by decide +kernel
theorem dM_coresApart_34 : decode cM_coresApart 34 = .ok (.istore 5, 2) := by decide +kernel
theorem dM_coresApart_36 : decode cM_coresApart 36 = .ok (.iconst 0, 1) := by decide +kernel
theorem dM_coresApart_37 : decode cM_coresApart 37 = .ok (.istore 6, 2) := by decide +kernel
theorem dM_coresApart_39 : decode cM_coresApart 39 = .ok (.iload 6, 2) := by decide +kernel
theorem dM_coresApart_41 : decode cM_coresApart 41 = .ok (.aload_n 0, 1) := by decide +kernel
theorem dM_coresApart_42 : decode cM_coresApart 42 = .ok (.getfield 44, 3) := by decide +kernel
theorem dM_coresApart_45 : decode cM_coresApart 45 = .ok (.iconst 0, 1) := by decide +kernel
theorem dM_coresApart_46 : decode cM_coresApart 46 = .ok (.iaload, 1) := by decide +kernel
theorem dM_coresApart_47 : decode cM_coresApart 47 = .ok (.if_icmp .ge 60, 3) := by decide +kernel
theorem dM_coresApart_50 : decode cM_coresApart 50 = .ok (.bipush 48, 2) := by decide +kernel
theorem dM_coresApart_52 : decode cM_coresApart 52 = .ok (.istore 7, 2) := by decide +kernel
theorem dM_coresApart_54 : decode cM_coresApart 54 = .ok (.iload 7, 2) := by decide +kernel
theorem dM_coresApart_56 : decode cM_coresApart 56 = .ok (.bipush 48, 2) := by decide +kernel
theorem dM_coresApart_58 : decode cM_coresApart 58 = .ok (.aload_n 0, 1) := by decide +kernel
theorem dM_coresApart_59 : decode cM_coresApart 59 = .ok (.getfield 44, 3) := by decide +kernel
theorem dM_coresApart_62 : decode cM_coresApart 62 = .ok (.iconst 1, 1) := by decide +kernel
theorem dM_coresApart_63 : decode cM_coresApart 63 = .ok (.iaload, 1) := by decide +kernel
theorem dM_coresApart_64 : decode cM_coresApart 64 = .ok (.iadd, 1) := by decide +kernel
theorem dM_coresApart_65 : decode cM_coresApart 65 = .ok (.if_icmp .ge 36, 3) := by decide +kernel
theorem dM_coresApart_68 : decode cM_coresApart 68 = .ok (.aload_n 0, 1) := by decide +kernel
theorem dM_coresApart_69 : decode cM_coresApart 69 = .ok (.iload 6, 2) := by decide +kernel
theorem dM_coresApart_71 : decode cM_coresApart 71 = .ok (.iload 7, 2) := by decide +kernel
theorem dM_coresApart_73 : decode cM_coresApart 73 = .ok (.lload_n 3, 1) := by decide +kernel
theorem dM_coresApart_74 : decode cM_coresApart 74 = .ok (.invokevirtual 173, 3) := by decide +kernel
theorem dM_coresApart_77 : decode cM_coresApart 77 = .ok (.istore 8, 2) := by decide +kernel
theorem dM_coresApart_79 : decode cM_coresApart 79 = .ok (.iload 8, 2) := by decide +kernel
theorem dM_coresApart_81 : decode cM_coresApart 81 = .ok (.iload 5, 2) := by decide +kernel
theorem dM_coresApart_83 : decode cM_coresApart 83 = .ok (.if_icmp .ge 8, 3) := by decide +kernel
theorem dM_coresApart_86 : decode cM_coresApart 86 = .ok (.iload 8, 2) := by decide +kernel
theorem dM_coresApart_88 : decode cM_coresApart 88 = .ok (.goto 5, 3) := by decide +kernel
theorem dM_coresApart_91 : decode cM_coresApart 91 = .ok (.iload 5, 2) := by decide +kernel
theorem dM_coresApart_93 : decode cM_coresApart 93 = .ok (.istore 5, 2) := by decide +kernel
theorem dM_coresApart_95 : decode cM_coresApart 95 = .ok (.iinc 7 1, 3) := by decide +kernel
theorem dM_coresApart_98 : decode cM_coresApart 98 = .ok (.goto (-44), 3) := by decide +kernel
theorem dM_coresApart_101 : decode cM_coresApart 101 = .ok (.iinc 6 1, 3) := by decide +kernel
theorem dM_coresApart_104 : decode cM_coresApart 104 = .ok (.goto (-65), 3) := by decide +kernel
theorem dM_coresApart_107 : decode cM_coresApart 107 = .ok (.iload 5, 2) := by decide +kernel
theorem dM_coresApart_109 : decode cM_coresApart 109 = .ok (.ireturn, 1) := by decide +kernel
def f_M_coresApart_j93 (K39 : MV → Int64 → Int32 → Int32 → Option (Int32 × MV)) (K54 : MV → Int64 → Int32 → Int32 → Int32 → Option (Int32 × MV)) (vv : MV) (p3 : Int64) (p6 : Int32) (p7 : Int32) (s0 : Int32) : Option (Int32 × MV) := (K54 vv p3 s0 p6 (p7 + 1))
def f_M_coresApart_l54 (K39 : MV → Int64 → Int32 → Int32 → Option (Int32 × MV)) : Nat → MV → Int64 → Int32 → Int32 → Int32 → Option (Int32 × MV)
 | 0, _, _, _, _, _ => none
 | n + 1, vv, p3, p5, p6, p7 => (ld 2 (md_size vv) (1 : Int32)).bind fun u8 => (if ((48 : Int32) + u8) ≤ p7 then (K39 vv p3 p5 (p6 + 1)) else (f_M_apart vv p6 p7 p3).bind fun u10 => (if p5 ≤ u10.1 then (f_M_coresApart_j93 K39 (f_M_coresApart_l54 K39 n) u10.2 p3 p6 p7 p5) else (f_M_coresApart_j93 K39 (f_M_coresApart_l54 K39 n) u10.2 p3 p6 p7 u10.1)))
def f_M_coresApart_l39 : Nat → MV → Int64 → Int32 → Int32 → Option (Int32 × MV)
 | 0, _, _, _, _ => none
 | n + 1, vv, p3, p5, p6 => (ld 2 (md_size vv) (0 : Int32)).bind fun u6 => (if u6 ≤ p6 then some (p5, vv) else (f_M_coresApart_l54 (f_M_coresApart_l39 n) 64 vv p3 p5 p6 (48 : Int32)))
def f_M_coresApart_j32 (vv : MV) (s0 : Int32) : Option (Int32 × MV) := some (s0, vv)
def f_M_coresApart (v : MV) (x1 : Int32) (x2 : Int32) (x3 : Int64) : Option (Int32 × MV) := (f_M_pieces v (0 : Int32) x1).bind fun u1 => (f_M_pieces u1 (1 : Int32) x2).bind fun u2 => (f_M_haveCommon u2 x1 x2).bind fun u3 => (if u3 = 0 then (f_M_coresApart_l39 64 u2 x3 (1 : Int32) (0 : Int32)) else (if (lg_cmp x3 (0 : Int64)) ≤ 0 then (f_M_coresApart_j32 u2 (0 : Int32)) else (f_M_coresApart_j32 u2 (-1 : Int32))))
set_option maxHeartbeats 4000000 in
set_option maxRecDepth 100000 in
theorem k_M_coresApart (l : Launch) (dC : Nat → ClassId) (dI : Nat → Nat → Nat) (cL cI : ClassId) (qm : Nat → Nat) (v : MV) (x1 : Int32) (x2 : Int32) (x3 : Int64) (r : (Int32 × MV)) (h : f_M_coresApart v x1 x2 x3 = some r) : Met l yM_coresApart wsM_coresApart ({ frames := 5, cells := 0, slots := 0, locals := 150 }) (rd_Pc [.ref (qm 0), .int x1, .int x2, .long x3] (fun H => va_P (dC, dI) cls3 (mdW cL cI qm v) H ∧ va_D (inQ qm) (mdW cL cI qm v)) (dC, dI) cls3 [(cL, .long), (cI, .int)]) (mu_Q (some (.int r.1)) (dC, dI) cls3 (mdW cL cI qm r.2) (inQ qm)) 0 0 (inQ qm) := by
  refine Met.ofW (cc := cM_coresApart) (maxL := 9) (ret := (some .int)) (by decide) rfl ?_
  intro p e s m args below meth c s₁ B hml hv
  obtain ⟨rfl, ⟨hPm, hD⟩, hK⟩ := hv
  have hx := B.exec
  have hb := B.bytes
  have hr := B.returns
  have hw : ∀ w ∈ wG, w.before ([.ref (qm 0), .int x1, .int x2, .long x3] : List Value).toArray s = true := fun w hq => atoms_spec (ws := wsM_coresApart) B.pre w (List.mem_cons_of_mem _ hq)
  have hown : s.vm.findClass R_M = some m.cls := findClass_of_methodNamed B.named
  have hlocks := B.notSynchronized
  have hl := lv_entry ([.ref (qm 0), .int x1, .int x2, .long x3] : List Value) (n := 9) (Nat.le_of_ble_eq_true rfl)
  rw [lg_entry_eq]
  generalize (lg_sl ([.ref (qm 0), .int x1, .int x2, .long x3] : List Value) ++ List.replicate (9 - (lg_sl ([.ref (qm 0), .int x1, .int x2, .long x3] : List Value)).length) Slot.unset).toArray = ls at hl ⊢
  have hl : lv_has ls 9 [(0, .ref (qm 0)), (1, .int x1), (2, .int x2), (3, .long x3)] := hl
  have k39 : ∀ (n39 : Nat), ∀ (vv : MV) (p3 : Int64) (p5 : Int32) (p6 : Int32), f_M_coresApart_l39 n39 vv p3 p5 p6 = some r → ∀ (H : Heap) (locs : List Loc), va_P (dC, dI) cls3 (mdW cL cI qm vv) H → va_D (inQ qm) (mdW cL cI qm vv) → va_S (inQ qm) s.heap H locs → ∀ (ls : Array Slot), lv_has ls 9 [(0, .ref (qm 0)), (3, .long p3), (5, .int p5), (6, .int p6)] → W p l e (headSpec wsM_coresApart ({ frames := 5, cells := 0, slots := 0, locals := 150 })).room s m ([.ref (qm 0), .int x1, .int x2, .long x3] : List Value).toArray below meth c H locs 0 0 (MQ below (mu_Q (some (.int r.1)) (dC, dI) cls3 (mdW cL cI qm r.2) (inQ qm)) ([.ref (qm 0), .int x1, .int x2, .long x3] : List Value).toArray s 0 0 (inQ qm)) (F0 m 39 ls []) := by
    intro n39
    induction n39 with
    | zero => intro vv p3 p5 p6 h; exact absurd h (by simp [f_M_coresApart_l39])
    | succ n39 ih39 =>
      have k54 : ∀ (n54 : Nat), ∀ (vv : MV) (p3 : Int64) (p5 : Int32) (p6 : Int32) (p7 : Int32), f_M_coresApart_l54 (f_M_coresApart_l39 n39) n54 vv p3 p5 p6 p7 = some r → ∀ (H : Heap) (locs : List Loc), va_P (dC, dI) cls3 (mdW cL cI qm vv) H → va_D (inQ qm) (mdW cL cI qm vv) → va_S (inQ qm) s.heap H locs → ∀ (ls : Array Slot), lv_has ls 9 [(0, .ref (qm 0)), (3, .long p3), (5, .int p5), (6, .int p6), (7, .int p7)] → W p l e (headSpec wsM_coresApart ({ frames := 5, cells := 0, slots := 0, locals := 150 })).room s m ([.ref (qm 0), .int x1, .int x2, .long x3] : List Value).toArray below meth c H locs 0 0 (MQ below (mu_Q (some (.int r.1)) (dC, dI) cls3 (mdW cL cI qm r.2) (inQ qm)) ([.ref (qm 0), .int x1, .int x2, .long x3] : List Value).toArray s 0 0 (inQ qm)) (F0 m 54 ls []) := by
        intro n54
        induction n54 with
        | zero => intro vv p3 p5 p6 p7 h; exact absurd h (by simp [f_M_coresApart_l54])
        | succ n54 ih54 =>
          have k93 : ∀ (vv : MV) (p3 : Int64) (p6 : Int32) (p7 : Int32) (s0 : Int32), f_M_coresApart_j93 (f_M_coresApart_l39 n39) (f_M_coresApart_l54 (f_M_coresApart_l39 n39) n54) vv p3 p6 p7 s0 = some r → ∀ (H : Heap) (locs : List Loc), va_P (dC, dI) cls3 (mdW cL cI qm vv) H → va_D (inQ qm) (mdW cL cI qm vv) → va_S (inQ qm) s.heap H locs → ∀ (ls : Array Slot), lv_has ls 9 [(0, .ref (qm 0)), (3, .long p3), (6, .int p6), (7, .int p7)] → W p l e (headSpec wsM_coresApart ({ frames := 5, cells := 0, slots := 0, locals := 150 })).room s m ([.ref (qm 0), .int x1, .int x2, .long x3] : List Value).toArray below meth c H locs 0 0 (MQ below (mu_Q (some (.int r.1)) (dC, dI) cls3 (mdW cL cI qm r.2) (inQ qm)) ([.ref (qm 0), .int x1, .int x2, .long x3] : List Value).toArray s 0 0 (inQ qm)) (F0 m 93 ls [.int s0]) := by
            intro vv p3 p6 p7 s0 h H locs hPm hD hS ls hl
            unfold f_M_coresApart_j93 at h
            refine lv_istore (lv' := [(5, .int s0), (0, .ref (qm 0)), (3, .long p3), (6, .int p6), (7, .int p7)]) hx hb dM_coresApart_93 hl (by decide) rfl (fun ls hl => ?_)
            refine lv_iinc (v := p7 + 1) (lv' := [(7, .int (p7 + 1)), (5, .int s0), (0, .ref (qm 0)), (3, .long p3), (6, .int p6)]) hx hb dM_coresApart_95 hl (k := 4) rfl rfl (by decide) rfl (fun ls hl => ?_)
            refine lv_goto (tgt := 54) hx hb dM_coresApart_98 (by decide) ?_
            exact ih54 vv p3 s0 p6 (p7 + 1) h H locs hPm hD hS ls (lv_sub hl [2, 3, 1, 4, 0] rfl)
          intro vv p3 p5 p6 p7 h H locs hPm hD hS ls hl
          rw [f_M_coresApart_l54] at h
          refine lv_iload hx hb dM_coresApart_54 (lv_at hl 4 rfl) ?_
          refine lv_bipush (v := 48) hx hb dM_coresApart_56 (by decide) ?_
          refine lv_aload_n hx hb dM_coresApart_58 rfl (lv_at hl 0 rfl) ?_
          refine va_get (D := (dC, dI)) (ci := 2) (v := .ref (qm 12)) (C := R_M) (T := T_M) (N := 15) hx hb hw in_M hown hK hPm 0 rfl rfl 13 (by decide) (hw _ w_458) (fun _ h9 => h9) rfl dM_coresApart_59 ?_
          refine lv_iconst (v := 1) hx hb dM_coresApart_62 (by decide) ?_
          obtain ⟨u8, hu8, h⟩ := ob_some h
          obtain ⟨hiu8, eu8⟩ := ld_of hu8
          refine va_iald hx hb hK hPm 12 1 rfl rfl hiu8 dM_coresApart_63 ?_
          rw [eu8]
          refine lv_iadd hx hb dM_coresApart_64 ?_
          refine lv_icmp_ge (tgt := 101) hx hb dM_coresApart_65 (by decide) (fun c9 => ?_) (fun c9 => ?_)
          · have h := it_t c9 h
            refine lv_iinc (v := p6 + 1) (lv' := [(6, .int (p6 + 1)), (0, .ref (qm 0)), (3, .long p3), (5, .int p5), (7, .int p7)]) hx hb dM_coresApart_101 hl (k := 3) rfl rfl (by decide) rfl (fun ls hl => ?_)
            refine lv_goto (tgt := 39) hx hb dM_coresApart_104 (by decide) ?_
            exact ih39 vv p3 p5 (p6 + 1) h H locs hPm hD hS ls (lv_sub hl [1, 2, 3, 0] rfl)
          · have h := it_f c9 h
            refine lv_aload_n hx hb dM_coresApart_68 rfl (lv_at hl 0 rfl) ?_
            refine lv_iload hx hb dM_coresApart_69 (lv_at hl 3 rfl) ?_
            refine lv_iload hx hb dM_coresApart_71 (lv_at hl 4 rfl) ?_
            refine lv_lload_n hx hb dM_coresApart_73 rfl (lv_at hl 1 rfl) ?_
            obtain ⟨u10, hu10, h⟩ := ob_some h
            refine mu_call (va_runV (As := [.int p6, .int p7, .long p3]) (rest := []) ⟨hx, hb, hml, hown, hw⟩ (k_M_apart l dC dI cL cI qm vv p6 p7 p3 u10 hu10) (cwV 3 hw (gV w_623 w_625 wp_23 w_2 w_626) rfl rfl rfl (by decide +kernel) ⟨Nat.le_of_ble_eq_true rfl, Nat.le_of_ble_eq_true rfl⟩) ⟨rd_blind, va_recv hK hPm (ci := 2) (q0 := 0) rfl rfl, rd_pre ⟨hPm, hD⟩ hK⟩ rfl rfl hl.1 rfl (lv_room (Nat.le_of_ble_eq_true rfl)) dM_coresApart_74 ⟨Nat.le_of_ble_eq_true rfl, Nat.le_of_ble_eq_true rfl⟩) hS (fun _ z => z) (fun H locs hPm hS _ _ => ?_)
            have hD := md_D (u10.2) hD
            refine lv_istore (lv' := [(8, .int u10.1), (0, .ref (qm 0)), (3, .long p3), (5, .int p5), (6, .int p6), (7, .int p7)]) hx hb dM_coresApart_77 hl (by decide) rfl (fun ls hl => ?_)
            refine lv_iload hx hb dM_coresApart_79 (lv_at hl 0 rfl) ?_
            refine lv_iload hx hb dM_coresApart_81 (lv_at hl 3 rfl) ?_
            refine lv_icmp_ge (tgt := 91) hx hb dM_coresApart_83 (by decide) (fun c11 => ?_) (fun c11 => ?_)
            · have h := it_t c11 h
              refine lv_iload hx hb dM_coresApart_91 (lv_at hl 3 rfl) ?_
              exact k93 u10.2 p3 p6 p7 p5 h H locs hPm hD hS ls (lv_sub hl [1, 2, 4, 5] rfl)
            · have h := it_f c11 h
              refine lv_iload hx hb dM_coresApart_86 (lv_at hl 0 rfl) ?_
              refine lv_goto (tgt := 93) hx hb dM_coresApart_88 (by decide) ?_
              exact k93 u10.2 p3 p6 p7 u10.1 h H locs hPm hD hS ls (lv_sub hl [1, 2, 4, 5] rfl)
      intro vv p3 p5 p6 h H locs hPm hD hS ls hl
      rw [f_M_coresApart_l39] at h
      refine lv_iload hx hb dM_coresApart_39 (lv_at hl 3 rfl) ?_
      refine lv_aload_n hx hb dM_coresApart_41 rfl (lv_at hl 0 rfl) ?_
      refine va_get (D := (dC, dI)) (ci := 2) (v := .ref (qm 12)) (C := R_M) (T := T_M) (N := 15) hx hb hw in_M hown hK hPm 0 rfl rfl 13 (by decide) (hw _ w_458) (fun _ h9 => h9) rfl dM_coresApart_42 ?_
      refine lv_iconst (v := 0) hx hb dM_coresApart_45 (by decide) ?_
      obtain ⟨u6, hu6, h⟩ := ob_some h
      obtain ⟨hiu6, eu6⟩ := ld_of hu6
      refine va_iald hx hb hK hPm 12 1 rfl rfl hiu6 dM_coresApart_46 ?_
      rw [eu6]
      refine lv_icmp_ge (tgt := 107) hx hb dM_coresApart_47 (by decide) (fun c7 => ?_) (fun c7 => ?_)
      · have h := it_t c7 h
        refine lv_iload hx hb dM_coresApart_107 (lv_at hl 2 rfl) ?_
        have h := Option.some.inj h
        subst h
        exact W.iret hx hb hr (fun t ht hW => ⟨rfl, by rw [ht]; exact hPm, hS.F ht⟩) hS.2.2 dM_coresApart_109
      · have h := it_f c7 h
        refine lv_bipush (v := 48) hx hb dM_coresApart_50 (by decide) ?_
        refine lv_istore (lv' := [(7, .int (48 : Int32)), (0, .ref (qm 0)), (3, .long p3), (5, .int p5), (6, .int p6)]) hx hb dM_coresApart_52 hl (by decide) rfl (fun ls hl => ?_)
        exact k54 64 vv p3 p5 p6 (48 : Int32) h H locs hPm hD hS ls (lv_sub hl [1, 2, 3, 4, 0] rfl)
  have k32 : ∀ (vv : MV) (s0 : Int32), f_M_coresApart_j32 vv s0 = some r → ∀ (H : Heap) (locs : List Loc), va_P (dC, dI) cls3 (mdW cL cI qm vv) H → va_D (inQ qm) (mdW cL cI qm vv) → va_S (inQ qm) s.heap H locs → ∀ (ls : Array Slot), lv_has ls 9 [] → W p l e (headSpec wsM_coresApart ({ frames := 5, cells := 0, slots := 0, locals := 150 })).room s m ([.ref (qm 0), .int x1, .int x2, .long x3] : List Value).toArray below meth c H locs 0 0 (MQ below (mu_Q (some (.int r.1)) (dC, dI) cls3 (mdW cL cI qm r.2) (inQ qm)) ([.ref (qm 0), .int x1, .int x2, .long x3] : List Value).toArray s 0 0 (inQ qm)) (F0 m 32 ls [.int s0]) := by
    intro vv s0 h H locs hPm hD hS ls hl
    unfold f_M_coresApart_j32 at h
    have h := Option.some.inj h
    subst h
    exact W.iret hx hb hr (fun t ht hW => ⟨rfl, by rw [ht]; exact hPm, hS.F ht⟩) hS.2.2 dM_coresApart_32
  have hS : va_S (inQ qm) s.heap s.heap [] := va_S.rf
  obtain ⟨H, hH⟩ : ∃ H : Heap, H = s.heap := ⟨_, rfl⟩
  obtain ⟨locs, hlocs⟩ : ∃ L : List Loc, L = [] := ⟨_, rfl⟩
  suffices hgo : W p l e (headSpec wsM_coresApart ({ frames := 5, cells := 0, slots := 0, locals := 150 })).room s m ([.ref (qm 0), .int x1, .int x2, .long x3] : List Value).toArray below meth c H locs 0 0 (MQ below (mu_Q (some (.int r.1)) (dC, dI) cls3 (mdW cL cI qm r.2) (inQ qm)) ([.ref (qm 0), .int x1, .int x2, .long x3] : List Value).toArray s 0 0 (inQ qm)) (F0 m 0 ls []) by rw [hH, hlocs] at hgo; exact hgo
  rw [← hH] at hPm
  have hS : va_S (inQ qm) s.heap H locs := by rw [hH, hlocs]; exact hS
  clear hH hlocs
  unfold f_M_coresApart at h
  refine lv_aload_n hx hb dM_coresApart_0 rfl (lv_at hl 0 rfl) ?_
  refine lv_iconst (v := 0) hx hb dM_coresApart_1 (by decide) ?_
  refine lv_iload_n hx hb dM_coresApart_2 rfl (lv_at hl 1 rfl) ?_
  obtain ⟨u1, hu1, h⟩ := ob_some h
  refine mu_call (va_runV (As := [.int (0 : Int32), .int x1]) (rest := []) ⟨hx, hb, hml, hown, hw⟩ (k_M_pieces l dC dI cL cI qm v (0 : Int32) x1 u1 hu1) (cwV 2 hw (gV w_603 w_605 wp_18 w_2 w_606) rfl rfl rfl (by decide +kernel) ⟨Nat.le_of_ble_eq_true rfl, Nat.le_of_ble_eq_true rfl⟩) ⟨rd_blind, va_recv hK hPm (ci := 2) (q0 := 0) rfl rfl, rd_pre ⟨hPm, hD⟩ hK⟩ rfl rfl hl.1 rfl (lv_room (Nat.le_of_ble_eq_true rfl)) dM_coresApart_3 ⟨Nat.le_of_ble_eq_true rfl, Nat.le_of_ble_eq_true rfl⟩) hS (fun _ z => z) (fun H locs hPm hS _ _ => ?_)
  have hD := md_D (u1) hD
  refine lv_aload_n hx hb dM_coresApart_6 rfl (lv_at hl 0 rfl) ?_
  refine lv_iconst (v := 1) hx hb dM_coresApart_7 (by decide) ?_
  refine lv_iload_n hx hb dM_coresApart_8 rfl (lv_at hl 2 rfl) ?_
  obtain ⟨u2, hu2, h⟩ := ob_some h
  refine mu_call (va_runV (As := [.int (1 : Int32), .int x2]) (rest := []) ⟨hx, hb, hml, hown, hw⟩ (k_M_pieces l dC dI cL cI qm u1 (1 : Int32) x2 u2 hu2) (cwV 2 hw (gV w_603 w_605 wp_18 w_2 w_606) rfl rfl rfl (by decide +kernel) ⟨Nat.le_of_ble_eq_true rfl, Nat.le_of_ble_eq_true rfl⟩) ⟨rd_blind, va_recv hK hPm (ci := 2) (q0 := 0) rfl rfl, rd_pre ⟨hPm, hD⟩ hK⟩ rfl rfl hl.1 rfl (lv_room (Nat.le_of_ble_eq_true rfl)) dM_coresApart_9 ⟨Nat.le_of_ble_eq_true rfl, Nat.le_of_ble_eq_true rfl⟩) hS (fun _ z => z) (fun H locs hPm hS _ _ => ?_)
  have hD := md_D (u2) hD
  refine lv_aload_n hx hb dM_coresApart_12 rfl (lv_at hl 0 rfl) ?_
  refine lv_iload_n hx hb dM_coresApart_13 rfl (lv_at hl 1 rfl) ?_
  refine lv_iload_n hx hb dM_coresApart_14 rfl (lv_at hl 2 rfl) ?_
  obtain ⟨u3, hu3, h⟩ := ob_some h
  refine vp_callSi (va_Run.run (va_runV (As := [.int x1, .int x2]) (rest := []) ⟨hx, hb, hml, hown, hw⟩ (k_M_haveCommon l dC dI cL cI qm u2 x1 x2 u3 hu3) (cwV 2 hw (gV w_611 w_613 wp_20 w_2 w_614) rfl rfl rfl (by decide +kernel) ⟨Nat.le_of_ble_eq_true rfl, Nat.le_of_ble_eq_true rfl⟩) ⟨rd_blind, va_recv hK hPm (ci := 2) (q0 := 0) rfl rfl, rd_pre hPm hK⟩ rfl rfl hl.1 rfl (lv_room (Nat.le_of_ble_eq_true rfl)) dM_coresApart_15 ⟨Nat.le_of_ble_eq_true rfl, Nat.le_of_ble_eq_true rfl⟩)) (fun z hz => ?_)
  rw [hz]; clear hz
  refine lv_if_eq (tgt := 33) hx hb dM_coresApart_18 (by decide) (fun c4 => ?_) (fun c4 => ?_)
  · have h := it_t c4 h
    refine lv_iconst (v := 1) hx hb dM_coresApart_33 (by decide) ?_
    refine lv_istore (lv' := [(5, .int (1 : Int32)), (0, .ref (qm 0)), (1, .int x1), (2, .int x2), (3, .long x3)]) hx hb dM_coresApart_34 hl (by decide) rfl (fun ls hl => ?_)
    refine lv_iconst (v := 0) hx hb dM_coresApart_36 (by decide) ?_
    refine lv_istore (lv' := [(6, .int (0 : Int32)), (5, .int (1 : Int32)), (0, .ref (qm 0)), (1, .int x1), (2, .int x2), (3, .long x3)]) hx hb dM_coresApart_37 hl (by decide) rfl (fun ls hl => ?_)
    exact k39 64 u2 x3 (1 : Int32) (0 : Int32) h H locs hPm hD hS ls (lv_sub hl [2, 5, 1, 0] rfl)
  · have h := it_f c4 h
    refine lv_lload_n hx hb dM_coresApart_21 rfl (lv_at hl 3 rfl) ?_
    refine lv_lconst (v := 0) hx hb dM_coresApart_22 (by decide) ?_
    refine W.lcmp hx hb dM_coresApart_23 ?_
    refine lv_if_le (tgt := 31) hx hb dM_coresApart_24 (by decide) (fun c5 => ?_) (fun c5 => ?_)
    · have h := it_t c5 h
      refine lv_iconst (v := 0) hx hb dM_coresApart_31 (by decide) ?_
      exact k32 u2 (0 : Int32) h H locs hPm hD hS ls (lv_sub hl [] rfl)
    · have h := it_f c5 h
      refine lv_iconst (v := -1) hx hb dM_coresApart_27 (by decide) ?_
      refine lv_goto (tgt := 32) hx hb dM_coresApart_28 (by decide) ?_
      exact k32 u2 (-1 : Int32) h H locs hPm hD hS ls (lv_sub hl [] rfl)
theorem dM_nearer_0 : decode cM_nearer 0 = .ok (.aload_n 0, 1) := by decide +kernel
theorem dM_nearer_1 : decode cM_nearer 1 = .ok (.aload_n 0, 1) := by decide +kernel
theorem dM_nearer_2 : decode cM_nearer 2 = .ok (.iload_n 1, 1) := by decide +kernel
theorem dM_nearer_3 : decode cM_nearer 3 = .ok (.invokevirtual 87, 3) := by decide +kernel
theorem dM_nearer_6 : decode cM_nearer 6 = .ok (.ifCond .eq 11, 3) := by decide +kernel
theorem dM_nearer_9 : decode cM_nearer 9 = .ok (.aload_n 0, 1) := by decide +kernel
theorem dM_nearer_10 : decode cM_nearer 10 = .ok (.iload_n 2, 1) := by decide +kernel
theorem dM_nearer_11 : decode cM_nearer 11 = .ok (.invokevirtual 87, 3) := by decide +kernel
theorem dM_nearer_14 : decode cM_nearer 14 = .ok (.ifCond .ne 7, 3) := by decide +kernel
theorem dM_nearer_17 : decode cM_nearer 17 = .ok (.iconst 1, 1) := by decide +kernel
theorem dM_nearer_18 : decode cM_nearer 18 = .ok (.goto 35, 3) := by decide +kernel
theorem dM_nearer_21 : decode cM_nearer 21 = .ok (.aload_n 0, 1) := by decide +kernel
theorem dM_nearer_22 : decode cM_nearer 22 = .ok (.iload_n 1, 1) := by decide +kernel
theorem dM_nearer_23 : decode cM_nearer 23 = .ok (.invokevirtual 177, 3) := by decide +kernel
theorem dM_nearer_26 : decode cM_nearer 26 = .ok (.ifCond .eq 11, 3) := by decide +kernel
theorem dM_nearer_29 : decode cM_nearer 29 = .ok (.aload_n 0, 1) := by decide +kernel
theorem dM_nearer_30 : decode cM_nearer 30 = .ok (.iload_n 2, 1) := by decide +kernel
theorem dM_nearer_31 : decode cM_nearer 31 = .ok (.invokevirtual 177, 3) := by decide +kernel
theorem dM_nearer_34 : decode cM_nearer 34 = .ok (.ifCond .ne 7, 3) := by decide +kernel
theorem dM_nearer_37 : decode cM_nearer 37 = .ok (.iconst 2, 1) := by decide +kernel
theorem dM_nearer_38 : decode cM_nearer 38 = .ok (.goto 15, 3) := by decide +kernel
theorem dM_nearer_41 : decode cM_nearer 41 = .ok (.lload_n 3, 1) := by decide +kernel
theorem dM_nearer_42 : decode cM_nearer 42 = .ok (.invokestatic 71, 3) := by decide +kernel
theorem dM_nearer_45 : decode cM_nearer 45 = .ok (.ifCond .eq 7, 3) := by decide +kernel
theorem dM_nearer_48 : decode cM_nearer 48 = .ok (.iconst 0, 1) := by decide +kernel
theorem dM_nearer_49 : decode cM_nearer 49 = .ok (.goto 4, 3) := by decide +kernel
theorem dM_nearer_52 : decode cM_nearer 52 = .ok (.iconst 3, 1) := by decide +kernel
theorem dM_nearer_53 : decode cM_nearer 53 = .ok (.putfield 50, 3) := by decide +kernel
theorem dM_nearer_56 : decode cM_nearer 56 = .ok (.aload_n 0, 1) := by decide +kernel
theorem dM_nearer_57 : decode cM_nearer 57 = .ok (.getfield 50, 3) := by decide +kernel
theorem dM_nearer_60 : decode cM_nearer 60 = .ok (.ifCond .eq 5, 3) := by decide +kernel
theorem dM_nearer_63 : decode cM_nearer 63 = .ok (.iconst 0, 1) := by decide +kernel
theorem dM_nearer_64 : decode cM_nearer 64 = .ok (.ireturn, 1) := by decide +kernel
theorem dM_nearer_65 : decode cM_nearer 65 = .ok (.aload_n 0, 1) := by decide +kernel
theorem dM_nearer_66 : decode cM_nearer 66 = .ok (.iload_n 1, 1) := by decide +kernel
theorem dM_nearer_67 : decode cM_nearer 67 = .ok (.iload_n 2, 1) := by decide +kernel
theorem dM_nearer_68 : decode cM_nearer 68 = .ok (.lload_n 3, 1) := by decide +kernel
theorem dM_nearer_69 : decode cM_nearer 69 = .ok (.aload_n 0, 1) := by decide +kernel
theorem dM_nearer_70 : decode cM_nearer 70 = .ok (.getfield 13, 3) := by decide +kernel
theorem dM_nearer_73 : decode cM_nearer 73 = .ok (.iload_n 1, 1) := by decide +kernel
theorem dM_nearer_74 : decode cM_nearer 74 = .ok (.laload, 1) := by decide +kernel
theorem dM_nearer_75 : decode cM_nearer 75 = .ok (.ladd, 1) := by decide +kernel
theorem dM_nearer_76 : decode cM_nearer 76 = .ok (.aload_n 0, 1) := by decide +kernel
theorem dM_nearer_77 : decode cM_nearer 77 = .ok (.getfield 13, 3) := by decide +kernel
theorem dM_nearer_80 : decode cM_nearer 80 = .ok (.iload_n 2, 1) := by decide +kernel
theorem dM_nearer_81 : decode cM_nearer 81 = .ok (.laload, 1) := by decide +kernel
theorem dM_nearer_82 : decode cM_nearer 82 = .ok (.ladd, 1) := by decide +kernel
theorem dM_nearer_83 : decode cM_nearer 83 = .ok (.invokevirtual 180, 3) := by decide +kernel
theorem dM_nearer_86 : decode cM_nearer 86 = .ok (.istore 5, 2) := by decide +kernel
theorem dM_nearer_88 : decode cM_nearer 88 = .ok (.lload_n 3, 1) := by decide +kernel
theorem dM_nearer_89 : decode cM_nearer 89 = .ok (.lconst 0, 1) := by decide +kernel
theorem dM_nearer_90 : decode cM_nearer 90 = .ok (.lcmp, 1) := by decide +kernel
theorem dM_nearer_91 : decode cM_nearer 91 = .ok (.ifCond .ne 14, 3) := by decide +kernel
theorem dM_nearer_94 : decode cM_nearer 94 = .ok (.iload 5, 2) := by decide +kernel
theorem dM_nearer_96 : decode cM_nearer 96 = .ok (.ifCond .le 7, 3) := by decide +kernel
theorem dM_nearer_99 : decode cM_nearer 99 = .ok (.iconst (-1), 1) := by decide +kernel
theorem dM_nearer_100 : decode cM_nearer 100 = .ok (.goto 4, 3) := by decide +kernel
theorem dM_nearer_103 : decode cM_nearer 103 = .ok (.iconst 0, 1) := by decide +kernel
theorem dM_nearer_104 : decode cM_nearer 104 = .ok (.ireturn, 1) := by decide +kernel
theorem dM_nearer_105 : decode cM_nearer 105 = .ok (.iconst 0, 1) := by decide +kernel
theorem dM_nearer_106 : decode cM_nearer 106 = .ok (.iload 5, 2) := by decide +kernel
theorem dM_nearer_108 : decode cM_nearer 108 = .ok (.isub, 1) := by decide +kernel
theorem dM_nearer_109 : decode cM_nearer 109 = .ok (.ireturn, 1) := by decide +kernel
def f_M_nearer_j104 (vv : MV) (s0 : Int32) : Option (Int32 × MV) := some (s0, vv)
def f_M_nearer_j53 (vv : MV) (p1 : Int32) (p2 : Int32) (p3 : Int64) (s1 : Int32) : Option (Int32 × MV) := (some (ms_thrown vv s1)).bind fun v11 => (if (md_thrown v11) = 0 then (ld 40 (md_radii v11) p1).bind fun u13 => (ld 40 (md_radii v11) p2).bind fun u14 => (f_M_coresApart v11 p1 p2 ((p3 + u13) + u14)).bind fun u15 => (if (lg_cmp p3 (0 : Int64)) = 0 then (if u15.1 ≤ 0 then (f_M_nearer_j104 u15.2 (0 : Int32)) else (f_M_nearer_j104 u15.2 (-1 : Int32))) else some ((0 : Int32) - u15.1, u15.2)) else some ((0 : Int32), v11))
def f_M_nearer_j37 (vv : MV) (p1 : Int32) (p2 : Int32) (p3 : Int64) : Option (Int32 × MV) := (f_M_nearer_j53 vv p1 p2 p3 (2 : Int32))
def f_M_nearer_j17 (vv : MV) (p1 : Int32) (p2 : Int32) (p3 : Int64) : Option (Int32 × MV) := (f_M_nearer_j53 vv p1 p2 p3 (1 : Int32))
def f_M_nearer (v : MV) (x1 : Int32) (x2 : Int32) (x3 : Int64) : Option (Int32 × MV) := (f_M_isShape v x1).bind fun u1 => (if u1 = 0 then (f_M_nearer_j17 v x1 x2 x3) else (f_M_isShape v x2).bind fun u3 => (if u3 = 0 then (f_M_nearer_j17 v x1 x2 x3) else (f_M_isWhole v x1).bind fun u5 => (if u5 = 0 then (f_M_nearer_j37 v x1 x2 x3) else (f_M_isWhole v x2).bind fun u7 => (if u7 = 0 then (f_M_nearer_j37 v x1 x2 x3) else (f_M_isRadius x3).bind fun u9 => (if u9 = 0 then (f_M_nearer_j53 v x1 x2 x3 (3 : Int32)) else (f_M_nearer_j53 v x1 x2 x3 (0 : Int32)))))))
set_option maxHeartbeats 4000000 in
set_option maxRecDepth 100000 in
theorem k_M_nearer (l : Launch) (dC : Nat → ClassId) (dI : Nat → Nat → Nat) (cL cI : ClassId) (qm : Nat → Nat) (v : MV) (x1 : Int32) (x2 : Int32) (x3 : Int64) (r : (Int32 × MV)) (h : f_M_nearer v x1 x2 x3 = some r) : Met l yM_nearer wsM_nearer ({ frames := 6, cells := 0, slots := 0, locals := 178 }) (rd_Pc [.ref (qm 0), .int x1, .int x2, .long x3] (fun H => va_P (dC, dI) cls3 (mdW cL cI qm v) H ∧ va_D (inQ qm) (mdW cL cI qm v)) (dC, dI) cls3 [(cL, .long), (cI, .int)]) (mu_Q (some (.int r.1)) (dC, dI) cls3 (mdW cL cI qm r.2) (inQ qm)) 0 0 (inQ qm) := by
  refine Met.ofW (cc := cM_nearer) (maxL := 6) (ret := (some .int)) (by decide) rfl ?_
  intro p e s m args below meth c s₁ B hml hv
  obtain ⟨rfl, ⟨hPm, hD⟩, hK⟩ := hv
  have hx := B.exec
  have hb := B.bytes
  have hr := B.returns
  have hw : ∀ w ∈ wG, w.before ([.ref (qm 0), .int x1, .int x2, .long x3] : List Value).toArray s = true := fun w hq => atoms_spec (ws := wsM_nearer) B.pre w (List.mem_cons_of_mem _ hq)
  have hown : s.vm.findClass R_M = some m.cls := findClass_of_methodNamed B.named
  have hlocks := B.notSynchronized
  have hl := lv_entry ([.ref (qm 0), .int x1, .int x2, .long x3] : List Value) (n := 6) (Nat.le_of_ble_eq_true rfl)
  rw [lg_entry_eq]
  generalize (lg_sl ([.ref (qm 0), .int x1, .int x2, .long x3] : List Value) ++ List.replicate (6 - (lg_sl ([.ref (qm 0), .int x1, .int x2, .long x3] : List Value)).length) Slot.unset).toArray = ls at hl ⊢
  have hl : lv_has ls 6 [(0, .ref (qm 0)), (1, .int x1), (2, .int x2), (3, .long x3)] := hl
  have k104 : ∀ (vv : MV) (s0 : Int32), f_M_nearer_j104 vv s0 = some r → ∀ (H : Heap) (locs : List Loc), va_P (dC, dI) cls3 (mdW cL cI qm vv) H → va_D (inQ qm) (mdW cL cI qm vv) → va_S (inQ qm) s.heap H locs → ∀ (ls : Array Slot), lv_has ls 6 [] → W p l e (headSpec wsM_nearer ({ frames := 6, cells := 0, slots := 0, locals := 178 })).room s m ([.ref (qm 0), .int x1, .int x2, .long x3] : List Value).toArray below meth c H locs 0 0 (MQ below (mu_Q (some (.int r.1)) (dC, dI) cls3 (mdW cL cI qm r.2) (inQ qm)) ([.ref (qm 0), .int x1, .int x2, .long x3] : List Value).toArray s 0 0 (inQ qm)) (F0 m 104 ls [.int s0]) := by
    intro vv s0 h H locs hPm hD hS ls hl
    unfold f_M_nearer_j104 at h
    have h := Option.some.inj h
    subst h
    exact W.iret hx hb hr (fun t ht hW => ⟨rfl, by rw [ht]; exact hPm, hS.F ht⟩) hS.2.2 dM_nearer_104
  have k53 : ∀ (vv : MV) (p1 : Int32) (p2 : Int32) (p3 : Int64) (s1 : Int32), f_M_nearer_j53 vv p1 p2 p3 s1 = some r → ∀ (H : Heap) (locs : List Loc), va_P (dC, dI) cls3 (mdW cL cI qm vv) H → va_D (inQ qm) (mdW cL cI qm vv) → va_S (inQ qm) s.heap H locs → ∀ (ls : Array Slot), lv_has ls 6 [(0, .ref (qm 0)), (1, .int p1), (2, .int p2), (3, .long p3)] → W p l e (headSpec wsM_nearer ({ frames := 6, cells := 0, slots := 0, locals := 178 })).room s m ([.ref (qm 0), .int x1, .int x2, .long x3] : List Value).toArray below meth c H locs 0 0 (MQ below (mu_Q (some (.int r.1)) (dC, dI) cls3 (mdW cL cI qm r.2) (inQ qm)) ([.ref (qm 0), .int x1, .int x2, .long x3] : List Value).toArray s 0 0 (inQ qm)) (F0 m 53 ls [.int s1, .ref (qm 0)]) := by
    intro vv p1 p2 p3 s1 h H locs hPm hD hS ls hl
    unfold f_M_nearer_j53 at h
    refine va_put (D := (dC, dI)) (ci := 2) (v := .int s1) (ty := .int) (C := R_M) (T := T_M) (N := 15) hx hb hw in_M t_M t_M_ok nm_M hown hK hPm hD hS 0 rfl rfl 0 (by decide) (hw _ w_445) (fun _ h9 => h9) rfl (by decide +kernel) rfl rfl (Nat.le_of_ble_eq_true rfl) dM_nearer_53 (fun H locs hPm hD hS => ?_)
    obtain ⟨v11, hv11, h⟩ := ob_some h
    have hPm : va_P (dC, dI) cls3 (mdW cL cI qm (ms_thrown vv s1)) H := hPm
    have hD : va_D (inQ qm) (mdW cL cI qm (ms_thrown vv s1)) := hD
    rw [Option.some.inj hv11] at hPm hD
    refine lv_aload_n hx hb dM_nearer_56 rfl (lv_at hl 0 rfl) ?_
    refine va_get (D := (dC, dI)) (ci := 2) (v := .int (md_thrown v11)) (C := R_M) (T := T_M) (N := 15) hx hb hw in_M hown hK hPm 0 rfl rfl 0 (by decide) (hw _ w_445) (fun _ h9 => h9) rfl dM_nearer_57 ?_
    refine lv_if_eq (tgt := 65) hx hb dM_nearer_60 (by decide) (fun c12 => ?_) (fun c12 => ?_)
    · have h := it_t c12 h
      refine lv_aload_n hx hb dM_nearer_65 rfl (lv_at hl 0 rfl) ?_
      refine lv_iload_n hx hb dM_nearer_66 rfl (lv_at hl 1 rfl) ?_
      refine lv_iload_n hx hb dM_nearer_67 rfl (lv_at hl 2 rfl) ?_
      refine lv_lload_n hx hb dM_nearer_68 rfl (lv_at hl 3 rfl) ?_
      refine lv_aload_n hx hb dM_nearer_69 rfl (lv_at hl 0 rfl) ?_
      refine va_get (D := (dC, dI)) (ci := 2) (v := .ref (qm 2)) (C := R_M) (T := T_M) (N := 15) hx hb hw in_M hown hK hPm 0 rfl rfl 3 (by decide) (hw _ w_448) (fun _ h9 => h9) rfl dM_nearer_70 ?_
      refine lv_iload_n hx hb dM_nearer_73 rfl (lv_at hl 1 rfl) ?_
      obtain ⟨u13, hu13, h⟩ := ob_some h
      obtain ⟨hiu13, eu13⟩ := ld_of hu13
      refine va_lald hx hb hK hPm 2 0 rfl rfl hiu13 dM_nearer_74 ?_
      rw [eu13]
      refine lv_ladd hx hb dM_nearer_75 ?_
      refine lv_aload_n hx hb dM_nearer_76 rfl (lv_at hl 0 rfl) ?_
      refine va_get (D := (dC, dI)) (ci := 2) (v := .ref (qm 2)) (C := R_M) (T := T_M) (N := 15) hx hb hw in_M hown hK hPm 0 rfl rfl 3 (by decide) (hw _ w_448) (fun _ h9 => h9) rfl dM_nearer_77 ?_
      refine lv_iload_n hx hb dM_nearer_80 rfl (lv_at hl 2 rfl) ?_
      obtain ⟨u14, hu14, h⟩ := ob_some h
      obtain ⟨hiu14, eu14⟩ := ld_of hu14
      refine va_lald hx hb hK hPm 2 0 rfl rfl hiu14 dM_nearer_81 ?_
      rw [eu14]
      refine lv_ladd hx hb dM_nearer_82 ?_
      obtain ⟨u15, hu15, h⟩ := ob_some h
      refine mu_call (va_runV (As := [.int p1, .int p2, .long ((p3 + u13) + u14)]) (rest := []) ⟨hx, hb, hml, hown, hw⟩ (k_M_coresApart l dC dI cL cI qm v11 p1 p2 ((p3 + u13) + u14) u15 hu15) (cwV 3 hw (gV w_599 w_601 wp_17 w_2 w_602) rfl rfl rfl (by decide +kernel) ⟨Nat.le_of_ble_eq_true rfl, Nat.le_of_ble_eq_true rfl⟩) ⟨rd_blind, va_recv hK hPm (ci := 2) (q0 := 0) rfl rfl, rd_pre ⟨hPm, hD⟩ hK⟩ rfl rfl hl.1 rfl (lv_room (Nat.le_of_ble_eq_true rfl)) dM_nearer_83 ⟨Nat.le_of_ble_eq_true rfl, Nat.le_of_ble_eq_true rfl⟩) hS (fun _ z => z) (fun H locs hPm hS _ _ => ?_)
      have hD := md_D (u15.2) hD
      refine lv_istore (lv' := [(5, .int u15.1), (0, .ref (qm 0)), (1, .int p1), (2, .int p2), (3, .long p3)]) hx hb dM_nearer_86 hl (by decide) rfl (fun ls hl => ?_)
      refine lv_lload_n hx hb dM_nearer_88 rfl (lv_at hl 4 rfl) ?_
      refine lv_lconst (v := 0) hx hb dM_nearer_89 (by decide) ?_
      refine W.lcmp hx hb dM_nearer_90 ?_
      refine lv_if_ne (tgt := 105) hx hb dM_nearer_91 (by decide) (fun c16 => ?_) (fun c16 => ?_)
      · have h := it_f c16 h
        refine lv_iconst (v := 0) hx hb dM_nearer_105 (by decide) ?_
        refine lv_iload hx hb dM_nearer_106 (lv_at hl 0 rfl) ?_
        refine lv_isub hx hb dM_nearer_108 ?_
        have h := Option.some.inj h
        subst h
        exact W.iret hx hb hr (fun t ht hW => ⟨rfl, by rw [ht]; exact hPm, hS.F ht⟩) hS.2.2 dM_nearer_109
      · have h := it_t c16 h
        refine lv_iload hx hb dM_nearer_94 (lv_at hl 0 rfl) ?_
        refine lv_if_le (tgt := 103) hx hb dM_nearer_96 (by decide) (fun c17 => ?_) (fun c17 => ?_)
        · have h := it_t c17 h
          refine lv_iconst (v := 0) hx hb dM_nearer_103 (by decide) ?_
          exact k104 u15.2 (0 : Int32) h H locs hPm hD hS ls (lv_sub hl [] rfl)
        · have h := it_f c17 h
          refine lv_iconst (v := -1) hx hb dM_nearer_99 (by decide) ?_
          refine lv_goto (tgt := 104) hx hb dM_nearer_100 (by decide) ?_
          exact k104 u15.2 (-1 : Int32) h H locs hPm hD hS ls (lv_sub hl [] rfl)
    · have h := it_f c12 h
      refine lv_iconst (v := 0) hx hb dM_nearer_63 (by decide) ?_
      have h := Option.some.inj h
      subst h
      exact W.iret hx hb hr (fun t ht hW => ⟨rfl, by rw [ht]; exact hPm, hS.F ht⟩) hS.2.2 dM_nearer_64
  have k37 : ∀ (vv : MV) (p1 : Int32) (p2 : Int32) (p3 : Int64), f_M_nearer_j37 vv p1 p2 p3 = some r → ∀ (H : Heap) (locs : List Loc), va_P (dC, dI) cls3 (mdW cL cI qm vv) H → va_D (inQ qm) (mdW cL cI qm vv) → va_S (inQ qm) s.heap H locs → ∀ (ls : Array Slot), lv_has ls 6 [(0, .ref (qm 0)), (1, .int p1), (2, .int p2), (3, .long p3)] → W p l e (headSpec wsM_nearer ({ frames := 6, cells := 0, slots := 0, locals := 178 })).room s m ([.ref (qm 0), .int x1, .int x2, .long x3] : List Value).toArray below meth c H locs 0 0 (MQ below (mu_Q (some (.int r.1)) (dC, dI) cls3 (mdW cL cI qm r.2) (inQ qm)) ([.ref (qm 0), .int x1, .int x2, .long x3] : List Value).toArray s 0 0 (inQ qm)) (F0 m 37 ls [.ref (qm 0)]) := by
    intro vv p1 p2 p3 h H locs hPm hD hS ls hl
    unfold f_M_nearer_j37 at h
    refine lv_iconst (v := 2) hx hb dM_nearer_37 (by decide) ?_
    refine lv_goto (tgt := 53) hx hb dM_nearer_38 (by decide) ?_
    exact k53 vv p1 p2 p3 (2 : Int32) h H locs hPm hD hS ls (lv_sub hl [0, 1, 2, 3] rfl)
  have k17 : ∀ (vv : MV) (p1 : Int32) (p2 : Int32) (p3 : Int64), f_M_nearer_j17 vv p1 p2 p3 = some r → ∀ (H : Heap) (locs : List Loc), va_P (dC, dI) cls3 (mdW cL cI qm vv) H → va_D (inQ qm) (mdW cL cI qm vv) → va_S (inQ qm) s.heap H locs → ∀ (ls : Array Slot), lv_has ls 6 [(0, .ref (qm 0)), (1, .int p1), (2, .int p2), (3, .long p3)] → W p l e (headSpec wsM_nearer ({ frames := 6, cells := 0, slots := 0, locals := 178 })).room s m ([.ref (qm 0), .int x1, .int x2, .long x3] : List Value).toArray below meth c H locs 0 0 (MQ below (mu_Q (some (.int r.1)) (dC, dI) cls3 (mdW cL cI qm r.2) (inQ qm)) ([.ref (qm 0), .int x1, .int x2, .long x3] : List Value).toArray s 0 0 (inQ qm)) (F0 m 17 ls [.ref (qm 0)]) := by
    intro vv p1 p2 p3 h H locs hPm hD hS ls hl
    unfold f_M_nearer_j17 at h
    refine lv_iconst (v := 1) hx hb dM_nearer_17 (by decide) ?_
    refine lv_goto (tgt := 53) hx hb dM_nearer_18 (by decide) ?_
    exact k53 vv p1 p2 p3 (1 : Int32) h H locs hPm hD hS ls (lv_sub hl [0, 1, 2, 3] rfl)
  have hS : va_S (inQ qm) s.heap s.heap [] := va_S.rf
  obtain ⟨H, hH⟩ : ∃ H : Heap, H = s.heap := ⟨_, rfl⟩
  obtain ⟨locs, hlocs⟩ : ∃ L : List Loc, L = [] := ⟨_, rfl⟩
  suffices hgo : W p l e (headSpec wsM_nearer ({ frames := 6, cells := 0, slots := 0, locals := 178 })).room s m ([.ref (qm 0), .int x1, .int x2, .long x3] : List Value).toArray below meth c H locs 0 0 (MQ below (mu_Q (some (.int r.1)) (dC, dI) cls3 (mdW cL cI qm r.2) (inQ qm)) ([.ref (qm 0), .int x1, .int x2, .long x3] : List Value).toArray s 0 0 (inQ qm)) (F0 m 0 ls []) by rw [hH, hlocs] at hgo; exact hgo
  rw [← hH] at hPm
  have hS : va_S (inQ qm) s.heap H locs := by rw [hH, hlocs]; exact hS
  clear hH hlocs
  unfold f_M_nearer at h
  refine lv_aload_n hx hb dM_nearer_0 rfl (lv_at hl 0 rfl) ?_
  refine lv_aload_n hx hb dM_nearer_1 rfl (lv_at hl 0 rfl) ?_
  refine lv_iload_n hx hb dM_nearer_2 rfl (lv_at hl 1 rfl) ?_
  obtain ⟨u1, hu1, h⟩ := ob_some h
  refine vp_callSi (va_Run.run (va_runV (As := [.int x1]) (rest := [.ref (qm 0)]) ⟨hx, hb, hml, hown, hw⟩ (k_M_isShape l dC dI cL cI qm v x1 u1 hu1) (cwV 1 hw (gV w_534 w_536 wp_8 w_2 w_537) rfl rfl rfl (by decide +kernel) ⟨Nat.le_of_ble_eq_true rfl, Nat.le_of_ble_eq_true rfl⟩) ⟨rd_blind, va_recv hK hPm (ci := 2) (q0 := 0) rfl rfl, rd_pre hPm hK⟩ rfl rfl hl.1 rfl (lv_room (Nat.le_of_ble_eq_true rfl)) dM_nearer_3 ⟨Nat.le_of_ble_eq_true rfl, Nat.le_of_ble_eq_true rfl⟩)) (fun z hz => ?_)
  rw [hz]; clear hz
  refine lv_if_eq (tgt := 17) hx hb dM_nearer_6 (by decide) (fun c2 => ?_) (fun c2 => ?_)
  · have h := it_t c2 h
    exact k17 v x1 x2 x3 h H locs hPm hD hS ls (lv_sub hl [0, 1, 2, 3] rfl)
  · have h := it_f c2 h
    refine lv_aload_n hx hb dM_nearer_9 rfl (lv_at hl 0 rfl) ?_
    refine lv_iload_n hx hb dM_nearer_10 rfl (lv_at hl 2 rfl) ?_
    obtain ⟨u3, hu3, h⟩ := ob_some h
    refine vp_callSi (va_Run.run (va_runV (As := [.int x2]) (rest := [.ref (qm 0)]) ⟨hx, hb, hml, hown, hw⟩ (k_M_isShape l dC dI cL cI qm v x2 u3 hu3) (cwV 1 hw (gV w_534 w_536 wp_8 w_2 w_537) rfl rfl rfl (by decide +kernel) ⟨Nat.le_of_ble_eq_true rfl, Nat.le_of_ble_eq_true rfl⟩) ⟨rd_blind, va_recv hK hPm (ci := 2) (q0 := 0) rfl rfl, rd_pre hPm hK⟩ rfl rfl hl.1 rfl (lv_room (Nat.le_of_ble_eq_true rfl)) dM_nearer_11 ⟨Nat.le_of_ble_eq_true rfl, Nat.le_of_ble_eq_true rfl⟩)) (fun z hz => ?_)
    rw [hz]; clear hz
    refine lv_if_ne (tgt := 21) hx hb dM_nearer_14 (by decide) (fun c4 => ?_) (fun c4 => ?_)
    · have h := it_f c4 h
      refine lv_aload_n hx hb dM_nearer_21 rfl (lv_at hl 0 rfl) ?_
      refine lv_iload_n hx hb dM_nearer_22 rfl (lv_at hl 1 rfl) ?_
      obtain ⟨u5, hu5, h⟩ := ob_some h
      refine vp_callSi (va_Run.run (va_runV (As := [.int x1]) (rest := [.ref (qm 0)]) ⟨hx, hb, hml, hown, hw⟩ (k_M_isWhole l dC dI cL cI qm v x1 u5 hu5) (cwV 1 hw (gV w_595 w_597 wp_16 w_2 w_598) rfl rfl rfl (by decide +kernel) ⟨Nat.le_of_ble_eq_true rfl, Nat.le_of_ble_eq_true rfl⟩) ⟨rd_blind, va_recv hK hPm (ci := 2) (q0 := 0) rfl rfl, rd_pre hPm hK⟩ rfl rfl hl.1 rfl (lv_room (Nat.le_of_ble_eq_true rfl)) dM_nearer_23 ⟨Nat.le_of_ble_eq_true rfl, Nat.le_of_ble_eq_true rfl⟩)) (fun z hz => ?_)
      rw [hz]; clear hz
      refine lv_if_eq (tgt := 37) hx hb dM_nearer_26 (by decide) (fun c6 => ?_) (fun c6 => ?_)
      · have h := it_t c6 h
        exact k37 v x1 x2 x3 h H locs hPm hD hS ls (lv_sub hl [0, 1, 2, 3] rfl)
      · have h := it_f c6 h
        refine lv_aload_n hx hb dM_nearer_29 rfl (lv_at hl 0 rfl) ?_
        refine lv_iload_n hx hb dM_nearer_30 rfl (lv_at hl 2 rfl) ?_
        obtain ⟨u7, hu7, h⟩ := ob_some h
        refine vp_callSi (va_Run.run (va_runV (As := [.int x2]) (rest := [.ref (qm 0)]) ⟨hx, hb, hml, hown, hw⟩ (k_M_isWhole l dC dI cL cI qm v x2 u7 hu7) (cwV 1 hw (gV w_595 w_597 wp_16 w_2 w_598) rfl rfl rfl (by decide +kernel) ⟨Nat.le_of_ble_eq_true rfl, Nat.le_of_ble_eq_true rfl⟩) ⟨rd_blind, va_recv hK hPm (ci := 2) (q0 := 0) rfl rfl, rd_pre hPm hK⟩ rfl rfl hl.1 rfl (lv_room (Nat.le_of_ble_eq_true rfl)) dM_nearer_31 ⟨Nat.le_of_ble_eq_true rfl, Nat.le_of_ble_eq_true rfl⟩)) (fun z hz => ?_)
        rw [hz]; clear hz
        refine lv_if_ne (tgt := 41) hx hb dM_nearer_34 (by decide) (fun c8 => ?_) (fun c8 => ?_)
        · have h := it_f c8 h
          refine lv_lload_n hx hb dM_nearer_41 rfl (lv_at hl 3 rfl) ?_
          obtain ⟨u9, hu9, h⟩ := ob_some h
          refine vp_callSi (va_Run.run (va_runS (As := [.long x3]) (rest := [.ref (qm 0)]) ⟨hx, hb, hml, hown, hw⟩ (k_M_isRadius l dC dI cL cI x3 u9 hu9) (va_cwS 1 hw (gS w_504 w_505 w_2 w_506) rfl rfl rfl (by decide +kernel) ⟨Nat.le_of_ble_eq_true rfl, Nat.le_of_ble_eq_true rfl⟩) ⟨rd_blind, rd_pre trivial hK⟩ rfl rfl hl.1 rfl (lv_room (Nat.le_of_ble_eq_true rfl)) dM_nearer_42 ⟨Nat.le_of_ble_eq_true rfl, Nat.le_of_ble_eq_true rfl⟩)) (fun z hz => ?_)
          rw [hz]; clear hz
          refine lv_if_eq (tgt := 52) hx hb dM_nearer_45 (by decide) (fun c10 => ?_) (fun c10 => ?_)
          · have h := it_t c10 h
            refine lv_iconst (v := 3) hx hb dM_nearer_52 (by decide) ?_
            exact k53 v x1 x2 x3 (3 : Int32) h H locs hPm hD hS ls (lv_sub hl [0, 1, 2, 3] rfl)
          · have h := it_f c10 h
            refine lv_iconst (v := 0) hx hb dM_nearer_48 (by decide) ?_
            refine lv_goto (tgt := 53) hx hb dM_nearer_49 (by decide) ?_
            exact k53 v x1 x2 x3 (0 : Int32) h H locs hPm hD hS ls (lv_sub hl [0, 1, 2, 3] rfl)
        · have h := it_t c8 h
          exact k37 v x1 x2 x3 h H locs hPm hD hS ls (lv_sub hl [0, 1, 2, 3] rfl)
    · have h := it_t c4 h
      exact k17 v x1 x2 x3 h H locs hPm hD hS ls (lv_sub hl [0, 1, 2, 3] rfl)
theorem dM_inside_0 : decode cM_inside 0 = .ok (.aload_n 0, 1) := by decide +kernel
theorem dM_inside_1 : decode cM_inside 1 = .ok (.aload_n 0, 1) := by decide +kernel
theorem dM_inside_2 : decode cM_inside 2 = .ok (.iload_n 1, 1) := by decide +kernel
theorem dM_inside_3 : decode cM_inside 3 = .ok (.invokevirtual 87, 3) := by decide +kernel
theorem dM_inside_6 : decode cM_inside 6 = .ok (.ifCond .ne 7, 3) := by decide +kernel
theorem dM_inside_9 : decode cM_inside 9 = .ok (.iconst 1, 1) := by decide +kernel
theorem dM_inside_10 : decode cM_inside 10 = .ok (.goto 29, 3) := by decide +kernel
theorem dM_inside_13 : decode cM_inside 13 = .ok (.aload_n 0, 1) := by decide +kernel
theorem dM_inside_14 : decode cM_inside 14 = .ok (.iload_n 1, 1) := by decide +kernel
theorem dM_inside_15 : decode cM_inside 15 = .ok (.invokevirtual 177, 3) := by decide +kernel
theorem dM_inside_18 : decode cM_inside 18 = .ok (.ifCond .ne 7, 3) := by decide +kernel
theorem dM_inside_21 : decode cM_inside 21 = .ok (.iconst 2, 1) := by decide +kernel
theorem dM_inside_22 : decode cM_inside 22 = .ok (.goto 17, 3) := by decide +kernel
theorem dM_inside_25 : decode cM_inside 25 = .ok (.lload_n 2, 1) := by decide +kernel
theorem dM_inside_26 : decode cM_inside 26 = .ok (.lload 4, 2) := by decide +kernel
theorem dM_inside_28 : decode cM_inside 28 = .ok (.invokestatic 67, 3) := by decide +kernel
theorem dM_inside_31 : decode cM_inside 31 = .ok (.ifCond .eq 7, 3) := by decide +kernel
theorem dM_inside_34 : decode cM_inside 34 = .ok (.iconst 0, 1) := by decide +kernel
theorem dM_inside_35 : decode cM_inside 35 = .ok (.goto 4, 3) := by decide +kernel
theorem dM_inside_38 : decode cM_inside 38 = .ok (.iconst 3, 1) := by decide +kernel
theorem dM_inside_39 : decode cM_inside 39 = .ok (.putfield 50, 3) := by decide +kernel
theorem dM_inside_42 : decode cM_inside 42 = .ok (.aload_n 0, 1) := by decide +kernel
theorem dM_inside_43 : decode cM_inside 43 = .ok (.getfield 50, 3) := by decide +kernel
theorem dM_inside_46 : decode cM_inside 46 = .ok (.ifCond .eq 5, 3) := by decide +kernel
theorem dM_inside_49 : decode cM_inside 49 = .ok (.iconst 0, 1) := by decide +kernel
theorem dM_inside_50 : decode cM_inside 50 = .ok (.ireturn, 1) := by decide +kernel
theorem dM_inside_51 : decode cM_inside 51 = .ok (.aload_n 0, 1) := by decide +kernel
theorem dM_inside_52 : decode cM_inside 52 = .ok (.iconst 0, 1) := by decide +kernel
theorem dM_inside_53 : decode cM_inside 53 = .ok (.iload_n 1, 1) := by decide +kernel
theorem dM_inside_54 : decode cM_inside 54 = .ok (.invokevirtual 165, 3) := by decide +kernel
theorem dM_inside_57 : decode cM_inside 57 = .ok (.aload_n 0, 1) := by decide +kernel
theorem dM_inside_58 : decode cM_inside 58 = .ok (.iconst 0, 1) := by decide +kernel
theorem dM_inside_59 : decode cM_inside 59 = .ok (.iload_n 1, 1) := by decide +kernel
theorem dM_inside_60 : decode cM_inside 60 = .ok (.lload_n 2, 1) := by decide +kernel
theorem dM_inside_61 : decode cM_inside 61 = .ok (.lload 4, 2) := by decide +kernel
theorem dM_inside_63 : decode cM_inside 63 = .ok (.invokevirtual 161, 3) := by decide +kernel
theorem dM_inside_66 : decode cM_inside 66 = .ok (.ifCond .eq 5, 3) := by decide +kernel
theorem dM_inside_69 : decode cM_inside 69 = .ok (.iconst 1, 1) := by decide +kernel
theorem dM_inside_70 : decode cM_inside 70 = .ok (.ireturn, 1) := by decide +kernel
theorem dM_inside_71 : decode cM_inside 71 = .ok (.iconst 0, 1) := by decide +kernel
theorem dM_inside_72 : decode cM_inside 72 = .ok (.istore 6, 2) := by decide +kernel
theorem dM_inside_74 : decode cM_inside 74 = .ok (.iload 6, 2) := by decide +kernel
theorem dM_inside_76 : decode cM_inside 76 = .ok (.aload_n 0, 1) := by decide +kernel
theorem dM_inside_77 : decode cM_inside 77 = .ok (.getfield 44, 3) := by decide +kernel
theorem dM_inside_80 : decode cM_inside 80 = .ok (.iconst 0, 1) := by decide +kernel
theorem dM_inside_81 : decode cM_inside 81 = .ok (.iaload, 1) := by decide +kernel
theorem dM_inside_82 : decode cM_inside 82 = .ok (.if_icmp .ge 55, 3) := by decide +kernel
theorem dM_inside_85 : decode cM_inside 85 = .ok (.aload_n 0, 1) := by decide +kernel
theorem dM_inside_86 : decode cM_inside 86 = .ok (.lload_n 2, 1) := by decide +kernel
theorem dM_inside_87 : decode cM_inside 87 = .ok (.lload 4, 2) := by decide +kernel
theorem dM_inside_89 : decode cM_inside 89 = .ok (.aload_n 0, 1) := by decide +kernel
theorem dM_inside_90 : decode cM_inside 90 = .ok (.getfield 32, 3) := by decide +kernel
theorem dM_inside_93 : decode cM_inside 93 = .ok (.iload 6, 2) := by decide +kernel
theorem dM_inside_95 : decode cM_inside 95 = .ok (.laload, 1) := by decide +kernel
theorem dM_inside_96 : decode cM_inside 96 = .ok (.aload_n 0, 1) := by decide +kernel
theorem dM_inside_97 : decode cM_inside 97 = .ok (.getfield 35, 3) := by decide +kernel
theorem dM_inside_100 : decode cM_inside 100 = .ok (.iload 6, 2) := by decide +kernel
theorem dM_inside_102 : decode cM_inside 102 = .ok (.laload, 1) := by decide +kernel
theorem dM_inside_103 : decode cM_inside 103 = .ok (.aload_n 0, 1) := by decide +kernel
theorem dM_inside_104 : decode cM_inside 104 = .ok (.getfield 38, 3) := by decide +kernel
theorem dM_inside_107 : decode cM_inside 107 = .ok (.iload 6, 2) := by decide +kernel
theorem dM_inside_109 : decode cM_inside 109 = .ok (.laload, 1) := by decide +kernel
theorem dM_inside_110 : decode cM_inside 110 = .ok (.aload_n 0, 1) := by decide +kernel
theorem dM_inside_111 : decode cM_inside 111 = .ok (.getfield 41, 3) := by decide +kernel
theorem dM_inside_114 : decode cM_inside 114 = .ok (.iload 6, 2) := by decide +kernel
theorem dM_inside_116 : decode cM_inside 116 = .ok (.laload, 1) := by decide +kernel
theorem dM_inside_117 : decode cM_inside 117 = .ok (.aload_n 0, 1) := by decide +kernel
theorem dM_inside_118 : decode cM_inside 118 = .ok (.getfield 13, 3) := by decide +kernel
theorem dM_inside_121 : decode cM_inside 121 = .ok (.iload_n 1, 1) := by decide +kernel
theorem dM_inside_122 : decode cM_inside 122 = .ok (.laload, 1) := by decide +kernel
theorem dM_inside_123 : decode cM_inside 123 = .ok (.invokevirtual 157, 3) := by decide +kernel
theorem dM_inside_126 : decode cM_inside 126 = .ok (.ifCond .gt 5, 3) := by decide +kernel
theorem dM_inside_129 : decode cM_inside 129 = .ok (.iconst 1, 1) := by decide +kernel
theorem dM_inside_130 : decode cM_inside 130 = .ok (.ireturn, 1) := by decide +kernel
theorem dM_inside_131 : decode cM_inside 131 = .ok (.iinc 6 1, 3) := by decide +kernel
theorem dM_inside_134 : decode cM_inside 134 = .ok (.goto (-60), 3) := by decide +kernel
theorem dM_inside_137 : decode cM_inside 137 = .ok (.iconst 0, 1) := by decide +kernel
theorem dM_inside_138 : decode cM_inside 138 = .ok (.ireturn, 1) := by decide +kernel
def f_M_inside_l74 : Nat → MV → Int32 → Int64 → Int64 → Int32 → Option (Int32 × MV)
 | 0, _, _, _, _, _ => none
 | n + 1, vv, p1, p2, p4, p6 => (ld 2 (md_size vv) (0 : Int32)).bind fun u12 => (if u12 ≤ p6 then (rb (0 : Int32)).bind fun uz => some (uz, vv) else (ld 96 (md_ax vv) p6).bind fun u14 => (ld 96 (md_ay vv) p6).bind fun u15 => (ld 96 (md_bx vv) p6).bind fun u16 => (ld 96 (md_by vv) p6).bind fun u17 => (ld 40 (md_radii vv) p1).bind fun u18 => (f_M_farther vv p2 p4 u14 u15 u16 u17 u18).bind fun u19 => (if 0 < u19.1 then ((f_M_inside_l74 n) u19.2 p1 p2 p4 (p6 + 1)) else (rb (1 : Int32)).bind fun uz => some (uz, u19.2)))
def f_M_inside_j39 (vv : MV) (p1 : Int32) (p2 : Int64) (p4 : Int64) (s1 : Int32) : Option (Int32 × MV) := (some (ms_thrown vv s1)).bind fun v7 => (if (md_thrown v7) = 0 then (f_M_pieces v7 (0 : Int32) p1).bind fun u9 => (f_M_isInCore u9 (0 : Int32) p1 p2 p4).bind fun u10 => (if u10 = 0 then (f_M_inside_l74 64 u9 p1 p2 p4 (0 : Int32)) else (rb (1 : Int32)).bind fun uz => some (uz, u9)) else (rb (0 : Int32)).bind fun uz => some (uz, v7))
def f_M_inside (v : MV) (x1 : Int32) (x2 : Int64) (x4 : Int64) : Option (Int32 × MV) := (f_M_isShape v x1).bind fun u1 => (if u1 = 0 then (f_M_inside_j39 v x1 x2 x4 (1 : Int32)) else (f_M_isWhole v x1).bind fun u3 => (if u3 = 0 then (f_M_inside_j39 v x1 x2 x4 (2 : Int32)) else (f_M_isPlace x2 x4).bind fun u5 => (if u5 = 0 then (f_M_inside_j39 v x1 x2 x4 (3 : Int32)) else (f_M_inside_j39 v x1 x2 x4 (0 : Int32)))))
set_option maxHeartbeats 4000000 in
set_option maxRecDepth 100000 in
theorem k_M_inside (l : Launch) (dC : Nat → ClassId) (dI : Nat → Nat → Nat) (cL cI : ClassId) (qm : Nat → Nat) (v : MV) (x1 : Int32) (x2 : Int64) (x4 : Int64) (r : (Int32 × MV)) (h : f_M_inside v x1 x2 x4 = some r) : Met l yM_inside wsM_inside ({ frames := 4, cells := 0, slots := 0, locals := 118 }) (rd_Pc [.ref (qm 0), .int x1, .long x2, .long x4] (fun H => va_P (dC, dI) cls3 (mdW cL cI qm v) H ∧ va_D (inQ qm) (mdW cL cI qm v)) (dC, dI) cls3 [(cL, .long), (cI, .int)]) (mu_Q (some (.int r.1)) (dC, dI) cls3 (mdW cL cI qm r.2) (inQ qm)) 0 0 (inQ qm) := by
  refine Met.ofW (cc := cM_inside) (maxL := 7) (ret := (some .boolean)) (by decide) rfl ?_
  intro p e s m args below meth c s₁ B hml hv
  obtain ⟨rfl, ⟨hPm, hD⟩, hK⟩ := hv
  have hx := B.exec
  have hb := B.bytes
  have hr := B.returns
  have hw : ∀ w ∈ wG, w.before ([.ref (qm 0), .int x1, .long x2, .long x4] : List Value).toArray s = true := fun w hq => atoms_spec (ws := wsM_inside) B.pre w (List.mem_cons_of_mem _ hq)
  have hown : s.vm.findClass R_M = some m.cls := findClass_of_methodNamed B.named
  have hlocks := B.notSynchronized
  have hl := lv_entry ([.ref (qm 0), .int x1, .long x2, .long x4] : List Value) (n := 7) (Nat.le_of_ble_eq_true rfl)
  rw [lg_entry_eq]
  generalize (lg_sl ([.ref (qm 0), .int x1, .long x2, .long x4] : List Value) ++ List.replicate (7 - (lg_sl ([.ref (qm 0), .int x1, .long x2, .long x4] : List Value)).length) Slot.unset).toArray = ls at hl ⊢
  have hl : lv_has ls 7 [(0, .ref (qm 0)), (1, .int x1), (2, .long x2), (4, .long x4)] := hl
  have k74 : ∀ (n74 : Nat), ∀ (vv : MV) (p1 : Int32) (p2 : Int64) (p4 : Int64) (p6 : Int32), f_M_inside_l74 n74 vv p1 p2 p4 p6 = some r → ∀ (H : Heap) (locs : List Loc), va_P (dC, dI) cls3 (mdW cL cI qm vv) H → va_D (inQ qm) (mdW cL cI qm vv) → va_S (inQ qm) s.heap H locs → ∀ (ls : Array Slot), lv_has ls 7 [(0, .ref (qm 0)), (1, .int p1), (2, .long p2), (4, .long p4), (6, .int p6)] → W p l e (headSpec wsM_inside ({ frames := 4, cells := 0, slots := 0, locals := 118 })).room s m ([.ref (qm 0), .int x1, .long x2, .long x4] : List Value).toArray below meth c H locs 0 0 (MQ below (mu_Q (some (.int r.1)) (dC, dI) cls3 (mdW cL cI qm r.2) (inQ qm)) ([.ref (qm 0), .int x1, .long x2, .long x4] : List Value).toArray s 0 0 (inQ qm)) (F0 m 74 ls []) := by
    intro n74
    induction n74 with
    | zero => intro vv p1 p2 p4 p6 h; exact absurd h (by simp [f_M_inside_l74])
    | succ n74 ih74 =>
      intro vv p1 p2 p4 p6 h H locs hPm hD hS ls hl
      rw [f_M_inside_l74] at h
      refine lv_iload hx hb dM_inside_74 (lv_at hl 4 rfl) ?_
      refine lv_aload_n hx hb dM_inside_76 rfl (lv_at hl 0 rfl) ?_
      refine va_get (D := (dC, dI)) (ci := 2) (v := .ref (qm 12)) (C := R_M) (T := T_M) (N := 15) hx hb hw in_M hown hK hPm 0 rfl rfl 13 (by decide) (hw _ w_458) (fun _ h9 => h9) rfl dM_inside_77 ?_
      refine lv_iconst (v := 0) hx hb dM_inside_80 (by decide) ?_
      obtain ⟨u12, hu12, h⟩ := ob_some h
      obtain ⟨hiu12, eu12⟩ := ld_of hu12
      refine va_iald hx hb hK hPm 12 1 rfl rfl hiu12 dM_inside_81 ?_
      rw [eu12]
      refine lv_icmp_ge (tgt := 137) hx hb dM_inside_82 (by decide) (fun c13 => ?_) (fun c13 => ?_)
      · have h := it_t c13 h
        refine lv_iconst (v := 0) hx hb dM_inside_137 (by decide) ?_
        obtain ⟨uz, huz, h⟩ := ob_some h
        obtain ⟨hz, hr9⟩ := rb_of huz
        have h := Option.some.inj h
        subst hr9
        subst h
        exact W.zret hx hb hr hz (fun t ht hW => ⟨rfl, by rw [ht]; exact hPm, hS.F ht⟩) hS.2.2 dM_inside_138
      · have h := it_f c13 h
        refine lv_aload_n hx hb dM_inside_85 rfl (lv_at hl 0 rfl) ?_
        refine lv_lload_n hx hb dM_inside_86 rfl (lv_at hl 2 rfl) ?_
        refine lv_lload hx hb dM_inside_87 (lv_at hl 3 rfl) ?_
        refine lv_aload_n hx hb dM_inside_89 rfl (lv_at hl 0 rfl) ?_
        refine va_get (D := (dC, dI)) (ci := 2) (v := .ref (qm 8)) (C := R_M) (T := T_M) (N := 15) hx hb hw in_M hown hK hPm 0 rfl rfl 9 (by decide) (hw _ w_454) (fun _ h9 => h9) rfl dM_inside_90 ?_
        refine lv_iload hx hb dM_inside_93 (lv_at hl 4 rfl) ?_
        obtain ⟨u14, hu14, h⟩ := ob_some h
        obtain ⟨hiu14, eu14⟩ := ld_of hu14
        refine va_lald hx hb hK hPm 8 0 rfl rfl hiu14 dM_inside_95 ?_
        rw [eu14]
        refine lv_aload_n hx hb dM_inside_96 rfl (lv_at hl 0 rfl) ?_
        refine va_get (D := (dC, dI)) (ci := 2) (v := .ref (qm 9)) (C := R_M) (T := T_M) (N := 15) hx hb hw in_M hown hK hPm 0 rfl rfl 10 (by decide) (hw _ w_455) (fun _ h9 => h9) rfl dM_inside_97 ?_
        refine lv_iload hx hb dM_inside_100 (lv_at hl 4 rfl) ?_
        obtain ⟨u15, hu15, h⟩ := ob_some h
        obtain ⟨hiu15, eu15⟩ := ld_of hu15
        refine va_lald hx hb hK hPm 9 0 rfl rfl hiu15 dM_inside_102 ?_
        rw [eu15]
        refine lv_aload_n hx hb dM_inside_103 rfl (lv_at hl 0 rfl) ?_
        refine va_get (D := (dC, dI)) (ci := 2) (v := .ref (qm 10)) (C := R_M) (T := T_M) (N := 15) hx hb hw in_M hown hK hPm 0 rfl rfl 11 (by decide) (hw _ w_456) (fun _ h9 => h9) rfl dM_inside_104 ?_
        refine lv_iload hx hb dM_inside_107 (lv_at hl 4 rfl) ?_
        obtain ⟨u16, hu16, h⟩ := ob_some h
        obtain ⟨hiu16, eu16⟩ := ld_of hu16
        refine va_lald hx hb hK hPm 10 0 rfl rfl hiu16 dM_inside_109 ?_
        rw [eu16]
        refine lv_aload_n hx hb dM_inside_110 rfl (lv_at hl 0 rfl) ?_
        refine va_get (D := (dC, dI)) (ci := 2) (v := .ref (qm 11)) (C := R_M) (T := T_M) (N := 15) hx hb hw in_M hown hK hPm 0 rfl rfl 12 (by decide) (hw _ w_457) (fun _ h9 => h9) rfl dM_inside_111 ?_
        refine lv_iload hx hb dM_inside_114 (lv_at hl 4 rfl) ?_
        obtain ⟨u17, hu17, h⟩ := ob_some h
        obtain ⟨hiu17, eu17⟩ := ld_of hu17
        refine va_lald hx hb hK hPm 11 0 rfl rfl hiu17 dM_inside_116 ?_
        rw [eu17]
        refine lv_aload_n hx hb dM_inside_117 rfl (lv_at hl 0 rfl) ?_
        refine va_get (D := (dC, dI)) (ci := 2) (v := .ref (qm 2)) (C := R_M) (T := T_M) (N := 15) hx hb hw in_M hown hK hPm 0 rfl rfl 3 (by decide) (hw _ w_448) (fun _ h9 => h9) rfl dM_inside_118 ?_
        refine lv_iload_n hx hb dM_inside_121 rfl (lv_at hl 1 rfl) ?_
        obtain ⟨u18, hu18, h⟩ := ob_some h
        obtain ⟨hiu18, eu18⟩ := ld_of hu18
        refine va_lald hx hb hK hPm 2 0 rfl rfl hiu18 dM_inside_122 ?_
        rw [eu18]
        obtain ⟨u19, hu19, h⟩ := ob_some h
        refine mu_call (va_runV (As := [.long p2, .long p4, .long u14, .long u15, .long u16, .long u17, .long u18]) (rest := []) ⟨hx, hb, hml, hown, hw⟩ (k_M_farther l dC dI cL cI qm vv p2 p4 u14 u15 u16 u17 u18 u19 hu19) (cwV 7 hw (gV w_627 w_629 wp_24 w_2 w_630) rfl rfl rfl (by decide +kernel) ⟨Nat.le_of_ble_eq_true rfl, Nat.le_of_ble_eq_true rfl⟩) ⟨rd_blind, va_recv hK hPm (ci := 2) (q0 := 0) rfl rfl, rd_pre ⟨hPm, hD⟩ hK⟩ rfl rfl hl.1 rfl (lv_room (Nat.le_of_ble_eq_true rfl)) dM_inside_123 ⟨Nat.le_of_ble_eq_true rfl, Nat.le_of_ble_eq_true rfl⟩) hS (fun _ z => z) (fun H locs hPm hS _ _ => ?_)
        have hD := md_D (u19.2) hD
        refine lv_if_gt (tgt := 131) hx hb dM_inside_126 (by decide) (fun c20 => ?_) (fun c20 => ?_)
        · have h := it_t c20 h
          refine lv_iinc (v := p6 + 1) (lv' := [(6, .int (p6 + 1)), (0, .ref (qm 0)), (1, .int p1), (2, .long p2), (4, .long p4)]) hx hb dM_inside_131 hl (k := 4) rfl rfl (by decide) rfl (fun ls hl => ?_)
          refine lv_goto (tgt := 74) hx hb dM_inside_134 (by decide) ?_
          exact ih74 u19.2 p1 p2 p4 (p6 + 1) h H locs hPm hD hS ls (lv_sub hl [1, 2, 3, 4, 0] rfl)
        · have h := it_f c20 h
          refine lv_iconst (v := 1) hx hb dM_inside_129 (by decide) ?_
          obtain ⟨uz, huz, h⟩ := ob_some h
          obtain ⟨hz, hr9⟩ := rb_of huz
          have h := Option.some.inj h
          subst hr9
          subst h
          exact W.zret hx hb hr hz (fun t ht hW => ⟨rfl, by rw [ht]; exact hPm, hS.F ht⟩) hS.2.2 dM_inside_130
  have k39 : ∀ (vv : MV) (p1 : Int32) (p2 : Int64) (p4 : Int64) (s1 : Int32), f_M_inside_j39 vv p1 p2 p4 s1 = some r → ∀ (H : Heap) (locs : List Loc), va_P (dC, dI) cls3 (mdW cL cI qm vv) H → va_D (inQ qm) (mdW cL cI qm vv) → va_S (inQ qm) s.heap H locs → ∀ (ls : Array Slot), lv_has ls 7 [(0, .ref (qm 0)), (1, .int p1), (2, .long p2), (4, .long p4)] → W p l e (headSpec wsM_inside ({ frames := 4, cells := 0, slots := 0, locals := 118 })).room s m ([.ref (qm 0), .int x1, .long x2, .long x4] : List Value).toArray below meth c H locs 0 0 (MQ below (mu_Q (some (.int r.1)) (dC, dI) cls3 (mdW cL cI qm r.2) (inQ qm)) ([.ref (qm 0), .int x1, .long x2, .long x4] : List Value).toArray s 0 0 (inQ qm)) (F0 m 39 ls [.int s1, .ref (qm 0)]) := by
    intro vv p1 p2 p4 s1 h H locs hPm hD hS ls hl
    unfold f_M_inside_j39 at h
    refine va_put (D := (dC, dI)) (ci := 2) (v := .int s1) (ty := .int) (C := R_M) (T := T_M) (N := 15) hx hb hw in_M t_M t_M_ok nm_M hown hK hPm hD hS 0 rfl rfl 0 (by decide) (hw _ w_445) (fun _ h9 => h9) rfl (by decide +kernel) rfl rfl (Nat.le_of_ble_eq_true rfl) dM_inside_39 (fun H locs hPm hD hS => ?_)
    obtain ⟨v7, hv7, h⟩ := ob_some h
    have hPm : va_P (dC, dI) cls3 (mdW cL cI qm (ms_thrown vv s1)) H := hPm
    have hD : va_D (inQ qm) (mdW cL cI qm (ms_thrown vv s1)) := hD
    rw [Option.some.inj hv7] at hPm hD
    refine lv_aload_n hx hb dM_inside_42 rfl (lv_at hl 0 rfl) ?_
    refine va_get (D := (dC, dI)) (ci := 2) (v := .int (md_thrown v7)) (C := R_M) (T := T_M) (N := 15) hx hb hw in_M hown hK hPm 0 rfl rfl 0 (by decide) (hw _ w_445) (fun _ h9 => h9) rfl dM_inside_43 ?_
    refine lv_if_eq (tgt := 51) hx hb dM_inside_46 (by decide) (fun c8 => ?_) (fun c8 => ?_)
    · have h := it_t c8 h
      refine lv_aload_n hx hb dM_inside_51 rfl (lv_at hl 0 rfl) ?_
      refine lv_iconst (v := 0) hx hb dM_inside_52 (by decide) ?_
      refine lv_iload_n hx hb dM_inside_53 rfl (lv_at hl 1 rfl) ?_
      obtain ⟨u9, hu9, h⟩ := ob_some h
      refine mu_call (va_runV (As := [.int (0 : Int32), .int p1]) (rest := []) ⟨hx, hb, hml, hown, hw⟩ (k_M_pieces l dC dI cL cI qm v7 (0 : Int32) p1 u9 hu9) (cwV 2 hw (gV w_603 w_605 wp_18 w_2 w_606) rfl rfl rfl (by decide +kernel) ⟨Nat.le_of_ble_eq_true rfl, Nat.le_of_ble_eq_true rfl⟩) ⟨rd_blind, va_recv hK hPm (ci := 2) (q0 := 0) rfl rfl, rd_pre ⟨hPm, hD⟩ hK⟩ rfl rfl hl.1 rfl (lv_room (Nat.le_of_ble_eq_true rfl)) dM_inside_54 ⟨Nat.le_of_ble_eq_true rfl, Nat.le_of_ble_eq_true rfl⟩) hS (fun _ z => z) (fun H locs hPm hS _ _ => ?_)
      have hD := md_D (u9) hD
      refine lv_aload_n hx hb dM_inside_57 rfl (lv_at hl 0 rfl) ?_
      refine lv_iconst (v := 0) hx hb dM_inside_58 (by decide) ?_
      refine lv_iload_n hx hb dM_inside_59 rfl (lv_at hl 1 rfl) ?_
      refine lv_lload_n hx hb dM_inside_60 rfl (lv_at hl 2 rfl) ?_
      refine lv_lload hx hb dM_inside_61 (lv_at hl 3 rfl) ?_
      obtain ⟨u10, hu10, h⟩ := ob_some h
      refine vp_callSi (va_Run.run (va_runV (As := [.int (0 : Int32), .int p1, .long p2, .long p4]) (rest := []) ⟨hx, hb, hml, hown, hw⟩ (k_M_isInCore l dC dI cL cI qm u9 (0 : Int32) p1 p2 p4 u10 hu10) (cwV 4 hw (gV w_615 w_617 wp_21 w_2 w_618) rfl rfl rfl (by decide +kernel) ⟨Nat.le_of_ble_eq_true rfl, Nat.le_of_ble_eq_true rfl⟩) ⟨rd_blind, va_recv hK hPm (ci := 2) (q0 := 0) rfl rfl, rd_pre hPm hK⟩ rfl rfl hl.1 rfl (lv_room (Nat.le_of_ble_eq_true rfl)) dM_inside_63 ⟨Nat.le_of_ble_eq_true rfl, Nat.le_of_ble_eq_true rfl⟩)) (fun z hz => ?_)
      rw [hz]; clear hz
      refine lv_if_eq (tgt := 71) hx hb dM_inside_66 (by decide) (fun c11 => ?_) (fun c11 => ?_)
      · have h := it_t c11 h
        refine lv_iconst (v := 0) hx hb dM_inside_71 (by decide) ?_
        refine lv_istore (lv' := [(6, .int (0 : Int32)), (0, .ref (qm 0)), (1, .int p1), (2, .long p2), (4, .long p4)]) hx hb dM_inside_72 hl (by decide) rfl (fun ls hl => ?_)
        exact k74 64 u9 p1 p2 p4 (0 : Int32) h H locs hPm hD hS ls (lv_sub hl [1, 2, 3, 4, 0] rfl)
      · have h := it_f c11 h
        refine lv_iconst (v := 1) hx hb dM_inside_69 (by decide) ?_
        obtain ⟨uz, huz, h⟩ := ob_some h
        obtain ⟨hz, hr9⟩ := rb_of huz
        have h := Option.some.inj h
        subst hr9
        subst h
        exact W.zret hx hb hr hz (fun t ht hW => ⟨rfl, by rw [ht]; exact hPm, hS.F ht⟩) hS.2.2 dM_inside_70
    · have h := it_f c8 h
      refine lv_iconst (v := 0) hx hb dM_inside_49 (by decide) ?_
      obtain ⟨uz, huz, h⟩ := ob_some h
      obtain ⟨hz, hr9⟩ := rb_of huz
      have h := Option.some.inj h
      subst hr9
      subst h
      exact W.zret hx hb hr hz (fun t ht hW => ⟨rfl, by rw [ht]; exact hPm, hS.F ht⟩) hS.2.2 dM_inside_50
  have hS : va_S (inQ qm) s.heap s.heap [] := va_S.rf
  obtain ⟨H, hH⟩ : ∃ H : Heap, H = s.heap := ⟨_, rfl⟩
  obtain ⟨locs, hlocs⟩ : ∃ L : List Loc, L = [] := ⟨_, rfl⟩
  suffices hgo : W p l e (headSpec wsM_inside ({ frames := 4, cells := 0, slots := 0, locals := 118 })).room s m ([.ref (qm 0), .int x1, .long x2, .long x4] : List Value).toArray below meth c H locs 0 0 (MQ below (mu_Q (some (.int r.1)) (dC, dI) cls3 (mdW cL cI qm r.2) (inQ qm)) ([.ref (qm 0), .int x1, .long x2, .long x4] : List Value).toArray s 0 0 (inQ qm)) (F0 m 0 ls []) by rw [hH, hlocs] at hgo; exact hgo
  rw [← hH] at hPm
  have hS : va_S (inQ qm) s.heap H locs := by rw [hH, hlocs]; exact hS
  clear hH hlocs
  unfold f_M_inside at h
  refine lv_aload_n hx hb dM_inside_0 rfl (lv_at hl 0 rfl) ?_
  refine lv_aload_n hx hb dM_inside_1 rfl (lv_at hl 0 rfl) ?_
  refine lv_iload_n hx hb dM_inside_2 rfl (lv_at hl 1 rfl) ?_
  obtain ⟨u1, hu1, h⟩ := ob_some h
  refine vp_callSi (va_Run.run (va_runV (As := [.int x1]) (rest := [.ref (qm 0)]) ⟨hx, hb, hml, hown, hw⟩ (k_M_isShape l dC dI cL cI qm v x1 u1 hu1) (cwV 1 hw (gV w_534 w_536 wp_8 w_2 w_537) rfl rfl rfl (by decide +kernel) ⟨Nat.le_of_ble_eq_true rfl, Nat.le_of_ble_eq_true rfl⟩) ⟨rd_blind, va_recv hK hPm (ci := 2) (q0 := 0) rfl rfl, rd_pre hPm hK⟩ rfl rfl hl.1 rfl (lv_room (Nat.le_of_ble_eq_true rfl)) dM_inside_3 ⟨Nat.le_of_ble_eq_true rfl, Nat.le_of_ble_eq_true rfl⟩)) (fun z hz => ?_)
  rw [hz]; clear hz
  refine lv_if_ne (tgt := 13) hx hb dM_inside_6 (by decide) (fun c2 => ?_) (fun c2 => ?_)
  · have h := it_f c2 h
    refine lv_aload_n hx hb dM_inside_13 rfl (lv_at hl 0 rfl) ?_
    refine lv_iload_n hx hb dM_inside_14 rfl (lv_at hl 1 rfl) ?_
    obtain ⟨u3, hu3, h⟩ := ob_some h
    refine vp_callSi (va_Run.run (va_runV (As := [.int x1]) (rest := [.ref (qm 0)]) ⟨hx, hb, hml, hown, hw⟩ (k_M_isWhole l dC dI cL cI qm v x1 u3 hu3) (cwV 1 hw (gV w_595 w_597 wp_16 w_2 w_598) rfl rfl rfl (by decide +kernel) ⟨Nat.le_of_ble_eq_true rfl, Nat.le_of_ble_eq_true rfl⟩) ⟨rd_blind, va_recv hK hPm (ci := 2) (q0 := 0) rfl rfl, rd_pre hPm hK⟩ rfl rfl hl.1 rfl (lv_room (Nat.le_of_ble_eq_true rfl)) dM_inside_15 ⟨Nat.le_of_ble_eq_true rfl, Nat.le_of_ble_eq_true rfl⟩)) (fun z hz => ?_)
    rw [hz]; clear hz
    refine lv_if_ne (tgt := 25) hx hb dM_inside_18 (by decide) (fun c4 => ?_) (fun c4 => ?_)
    · have h := it_f c4 h
      refine lv_lload_n hx hb dM_inside_25 rfl (lv_at hl 2 rfl) ?_
      refine lv_lload hx hb dM_inside_26 (lv_at hl 3 rfl) ?_
      obtain ⟨u5, hu5, h⟩ := ob_some h
      refine vp_callSi (va_Run.run (va_runS (As := [.long x2, .long x4]) (rest := [.ref (qm 0)]) ⟨hx, hb, hml, hown, hw⟩ (k_M_isPlace l dC dI cL cI x2 x4 u5 hu5) (va_cwS 2 hw (gS w_499 w_500 w_2 w_501) rfl rfl rfl (by decide +kernel) ⟨Nat.le_of_ble_eq_true rfl, Nat.le_of_ble_eq_true rfl⟩) ⟨rd_blind, rd_pre trivial hK⟩ rfl rfl hl.1 rfl (lv_room (Nat.le_of_ble_eq_true rfl)) dM_inside_28 ⟨Nat.le_of_ble_eq_true rfl, Nat.le_of_ble_eq_true rfl⟩)) (fun z hz => ?_)
      rw [hz]; clear hz
      refine lv_if_eq (tgt := 38) hx hb dM_inside_31 (by decide) (fun c6 => ?_) (fun c6 => ?_)
      · have h := it_t c6 h
        refine lv_iconst (v := 3) hx hb dM_inside_38 (by decide) ?_
        exact k39 v x1 x2 x4 (3 : Int32) h H locs hPm hD hS ls (lv_sub hl [0, 1, 2, 3] rfl)
      · have h := it_f c6 h
        refine lv_iconst (v := 0) hx hb dM_inside_34 (by decide) ?_
        refine lv_goto (tgt := 39) hx hb dM_inside_35 (by decide) ?_
        exact k39 v x1 x2 x4 (0 : Int32) h H locs hPm hD hS ls (lv_sub hl [0, 1, 2, 3] rfl)
    · have h := it_t c4 h
      refine lv_iconst (v := 2) hx hb dM_inside_21 (by decide) ?_
      refine lv_goto (tgt := 39) hx hb dM_inside_22 (by decide) ?_
      exact k39 v x1 x2 x4 (2 : Int32) h H locs hPm hD hS ls (lv_sub hl [0, 1, 2, 3] rfl)
  · have h := it_t c2 h
    refine lv_iconst (v := 1) hx hb dM_inside_9 (by decide) ?_
    refine lv_goto (tgt := 39) hx hb dM_inside_10 (by decide) ?_
    exact k39 v x1 x2 x4 (1 : Int32) h H locs hPm hD hS ls (lv_sub hl [0, 1, 2, 3] rfl)
