/-! Shape: reading methods, laid by program -/
theorem dS_encloses_0 : decode cS_encloses 0 = .ok (.iconst 0, 1) := by decide +kernel
theorem dS_encloses_1 : decode cS_encloses 1 = .ok (.istore 5, 2) := by decide +kernel
theorem dS_encloses_3 : decode cS_encloses 3 = .ok (.iconst 0, 1) := by decide +kernel
theorem dS_encloses_4 : decode cS_encloses 4 = .ok (.istore 6, 2) := by decide +kernel
theorem dS_encloses_6 : decode cS_encloses 6 = .ok (.aload_n 0, 1) := by decide +kernel
theorem dS_encloses_7 : decode cS_encloses 7 = .ok (.getfield 15, 3) := by decide +kernel
theorem dS_encloses_10 : decode cS_encloses 10 = .ok (.ifCond .eq 103, 3) := by decide +kernel
theorem dS_encloses_13 : decode cS_encloses 13 = .ok (.iload 6, 2) := by decide +kernel
theorem dS_encloses_15 : decode cS_encloses 15 = .ok (.aload_n 0, 1) := by decide +kernel
theorem dS_encloses_16 : decode cS_encloses 16 = .ok (.getfield 34, 3) := by decide +kernel
theorem dS_encloses_19 : decode cS_encloses 19 = .ok (.if_icmp .ge 94, 3) := by decide +kernel
theorem dS_encloses_22 : decode cS_encloses 22 = .ok (.aload_n 0, 1) := by decide +kernel
theorem dS_encloses_23 : decode cS_encloses 23 = .ok (.getfield 27, 3) := by decide +kernel
theorem dS_encloses_26 : decode cS_encloses 26 = .ok (.iload 6, 2) := by decide +kernel
theorem dS_encloses_28 : decode cS_encloses 28 = .ok (.laload, 1) := by decide +kernel
theorem dS_encloses_29 : decode cS_encloses 29 = .ok (.lload_n 3, 1) := by decide +kernel
theorem dS_encloses_30 : decode cS_encloses 30 = .ok (.lcmp, 1) := by decide +kernel
theorem dS_encloses_31 : decode cS_encloses 31 = .ok (.ifCond .le 7, 3) := by decide +kernel
theorem dS_encloses_34 : decode cS_encloses 34 = .ok (.iconst 1, 1) := by decide +kernel
theorem dS_encloses_35 : decode cS_encloses 35 = .ok (.goto 4, 3) := by decide +kernel
theorem dS_encloses_38 : decode cS_encloses 38 = .ok (.iconst 0, 1) := by decide +kernel
theorem dS_encloses_39 : decode cS_encloses 39 = .ok (.istore 7, 2) := by decide +kernel
theorem dS_encloses_41 : decode cS_encloses 41 = .ok (.aload_n 0, 1) := by decide +kernel
theorem dS_encloses_42 : decode cS_encloses 42 = .ok (.getfield 27, 3) := by decide +kernel
theorem dS_encloses_45 : decode cS_encloses 45 = .ok (.aload_n 0, 1) := by decide +kernel
theorem dS_encloses_46 : decode cS_encloses 46 = .ok (.getfield 30, 3) := by decide +kernel
theorem dS_encloses_49 : decode cS_encloses 49 = .ok (.iload 6, 2) := by decide +kernel
theorem dS_encloses_51 : decode cS_encloses 51 = .ok (.iaload, 1) := by decide +kernel
theorem dS_encloses_52 : decode cS_encloses 52 = .ok (.laload, 1) := by decide +kernel
theorem dS_encloses_53 : decode cS_encloses 53 = .ok (.lload_n 3, 1) := by decide +kernel
theorem dS_encloses_54 : decode cS_encloses 54 = .ok (.lcmp, 1) := by decide +kernel
theorem dS_encloses_55 : decode cS_encloses 55 = .ok (.ifCond .le 7, 3) := by decide +kernel
theorem dS_encloses_58 : decode cS_encloses 58 = .ok (.iconst 1, 1) := by decide +kernel
theorem dS_encloses_59 : decode cS_encloses 59 = .ok (.goto 4, 3) := by decide +kernel
theorem dS_encloses_62 : decode cS_encloses 62 = .ok (.iconst 0, 1) := by decide +kernel
theorem dS_encloses_63 : decode cS_encloses 63 = .ok (.istore 8, 2) := by decide +kernel
theorem dS_encloses_65 : decode cS_encloses 65 = .ok (.iload 7, 2) := by decide +kernel
theorem dS_encloses_67 : decode cS_encloses 67 = .ok (.iload 8, 2) := by decide +kernel
theorem dS_encloses_69 : decode cS_encloses 69 = .ok (.if_icmp .eq 38, 3) := by decide +kernel
theorem dS_encloses_72 : decode cS_encloses 72 = .ok (.aload_n 0, 1) := by decide +kernel
theorem dS_encloses_73 : decode cS_encloses 73 = .ok (.iload 6, 2) := by decide +kernel
theorem dS_encloses_75 : decode cS_encloses 75 = .ok (.lload_n 1, 1) := by decide +kernel
theorem dS_encloses_76 : decode cS_encloses 76 = .ok (.lload_n 3, 1) := by decide +kernel
theorem dS_encloses_77 : decode cS_encloses 77 = .ok (.invokevirtual 50, 3) := by decide +kernel
theorem dS_encloses_80 : decode cS_encloses 80 = .ok (.lconst 0, 1) := by decide +kernel
theorem dS_encloses_81 : decode cS_encloses 81 = .ok (.lcmp, 1) := by decide +kernel
theorem dS_encloses_82 : decode cS_encloses 82 = .ok (.ifCond .le 7, 3) := by decide +kernel
theorem dS_encloses_85 : decode cS_encloses 85 = .ok (.iconst 1, 1) := by decide +kernel
theorem dS_encloses_86 : decode cS_encloses 86 = .ok (.goto 4, 3) := by decide +kernel
theorem dS_encloses_89 : decode cS_encloses 89 = .ok (.iconst 0, 1) := by decide +kernel
theorem dS_encloses_90 : decode cS_encloses 90 = .ok (.iload 8, 2) := by decide +kernel
theorem dS_encloses_92 : decode cS_encloses 92 = .ok (.if_icmp .ne 15, 3) := by decide +kernel
theorem dS_encloses_95 : decode cS_encloses 95 = .ok (.iload 5, 2) := by decide +kernel
theorem dS_encloses_97 : decode cS_encloses 97 = .ok (.ifCond .ne 7, 3) := by decide +kernel
theorem dS_encloses_100 : decode cS_encloses 100 = .ok (.iconst 1, 1) := by decide +kernel
theorem dS_encloses_101 : decode cS_encloses 101 = .ok (.goto 4, 3) := by decide +kernel
theorem dS_encloses_104 : decode cS_encloses 104 = .ok (.iconst 0, 1) := by decide +kernel
theorem dS_encloses_105 : decode cS_encloses 105 = .ok (.istore 5, 2) := by decide +kernel
theorem dS_encloses_107 : decode cS_encloses 107 = .ok (.iinc 6 1, 3) := by decide +kernel
theorem dS_encloses_110 : decode cS_encloses 110 = .ok (.goto (-104), 3) := by decide +kernel
theorem dS_encloses_113 : decode cS_encloses 113 = .ok (.iload 5, 2) := by decide +kernel
theorem dS_encloses_115 : decode cS_encloses 115 = .ok (.ireturn, 1) := by decide +kernel
def f_S_encloses_j113 (v : SV) (p5 : Int32) : Option Int32 := rb p5
def f_S_encloses_j107 (v : SV) (K6 : Int64 → Int64 → Int32 → Int32 → Option Int32) (p1 : Int64) (p3 : Int64) (p5 : Int32) (p6 : Int32) : Option Int32 := (K6 p1 p3 p5 (p6 + 1))
def f_S_encloses_j105 (v : SV) (K6 : Int64 → Int64 → Int32 → Int32 → Option Int32) (p1 : Int64) (p3 : Int64) (p6 : Int32) (s0 : Int32) : Option Int32 := (f_S_encloses_j107 v K6 p1 p3 s0 p6)
def f_S_encloses_j90 (v : SV) (K6 : Int64 → Int64 → Int32 → Int32 → Option Int32) (p1 : Int64) (p3 : Int64) (p5 : Int32) (p6 : Int32) (p8 : Int32) (s0 : Int32) : Option Int32 := (if s0 = p8 then (if p5 = 0 then (f_S_encloses_j105 v K6 p1 p3 p6 (1 : Int32)) else (f_S_encloses_j105 v K6 p1 p3 p6 (0 : Int32))) else (f_S_encloses_j107 v K6 p1 p3 p5 p6))
def f_S_encloses_j63 (v : SV) (K6 : Int64 → Int64 → Int32 → Int32 → Option Int32) (p1 : Int64) (p3 : Int64) (p5 : Int32) (p6 : Int32) (p7 : Int32) (s0 : Int32) : Option Int32 := (if p7 = s0 then (f_S_encloses_j107 v K6 p1 p3 p5 p6) else (f_S_cross v p6 p1 p3).bind fun u9 => (if (lg_cmp u9 (0 : Int64)) ≤ 0 then (f_S_encloses_j90 v K6 p1 p3 p5 p6 s0 (0 : Int32)) else (f_S_encloses_j90 v K6 p1 p3 p5 p6 s0 (1 : Int32))))
def f_S_encloses_j39 (v : SV) (K6 : Int64 → Int64 → Int32 → Int32 → Option Int32) (p1 : Int64) (p3 : Int64) (p5 : Int32) (p6 : Int32) (s0 : Int32) : Option Int32 := (ld 48 (sE v) p6).bind fun u5 => (ld 48 (sY v) u5).bind fun u6 => (if (lg_cmp u6 p3) ≤ 0 then (f_S_encloses_j63 v K6 p1 p3 p5 p6 s0 (0 : Int32)) else (f_S_encloses_j63 v K6 p1 p3 p5 p6 s0 (1 : Int32)))
def f_S_encloses_l6 (v : SV) : Nat → Int64 → Int64 → Int32 → Int32 → Option Int32
 | 0, _, _, _, _ => none
 | n + 1, p1, p3, p5, p6 => (if (sB v) = 0 then (f_S_encloses_j113 v p5) else (if (sN v) ≤ p6 then (f_S_encloses_j113 v p5) else (ld 48 (sY v) p6).bind fun u3 => (if (lg_cmp u3 p3) ≤ 0 then (f_S_encloses_j39 v (f_S_encloses_l6 v n) p1 p3 p5 p6 (0 : Int32)) else (f_S_encloses_j39 v (f_S_encloses_l6 v n) p1 p3 p5 p6 (1 : Int32)))))
def f_S_encloses (v : SV) (x1 : Int64) (x3 : Int64) : Option Int32 := (f_S_encloses_l6 v 64 x1 x3 (0 : Int32) (0 : Int32))
set_option maxHeartbeats 4000000 in
set_option maxRecDepth 100000 in
theorem k_S_encloses (l : Launch) (dC : Nat → ClassId) (dI : Nat → Nat → Nat) (cL cI : ClassId) (a ax ay ae : Nat) (v : SV) (x1 : Int64) (x3 : Int64) (r : Int32) (h : f_S_encloses v x1 x3 = some r) : Met l yS_encloses wsS_encloses ({ frames := 1, cells := 0, slots := 0, locals := 26 }) (rd_Pc [.ref a, .long x1, .long x3] (fun H => va_P (dC, dI) cls3 (shW cL cI a ax ay ae v) H) (dC, dI) cls3 [(cL, .long), (cI, .int)]) (vp_Si (fun z => z = r)) 0 0 (fun _ => False) := by
  refine Met.ofW (cc := cS_encloses) (maxL := 9) (ret := (some .boolean)) (by decide) rfl ?_
  intro p e s m args below meth c s₁ B hml hv
  obtain ⟨rfl, hPa, hK⟩ := hv
  have hx := B.exec
  have hb := B.bytes
  have hr := B.returns
  have hw : ∀ w ∈ wG, w.before ([.ref a, .long x1, .long x3] : List Value).toArray s = true := fun w hq => atoms_spec (ws := wsS_encloses) B.pre w (List.mem_cons_of_mem _ hq)
  have hown : s.vm.findClass R_S = some m.cls := findClass_of_methodNamed B.named
  have hlocks := B.notSynchronized
  have hl := lv_entry ([.ref a, .long x1, .long x3] : List Value) (n := 9) (Nat.le_of_ble_eq_true rfl)
  rw [lg_entry_eq]
  generalize (lg_sl ([.ref a, .long x1, .long x3] : List Value) ++ List.replicate (9 - (lg_sl ([.ref a, .long x1, .long x3] : List Value)).length) Slot.unset).toArray = ls at hl ⊢
  have hl : lv_has ls 9 [(0, .ref a), (1, .long x1), (3, .long x3)] := hl
  have k113 : ∀ (p5 : Int32), f_S_encloses_j113 v p5 = some r →  ∀ (ls : Array Slot), lv_has ls 9 [(5, .int p5)] → W p l e (headSpec wsS_encloses ({ frames := 1, cells := 0, slots := 0, locals := 26 })).room s m ([.ref a, .long x1, .long x3] : List Value).toArray below meth c s.heap [] 0 0 (MQ below (vp_Si (fun z => z = r)) ([.ref a, .long x1, .long x3] : List Value).toArray s 0 0 (fun _ => False)) (F0 m 113 ls []) := by
    intro p5 h  ls hl
    unfold f_S_encloses_j113 at h
    refine lv_iload hx hb dS_encloses_113 (lv_at hl 0 rfl) ?_
    obtain ⟨hz, hr9⟩ := rb_of h
    exact W.zret hx hb hr hz (fun t ht hW => ⟨_, rfl, hr9, ht⟩) nil_locs dS_encloses_115
  have k6 : ∀ (n6 : Nat), ∀ (p1 : Int64) (p3 : Int64) (p5 : Int32) (p6 : Int32), f_S_encloses_l6 v n6 p1 p3 p5 p6 = some r →  ∀ (ls : Array Slot), lv_has ls 9 [(0, .ref a), (1, .long p1), (3, .long p3), (5, .int p5), (6, .int p6)] → W p l e (headSpec wsS_encloses ({ frames := 1, cells := 0, slots := 0, locals := 26 })).room s m ([.ref a, .long x1, .long x3] : List Value).toArray below meth c s.heap [] 0 0 (MQ below (vp_Si (fun z => z = r)) ([.ref a, .long x1, .long x3] : List Value).toArray s 0 0 (fun _ => False)) (F0 m 6 ls []) := by
    intro n6
    induction n6 with
    | zero => intro p1 p3 p5 p6 h; exact absurd h (by simp [f_S_encloses_l6])
    | succ n6 ih6 =>
      have k107 : ∀ (p1 : Int64) (p3 : Int64) (p5 : Int32) (p6 : Int32), f_S_encloses_j107 v (f_S_encloses_l6 v n6) p1 p3 p5 p6 = some r →  ∀ (ls : Array Slot), lv_has ls 9 [(0, .ref a), (1, .long p1), (3, .long p3), (5, .int p5), (6, .int p6)] → W p l e (headSpec wsS_encloses ({ frames := 1, cells := 0, slots := 0, locals := 26 })).room s m ([.ref a, .long x1, .long x3] : List Value).toArray below meth c s.heap [] 0 0 (MQ below (vp_Si (fun z => z = r)) ([.ref a, .long x1, .long x3] : List Value).toArray s 0 0 (fun _ => False)) (F0 m 107 ls []) := by
        intro p1 p3 p5 p6 h  ls hl
        unfold f_S_encloses_j107 at h
        refine lv_iinc (v := p6 + 1) (lv' := [(6, .int (p6 + 1)), (0, .ref a), (1, .long p1), (3, .long p3), (5, .int p5)]) hx hb dS_encloses_107 hl (k := 4) rfl rfl (by decide) rfl (fun ls hl => ?_)
        refine lv_goto (tgt := 6) hx hb dS_encloses_110 (by decide) ?_
        exact ih6 p1 p3 p5 (p6 + 1) h ls (lv_sub hl [1, 2, 3, 4, 0] rfl)
      have k105 : ∀ (p1 : Int64) (p3 : Int64) (p6 : Int32) (s0 : Int32), f_S_encloses_j105 v (f_S_encloses_l6 v n6) p1 p3 p6 s0 = some r →  ∀ (ls : Array Slot), lv_has ls 9 [(0, .ref a), (1, .long p1), (3, .long p3), (6, .int p6)] → W p l e (headSpec wsS_encloses ({ frames := 1, cells := 0, slots := 0, locals := 26 })).room s m ([.ref a, .long x1, .long x3] : List Value).toArray below meth c s.heap [] 0 0 (MQ below (vp_Si (fun z => z = r)) ([.ref a, .long x1, .long x3] : List Value).toArray s 0 0 (fun _ => False)) (F0 m 105 ls [.int s0]) := by
        intro p1 p3 p6 s0 h  ls hl
        unfold f_S_encloses_j105 at h
        refine lv_istore (lv' := [(5, .int s0), (0, .ref a), (1, .long p1), (3, .long p3), (6, .int p6)]) hx hb dS_encloses_105 hl (by decide) rfl (fun ls hl => ?_)
        exact k107 p1 p3 s0 p6 h ls (lv_sub hl [1, 2, 3, 0, 4] rfl)
      have k90 : ∀ (p1 : Int64) (p3 : Int64) (p5 : Int32) (p6 : Int32) (p8 : Int32) (s0 : Int32), f_S_encloses_j90 v (f_S_encloses_l6 v n6) p1 p3 p5 p6 p8 s0 = some r →  ∀ (ls : Array Slot), lv_has ls 9 [(0, .ref a), (1, .long p1), (3, .long p3), (5, .int p5), (6, .int p6), (8, .int p8)] → W p l e (headSpec wsS_encloses ({ frames := 1, cells := 0, slots := 0, locals := 26 })).room s m ([.ref a, .long x1, .long x3] : List Value).toArray below meth c s.heap [] 0 0 (MQ below (vp_Si (fun z => z = r)) ([.ref a, .long x1, .long x3] : List Value).toArray s 0 0 (fun _ => False)) (F0 m 90 ls [.int s0]) := by
        intro p1 p3 p5 p6 p8 s0 h  ls hl
        unfold f_S_encloses_j90 at h
        refine lv_iload hx hb dS_encloses_90 (lv_at hl 5 rfl) ?_
        refine lv_icmp_ne (tgt := 107) hx hb dS_encloses_92 (by decide) (fun c11 => ?_) (fun c11 => ?_)
        · have h := it_f c11 h
          exact k107 p1 p3 p5 p6 h ls (lv_sub hl [0, 1, 2, 3, 4] rfl)
        · have h := it_t c11 h
          refine lv_iload hx hb dS_encloses_95 (lv_at hl 3 rfl) ?_
          refine lv_if_ne (tgt := 104) hx hb dS_encloses_97 (by decide) (fun c12 => ?_) (fun c12 => ?_)
          · have h := it_f c12 h
            refine lv_iconst (v := 0) hx hb dS_encloses_104 (by decide) ?_
            exact k105 p1 p3 p6 (0 : Int32) h ls (lv_sub hl [0, 1, 2, 4] rfl)
          · have h := it_t c12 h
            refine lv_iconst (v := 1) hx hb dS_encloses_100 (by decide) ?_
            refine lv_goto (tgt := 105) hx hb dS_encloses_101 (by decide) ?_
            exact k105 p1 p3 p6 (1 : Int32) h ls (lv_sub hl [0, 1, 2, 4] rfl)
      have k63 : ∀ (p1 : Int64) (p3 : Int64) (p5 : Int32) (p6 : Int32) (p7 : Int32) (s0 : Int32), f_S_encloses_j63 v (f_S_encloses_l6 v n6) p1 p3 p5 p6 p7 s0 = some r →  ∀ (ls : Array Slot), lv_has ls 9 [(0, .ref a), (1, .long p1), (3, .long p3), (5, .int p5), (6, .int p6), (7, .int p7)] → W p l e (headSpec wsS_encloses ({ frames := 1, cells := 0, slots := 0, locals := 26 })).room s m ([.ref a, .long x1, .long x3] : List Value).toArray below meth c s.heap [] 0 0 (MQ below (vp_Si (fun z => z = r)) ([.ref a, .long x1, .long x3] : List Value).toArray s 0 0 (fun _ => False)) (F0 m 63 ls [.int s0]) := by
        intro p1 p3 p5 p6 p7 s0 h  ls hl
        unfold f_S_encloses_j63 at h
        refine lv_istore (lv' := [(8, .int s0), (0, .ref a), (1, .long p1), (3, .long p3), (5, .int p5), (6, .int p6), (7, .int p7)]) hx hb dS_encloses_63 hl (by decide) rfl (fun ls hl => ?_)
        refine lv_iload hx hb dS_encloses_65 (lv_at hl 6 rfl) ?_
        refine lv_iload hx hb dS_encloses_67 (lv_at hl 0 rfl) ?_
        refine lv_icmp_eq (tgt := 107) hx hb dS_encloses_69 (by decide) (fun c8 => ?_) (fun c8 => ?_)
        · have h := it_t c8 h
          exact k107 p1 p3 p5 p6 h ls (lv_sub hl [1, 2, 3, 4, 5] rfl)
        · have h := it_f c8 h
          refine lv_aload_n hx hb dS_encloses_72 rfl (lv_at hl 1 rfl) ?_
          refine lv_iload hx hb dS_encloses_73 (lv_at hl 5 rfl) ?_
          refine lv_lload_n hx hb dS_encloses_75 rfl (lv_at hl 2 rfl) ?_
          refine lv_lload_n hx hb dS_encloses_76 rfl (lv_at hl 3 rfl) ?_
          obtain ⟨u9, hu9, h⟩ := ob_some h
          refine vp_callSl (va_Run.run (va_runV (As := [.int p6, .long p1, .long p3]) (rest := []) ⟨hx, hb, hml, hown, hw⟩ (k_S_cross l dC dI cL cI a ax ay ae v p6 p1 p3 u9 hu9) (cwV 3 hw (gV w_264 w_265 w_266 w_7 w_267) rfl rfl rfl (by decide +kernel) ⟨Nat.le_of_ble_eq_true rfl, Nat.le_of_ble_eq_true rfl⟩) ⟨rd_blind, va_recv hK hPa (ci := 0) (q0 := 0) rfl rfl, rd_pre hPa hK⟩ rfl rfl hl.1 rfl (lv_room (Nat.le_of_ble_eq_true rfl)) dS_encloses_77 ⟨Nat.le_of_ble_eq_true rfl, Nat.le_of_ble_eq_true rfl⟩)) (fun z hz => ?_)
          rw [hz]; clear hz
          refine lv_lconst (v := 0) hx hb dS_encloses_80 (by decide) ?_
          refine W.lcmp hx hb dS_encloses_81 ?_
          refine lv_if_le (tgt := 89) hx hb dS_encloses_82 (by decide) (fun c10 => ?_) (fun c10 => ?_)
          · have h := it_t c10 h
            refine lv_iconst (v := 0) hx hb dS_encloses_89 (by decide) ?_
            exact k90 p1 p3 p5 p6 s0 (0 : Int32) h ls (lv_sub hl [1, 2, 3, 4, 5, 0] rfl)
          · have h := it_f c10 h
            refine lv_iconst (v := 1) hx hb dS_encloses_85 (by decide) ?_
            refine lv_goto (tgt := 90) hx hb dS_encloses_86 (by decide) ?_
            exact k90 p1 p3 p5 p6 s0 (1 : Int32) h ls (lv_sub hl [1, 2, 3, 4, 5, 0] rfl)
      have k39 : ∀ (p1 : Int64) (p3 : Int64) (p5 : Int32) (p6 : Int32) (s0 : Int32), f_S_encloses_j39 v (f_S_encloses_l6 v n6) p1 p3 p5 p6 s0 = some r →  ∀ (ls : Array Slot), lv_has ls 9 [(0, .ref a), (1, .long p1), (3, .long p3), (5, .int p5), (6, .int p6)] → W p l e (headSpec wsS_encloses ({ frames := 1, cells := 0, slots := 0, locals := 26 })).room s m ([.ref a, .long x1, .long x3] : List Value).toArray below meth c s.heap [] 0 0 (MQ below (vp_Si (fun z => z = r)) ([.ref a, .long x1, .long x3] : List Value).toArray s 0 0 (fun _ => False)) (F0 m 39 ls [.int s0]) := by
        intro p1 p3 p5 p6 s0 h  ls hl
        unfold f_S_encloses_j39 at h
        refine lv_istore (lv' := [(7, .int s0), (0, .ref a), (1, .long p1), (3, .long p3), (5, .int p5), (6, .int p6)]) hx hb dS_encloses_39 hl (by decide) rfl (fun ls hl => ?_)
        refine lv_aload_n hx hb dS_encloses_41 rfl (lv_at hl 1 rfl) ?_
        refine va_get (D := (dC, dI)) (ci := 0) (v := .ref ay) (C := R_S) (T := T_S) (N := 8) hx hb hw in_S hown hK hPa 0 rfl rfl 4 (by decide) (hw _ w_48) (fun _ h9 => h9) rfl dS_encloses_42 ?_
        refine lv_aload_n hx hb dS_encloses_45 rfl (lv_at hl 1 rfl) ?_
        refine va_get (D := (dC, dI)) (ci := 0) (v := .ref ae) (C := R_S) (T := T_S) (N := 8) hx hb hw in_S hown hK hPa 0 rfl rfl 5 (by decide) (hw _ w_50) (fun _ h9 => h9) rfl dS_encloses_46 ?_
        refine lv_iload hx hb dS_encloses_49 (lv_at hl 5 rfl) ?_
        obtain ⟨u5, hu5, h⟩ := ob_some h
        obtain ⟨hiu5, eu5⟩ := ld_of hu5
        refine va_iald hx hb hK hPa 3 1 rfl rfl hiu5 dS_encloses_51 ?_
        rw [eu5]
        obtain ⟨u6, hu6, h⟩ := ob_some h
        obtain ⟨hiu6, eu6⟩ := ld_of hu6
        refine va_lald hx hb hK hPa 2 0 rfl rfl hiu6 dS_encloses_52 ?_
        rw [eu6]
        refine lv_lload_n hx hb dS_encloses_53 rfl (lv_at hl 3 rfl) ?_
        refine W.lcmp hx hb dS_encloses_54 ?_
        refine lv_if_le (tgt := 62) hx hb dS_encloses_55 (by decide) (fun c7 => ?_) (fun c7 => ?_)
        · have h := it_t c7 h
          refine lv_iconst (v := 0) hx hb dS_encloses_62 (by decide) ?_
          exact k63 p1 p3 p5 p6 s0 (0 : Int32) h ls (lv_sub hl [1, 2, 3, 4, 5, 0] rfl)
        · have h := it_f c7 h
          refine lv_iconst (v := 1) hx hb dS_encloses_58 (by decide) ?_
          refine lv_goto (tgt := 63) hx hb dS_encloses_59 (by decide) ?_
          exact k63 p1 p3 p5 p6 s0 (1 : Int32) h ls (lv_sub hl [1, 2, 3, 4, 5, 0] rfl)
      intro p1 p3 p5 p6 h  ls hl
      rw [f_S_encloses_l6] at h
      refine lv_aload_n hx hb dS_encloses_6 rfl (lv_at hl 0 rfl) ?_
      refine va_get (D := (dC, dI)) (ci := 0) (v := .int (sB v)) (C := R_S) (T := T_S) (N := 8) hx hb hw in_S hown hK hPa 0 rfl rfl 1 (by decide) (hw _ w_42) (fun _ h9 => h9) rfl dS_encloses_7 ?_
      refine lv_if_eq (tgt := 113) hx hb dS_encloses_10 (by decide) (fun c1 => ?_) (fun c1 => ?_)
      · have h := it_t c1 h
        exact k113 p5 h ls (lv_sub hl [3] rfl)
      · have h := it_f c1 h
        refine lv_iload hx hb dS_encloses_13 (lv_at hl 4 rfl) ?_
        refine lv_aload_n hx hb dS_encloses_15 rfl (lv_at hl 0 rfl) ?_
        refine va_get (D := (dC, dI)) (ci := 0) (v := .int (sN v)) (C := R_S) (T := T_S) (N := 8) hx hb hw in_S hown hK hPa 0 rfl rfl 6 (by decide) (hw _ w_52) (fun _ h9 => h9) rfl dS_encloses_16 ?_
        refine lv_icmp_ge (tgt := 113) hx hb dS_encloses_19 (by decide) (fun c2 => ?_) (fun c2 => ?_)
        · have h := it_t c2 h
          exact k113 p5 h ls (lv_sub hl [3] rfl)
        · have h := it_f c2 h
          refine lv_aload_n hx hb dS_encloses_22 rfl (lv_at hl 0 rfl) ?_
          refine va_get (D := (dC, dI)) (ci := 0) (v := .ref ay) (C := R_S) (T := T_S) (N := 8) hx hb hw in_S hown hK hPa 0 rfl rfl 4 (by decide) (hw _ w_48) (fun _ h9 => h9) rfl dS_encloses_23 ?_
          refine lv_iload hx hb dS_encloses_26 (lv_at hl 4 rfl) ?_
          obtain ⟨u3, hu3, h⟩ := ob_some h
          obtain ⟨hiu3, eu3⟩ := ld_of hu3
          refine va_lald hx hb hK hPa 2 0 rfl rfl hiu3 dS_encloses_28 ?_
          rw [eu3]
          refine lv_lload_n hx hb dS_encloses_29 rfl (lv_at hl 2 rfl) ?_
          refine W.lcmp hx hb dS_encloses_30 ?_
          refine lv_if_le (tgt := 38) hx hb dS_encloses_31 (by decide) (fun c4 => ?_) (fun c4 => ?_)
          · have h := it_t c4 h
            refine lv_iconst (v := 0) hx hb dS_encloses_38 (by decide) ?_
            exact k39 p1 p3 p5 p6 (0 : Int32) h ls (lv_sub hl [0, 1, 2, 3, 4] rfl)
          · have h := it_f c4 h
            refine lv_iconst (v := 1) hx hb dS_encloses_34 (by decide) ?_
            refine lv_goto (tgt := 39) hx hb dS_encloses_35 (by decide) ?_
            exact k39 p1 p3 p5 p6 (1 : Int32) h ls (lv_sub hl [0, 1, 2, 3, 4] rfl)
  unfold f_S_encloses at h
  refine lv_iconst (v := 0) hx hb dS_encloses_0 (by decide) ?_
  refine lv_istore (lv' := [(5, .int (0 : Int32)), (0, .ref a), (1, .long x1), (3, .long x3)]) hx hb dS_encloses_1 hl (by decide) rfl (fun ls hl => ?_)
  refine lv_iconst (v := 0) hx hb dS_encloses_3 (by decide) ?_
  refine lv_istore (lv' := [(6, .int (0 : Int32)), (5, .int (0 : Int32)), (0, .ref a), (1, .long x1), (3, .long x3)]) hx hb dS_encloses_4 hl (by decide) rfl (fun ls hl => ?_)
  exact k6 64 x1 x3 (0 : Int32) (0 : Int32) h ls (lv_sub hl [2, 3, 4, 1, 0] rfl)
theorem dS_enclosesCornerOf_0 : decode cS_enclosesCornerOf 0 = .ok (.iconst 0, 1) := by decide +kernel
theorem dS_enclosesCornerOf_1 : decode cS_enclosesCornerOf 1 = .ok (.istore_n 2, 1) := by decide +kernel
theorem dS_enclosesCornerOf_2 : decode cS_enclosesCornerOf 2 = .ok (.iload_n 2, 1) := by decide +kernel
theorem dS_enclosesCornerOf_3 : decode cS_enclosesCornerOf 3 = .ok (.aload_n 1, 1) := by decide +kernel
theorem dS_enclosesCornerOf_4 : decode cS_enclosesCornerOf 4 = .ok (.getfield 34, 3) := by decide +kernel
theorem dS_enclosesCornerOf_7 : decode cS_enclosesCornerOf 7 = .ok (.if_icmp .ge 30, 3) := by decide +kernel
theorem dS_enclosesCornerOf_10 : decode cS_enclosesCornerOf 10 = .ok (.aload_n 0, 1) := by decide +kernel
theorem dS_enclosesCornerOf_11 : decode cS_enclosesCornerOf 11 = .ok (.aload_n 1, 1) := by decide +kernel
theorem dS_enclosesCornerOf_12 : decode cS_enclosesCornerOf 12 = .ok (.getfield 23, 3) := by decide +kernel
theorem dS_enclosesCornerOf_15 : decode cS_enclosesCornerOf 15 = .ok (.iload_n 2, 1) := by decide +kernel
theorem dS_enclosesCornerOf_16 : decode cS_enclosesCornerOf 16 = .ok (.laload, 1) := by decide +kernel
theorem dS_enclosesCornerOf_17 : decode cS_enclosesCornerOf 17 = .ok (.aload_n 1, 1) := by decide +kernel
theorem dS_enclosesCornerOf_18 : decode cS_enclosesCornerOf 18 = .ok (.getfield 27, 3) := by decide +kernel
theorem dS_enclosesCornerOf_21 : decode cS_enclosesCornerOf 21 = .ok (.iload_n 2, 1) := by decide +kernel
theorem dS_enclosesCornerOf_22 : decode cS_enclosesCornerOf 22 = .ok (.laload, 1) := by decide +kernel
theorem dS_enclosesCornerOf_23 : decode cS_enclosesCornerOf 23 = .ok (.invokevirtual 72, 3) := by decide +kernel
theorem dS_enclosesCornerOf_26 : decode cS_enclosesCornerOf 26 = .ok (.ifCond .eq 5, 3) := by decide +kernel
theorem dS_enclosesCornerOf_29 : decode cS_enclosesCornerOf 29 = .ok (.iconst 1, 1) := by decide +kernel
theorem dS_enclosesCornerOf_30 : decode cS_enclosesCornerOf 30 = .ok (.ireturn, 1) := by decide +kernel
theorem dS_enclosesCornerOf_31 : decode cS_enclosesCornerOf 31 = .ok (.iinc 2 1, 3) := by decide +kernel
theorem dS_enclosesCornerOf_34 : decode cS_enclosesCornerOf 34 = .ok (.goto (-32), 3) := by decide +kernel
theorem dS_enclosesCornerOf_37 : decode cS_enclosesCornerOf 37 = .ok (.iconst 0, 1) := by decide +kernel
theorem dS_enclosesCornerOf_38 : decode cS_enclosesCornerOf 38 = .ok (.ireturn, 1) := by decide +kernel
def f_S_enclosesCornerOf_l2 (v : SV) (w : SV) : Nat → Int32 → Option Int32
 | 0, _ => none
 | n + 1, p2 => (if (sN w) ≤ p2 then rb (0 : Int32) else (ld 48 (sX w) p2).bind fun u2 => (ld 48 (sY w) p2).bind fun u3 => (f_S_encloses v u2 u3).bind fun u4 => (if u4 = 0 then ((f_S_enclosesCornerOf_l2 v w n) (p2 + 1)) else rb (1 : Int32)))
def f_S_enclosesCornerOf (v : SV) (w : SV) : Option Int32 := (f_S_enclosesCornerOf_l2 v w 64 (0 : Int32))
set_option maxHeartbeats 4000000 in
set_option maxRecDepth 100000 in
theorem k_S_enclosesCornerOf (l : Launch) (dC : Nat → ClassId) (dI : Nat → Nat → Nat) (cL cI : ClassId) (a ax ay ae : Nat) (v : SV) (o ox oy oe : Nat) (w : SV) (r : Int32) (h : f_S_enclosesCornerOf v w = some r) : Met l yS_enclosesCornerOf wsS_enclosesCornerOf ({ frames := 2, cells := 0, slots := 0, locals := 54 }) (rd_Pc [.ref a, .ref o] (fun H => va_P (dC, dI) cls3 (shW cL cI a ax ay ae v) H ∧ va_P (dC, dI) cls3 (shW cL cI o ox oy oe w) H) (dC, dI) cls3 [(cL, .long), (cI, .int)]) (vp_Si (fun z => z = r)) 0 0 (fun _ => False) := by
  refine Met.ofW (cc := cS_enclosesCornerOf) (maxL := 3) (ret := (some .boolean)) (by decide) rfl ?_
  intro p e s m args below meth c s₁ B hml hv
  obtain ⟨rfl, ⟨hPa, hPo⟩, hK⟩ := hv
  have hx := B.exec
  have hb := B.bytes
  have hr := B.returns
  have hw : ∀ w ∈ wG, w.before ([.ref a, .ref o] : List Value).toArray s = true := fun w hq => atoms_spec (ws := wsS_enclosesCornerOf) B.pre w (List.mem_cons_of_mem _ hq)
  have hown : s.vm.findClass R_S = some m.cls := findClass_of_methodNamed B.named
  have hlocks := B.notSynchronized
  have hl := lv_entry ([.ref a, .ref o] : List Value) (n := 3) (Nat.le_of_ble_eq_true rfl)
  rw [lg_entry_eq]
  generalize (lg_sl ([.ref a, .ref o] : List Value) ++ List.replicate (3 - (lg_sl ([.ref a, .ref o] : List Value)).length) Slot.unset).toArray = ls at hl ⊢
  have hl : lv_has ls 3 [(0, .ref a), (1, .ref o)] := hl
  have k2 : ∀ (n2 : Nat), ∀ (p2 : Int32), f_S_enclosesCornerOf_l2 v w n2 p2 = some r →  ∀ (ls : Array Slot), lv_has ls 3 [(0, .ref a), (1, .ref o), (2, .int p2)] → W p l e (headSpec wsS_enclosesCornerOf ({ frames := 2, cells := 0, slots := 0, locals := 54 })).room s m ([.ref a, .ref o] : List Value).toArray below meth c s.heap [] 0 0 (MQ below (vp_Si (fun z => z = r)) ([.ref a, .ref o] : List Value).toArray s 0 0 (fun _ => False)) (F0 m 2 ls []) := by
    intro n2
    induction n2 with
    | zero => intro p2 h; exact absurd h (by simp [f_S_enclosesCornerOf_l2])
    | succ n2 ih2 =>
      intro p2 h  ls hl
      rw [f_S_enclosesCornerOf_l2] at h
      refine lv_iload_n hx hb dS_enclosesCornerOf_2 rfl (lv_at hl 2 rfl) ?_
      refine lv_aload_n hx hb dS_enclosesCornerOf_3 rfl (lv_at hl 1 rfl) ?_
      refine va_get (D := (dC, dI)) (ci := 0) (v := .int (sN w)) (C := R_S) (T := T_S) (N := 8) hx hb hw in_S hown hK hPo 0 rfl rfl 6 (by decide) (hw _ w_52) (fun _ h9 => h9) rfl dS_enclosesCornerOf_4 ?_
      refine lv_icmp_ge (tgt := 37) hx hb dS_enclosesCornerOf_7 (by decide) (fun c1 => ?_) (fun c1 => ?_)
      · have h := it_t c1 h
        refine lv_iconst (v := 0) hx hb dS_enclosesCornerOf_37 (by decide) ?_
        obtain ⟨hz, hr9⟩ := rb_of h
        exact W.zret hx hb hr hz (fun t ht hW => ⟨_, rfl, hr9, ht⟩) nil_locs dS_enclosesCornerOf_38
      · have h := it_f c1 h
        refine lv_aload_n hx hb dS_enclosesCornerOf_10 rfl (lv_at hl 0 rfl) ?_
        refine lv_aload_n hx hb dS_enclosesCornerOf_11 rfl (lv_at hl 1 rfl) ?_
        refine va_get (D := (dC, dI)) (ci := 0) (v := .ref ox) (C := R_S) (T := T_S) (N := 8) hx hb hw in_S hown hK hPo 0 rfl rfl 3 (by decide) (hw _ w_46) (fun _ h9 => h9) rfl dS_enclosesCornerOf_12 ?_
        refine lv_iload_n hx hb dS_enclosesCornerOf_15 rfl (lv_at hl 2 rfl) ?_
        obtain ⟨u2, hu2, h⟩ := ob_some h
        obtain ⟨hiu2, eu2⟩ := ld_of hu2
        refine va_lald hx hb hK hPo 1 0 rfl rfl hiu2 dS_enclosesCornerOf_16 ?_
        rw [eu2]
        refine lv_aload_n hx hb dS_enclosesCornerOf_17 rfl (lv_at hl 1 rfl) ?_
        refine va_get (D := (dC, dI)) (ci := 0) (v := .ref oy) (C := R_S) (T := T_S) (N := 8) hx hb hw in_S hown hK hPo 0 rfl rfl 4 (by decide) (hw _ w_48) (fun _ h9 => h9) rfl dS_enclosesCornerOf_18 ?_
        refine lv_iload_n hx hb dS_enclosesCornerOf_21 rfl (lv_at hl 2 rfl) ?_
        obtain ⟨u3, hu3, h⟩ := ob_some h
        obtain ⟨hiu3, eu3⟩ := ld_of hu3
        refine va_lald hx hb hK hPo 2 0 rfl rfl hiu3 dS_enclosesCornerOf_22 ?_
        rw [eu3]
        obtain ⟨u4, hu4, h⟩ := ob_some h
        refine vp_callSi (va_Run.run (va_runV (As := [.long u2, .long u3]) (rest := []) ⟨hx, hb, hml, hown, hw⟩ (k_S_encloses l dC dI cL cI a ax ay ae v u2 u3 u4 hu4) (cwV 2 hw (gV w_371 w_350 w_351 w_7 w_352) rfl rfl rfl (by decide +kernel) ⟨Nat.le_of_ble_eq_true rfl, Nat.le_of_ble_eq_true rfl⟩) ⟨rd_blind, va_recv hK hPa (ci := 0) (q0 := 0) rfl rfl, rd_pre hPa hK⟩ rfl rfl hl.1 rfl (lv_room (Nat.le_of_ble_eq_true rfl)) dS_enclosesCornerOf_23 ⟨Nat.le_of_ble_eq_true rfl, Nat.le_of_ble_eq_true rfl⟩)) (fun z hz => ?_)
        rw [hz]; clear hz
        refine lv_if_eq (tgt := 31) hx hb dS_enclosesCornerOf_26 (by decide) (fun c5 => ?_) (fun c5 => ?_)
        · have h := it_t c5 h
          refine lv_iinc (v := p2 + 1) (lv' := [(2, .int (p2 + 1)), (0, .ref a), (1, .ref o)]) hx hb dS_enclosesCornerOf_31 hl (k := 2) rfl rfl (by decide) rfl (fun ls hl => ?_)
          refine lv_goto (tgt := 2) hx hb dS_enclosesCornerOf_34 (by decide) ?_
          exact ih2 (p2 + 1) h ls (lv_sub hl [1, 2, 0] rfl)
        · have h := it_f c5 h
          refine lv_iconst (v := 1) hx hb dS_enclosesCornerOf_29 (by decide) ?_
          obtain ⟨hz, hr9⟩ := rb_of h
          exact W.zret hx hb hr hz (fun t ht hW => ⟨_, rfl, hr9, ht⟩) nil_locs dS_enclosesCornerOf_30
  unfold f_S_enclosesCornerOf at h
  refine lv_iconst (v := 0) hx hb dS_enclosesCornerOf_0 (by decide) ?_
  refine lv_istore_n (lv' := [(2, .int (0 : Int32)), (0, .ref a), (1, .ref o)]) hx hb dS_enclosesCornerOf_1 rfl hl (by decide) rfl (fun ls hl => ?_)
  exact k2 64 (0 : Int32) h ls (lv_sub hl [1, 2, 0] rfl)
theorem dS_outermost_0 : decode cS_outermost 0 = .ok (.iload_n 1, 1) := by decide +kernel
theorem dS_outermost_1 : decode cS_outermost 1 = .ok (.iconst 2, 1) := by decide +kernel
theorem dS_outermost_2 : decode cS_outermost 2 = .ok (.irem, 1) := by decide +kernel
theorem dS_outermost_3 : decode cS_outermost 3 = .ok (.ifCond .ne 10, 3) := by decide +kernel
theorem dS_outermost_6 : decode cS_outermost 6 = .ok (.aload_n 0, 1) := by decide +kernel
theorem dS_outermost_7 : decode cS_outermost 7 = .ok (.getfield 23, 3) := by decide +kernel
theorem dS_outermost_10 : decode cS_outermost 10 = .ok (.goto 7, 3) := by decide +kernel
theorem dS_outermost_13 : decode cS_outermost 13 = .ok (.aload_n 0, 1) := by decide +kernel
theorem dS_outermost_14 : decode cS_outermost 14 = .ok (.getfield 27, 3) := by decide +kernel
theorem dS_outermost_17 : decode cS_outermost 17 = .ok (.astore_n 2, 1) := by decide +kernel
theorem dS_outermost_18 : decode cS_outermost 18 = .ok (.aload_n 2, 1) := by decide +kernel
theorem dS_outermost_19 : decode cS_outermost 19 = .ok (.iconst 0, 1) := by decide +kernel
theorem dS_outermost_20 : decode cS_outermost 20 = .ok (.laload, 1) := by decide +kernel
theorem dS_outermost_21 : decode cS_outermost 21 = .ok (.lstore_n 3, 1) := by decide +kernel
theorem dS_outermost_22 : decode cS_outermost 22 = .ok (.aload_n 2, 1) := by decide +kernel
theorem dS_outermost_23 : decode cS_outermost 23 = .ok (.iconst 0, 1) := by decide +kernel
theorem dS_outermost_24 : decode cS_outermost 24 = .ok (.laload, 1) := by decide +kernel
theorem dS_outermost_25 : decode cS_outermost 25 = .ok (.lstore 5, 2) := by decide +kernel
theorem dS_outermost_27 : decode cS_outermost 27 = .ok (.iconst 1, 1) := by decide +kernel
theorem dS_outermost_28 : decode cS_outermost 28 = .ok (.istore 7, 2) := by decide +kernel
theorem dS_outermost_30 : decode cS_outermost 30 = .ok (.iload 7, 2) := by decide +kernel
theorem dS_outermost_32 : decode cS_outermost 32 = .ok (.aload_n 0, 1) := by decide +kernel
theorem dS_outermost_33 : decode cS_outermost 33 = .ok (.getfield 34, 3) := by decide +kernel
theorem dS_outermost_36 : decode cS_outermost 36 = .ok (.if_icmp .ge 29, 3) := by decide +kernel
theorem dS_outermost_39 : decode cS_outermost 39 = .ok (.lload_n 3, 1) := by decide +kernel
theorem dS_outermost_40 : decode cS_outermost 40 = .ok (.aload_n 2, 1) := by decide +kernel
theorem dS_outermost_41 : decode cS_outermost 41 = .ok (.iload 7, 2) := by decide +kernel
theorem dS_outermost_43 : decode cS_outermost 43 = .ok (.laload, 1) := by decide +kernel
theorem dS_outermost_44 : decode cS_outermost 44 = .ok (.invokestatic 63, 3) := by decide +kernel
theorem dS_outermost_47 : decode cS_outermost 47 = .ok (.lstore_n 3, 1) := by decide +kernel
theorem dS_outermost_48 : decode cS_outermost 48 = .ok (.lload 5, 2) := by decide +kernel
theorem dS_outermost_50 : decode cS_outermost 50 = .ok (.aload_n 2, 1) := by decide +kernel
theorem dS_outermost_51 : decode cS_outermost 51 = .ok (.iload 7, 2) := by decide +kernel
theorem dS_outermost_53 : decode cS_outermost 53 = .ok (.laload, 1) := by decide +kernel
theorem dS_outermost_54 : decode cS_outermost 54 = .ok (.invokestatic 69, 3) := by decide +kernel
theorem dS_outermost_57 : decode cS_outermost 57 = .ok (.lstore 5, 2) := by decide +kernel
theorem dS_outermost_59 : decode cS_outermost 59 = .ok (.iinc 7 1, 3) := by decide +kernel
theorem dS_outermost_62 : decode cS_outermost 62 = .ok (.goto (-32), 3) := by decide +kernel
theorem dS_outermost_65 : decode cS_outermost 65 = .ok (.iload_n 1, 1) := by decide +kernel
theorem dS_outermost_66 : decode cS_outermost 66 = .ok (.iconst 2, 1) := by decide +kernel
theorem dS_outermost_67 : decode cS_outermost 67 = .ok (.if_icmp .ge 12, 3) := by decide +kernel
theorem dS_outermost_70 : decode cS_outermost 70 = .ok (.lload_n 3, 1) := by decide +kernel
theorem dS_outermost_71 : decode cS_outermost 71 = .ok (.aload_n 0, 1) := by decide +kernel
theorem dS_outermost_72 : decode cS_outermost 72 = .ok (.getfield 19, 3) := by decide +kernel
theorem dS_outermost_75 : decode cS_outermost 75 = .ok (.lsub, 1) := by decide +kernel
theorem dS_outermost_76 : decode cS_outermost 76 = .ok (.goto 10, 3) := by decide +kernel
theorem dS_outermost_79 : decode cS_outermost 79 = .ok (.lload 5, 2) := by decide +kernel
theorem dS_outermost_81 : decode cS_outermost 81 = .ok (.aload_n 0, 1) := by decide +kernel
theorem dS_outermost_82 : decode cS_outermost 82 = .ok (.getfield 19, 3) := by decide +kernel
theorem dS_outermost_85 : decode cS_outermost 85 = .ok (.ladd, 1) := by decide +kernel
theorem dS_outermost_86 : decode cS_outermost 86 = .ok (.lreturn, 1) := by decide +kernel
def f_S_outermost_j86 (v : SV) (s0 : Int64) : Option Int64 := some s0
def f_S_outermost_l30 (v : SV) : Nat → Int32 → (Nat → Int64) → Int64 → Int64 → Int32 → Option Int64
 | 0, _, _, _, _, _ => none
 | n + 1, p1, f2, p3, p5, p7 => (if (sN v) ≤ p7 then (if (2 : Int32) ≤ p1 then (f_S_outermost_j86 v (p5 + (sR v))) else (f_S_outermost_j86 v (p3 - (sR v)))) else (ld 48 f2 p7).bind fun u6 => (some (if u6 < p3 then u6 else p3)).bind fun u7 => (ld 48 f2 p7).bind fun u8 => (some (if u8 < p5 then p5 else u8)).bind fun u9 => ((f_S_outermost_l30 v n) p1 f2 u7 u9 (p7 + 1)))
def f_S_outermost_j17 (v : SV) (p1 : Int32) (fs0 : Nat → Int64) : Option Int64 := (ld 48 fs0 (0 : Int32)).bind fun u2 => (ld 48 fs0 (0 : Int32)).bind fun u3 => (f_S_outermost_l30 v 64 p1 fs0 u2 u3 (1 : Int32))
def f_S_outermost (v : SV) (x1 : Int32) : Option Int64 := (if (x1 - x1 / (2 : Int32) * (2 : Int32)) = 0 then (f_S_outermost_j17 v x1 (sX v)) else (f_S_outermost_j17 v x1 (sY v)))
set_option maxHeartbeats 4000000 in
set_option maxRecDepth 100000 in
theorem k_S_outermost (l : Launch) (dC : Nat → ClassId) (dI : Nat → Nat → Nat) (cL cI : ClassId) (a ax ay ae : Nat) (v : SV) (x1 : Int32) (r : Int64) (h : f_S_outermost v x1 = some r) : Met l yS_outermost wsS_outermost ({ frames := 1, cells := 0, slots := 0, locals := 23 }) (rd_Pc [.ref a, .int x1] (fun H => va_P (dC, dI) cls3 (shW cL cI a ax ay ae v) H) (dC, dI) cls3 [(cL, .long), (cI, .int)]) (vp_Sl (fun z => z = r)) 0 0 (fun _ => False) := by
  refine Met.ofW (cc := cS_outermost) (maxL := 8) (ret := (some .long)) (by decide) rfl ?_
  intro p e s m args below meth c s₁ B hml hv
  obtain ⟨rfl, hPa, hK⟩ := hv
  have hx := B.exec
  have hb := B.bytes
  have hr := B.returns
  have hw : ∀ w ∈ wG, w.before ([.ref a, .int x1] : List Value).toArray s = true := fun w hq => atoms_spec (ws := wsS_outermost) B.pre w (List.mem_cons_of_mem _ hq)
  have hown : s.vm.findClass R_S = some m.cls := findClass_of_methodNamed B.named
  have hlocks := B.notSynchronized
  have hl := lv_entry ([.ref a, .int x1] : List Value) (n := 8) (Nat.le_of_ble_eq_true rfl)
  rw [lg_entry_eq]
  generalize (lg_sl ([.ref a, .int x1] : List Value) ++ List.replicate (8 - (lg_sl ([.ref a, .int x1] : List Value)).length) Slot.unset).toArray = ls at hl ⊢
  have hl : lv_has ls 8 [(0, .ref a), (1, .int x1)] := hl
  have k86 : ∀ (s0 : Int64), f_S_outermost_j86 v s0 = some r →  ∀ (ls : Array Slot), lv_has ls 8 [] → W p l e (headSpec wsS_outermost ({ frames := 1, cells := 0, slots := 0, locals := 23 })).room s m ([.ref a, .int x1] : List Value).toArray below meth c s.heap [] 0 0 (MQ below (vp_Sl (fun z => z = r)) ([.ref a, .int x1] : List Value).toArray s 0 0 (fun _ => False)) (F0 m 86 ls [.long s0]) := by
    intro s0 h  ls hl
    unfold f_S_outermost_j86 at h
    exact W.lret hx hb hr (fun t ht hW => ⟨_, rfl, Option.some.inj h, ht⟩) nil_locs dS_outermost_86
  have k30 : ∀ (n30 : Nat), ∀ (p1 : Int32) (f2 : Nat → Int64) (p3 : Int64) (p5 : Int64) (p7 : Int32), f_S_outermost_l30 v n30 p1 f2 p3 p5 p7 = some r → ∀ (q2 : Nat), va_P (dC, dI) cls3 [(q2, .inl (cL, 48, .inr (.inl f2)))] s.heap → ∀ (ls : Array Slot), lv_has ls 8 [(0, .ref a), (1, .int p1), (2, .ref q2), (3, .long p3), (5, .long p5), (7, .int p7)] → W p l e (headSpec wsS_outermost ({ frames := 1, cells := 0, slots := 0, locals := 23 })).room s m ([.ref a, .int x1] : List Value).toArray below meth c s.heap [] 0 0 (MQ below (vp_Sl (fun z => z = r)) ([.ref a, .int x1] : List Value).toArray s 0 0 (fun _ => False)) (F0 m 30 ls []) := by
    intro n30
    induction n30 with
    | zero => intro p1 f2 p3 p5 p7 h; exact absurd h (by simp [f_S_outermost_l30])
    | succ n30 ih30 =>
      intro p1 f2 p3 p5 p7 h q2 hq2 ls hl
      rw [f_S_outermost_l30] at h
      refine lv_iload hx hb dS_outermost_30 (lv_at hl 5 rfl) ?_
      refine lv_aload_n hx hb dS_outermost_32 rfl (lv_at hl 0 rfl) ?_
      refine va_get (D := (dC, dI)) (ci := 0) (v := .int (sN v)) (C := R_S) (T := T_S) (N := 8) hx hb hw in_S hown hK hPa 0 rfl rfl 6 (by decide) (hw _ w_52) (fun _ h9 => h9) rfl dS_outermost_33 ?_
      refine lv_icmp_ge (tgt := 65) hx hb dS_outermost_36 (by decide) (fun c4 => ?_) (fun c4 => ?_)
      · have h := it_t c4 h
        refine lv_iload_n hx hb dS_outermost_65 rfl (lv_at hl 1 rfl) ?_
        refine lv_iconst (v := 2) hx hb dS_outermost_66 (by decide) ?_
        refine lv_icmp_ge (tgt := 79) hx hb dS_outermost_67 (by decide) (fun c5 => ?_) (fun c5 => ?_)
        · have h := it_t c5 h
          refine lv_lload hx hb dS_outermost_79 (lv_at hl 4 rfl) ?_
          refine lv_aload_n hx hb dS_outermost_81 rfl (lv_at hl 0 rfl) ?_
          refine va_get (D := (dC, dI)) (ci := 0) (v := .long (sR v)) (C := R_S) (T := T_S) (N := 8) hx hb hw in_S hown hK hPa 0 rfl rfl 2 (by decide) (hw _ w_44) (fun _ h9 => h9) rfl dS_outermost_82 ?_
          refine lv_ladd hx hb dS_outermost_85 ?_
          exact k86 (p5 + (sR v)) h ls (lv_sub hl [] rfl)
        · have h := it_f c5 h
          refine lv_lload_n hx hb dS_outermost_70 rfl (lv_at hl 3 rfl) ?_
          refine lv_aload_n hx hb dS_outermost_71 rfl (lv_at hl 0 rfl) ?_
          refine va_get (D := (dC, dI)) (ci := 0) (v := .long (sR v)) (C := R_S) (T := T_S) (N := 8) hx hb hw in_S hown hK hPa 0 rfl rfl 2 (by decide) (hw _ w_44) (fun _ h9 => h9) rfl dS_outermost_72 ?_
          refine lv_lsub hx hb dS_outermost_75 ?_
          refine lv_goto (tgt := 86) hx hb dS_outermost_76 (by decide) ?_
          exact k86 (p3 - (sR v)) h ls (lv_sub hl [] rfl)
      · have h := it_f c4 h
        refine lv_lload_n hx hb dS_outermost_39 rfl (lv_at hl 3 rfl) ?_
        refine lv_aload_n hx hb dS_outermost_40 rfl (lv_at hl 2 rfl) ?_
        refine lv_iload hx hb dS_outermost_41 (lv_at hl 5 rfl) ?_
        obtain ⟨u6, hu6, h⟩ := ob_some h
        obtain ⟨hiu6, eu6⟩ := ld_of hu6
        refine va_lald hx hb hK hq2 0 0 rfl rfl hiu6 dS_outermost_43 ?_
        rw [eu6]
        obtain ⟨u7, hu7, h⟩ := ob_some h
        refine va_mmin_long hx hb (hml.trans hl.1.symm) hown (hw _ w_390) (hw _ w_279) (hw _ w_11) (hw _ wm_min_J) (Nat.le_of_ble_eq_true rfl) (Nat.le_of_ble_eq_true rfl) (Nat.le_of_ble_eq_true rfl) (Nat.le_of_ble_eq_true rfl) dS_outermost_44 ?_
        rw [Option.some.inj hu7]
        refine lv_lstore_n (lv' := [(3, .long u7), (0, .ref a), (1, .int p1), (2, .ref q2), (5, .long p5), (7, .int p7)]) hx hb dS_outermost_47 rfl hl (by decide) rfl (fun ls hl => ?_)
        refine lv_lload hx hb dS_outermost_48 (lv_at hl 4 rfl) ?_
        refine lv_aload_n hx hb dS_outermost_50 rfl (lv_at hl 3 rfl) ?_
        refine lv_iload hx hb dS_outermost_51 (lv_at hl 5 rfl) ?_
        obtain ⟨u8, hu8, h⟩ := ob_some h
        obtain ⟨hiu8, eu8⟩ := ld_of hu8
        refine va_lald hx hb hK hq2 0 0 rfl rfl hiu8 dS_outermost_53 ?_
        rw [eu8]
        obtain ⟨u9, hu9, h⟩ := ob_some h
        refine va_mmax_long hx hb (hml.trans hl.1.symm) hown (hw _ w_391) (hw _ w_282) (hw _ w_11) (hw _ wm_max_J) (Nat.le_of_ble_eq_true rfl) (Nat.le_of_ble_eq_true rfl) (Nat.le_of_ble_eq_true rfl) (Nat.le_of_ble_eq_true rfl) dS_outermost_54 ?_
        rw [Option.some.inj hu9]
        refine lv_lstore (lv' := [(5, .long u9), (3, .long u7), (0, .ref a), (1, .int p1), (2, .ref q2), (7, .int p7)]) hx hb dS_outermost_57 hl (by decide) rfl (fun ls hl => ?_)
        refine lv_iinc (v := p7 + 1) (lv' := [(7, .int (p7 + 1)), (5, .long u9), (3, .long u7), (0, .ref a), (1, .int p1), (2, .ref q2)]) hx hb dS_outermost_59 hl (k := 5) rfl rfl (by decide) rfl (fun ls hl => ?_)
        refine lv_goto (tgt := 30) hx hb dS_outermost_62 (by decide) ?_
        exact ih30 p1 f2 u7 u9 (p7 + 1) h q2 hq2 ls (lv_sub hl [3, 4, 5, 2, 1, 0] rfl)
  have k17 : ∀ (p1 : Int32) (fs0 : Nat → Int64), f_S_outermost_j17 v p1 fs0 = some r → ∀ (qs0 : Nat), va_P (dC, dI) cls3 [(qs0, .inl (cL, 48, .inr (.inl fs0)))] s.heap → ∀ (ls : Array Slot), lv_has ls 8 [(0, .ref a), (1, .int p1)] → W p l e (headSpec wsS_outermost ({ frames := 1, cells := 0, slots := 0, locals := 23 })).room s m ([.ref a, .int x1] : List Value).toArray below meth c s.heap [] 0 0 (MQ below (vp_Sl (fun z => z = r)) ([.ref a, .int x1] : List Value).toArray s 0 0 (fun _ => False)) (F0 m 17 ls [.ref qs0]) := by
    intro p1 fs0 h qs0 hqs0 ls hl
    unfold f_S_outermost_j17 at h
    refine lv_astore_n (lv' := [(2, .ref qs0), (0, .ref a), (1, .int p1)]) hx hb dS_outermost_17 rfl hl (by decide) rfl (fun ls hl => ?_)
    refine lv_aload_n hx hb dS_outermost_18 rfl (lv_at hl 0 rfl) ?_
    refine lv_iconst (v := 0) hx hb dS_outermost_19 (by decide) ?_
    obtain ⟨u2, hu2, h⟩ := ob_some h
    obtain ⟨hiu2, eu2⟩ := ld_of hu2
    refine va_lald hx hb hK hqs0 0 0 rfl rfl hiu2 dS_outermost_20 ?_
    rw [eu2]
    refine lv_lstore_n (lv' := [(3, .long u2), (2, .ref qs0), (0, .ref a), (1, .int p1)]) hx hb dS_outermost_21 rfl hl (by decide) rfl (fun ls hl => ?_)
    refine lv_aload_n hx hb dS_outermost_22 rfl (lv_at hl 1 rfl) ?_
    refine lv_iconst (v := 0) hx hb dS_outermost_23 (by decide) ?_
    obtain ⟨u3, hu3, h⟩ := ob_some h
    obtain ⟨hiu3, eu3⟩ := ld_of hu3
    refine va_lald hx hb hK hqs0 0 0 rfl rfl hiu3 dS_outermost_24 ?_
    rw [eu3]
    refine lv_lstore (lv' := [(5, .long u3), (3, .long u2), (2, .ref qs0), (0, .ref a), (1, .int p1)]) hx hb dS_outermost_25 hl (by decide) rfl (fun ls hl => ?_)
    refine lv_iconst (v := 1) hx hb dS_outermost_27 (by decide) ?_
    refine lv_istore (lv' := [(7, .int (1 : Int32)), (5, .long u3), (3, .long u2), (2, .ref qs0), (0, .ref a), (1, .int p1)]) hx hb dS_outermost_28 hl (by decide) rfl (fun ls hl => ?_)
    exact k30 64 p1 fs0 u2 u3 (1 : Int32) h qs0 hqs0 ls (lv_sub hl [4, 5, 3, 2, 1, 0] rfl)
  unfold f_S_outermost at h
  refine lv_iload_n hx hb dS_outermost_0 rfl (lv_at hl 1 rfl) ?_
  refine lv_iconst (v := 2) hx hb dS_outermost_1 (by decide) ?_
  refine lv_irem hx hb dS_outermost_2 (by decide) ?_
  refine lv_if_ne (tgt := 13) hx hb dS_outermost_3 (by decide) (fun c1 => ?_) (fun c1 => ?_)
  · have h := it_f c1 h
    refine lv_aload_n hx hb dS_outermost_13 rfl (lv_at hl 0 rfl) ?_
    refine va_get (D := (dC, dI)) (ci := 0) (v := .ref ay) (C := R_S) (T := T_S) (N := 8) hx hb hw in_S hown hK hPa 0 rfl rfl 4 (by decide) (hw _ w_48) (fun _ h9 => h9) rfl dS_outermost_14 ?_
    exact k17 x1 (sY v) h ay (hPa.sub [2] rfl) ls (lv_sub hl [0, 1] rfl)
  · have h := it_t c1 h
    refine lv_aload_n hx hb dS_outermost_6 rfl (lv_at hl 0 rfl) ?_
    refine va_get (D := (dC, dI)) (ci := 0) (v := .ref ax) (C := R_S) (T := T_S) (N := 8) hx hb hw in_S hown hK hPa 0 rfl rfl 3 (by decide) (hw _ w_46) (fun _ h9 => h9) rfl dS_outermost_7 ?_
    refine lv_goto (tgt := 17) hx hb dS_outermost_10 (by decide) ?_
    exact k17 x1 (sX v) h ax (hPa.sub [1] rfl) ls (lv_sub hl [0, 1] rfl)
theorem dS_hasOpenRing_0 : decode cS_hasOpenRing 0 = .ok (.aload_n 0, 1) := by decide +kernel
theorem dS_hasOpenRing_1 : decode cS_hasOpenRing 1 = .ok (.getfield 9, 3) := by decide +kernel
theorem dS_hasOpenRing_4 : decode cS_hasOpenRing 4 = .ok (.iconst 2, 1) := by decide +kernel
theorem dS_hasOpenRing_5 : decode cS_hasOpenRing 5 = .ok (.if_icmp .ne 18, 3) := by decide +kernel
theorem dS_hasOpenRing_8 : decode cS_hasOpenRing 8 = .ok (.aload_n 0, 1) := by decide +kernel
theorem dS_hasOpenRing_9 : decode cS_hasOpenRing 9 = .ok (.getfield 37, 3) := by decide +kernel
theorem dS_hasOpenRing_12 : decode cS_hasOpenRing 12 = .ok (.aload_n 0, 1) := by decide +kernel
theorem dS_hasOpenRing_13 : decode cS_hasOpenRing 13 = .ok (.getfield 34, 3) := by decide +kernel
theorem dS_hasOpenRing_16 : decode cS_hasOpenRing 16 = .ok (.if_icmp .ge 7, 3) := by decide +kernel
theorem dS_hasOpenRing_19 : decode cS_hasOpenRing 19 = .ok (.iconst 1, 1) := by decide +kernel
theorem dS_hasOpenRing_20 : decode cS_hasOpenRing 20 = .ok (.goto 4, 3) := by decide +kernel
theorem dS_hasOpenRing_23 : decode cS_hasOpenRing 23 = .ok (.iconst 0, 1) := by decide +kernel
theorem dS_hasOpenRing_24 : decode cS_hasOpenRing 24 = .ok (.ireturn, 1) := by decide +kernel
def f_S_hasOpenRing_j24 (v : SV) (s0 : Int32) : Option Int32 := rb s0
def f_S_hasOpenRing_j23 (v : SV) : Option Int32 := (f_S_hasOpenRing_j24 v (0 : Int32))
def f_S_hasOpenRing (v : SV) : Option Int32 := (if (sF v) = (2 : Int32) then (if (sN v) ≤ (sO v) then (f_S_hasOpenRing_j23 v) else (f_S_hasOpenRing_j24 v (1 : Int32))) else (f_S_hasOpenRing_j23 v))
set_option maxHeartbeats 4000000 in
set_option maxRecDepth 100000 in
theorem k_S_hasOpenRing (l : Launch) (dC : Nat → ClassId) (dI : Nat → Nat → Nat) (cL cI : ClassId) (a ax ay ae : Nat) (v : SV) (r : Int32) (h : f_S_hasOpenRing v = some r) : Met l yS_hasOpenRing wsS_hasOpenRing ({ frames := 0, cells := 0, slots := 0, locals := 0 }) (rd_Pc [.ref a] (fun H => va_P (dC, dI) cls3 (shW cL cI a ax ay ae v) H) (dC, dI) cls3 [(cL, .long), (cI, .int)]) (vp_Si (fun z => z = r)) 0 0 (fun _ => False) := by
  refine Met.ofW (cc := cS_hasOpenRing) (maxL := 1) (ret := (some .boolean)) (by decide) rfl ?_
  intro p e s m args below meth c s₁ B hml hv
  obtain ⟨rfl, hPa, hK⟩ := hv
  have hx := B.exec
  have hb := B.bytes
  have hr := B.returns
  have hw : ∀ w ∈ wG, w.before ([.ref a] : List Value).toArray s = true := fun w hq => atoms_spec (ws := wsS_hasOpenRing) B.pre w (List.mem_cons_of_mem _ hq)
  have hown : s.vm.findClass R_S = some m.cls := findClass_of_methodNamed B.named
  have hlocks := B.notSynchronized
  have hl := lv_entry ([.ref a] : List Value) (n := 1) (Nat.le_of_ble_eq_true rfl)
  rw [lg_entry_eq]
  generalize (lg_sl ([.ref a] : List Value) ++ List.replicate (1 - (lg_sl ([.ref a] : List Value)).length) Slot.unset).toArray = ls at hl ⊢
  have hl : lv_has ls 1 [(0, .ref a)] := hl
  have k24 : ∀ (s0 : Int32), f_S_hasOpenRing_j24 v s0 = some r →  ∀ (ls : Array Slot), lv_has ls 1 [] → W p l e (headSpec wsS_hasOpenRing ({ frames := 0, cells := 0, slots := 0, locals := 0 })).room s m ([.ref a] : List Value).toArray below meth c s.heap [] 0 0 (MQ below (vp_Si (fun z => z = r)) ([.ref a] : List Value).toArray s 0 0 (fun _ => False)) (F0 m 24 ls [.int s0]) := by
    intro s0 h  ls hl
    unfold f_S_hasOpenRing_j24 at h
    obtain ⟨hz, hr9⟩ := rb_of h
    exact W.zret hx hb hr hz (fun t ht hW => ⟨_, rfl, hr9, ht⟩) nil_locs dS_hasOpenRing_24
  have k23 : f_S_hasOpenRing_j23 v = some r →  ∀ (ls : Array Slot), lv_has ls 1 [] → W p l e (headSpec wsS_hasOpenRing ({ frames := 0, cells := 0, slots := 0, locals := 0 })).room s m ([.ref a] : List Value).toArray below meth c s.heap [] 0 0 (MQ below (vp_Si (fun z => z = r)) ([.ref a] : List Value).toArray s 0 0 (fun _ => False)) (F0 m 23 ls []) := by
    intro  h  ls hl
    unfold f_S_hasOpenRing_j23 at h
    refine lv_iconst (v := 0) hx hb dS_hasOpenRing_23 (by decide) ?_
    exact k24 (0 : Int32) h ls (lv_sub hl [] rfl)
  unfold f_S_hasOpenRing at h
  refine lv_aload_n hx hb dS_hasOpenRing_0 rfl (lv_at hl 0 rfl) ?_
  refine va_get (D := (dC, dI)) (ci := 0) (v := .int (sF v)) (C := R_S) (T := T_S) (N := 8) hx hb hw in_S hown hK hPa 0 rfl rfl 0 (by decide) (hw _ w_40) (fun _ h9 => h9) rfl dS_hasOpenRing_1 ?_
  refine lv_iconst (v := 2) hx hb dS_hasOpenRing_4 (by decide) ?_
  refine lv_icmp_ne (tgt := 23) hx hb dS_hasOpenRing_5 (by decide) (fun c1 => ?_) (fun c1 => ?_)
  · have h := it_f c1 h
    exact k23 h ls (lv_sub hl [] rfl)
  · have h := it_t c1 h
    refine lv_aload_n hx hb dS_hasOpenRing_8 rfl (lv_at hl 0 rfl) ?_
    refine va_get (D := (dC, dI)) (ci := 0) (v := .int (sO v)) (C := R_S) (T := T_S) (N := 8) hx hb hw in_S hown hK hPa 0 rfl rfl 7 (by decide) (hw _ w_54) (fun _ h9 => h9) rfl dS_hasOpenRing_9 ?_
    refine lv_aload_n hx hb dS_hasOpenRing_12 rfl (lv_at hl 0 rfl) ?_
    refine va_get (D := (dC, dI)) (ci := 0) (v := .int (sN v)) (C := R_S) (T := T_S) (N := 8) hx hb hw in_S hown hK hPa 0 rfl rfl 6 (by decide) (hw _ w_52) (fun _ h9 => h9) rfl dS_hasOpenRing_13 ?_
    refine lv_icmp_ge (tgt := 23) hx hb dS_hasOpenRing_16 (by decide) (fun c2 => ?_) (fun c2 => ?_)
    · have h := it_t c2 h
      exact k23 h ls (lv_sub hl [] rfl)
    · have h := it_f c2 h
      refine lv_iconst (v := 1) hx hb dS_hasOpenRing_19 (by decide) ?_
      refine lv_goto (tgt := 24) hx hb dS_hasOpenRing_20 (by decide) ?_
      exact k24 (1 : Int32) h ls (lv_sub hl [] rfl)
theorem dS_isWhole_0 : decode cS_isWhole 0 = .ok (.aload_n 0, 1) := by decide +kernel
theorem dS_isWhole_1 : decode cS_isWhole 1 = .ok (.getfield 34, 3) := by decide +kernel
theorem dS_isWhole_4 : decode cS_isWhole 4 = .ok (.ifCond .le 14, 3) := by decide +kernel
theorem dS_isWhole_7 : decode cS_isWhole 7 = .ok (.aload_n 0, 1) := by decide +kernel
theorem dS_isWhole_8 : decode cS_isWhole 8 = .ok (.invokevirtual 40, 3) := by decide +kernel
theorem dS_isWhole_11 : decode cS_isWhole 11 = .ok (.ifCond .ne 7, 3) := by decide +kernel
theorem dS_isWhole_14 : decode cS_isWhole 14 = .ok (.iconst 1, 1) := by decide +kernel
theorem dS_isWhole_15 : decode cS_isWhole 15 = .ok (.goto 4, 3) := by decide +kernel
theorem dS_isWhole_18 : decode cS_isWhole 18 = .ok (.iconst 0, 1) := by decide +kernel
theorem dS_isWhole_19 : decode cS_isWhole 19 = .ok (.ireturn, 1) := by decide +kernel
def f_S_isWhole_j19 (v : SV) (s0 : Int32) : Option Int32 := rb s0
def f_S_isWhole_j18 (v : SV) : Option Int32 := (f_S_isWhole_j19 v (0 : Int32))
def f_S_isWhole (v : SV) : Option Int32 := (if (sN v) ≤ 0 then (f_S_isWhole_j18 v) else (f_S_hasOpenRing v).bind fun u2 => (if u2 = 0 then (f_S_isWhole_j19 v (1 : Int32)) else (f_S_isWhole_j18 v)))
set_option maxHeartbeats 4000000 in
set_option maxRecDepth 100000 in
theorem k_S_isWhole (l : Launch) (dC : Nat → ClassId) (dI : Nat → Nat → Nat) (cL cI : ClassId) (a ax ay ae : Nat) (v : SV) (r : Int32) (h : f_S_isWhole v = some r) : Met l yS_isWhole wsS_isWhole ({ frames := 1, cells := 0, slots := 0, locals := 20 }) (rd_Pc [.ref a] (fun H => va_P (dC, dI) cls3 (shW cL cI a ax ay ae v) H) (dC, dI) cls3 [(cL, .long), (cI, .int)]) (vp_Si (fun z => z = r)) 0 0 (fun _ => False) := by
  refine Met.ofW (cc := cS_isWhole) (maxL := 1) (ret := (some .boolean)) (by decide) rfl ?_
  intro p e s m args below meth c s₁ B hml hv
  obtain ⟨rfl, hPa, hK⟩ := hv
  have hx := B.exec
  have hb := B.bytes
  have hr := B.returns
  have hw : ∀ w ∈ wG, w.before ([.ref a] : List Value).toArray s = true := fun w hq => atoms_spec (ws := wsS_isWhole) B.pre w (List.mem_cons_of_mem _ hq)
  have hown : s.vm.findClass R_S = some m.cls := findClass_of_methodNamed B.named
  have hlocks := B.notSynchronized
  have hl := lv_entry ([.ref a] : List Value) (n := 1) (Nat.le_of_ble_eq_true rfl)
  rw [lg_entry_eq]
  generalize (lg_sl ([.ref a] : List Value) ++ List.replicate (1 - (lg_sl ([.ref a] : List Value)).length) Slot.unset).toArray = ls at hl ⊢
  have hl : lv_has ls 1 [(0, .ref a)] := hl
  have k19 : ∀ (s0 : Int32), f_S_isWhole_j19 v s0 = some r →  ∀ (ls : Array Slot), lv_has ls 1 [] → W p l e (headSpec wsS_isWhole ({ frames := 1, cells := 0, slots := 0, locals := 20 })).room s m ([.ref a] : List Value).toArray below meth c s.heap [] 0 0 (MQ below (vp_Si (fun z => z = r)) ([.ref a] : List Value).toArray s 0 0 (fun _ => False)) (F0 m 19 ls [.int s0]) := by
    intro s0 h  ls hl
    unfold f_S_isWhole_j19 at h
    obtain ⟨hz, hr9⟩ := rb_of h
    exact W.zret hx hb hr hz (fun t ht hW => ⟨_, rfl, hr9, ht⟩) nil_locs dS_isWhole_19
  have k18 : f_S_isWhole_j18 v = some r →  ∀ (ls : Array Slot), lv_has ls 1 [] → W p l e (headSpec wsS_isWhole ({ frames := 1, cells := 0, slots := 0, locals := 20 })).room s m ([.ref a] : List Value).toArray below meth c s.heap [] 0 0 (MQ below (vp_Si (fun z => z = r)) ([.ref a] : List Value).toArray s 0 0 (fun _ => False)) (F0 m 18 ls []) := by
    intro  h  ls hl
    unfold f_S_isWhole_j18 at h
    refine lv_iconst (v := 0) hx hb dS_isWhole_18 (by decide) ?_
    exact k19 (0 : Int32) h ls (lv_sub hl [] rfl)
  unfold f_S_isWhole at h
  refine lv_aload_n hx hb dS_isWhole_0 rfl (lv_at hl 0 rfl) ?_
  refine va_get (D := (dC, dI)) (ci := 0) (v := .int (sN v)) (C := R_S) (T := T_S) (N := 8) hx hb hw in_S hown hK hPa 0 rfl rfl 6 (by decide) (hw _ w_52) (fun _ h9 => h9) rfl dS_isWhole_1 ?_
  refine lv_if_le (tgt := 18) hx hb dS_isWhole_4 (by decide) (fun c1 => ?_) (fun c1 => ?_)
  · have h := it_t c1 h
    exact k18 h ls (lv_sub hl [] rfl)
  · have h := it_f c1 h
    refine lv_aload_n hx hb dS_isWhole_7 rfl (lv_at hl 0 rfl) ?_
    obtain ⟨u2, hu2, h⟩ := ob_some h
    refine vp_callSi (va_Run.run (va_runV (As := []) (rest := []) ⟨hx, hb, hml, hown, hw⟩ (k_S_hasOpenRing l dC dI cL cI a ax ay ae v u2 hu2) (cwV 0 hw (gV w_302 w_252 w_253 w_7 w_254) rfl rfl rfl (by decide +kernel) ⟨Nat.le_of_ble_eq_true rfl, Nat.le_of_ble_eq_true rfl⟩) ⟨rd_blind, va_recv hK hPa (ci := 0) (q0 := 0) rfl rfl, rd_pre hPa hK⟩ rfl rfl hl.1 rfl (lv_room (Nat.le_of_ble_eq_true rfl)) dS_isWhole_8 ⟨Nat.le_of_ble_eq_true rfl, Nat.le_of_ble_eq_true rfl⟩)) (fun z hz => ?_)
    rw [hz]; clear hz
    refine lv_if_ne (tgt := 18) hx hb dS_isWhole_11 (by decide) (fun c3 => ?_) (fun c3 => ?_)
    · have h := it_f c3 h
      exact k18 h ls (lv_sub hl [] rfl)
    · have h := it_t c3 h
      refine lv_iconst (v := 1) hx hb dS_isWhole_14 (by decide) ?_
      refine lv_goto (tgt := 19) hx hb dS_isWhole_15 (by decide) ?_
      exact k19 (1 : Int32) h ls (lv_sub hl [] rfl)
theorem dS_takesCorners_0 : decode cS_takesCorners 0 = .ok (.aload_n 0, 1) := by decide +kernel
theorem dS_takesCorners_1 : decode cS_takesCorners 1 = .ok (.getfield 9, 3) := by decide +kernel
theorem dS_takesCorners_4 : decode cS_takesCorners 4 = .ok (.iconst 3, 1) := by decide +kernel
theorem dS_takesCorners_5 : decode cS_takesCorners 5 = .ok (.if_icmp .eq 20, 3) := by decide +kernel
theorem dS_takesCorners_8 : decode cS_takesCorners 8 = .ok (.aload_n 0, 1) := by decide +kernel
theorem dS_takesCorners_9 : decode cS_takesCorners 9 = .ok (.getfield 9, 3) := by decide +kernel
theorem dS_takesCorners_12 : decode cS_takesCorners 12 = .ok (.iconst 2, 1) := by decide +kernel
theorem dS_takesCorners_13 : decode cS_takesCorners 13 = .ok (.if_icmp .ne 16, 3) := by decide +kernel
theorem dS_takesCorners_16 : decode cS_takesCorners 16 = .ok (.aload_n 0, 1) := by decide +kernel
theorem dS_takesCorners_17 : decode cS_takesCorners 17 = .ok (.getfield 19, 3) := by decide +kernel
theorem dS_takesCorners_20 : decode cS_takesCorners 20 = .ok (.lconst 0, 1) := by decide +kernel
theorem dS_takesCorners_21 : decode cS_takesCorners 21 = .ok (.lcmp, 1) := by decide +kernel
theorem dS_takesCorners_22 : decode cS_takesCorners 22 = .ok (.ifCond .ne 7, 3) := by decide +kernel
theorem dS_takesCorners_25 : decode cS_takesCorners 25 = .ok (.iconst 1, 1) := by decide +kernel
theorem dS_takesCorners_26 : decode cS_takesCorners 26 = .ok (.goto 4, 3) := by decide +kernel
theorem dS_takesCorners_29 : decode cS_takesCorners 29 = .ok (.iconst 0, 1) := by decide +kernel
theorem dS_takesCorners_30 : decode cS_takesCorners 30 = .ok (.ireturn, 1) := by decide +kernel
def f_S_takesCorners_j30 (v : SV) (s0 : Int32) : Option Int32 := rb s0
def f_S_takesCorners_j29 (v : SV) : Option Int32 := (f_S_takesCorners_j30 v (0 : Int32))
def f_S_takesCorners_j25 (v : SV) : Option Int32 := (f_S_takesCorners_j30 v (1 : Int32))
def f_S_takesCorners (v : SV) : Option Int32 := (if (sF v) = (3 : Int32) then (f_S_takesCorners_j25 v) else (if (sF v) = (2 : Int32) then (if (lg_cmp (sR v) (0 : Int64)) = 0 then (f_S_takesCorners_j25 v) else (f_S_takesCorners_j29 v)) else (f_S_takesCorners_j29 v)))
set_option maxHeartbeats 4000000 in
set_option maxRecDepth 100000 in
theorem k_S_takesCorners (l : Launch) (dC : Nat → ClassId) (dI : Nat → Nat → Nat) (cL cI : ClassId) (a ax ay ae : Nat) (v : SV) (r : Int32) (h : f_S_takesCorners v = some r) : Met l yS_takesCorners wsS_takesCorners ({ frames := 0, cells := 0, slots := 0, locals := 0 }) (rd_Pc [.ref a] (fun H => va_P (dC, dI) cls3 (shW cL cI a ax ay ae v) H) (dC, dI) cls3 [(cL, .long), (cI, .int)]) (vp_Si (fun z => z = r)) 0 0 (fun _ => False) := by
  refine Met.ofW (cc := cS_takesCorners) (maxL := 1) (ret := (some .boolean)) (by decide) rfl ?_
  intro p e s m args below meth c s₁ B hml hv
  obtain ⟨rfl, hPa, hK⟩ := hv
  have hx := B.exec
  have hb := B.bytes
  have hr := B.returns
  have hw : ∀ w ∈ wG, w.before ([.ref a] : List Value).toArray s = true := fun w hq => atoms_spec (ws := wsS_takesCorners) B.pre w (List.mem_cons_of_mem _ hq)
  have hown : s.vm.findClass R_S = some m.cls := findClass_of_methodNamed B.named
  have hlocks := B.notSynchronized
  have hl := lv_entry ([.ref a] : List Value) (n := 1) (Nat.le_of_ble_eq_true rfl)
  rw [lg_entry_eq]
  generalize (lg_sl ([.ref a] : List Value) ++ List.replicate (1 - (lg_sl ([.ref a] : List Value)).length) Slot.unset).toArray = ls at hl ⊢
  have hl : lv_has ls 1 [(0, .ref a)] := hl
  have k30 : ∀ (s0 : Int32), f_S_takesCorners_j30 v s0 = some r →  ∀ (ls : Array Slot), lv_has ls 1 [] → W p l e (headSpec wsS_takesCorners ({ frames := 0, cells := 0, slots := 0, locals := 0 })).room s m ([.ref a] : List Value).toArray below meth c s.heap [] 0 0 (MQ below (vp_Si (fun z => z = r)) ([.ref a] : List Value).toArray s 0 0 (fun _ => False)) (F0 m 30 ls [.int s0]) := by
    intro s0 h  ls hl
    unfold f_S_takesCorners_j30 at h
    obtain ⟨hz, hr9⟩ := rb_of h
    exact W.zret hx hb hr hz (fun t ht hW => ⟨_, rfl, hr9, ht⟩) nil_locs dS_takesCorners_30
  have k29 : f_S_takesCorners_j29 v = some r →  ∀ (ls : Array Slot), lv_has ls 1 [] → W p l e (headSpec wsS_takesCorners ({ frames := 0, cells := 0, slots := 0, locals := 0 })).room s m ([.ref a] : List Value).toArray below meth c s.heap [] 0 0 (MQ below (vp_Si (fun z => z = r)) ([.ref a] : List Value).toArray s 0 0 (fun _ => False)) (F0 m 29 ls []) := by
    intro  h  ls hl
    unfold f_S_takesCorners_j29 at h
    refine lv_iconst (v := 0) hx hb dS_takesCorners_29 (by decide) ?_
    exact k30 (0 : Int32) h ls (lv_sub hl [] rfl)
  have k25 : f_S_takesCorners_j25 v = some r →  ∀ (ls : Array Slot), lv_has ls 1 [] → W p l e (headSpec wsS_takesCorners ({ frames := 0, cells := 0, slots := 0, locals := 0 })).room s m ([.ref a] : List Value).toArray below meth c s.heap [] 0 0 (MQ below (vp_Si (fun z => z = r)) ([.ref a] : List Value).toArray s 0 0 (fun _ => False)) (F0 m 25 ls []) := by
    intro  h  ls hl
    unfold f_S_takesCorners_j25 at h
    refine lv_iconst (v := 1) hx hb dS_takesCorners_25 (by decide) ?_
    refine lv_goto (tgt := 30) hx hb dS_takesCorners_26 (by decide) ?_
    exact k30 (1 : Int32) h ls (lv_sub hl [] rfl)
  unfold f_S_takesCorners at h
  refine lv_aload_n hx hb dS_takesCorners_0 rfl (lv_at hl 0 rfl) ?_
  refine va_get (D := (dC, dI)) (ci := 0) (v := .int (sF v)) (C := R_S) (T := T_S) (N := 8) hx hb hw in_S hown hK hPa 0 rfl rfl 0 (by decide) (hw _ w_40) (fun _ h9 => h9) rfl dS_takesCorners_1 ?_
  refine lv_iconst (v := 3) hx hb dS_takesCorners_4 (by decide) ?_
  refine lv_icmp_eq (tgt := 25) hx hb dS_takesCorners_5 (by decide) (fun c1 => ?_) (fun c1 => ?_)
  · have h := it_t c1 h
    exact k25 h ls (lv_sub hl [] rfl)
  · have h := it_f c1 h
    refine lv_aload_n hx hb dS_takesCorners_8 rfl (lv_at hl 0 rfl) ?_
    refine va_get (D := (dC, dI)) (ci := 0) (v := .int (sF v)) (C := R_S) (T := T_S) (N := 8) hx hb hw in_S hown hK hPa 0 rfl rfl 0 (by decide) (hw _ w_40) (fun _ h9 => h9) rfl dS_takesCorners_9 ?_
    refine lv_iconst (v := 2) hx hb dS_takesCorners_12 (by decide) ?_
    refine lv_icmp_ne (tgt := 29) hx hb dS_takesCorners_13 (by decide) (fun c2 => ?_) (fun c2 => ?_)
    · have h := it_f c2 h
      exact k29 h ls (lv_sub hl [] rfl)
    · have h := it_t c2 h
      refine lv_aload_n hx hb dS_takesCorners_16 rfl (lv_at hl 0 rfl) ?_
      refine va_get (D := (dC, dI)) (ci := 0) (v := .long (sR v)) (C := R_S) (T := T_S) (N := 8) hx hb hw in_S hown hK hPa 0 rfl rfl 2 (by decide) (hw _ w_44) (fun _ h9 => h9) rfl dS_takesCorners_17 ?_
      refine lv_lconst (v := 0) hx hb dS_takesCorners_20 (by decide) ?_
      refine W.lcmp hx hb dS_takesCorners_21 ?_
      refine lv_if_ne (tgt := 29) hx hb dS_takesCorners_22 (by decide) (fun c3 => ?_) (fun c3 => ?_)
      · have h := it_f c3 h
        exact k29 h ls (lv_sub hl [] rfl)
      · have h := it_t c3 h
        exact k25 h ls (lv_sub hl [] rfl)
theorem dS_isOpenRingEmpty_0 : decode cS_isOpenRingEmpty 0 = .ok (.aload_n 0, 1) := by decide +kernel
theorem dS_isOpenRingEmpty_1 : decode cS_isOpenRingEmpty 1 = .ok (.getfield 37, 3) := by decide +kernel
theorem dS_isOpenRingEmpty_4 : decode cS_isOpenRingEmpty 4 = .ok (.iconst 2, 1) := by decide +kernel
theorem dS_isOpenRingEmpty_5 : decode cS_isOpenRingEmpty 5 = .ok (.iadd, 1) := by decide +kernel
theorem dS_isOpenRingEmpty_6 : decode cS_isOpenRingEmpty 6 = .ok (.istore_n 1, 1) := by decide +kernel
theorem dS_isOpenRingEmpty_7 : decode cS_isOpenRingEmpty 7 = .ok (.iload_n 1, 1) := by decide +kernel
theorem dS_isOpenRingEmpty_8 : decode cS_isOpenRingEmpty 8 = .ok (.aload_n 0, 1) := by decide +kernel
theorem dS_isOpenRingEmpty_9 : decode cS_isOpenRingEmpty 9 = .ok (.getfield 34, 3) := by decide +kernel
theorem dS_isOpenRingEmpty_12 : decode cS_isOpenRingEmpty 12 = .ok (.if_icmp .ge 36, 3) := by decide +kernel
theorem dS_isOpenRingEmpty_15 : decode cS_isOpenRingEmpty 15 = .ok (.aload_n 0, 1) := by decide +kernel
theorem dS_isOpenRingEmpty_16 : decode cS_isOpenRingEmpty 16 = .ok (.aload_n 0, 1) := by decide +kernel
theorem dS_isOpenRingEmpty_17 : decode cS_isOpenRingEmpty 17 = .ok (.getfield 37, 3) := by decide +kernel
theorem dS_isOpenRingEmpty_20 : decode cS_isOpenRingEmpty 20 = .ok (.aload_n 0, 1) := by decide +kernel
theorem dS_isOpenRingEmpty_21 : decode cS_isOpenRingEmpty 21 = .ok (.getfield 23, 3) := by decide +kernel
theorem dS_isOpenRingEmpty_24 : decode cS_isOpenRingEmpty 24 = .ok (.iload_n 1, 1) := by decide +kernel
theorem dS_isOpenRingEmpty_25 : decode cS_isOpenRingEmpty 25 = .ok (.laload, 1) := by decide +kernel
theorem dS_isOpenRingEmpty_26 : decode cS_isOpenRingEmpty 26 = .ok (.aload_n 0, 1) := by decide +kernel
theorem dS_isOpenRingEmpty_27 : decode cS_isOpenRingEmpty 27 = .ok (.getfield 27, 3) := by decide +kernel
theorem dS_isOpenRingEmpty_30 : decode cS_isOpenRingEmpty 30 = .ok (.iload_n 1, 1) := by decide +kernel
theorem dS_isOpenRingEmpty_31 : decode cS_isOpenRingEmpty 31 = .ok (.laload, 1) := by decide +kernel
theorem dS_isOpenRingEmpty_32 : decode cS_isOpenRingEmpty 32 = .ok (.invokevirtual 50, 3) := by decide +kernel
theorem dS_isOpenRingEmpty_35 : decode cS_isOpenRingEmpty 35 = .ok (.lconst 0, 1) := by decide +kernel
theorem dS_isOpenRingEmpty_36 : decode cS_isOpenRingEmpty 36 = .ok (.lcmp, 1) := by decide +kernel
theorem dS_isOpenRingEmpty_37 : decode cS_isOpenRingEmpty 37 = .ok (.ifCond .eq 5, 3) := by decide +kernel
theorem dS_isOpenRingEmpty_40 : decode cS_isOpenRingEmpty 40 = .ok (.iconst 0, 1) := by decide +kernel
theorem dS_isOpenRingEmpty_41 : decode cS_isOpenRingEmpty 41 = .ok (.ireturn, 1) := by decide +kernel
theorem dS_isOpenRingEmpty_42 : decode cS_isOpenRingEmpty 42 = .ok (.iinc 1 1, 3) := by decide +kernel
theorem dS_isOpenRingEmpty_45 : decode cS_isOpenRingEmpty 45 = .ok (.goto (-38), 3) := by decide +kernel
theorem dS_isOpenRingEmpty_48 : decode cS_isOpenRingEmpty 48 = .ok (.iconst 1, 1) := by decide +kernel
theorem dS_isOpenRingEmpty_49 : decode cS_isOpenRingEmpty 49 = .ok (.ireturn, 1) := by decide +kernel
def f_S_isOpenRingEmpty_l7 (v : SV) : Nat → Int32 → Option Int32
 | 0, _ => none
 | n + 1, p1 => (if (sN v) ≤ p1 then rb (1 : Int32) else (ld 48 (sX v) p1).bind fun u2 => (ld 48 (sY v) p1).bind fun u3 => (f_S_cross v (sO v) u2 u3).bind fun u4 => (if (lg_cmp u4 (0 : Int64)) = 0 then ((f_S_isOpenRingEmpty_l7 v n) (p1 + 1)) else rb (0 : Int32)))
def f_S_isOpenRingEmpty (v : SV) : Option Int32 := (f_S_isOpenRingEmpty_l7 v 64 ((sO v) + (2 : Int32)))
set_option maxHeartbeats 4000000 in
set_option maxRecDepth 100000 in
theorem k_S_isOpenRingEmpty (l : Launch) (dC : Nat → ClassId) (dI : Nat → Nat → Nat) (cL cI : ClassId) (a ax ay ae : Nat) (v : SV) (r : Int32) (h : f_S_isOpenRingEmpty v = some r) : Met l yS_isOpenRingEmpty wsS_isOpenRingEmpty ({ frames := 1, cells := 0, slots := 0, locals := 26 }) (rd_Pc [.ref a] (fun H => va_P (dC, dI) cls3 (shW cL cI a ax ay ae v) H) (dC, dI) cls3 [(cL, .long), (cI, .int)]) (vp_Si (fun z => z = r)) 0 0 (fun _ => False) := by
  refine Met.ofW (cc := cS_isOpenRingEmpty) (maxL := 2) (ret := (some .boolean)) (by decide) rfl ?_
  intro p e s m args below meth c s₁ B hml hv
  obtain ⟨rfl, hPa, hK⟩ := hv
  have hx := B.exec
  have hb := B.bytes
  have hr := B.returns
  have hw : ∀ w ∈ wG, w.before ([.ref a] : List Value).toArray s = true := fun w hq => atoms_spec (ws := wsS_isOpenRingEmpty) B.pre w (List.mem_cons_of_mem _ hq)
  have hown : s.vm.findClass R_S = some m.cls := findClass_of_methodNamed B.named
  have hlocks := B.notSynchronized
  have hl := lv_entry ([.ref a] : List Value) (n := 2) (Nat.le_of_ble_eq_true rfl)
  rw [lg_entry_eq]
  generalize (lg_sl ([.ref a] : List Value) ++ List.replicate (2 - (lg_sl ([.ref a] : List Value)).length) Slot.unset).toArray = ls at hl ⊢
  have hl : lv_has ls 2 [(0, .ref a)] := hl
  have k7 : ∀ (n7 : Nat), ∀ (p1 : Int32), f_S_isOpenRingEmpty_l7 v n7 p1 = some r →  ∀ (ls : Array Slot), lv_has ls 2 [(0, .ref a), (1, .int p1)] → W p l e (headSpec wsS_isOpenRingEmpty ({ frames := 1, cells := 0, slots := 0, locals := 26 })).room s m ([.ref a] : List Value).toArray below meth c s.heap [] 0 0 (MQ below (vp_Si (fun z => z = r)) ([.ref a] : List Value).toArray s 0 0 (fun _ => False)) (F0 m 7 ls []) := by
    intro n7
    induction n7 with
    | zero => intro p1 h; exact absurd h (by simp [f_S_isOpenRingEmpty_l7])
    | succ n7 ih7 =>
      intro p1 h  ls hl
      rw [f_S_isOpenRingEmpty_l7] at h
      refine lv_iload_n hx hb dS_isOpenRingEmpty_7 rfl (lv_at hl 1 rfl) ?_
      refine lv_aload_n hx hb dS_isOpenRingEmpty_8 rfl (lv_at hl 0 rfl) ?_
      refine va_get (D := (dC, dI)) (ci := 0) (v := .int (sN v)) (C := R_S) (T := T_S) (N := 8) hx hb hw in_S hown hK hPa 0 rfl rfl 6 (by decide) (hw _ w_52) (fun _ h9 => h9) rfl dS_isOpenRingEmpty_9 ?_
      refine lv_icmp_ge (tgt := 48) hx hb dS_isOpenRingEmpty_12 (by decide) (fun c1 => ?_) (fun c1 => ?_)
      · have h := it_t c1 h
        refine lv_iconst (v := 1) hx hb dS_isOpenRingEmpty_48 (by decide) ?_
        obtain ⟨hz, hr9⟩ := rb_of h
        exact W.zret hx hb hr hz (fun t ht hW => ⟨_, rfl, hr9, ht⟩) nil_locs dS_isOpenRingEmpty_49
      · have h := it_f c1 h
        refine lv_aload_n hx hb dS_isOpenRingEmpty_15 rfl (lv_at hl 0 rfl) ?_
        refine lv_aload_n hx hb dS_isOpenRingEmpty_16 rfl (lv_at hl 0 rfl) ?_
        refine va_get (D := (dC, dI)) (ci := 0) (v := .int (sO v)) (C := R_S) (T := T_S) (N := 8) hx hb hw in_S hown hK hPa 0 rfl rfl 7 (by decide) (hw _ w_54) (fun _ h9 => h9) rfl dS_isOpenRingEmpty_17 ?_
        refine lv_aload_n hx hb dS_isOpenRingEmpty_20 rfl (lv_at hl 0 rfl) ?_
        refine va_get (D := (dC, dI)) (ci := 0) (v := .ref ax) (C := R_S) (T := T_S) (N := 8) hx hb hw in_S hown hK hPa 0 rfl rfl 3 (by decide) (hw _ w_46) (fun _ h9 => h9) rfl dS_isOpenRingEmpty_21 ?_
        refine lv_iload_n hx hb dS_isOpenRingEmpty_24 rfl (lv_at hl 1 rfl) ?_
        obtain ⟨u2, hu2, h⟩ := ob_some h
        obtain ⟨hiu2, eu2⟩ := ld_of hu2
        refine va_lald hx hb hK hPa 1 0 rfl rfl hiu2 dS_isOpenRingEmpty_25 ?_
        rw [eu2]
        refine lv_aload_n hx hb dS_isOpenRingEmpty_26 rfl (lv_at hl 0 rfl) ?_
        refine va_get (D := (dC, dI)) (ci := 0) (v := .ref ay) (C := R_S) (T := T_S) (N := 8) hx hb hw in_S hown hK hPa 0 rfl rfl 4 (by decide) (hw _ w_48) (fun _ h9 => h9) rfl dS_isOpenRingEmpty_27 ?_
        refine lv_iload_n hx hb dS_isOpenRingEmpty_30 rfl (lv_at hl 1 rfl) ?_
        obtain ⟨u3, hu3, h⟩ := ob_some h
        obtain ⟨hiu3, eu3⟩ := ld_of hu3
        refine va_lald hx hb hK hPa 2 0 rfl rfl hiu3 dS_isOpenRingEmpty_31 ?_
        rw [eu3]
        obtain ⟨u4, hu4, h⟩ := ob_some h
        refine vp_callSl (va_Run.run (va_runV (As := [.int (sO v), .long u2, .long u3]) (rest := []) ⟨hx, hb, hml, hown, hw⟩ (k_S_cross l dC dI cL cI a ax ay ae v (sO v) u2 u3 u4 hu4) (cwV 3 hw (gV w_264 w_265 w_266 w_7 w_267) rfl rfl rfl (by decide +kernel) ⟨Nat.le_of_ble_eq_true rfl, Nat.le_of_ble_eq_true rfl⟩) ⟨rd_blind, va_recv hK hPa (ci := 0) (q0 := 0) rfl rfl, rd_pre hPa hK⟩ rfl rfl hl.1 rfl (lv_room (Nat.le_of_ble_eq_true rfl)) dS_isOpenRingEmpty_32 ⟨Nat.le_of_ble_eq_true rfl, Nat.le_of_ble_eq_true rfl⟩)) (fun z hz => ?_)
        rw [hz]; clear hz
        refine lv_lconst (v := 0) hx hb dS_isOpenRingEmpty_35 (by decide) ?_
        refine W.lcmp hx hb dS_isOpenRingEmpty_36 ?_
        refine lv_if_eq (tgt := 42) hx hb dS_isOpenRingEmpty_37 (by decide) (fun c5 => ?_) (fun c5 => ?_)
        · have h := it_t c5 h
          refine lv_iinc (v := p1 + 1) (lv' := [(1, .int (p1 + 1)), (0, .ref a)]) hx hb dS_isOpenRingEmpty_42 hl (k := 1) rfl rfl (by decide) rfl (fun ls hl => ?_)
          refine lv_goto (tgt := 7) hx hb dS_isOpenRingEmpty_45 (by decide) ?_
          exact ih7 (p1 + 1) h ls (lv_sub hl [1, 0] rfl)
        · have h := it_f c5 h
          refine lv_iconst (v := 0) hx hb dS_isOpenRingEmpty_40 (by decide) ?_
          obtain ⟨hz, hr9⟩ := rb_of h
          exact W.zret hx hb hr hz (fun t ht hW => ⟨_, rfl, hr9, ht⟩) nil_locs dS_isOpenRingEmpty_41
  unfold f_S_isOpenRingEmpty at h
  refine lv_aload_n hx hb dS_isOpenRingEmpty_0 rfl (lv_at hl 0 rfl) ?_
  refine va_get (D := (dC, dI)) (ci := 0) (v := .int (sO v)) (C := R_S) (T := T_S) (N := 8) hx hb hw in_S hown hK hPa 0 rfl rfl 7 (by decide) (hw _ w_54) (fun _ h9 => h9) rfl dS_isOpenRingEmpty_1 ?_
  refine lv_iconst (v := 2) hx hb dS_isOpenRingEmpty_4 (by decide) ?_
  refine lv_iadd hx hb dS_isOpenRingEmpty_5 ?_
  refine lv_istore_n (lv' := [(1, .int ((sO v) + (2 : Int32))), (0, .ref a)]) hx hb dS_isOpenRingEmpty_6 rfl hl (by decide) rfl (fun ls hl => ?_)
  exact k7 64 ((sO v) + (2 : Int32)) h ls (lv_sub hl [1, 0] rfl)
