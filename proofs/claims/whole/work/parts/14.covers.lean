/-! covering: reading methods, laid by program -/
theorem dS_coveredFrom_0 : decode cS_coveredFrom 0 = .ok (.iload_n 3, 1) := by decide +kernel
theorem dS_coveredFrom_1 : decode cS_coveredFrom 1 = .ok (.ifCond .eq 10, 3) := by decide +kernel
theorem dS_coveredFrom_4 : decode cS_coveredFrom 4 = .ok (.aload_n 0, 1) := by decide +kernel
theorem dS_coveredFrom_5 : decode cS_coveredFrom 5 = .ok (.getfield 23, 3) := by decide +kernel
theorem dS_coveredFrom_8 : decode cS_coveredFrom 8 = .ok (.goto 7, 3) := by decide +kernel
theorem dS_coveredFrom_11 : decode cS_coveredFrom 11 = .ok (.aload_n 0, 1) := by decide +kernel
theorem dS_coveredFrom_12 : decode cS_coveredFrom 12 = .ok (.getfield 27, 3) := by decide +kernel
theorem dS_coveredFrom_15 : decode cS_coveredFrom 15 = .ok (.astore 6, 2) := by decide +kernel
theorem dS_coveredFrom_17 : decode cS_coveredFrom 17 = .ok (.lload_n 1, 1) := by decide +kernel
theorem dS_coveredFrom_18 : decode cS_coveredFrom 18 = .ok (.lstore 7, 2) := by decide +kernel
theorem dS_coveredFrom_20 : decode cS_coveredFrom 20 = .ok (.iconst 0, 1) := by decide +kernel
theorem dS_coveredFrom_21 : decode cS_coveredFrom 21 = .ok (.istore 9, 2) := by decide +kernel
theorem dS_coveredFrom_23 : decode cS_coveredFrom 23 = .ok (.iload 9, 2) := by decide +kernel
theorem dS_coveredFrom_25 : decode cS_coveredFrom 25 = .ok (.aload_n 0, 1) := by decide +kernel
theorem dS_coveredFrom_26 : decode cS_coveredFrom 26 = .ok (.getfield 34, 3) := by decide +kernel
theorem dS_coveredFrom_29 : decode cS_coveredFrom 29 = .ok (.if_icmp .ge 119, 3) := by decide +kernel
theorem dS_coveredFrom_32 : decode cS_coveredFrom 32 = .ok (.aload_n 0, 1) := by decide +kernel
theorem dS_coveredFrom_33 : decode cS_coveredFrom 33 = .ok (.getfield 30, 3) := by decide +kernel
theorem dS_coveredFrom_36 : decode cS_coveredFrom 36 = .ok (.iload 9, 2) := by decide +kernel
theorem dS_coveredFrom_38 : decode cS_coveredFrom 38 = .ok (.iaload, 1) := by decide +kernel
theorem dS_coveredFrom_39 : decode cS_coveredFrom 39 = .ok (.istore 10, 2) := by decide +kernel
theorem dS_coveredFrom_41 : decode cS_coveredFrom 41 = .ok (.aload 6, 2) := by decide +kernel
theorem dS_coveredFrom_43 : decode cS_coveredFrom 43 = .ok (.iload 9, 2) := by decide +kernel
theorem dS_coveredFrom_45 : decode cS_coveredFrom 45 = .ok (.laload, 1) := by decide +kernel
theorem dS_coveredFrom_46 : decode cS_coveredFrom 46 = .ok (.aload 6, 2) := by decide +kernel
theorem dS_coveredFrom_48 : decode cS_coveredFrom 48 = .ok (.iload 10, 2) := by decide +kernel
theorem dS_coveredFrom_50 : decode cS_coveredFrom 50 = .ok (.laload, 1) := by decide +kernel
theorem dS_coveredFrom_51 : decode cS_coveredFrom 51 = .ok (.invokestatic 63, 3) := by decide +kernel
theorem dS_coveredFrom_54 : decode cS_coveredFrom 54 = .ok (.lstore 11, 2) := by decide +kernel
theorem dS_coveredFrom_56 : decode cS_coveredFrom 56 = .ok (.aload 6, 2) := by decide +kernel
theorem dS_coveredFrom_58 : decode cS_coveredFrom 58 = .ok (.iload 9, 2) := by decide +kernel
theorem dS_coveredFrom_60 : decode cS_coveredFrom 60 = .ok (.laload, 1) := by decide +kernel
theorem dS_coveredFrom_61 : decode cS_coveredFrom 61 = .ok (.aload 6, 2) := by decide +kernel
theorem dS_coveredFrom_63 : decode cS_coveredFrom 63 = .ok (.iload 10, 2) := by decide +kernel
theorem dS_coveredFrom_65 : decode cS_coveredFrom 65 = .ok (.laload, 1) := by decide +kernel
theorem dS_coveredFrom_66 : decode cS_coveredFrom 66 = .ok (.invokestatic 69, 3) := by decide +kernel
theorem dS_coveredFrom_69 : decode cS_coveredFrom 69 = .ok (.lstore 13, 2) := by decide +kernel
theorem dS_coveredFrom_71 : decode cS_coveredFrom 71 = .ok (.lload 11, 2) := by decide +kernel
theorem dS_coveredFrom_73 : decode cS_coveredFrom 73 = .ok (.lload_n 1, 1) := by decide +kernel
theorem dS_coveredFrom_74 : decode cS_coveredFrom 74 = .ok (.lcmp, 1) := by decide +kernel
theorem dS_coveredFrom_75 : decode cS_coveredFrom 75 = .ok (.ifCond .gt 67, 3) := by decide +kernel
theorem dS_coveredFrom_78 : decode cS_coveredFrom 78 = .ok (.lload 13, 2) := by decide +kernel
theorem dS_coveredFrom_80 : decode cS_coveredFrom 80 = .ok (.lload 7, 2) := by decide +kernel
theorem dS_coveredFrom_82 : decode cS_coveredFrom 82 = .ok (.lcmp, 1) := by decide +kernel
theorem dS_coveredFrom_83 : decode cS_coveredFrom 83 = .ok (.ifCond .le 59, 3) := by decide +kernel
theorem dS_coveredFrom_86 : decode cS_coveredFrom 86 = .ok (.aload 4, 2) := by decide +kernel
theorem dS_coveredFrom_88 : decode cS_coveredFrom 88 = .ok (.iload 5, 2) := by decide +kernel
theorem dS_coveredFrom_90 : decode cS_coveredFrom 90 = .ok (.aload_n 0, 1) := by decide +kernel
theorem dS_coveredFrom_91 : decode cS_coveredFrom 91 = .ok (.getfield 23, 3) := by decide +kernel
theorem dS_coveredFrom_94 : decode cS_coveredFrom 94 = .ok (.iload 9, 2) := by decide +kernel
theorem dS_coveredFrom_96 : decode cS_coveredFrom 96 = .ok (.laload, 1) := by decide +kernel
theorem dS_coveredFrom_97 : decode cS_coveredFrom 97 = .ok (.aload_n 0, 1) := by decide +kernel
theorem dS_coveredFrom_98 : decode cS_coveredFrom 98 = .ok (.getfield 27, 3) := by decide +kernel
theorem dS_coveredFrom_101 : decode cS_coveredFrom 101 = .ok (.iload 9, 2) := by decide +kernel
theorem dS_coveredFrom_103 : decode cS_coveredFrom 103 = .ok (.laload, 1) := by decide +kernel
theorem dS_coveredFrom_104 : decode cS_coveredFrom 104 = .ok (.invokevirtual 50, 3) := by decide +kernel
theorem dS_coveredFrom_107 : decode cS_coveredFrom 107 = .ok (.lconst 0, 1) := by decide +kernel
theorem dS_coveredFrom_108 : decode cS_coveredFrom 108 = .ok (.lcmp, 1) := by decide +kernel
theorem dS_coveredFrom_109 : decode cS_coveredFrom 109 = .ok (.ifCond .ne 33, 3) := by decide +kernel
theorem dS_coveredFrom_112 : decode cS_coveredFrom 112 = .ok (.aload 4, 2) := by decide +kernel
theorem dS_coveredFrom_114 : decode cS_coveredFrom 114 = .ok (.iload 5, 2) := by decide +kernel
theorem dS_coveredFrom_116 : decode cS_coveredFrom 116 = .ok (.aload_n 0, 1) := by decide +kernel
theorem dS_coveredFrom_117 : decode cS_coveredFrom 117 = .ok (.getfield 23, 3) := by decide +kernel
theorem dS_coveredFrom_120 : decode cS_coveredFrom 120 = .ok (.iload 10, 2) := by decide +kernel
theorem dS_coveredFrom_122 : decode cS_coveredFrom 122 = .ok (.laload, 1) := by decide +kernel
theorem dS_coveredFrom_123 : decode cS_coveredFrom 123 = .ok (.aload_n 0, 1) := by decide +kernel
theorem dS_coveredFrom_124 : decode cS_coveredFrom 124 = .ok (.getfield 27, 3) := by decide +kernel
theorem dS_coveredFrom_127 : decode cS_coveredFrom 127 = .ok (.iload 10, 2) := by decide +kernel
theorem dS_coveredFrom_129 : decode cS_coveredFrom 129 = .ok (.laload, 1) := by decide +kernel
theorem dS_coveredFrom_130 : decode cS_coveredFrom 130 = .ok (.invokevirtual 50, 3) := by decide +kernel
theorem dS_coveredFrom_133 : decode cS_coveredFrom 133 = .ok (.lconst 0, 1) := by decide +kernel
theorem dS_coveredFrom_134 : decode cS_coveredFrom 134 = .ok (.lcmp, 1) := by decide +kernel
theorem dS_coveredFrom_135 : decode cS_coveredFrom 135 = .ok (.ifCond .ne 7, 3) := by decide +kernel
theorem dS_coveredFrom_138 : decode cS_coveredFrom 138 = .ok (.lload 13, 2) := by decide +kernel
theorem dS_coveredFrom_140 : decode cS_coveredFrom 140 = .ok (.lstore 7, 2) := by decide +kernel
theorem dS_coveredFrom_142 : decode cS_coveredFrom 142 = .ok (.iinc 9 1, 3) := by decide +kernel
theorem dS_coveredFrom_145 : decode cS_coveredFrom 145 = .ok (.goto (-122), 3) := by decide +kernel
theorem dS_coveredFrom_148 : decode cS_coveredFrom 148 = .ok (.lload 7, 2) := by decide +kernel
theorem dS_coveredFrom_150 : decode cS_coveredFrom 150 = .ok (.lreturn, 1) := by decide +kernel
def f_S_coveredFrom_j142 (v : SV) (w : SV) (K23 : Int64 → Int32 → (Nat → Int64) → Int64 → Int32 → Option Int64) (p1 : Int64) (p5 : Int32) (f6 : Nat → Int64) (p7 : Int64) (p9 : Int32) : Option Int64 := (K23 p1 p5 f6 p7 (p9 + 1))
def f_S_coveredFrom_l23 (v : SV) (w : SV) : Nat → Int64 → Int32 → (Nat → Int64) → Int64 → Int32 → Option Int64
 | 0, _, _, _, _, _ => none
 | n + 1, p1, p5, f6, p7, p9 => (if (sN v) ≤ p9 then some p7 else (ld 48 (sE v) p9).bind fun u3 => (ld 48 f6 p9).bind fun u4 => (ld 48 f6 u3).bind fun u5 => (some (if u5 < u4 then u5 else u4)).bind fun u6 => (ld 48 f6 p9).bind fun u7 => (ld 48 f6 u3).bind fun u8 => (some (if u8 < u7 then u7 else u8)).bind fun u9 => (if 0 < (lg_cmp u6 p1) then (f_S_coveredFrom_j142 v w (f_S_coveredFrom_l23 v w n) p1 p5 f6 p7 p9) else (if (lg_cmp u9 p7) ≤ 0 then (f_S_coveredFrom_j142 v w (f_S_coveredFrom_l23 v w n) p1 p5 f6 p7 p9) else (ld 48 (sX v) p9).bind fun u12 => (ld 48 (sY v) p9).bind fun u13 => (f_S_cross w p5 u12 u13).bind fun u14 => (if (lg_cmp u14 (0 : Int64)) = 0 then (ld 48 (sX v) u3).bind fun u16 => (ld 48 (sY v) u3).bind fun u17 => (f_S_cross w p5 u16 u17).bind fun u18 => (if (lg_cmp u18 (0 : Int64)) = 0 then (f_S_coveredFrom_j142 v w (f_S_coveredFrom_l23 v w n) p1 p5 f6 u9 p9) else (f_S_coveredFrom_j142 v w (f_S_coveredFrom_l23 v w n) p1 p5 f6 p7 p9)) else (f_S_coveredFrom_j142 v w (f_S_coveredFrom_l23 v w n) p1 p5 f6 p7 p9)))))
def f_S_coveredFrom_j15 (v : SV) (w : SV) (p1 : Int64) (p5 : Int32) (fs0 : Nat → Int64) : Option Int64 := (f_S_coveredFrom_l23 v w 64 p1 p5 fs0 p1 (0 : Int32))
def f_S_coveredFrom (v : SV) (w : SV) (x1 : Int64) (x3 : Int32) (x5 : Int32) : Option Int64 := (if x3 = 0 then (f_S_coveredFrom_j15 v w x1 x5 (sY v)) else (f_S_coveredFrom_j15 v w x1 x5 (sX v)))
set_option maxHeartbeats 4000000 in
set_option maxRecDepth 100000 in
theorem k_S_coveredFrom (l : Launch) (dC : Nat → ClassId) (dI : Nat → Nat → Nat) (cL cI : ClassId) (a ax ay ae : Nat) (v : SV) (o ox oy oe : Nat) (w : SV) (x1 : Int64) (x3 : Int32) (x5 : Int32) (r : Int64) (h : f_S_coveredFrom v w x1 x3 x5 = some r) : Met l yS_coveredFrom wsS_coveredFrom ({ frames := 1, cells := 0, slots := 0, locals := 26 }) (rd_Pc [.ref a, .long x1, .int x3, .ref o, .int x5] (fun H => va_P (dC, dI) cls3 (shW cL cI a ax ay ae v) H ∧ va_P (dC, dI) cls3 (shW cL cI o ox oy oe w) H) (dC, dI) cls3 [(cL, .long), (cI, .int)]) (vp_Sl (fun z => z = r)) 0 0 (fun _ => False) := by
  refine Met.ofW (cc := cS_coveredFrom) (maxL := 15) (ret := (some .long)) (by decide) rfl ?_
  intro p e s m args below meth c s₁ B hml hv
  obtain ⟨rfl, ⟨hPa, hPo⟩, hK⟩ := hv
  have hx := B.exec
  have hb := B.bytes
  have hr := B.returns
  have hw : ∀ w ∈ wG, w.before ([.ref a, .long x1, .int x3, .ref o, .int x5] : List Value).toArray s = true := fun w hq => atoms_spec (ws := wsS_coveredFrom) B.pre w (List.mem_cons_of_mem _ hq)
  have hown : s.vm.findClass R_S = some m.cls := findClass_of_methodNamed B.named
  have hlocks := B.notSynchronized
  have hl := lv_entry ([.ref a, .long x1, .int x3, .ref o, .int x5] : List Value) (n := 15) (Nat.le_of_ble_eq_true rfl)
  rw [lg_entry_eq]
  generalize (lg_sl ([.ref a, .long x1, .int x3, .ref o, .int x5] : List Value) ++ List.replicate (15 - (lg_sl ([.ref a, .long x1, .int x3, .ref o, .int x5] : List Value)).length) Slot.unset).toArray = ls at hl ⊢
  have hl : lv_has ls 15 [(0, .ref a), (1, .long x1), (3, .int x3), (4, .ref o), (5, .int x5)] := hl
  have k23 : ∀ (n23 : Nat), ∀ (p1 : Int64) (p5 : Int32) (f6 : Nat → Int64) (p7 : Int64) (p9 : Int32), f_S_coveredFrom_l23 v w n23 p1 p5 f6 p7 p9 = some r → ∀ (q6 : Nat), va_P (dC, dI) cls3 [(q6, .inl (cL, 48, .inr (.inl f6)))] s.heap → ∀ (ls : Array Slot), lv_has ls 15 [(0, .ref a), (1, .long p1), (4, .ref o), (5, .int p5), (6, .ref q6), (7, .long p7), (9, .int p9)] → W p l e (headSpec wsS_coveredFrom ({ frames := 1, cells := 0, slots := 0, locals := 26 })).room s m ([.ref a, .long x1, .int x3, .ref o, .int x5] : List Value).toArray below meth c s.heap [] 0 0 (MQ below (vp_Sl (fun z => z = r)) ([.ref a, .long x1, .int x3, .ref o, .int x5] : List Value).toArray s 0 0 (fun _ => False)) (F0 m 23 ls []) := by
    intro n23
    induction n23 with
    | zero => intro p1 p5 f6 p7 p9 h; exact absurd h (by simp [f_S_coveredFrom_l23])
    | succ n23 ih23 =>
      have k142 : ∀ (p1 : Int64) (p5 : Int32) (f6 : Nat → Int64) (p7 : Int64) (p9 : Int32), f_S_coveredFrom_j142 v w (f_S_coveredFrom_l23 v w n23) p1 p5 f6 p7 p9 = some r → ∀ (q6 : Nat), va_P (dC, dI) cls3 [(q6, .inl (cL, 48, .inr (.inl f6)))] s.heap → ∀ (ls : Array Slot), lv_has ls 15 [(0, .ref a), (1, .long p1), (4, .ref o), (5, .int p5), (6, .ref q6), (7, .long p7), (9, .int p9)] → W p l e (headSpec wsS_coveredFrom ({ frames := 1, cells := 0, slots := 0, locals := 26 })).room s m ([.ref a, .long x1, .int x3, .ref o, .int x5] : List Value).toArray below meth c s.heap [] 0 0 (MQ below (vp_Sl (fun z => z = r)) ([.ref a, .long x1, .int x3, .ref o, .int x5] : List Value).toArray s 0 0 (fun _ => False)) (F0 m 142 ls []) := by
        intro p1 p5 f6 p7 p9 h q6 hq6 ls hl
        unfold f_S_coveredFrom_j142 at h
        refine lv_iinc (v := p9 + 1) (lv' := [(9, .int (p9 + 1)), (0, .ref a), (1, .long p1), (4, .ref o), (5, .int p5), (6, .ref q6), (7, .long p7)]) hx hb dS_coveredFrom_142 hl (k := 6) rfl rfl (by decide) rfl (fun ls hl => ?_)
        refine lv_goto (tgt := 23) hx hb dS_coveredFrom_145 (by decide) ?_
        exact ih23 p1 p5 f6 p7 (p9 + 1) h q6 hq6 ls (lv_sub hl [1, 2, 3, 4, 5, 6, 0] rfl)
      intro p1 p5 f6 p7 p9 h q6 hq6 ls hl
      rw [f_S_coveredFrom_l23] at h
      refine lv_iload hx hb dS_coveredFrom_23 (lv_at hl 6 rfl) ?_
      refine lv_aload_n hx hb dS_coveredFrom_25 rfl (lv_at hl 0 rfl) ?_
      refine va_get (D := (dC, dI)) (ci := 0) (v := .int (sN v)) (C := R_S) (T := T_S) (N := 8) hx hb hw in_S hown hK hPa 0 rfl rfl 6 (by decide) (hw _ w_52) (fun _ h9 => h9) rfl dS_coveredFrom_26 ?_
      refine lv_icmp_ge (tgt := 148) hx hb dS_coveredFrom_29 (by decide) (fun c2 => ?_) (fun c2 => ?_)
      · have h := it_t c2 h
        refine lv_lload hx hb dS_coveredFrom_148 (lv_at hl 5 rfl) ?_
        exact W.lret hx hb hr (fun t ht hW => ⟨_, rfl, Option.some.inj h, ht⟩) nil_locs dS_coveredFrom_150
      · have h := it_f c2 h
        refine lv_aload_n hx hb dS_coveredFrom_32 rfl (lv_at hl 0 rfl) ?_
        refine va_get (D := (dC, dI)) (ci := 0) (v := .ref ae) (C := R_S) (T := T_S) (N := 8) hx hb hw in_S hown hK hPa 0 rfl rfl 5 (by decide) (hw _ w_50) (fun _ h9 => h9) rfl dS_coveredFrom_33 ?_
        refine lv_iload hx hb dS_coveredFrom_36 (lv_at hl 6 rfl) ?_
        obtain ⟨u3, hu3, h⟩ := ob_some h
        obtain ⟨hiu3, eu3⟩ := ld_of hu3
        refine va_iald hx hb hK hPa 3 1 rfl rfl hiu3 dS_coveredFrom_38 ?_
        rw [eu3]
        refine lv_istore (lv' := [(10, .int u3), (0, .ref a), (1, .long p1), (4, .ref o), (5, .int p5), (6, .ref q6), (7, .long p7), (9, .int p9)]) hx hb dS_coveredFrom_39 hl (by decide) rfl (fun ls hl => ?_)
        refine lv_aload hx hb dS_coveredFrom_41 (lv_at hl 5 rfl) ?_
        refine lv_iload hx hb dS_coveredFrom_43 (lv_at hl 7 rfl) ?_
        obtain ⟨u4, hu4, h⟩ := ob_some h
        obtain ⟨hiu4, eu4⟩ := ld_of hu4
        refine va_lald hx hb hK hq6 0 0 rfl rfl hiu4 dS_coveredFrom_45 ?_
        rw [eu4]
        refine lv_aload hx hb dS_coveredFrom_46 (lv_at hl 5 rfl) ?_
        refine lv_iload hx hb dS_coveredFrom_48 (lv_at hl 0 rfl) ?_
        obtain ⟨u5, hu5, h⟩ := ob_some h
        obtain ⟨hiu5, eu5⟩ := ld_of hu5
        refine va_lald hx hb hK hq6 0 0 rfl rfl hiu5 dS_coveredFrom_50 ?_
        rw [eu5]
        obtain ⟨u6, hu6, h⟩ := ob_some h
        refine va_mmin_long hx hb (hml.trans hl.1.symm) hown (hw _ w_390) (hw _ w_279) (hw _ w_11) (hw _ wm_min_J) (Nat.le_of_ble_eq_true rfl) (Nat.le_of_ble_eq_true rfl) (Nat.le_of_ble_eq_true rfl) (Nat.le_of_ble_eq_true rfl) dS_coveredFrom_51 ?_
        rw [Option.some.inj hu6]
        refine lv_lstore (lv' := [(11, .long u6), (10, .int u3), (0, .ref a), (1, .long p1), (4, .ref o), (5, .int p5), (6, .ref q6), (7, .long p7), (9, .int p9)]) hx hb dS_coveredFrom_54 hl (by decide) rfl (fun ls hl => ?_)
        refine lv_aload hx hb dS_coveredFrom_56 (lv_at hl 6 rfl) ?_
        refine lv_iload hx hb dS_coveredFrom_58 (lv_at hl 8 rfl) ?_
        obtain ⟨u7, hu7, h⟩ := ob_some h
        obtain ⟨hiu7, eu7⟩ := ld_of hu7
        refine va_lald hx hb hK hq6 0 0 rfl rfl hiu7 dS_coveredFrom_60 ?_
        rw [eu7]
        refine lv_aload hx hb dS_coveredFrom_61 (lv_at hl 6 rfl) ?_
        refine lv_iload hx hb dS_coveredFrom_63 (lv_at hl 1 rfl) ?_
        obtain ⟨u8, hu8, h⟩ := ob_some h
        obtain ⟨hiu8, eu8⟩ := ld_of hu8
        refine va_lald hx hb hK hq6 0 0 rfl rfl hiu8 dS_coveredFrom_65 ?_
        rw [eu8]
        obtain ⟨u9, hu9, h⟩ := ob_some h
        refine va_mmax_long hx hb (hml.trans hl.1.symm) hown (hw _ w_391) (hw _ w_282) (hw _ w_11) (hw _ wm_max_J) (Nat.le_of_ble_eq_true rfl) (Nat.le_of_ble_eq_true rfl) (Nat.le_of_ble_eq_true rfl) (Nat.le_of_ble_eq_true rfl) dS_coveredFrom_66 ?_
        rw [Option.some.inj hu9]
        refine lv_lstore (lv' := [(13, .long u9), (11, .long u6), (10, .int u3), (0, .ref a), (1, .long p1), (4, .ref o), (5, .int p5), (6, .ref q6), (7, .long p7), (9, .int p9)]) hx hb dS_coveredFrom_69 hl (by decide) rfl (fun ls hl => ?_)
        refine lv_lload hx hb dS_coveredFrom_71 (lv_at hl 1 rfl) ?_
        refine lv_lload_n hx hb dS_coveredFrom_73 rfl (lv_at hl 4 rfl) ?_
        refine W.lcmp hx hb dS_coveredFrom_74 ?_
        refine lv_if_gt (tgt := 142) hx hb dS_coveredFrom_75 (by decide) (fun c10 => ?_) (fun c10 => ?_)
        · have h := it_t c10 h
          exact k142 p1 p5 f6 p7 p9 h q6 hq6 ls (lv_sub hl [3, 4, 5, 6, 7, 8, 9] rfl)
        · have h := it_f c10 h
          refine lv_lload hx hb dS_coveredFrom_78 (lv_at hl 0 rfl) ?_
          refine lv_lload hx hb dS_coveredFrom_80 (lv_at hl 8 rfl) ?_
          refine W.lcmp hx hb dS_coveredFrom_82 ?_
          refine lv_if_le (tgt := 142) hx hb dS_coveredFrom_83 (by decide) (fun c11 => ?_) (fun c11 => ?_)
          · have h := it_t c11 h
            exact k142 p1 p5 f6 p7 p9 h q6 hq6 ls (lv_sub hl [3, 4, 5, 6, 7, 8, 9] rfl)
          · have h := it_f c11 h
            refine lv_aload hx hb dS_coveredFrom_86 (lv_at hl 5 rfl) ?_
            refine lv_iload hx hb dS_coveredFrom_88 (lv_at hl 6 rfl) ?_
            refine lv_aload_n hx hb dS_coveredFrom_90 rfl (lv_at hl 3 rfl) ?_
            refine va_get (D := (dC, dI)) (ci := 0) (v := .ref ax) (C := R_S) (T := T_S) (N := 8) hx hb hw in_S hown hK hPa 0 rfl rfl 3 (by decide) (hw _ w_46) (fun _ h9 => h9) rfl dS_coveredFrom_91 ?_
            refine lv_iload hx hb dS_coveredFrom_94 (lv_at hl 9 rfl) ?_
            obtain ⟨u12, hu12, h⟩ := ob_some h
            obtain ⟨hiu12, eu12⟩ := ld_of hu12
            refine va_lald hx hb hK hPa 1 0 rfl rfl hiu12 dS_coveredFrom_96 ?_
            rw [eu12]
            refine lv_aload_n hx hb dS_coveredFrom_97 rfl (lv_at hl 3 rfl) ?_
            refine va_get (D := (dC, dI)) (ci := 0) (v := .ref ay) (C := R_S) (T := T_S) (N := 8) hx hb hw in_S hown hK hPa 0 rfl rfl 4 (by decide) (hw _ w_48) (fun _ h9 => h9) rfl dS_coveredFrom_98 ?_
            refine lv_iload hx hb dS_coveredFrom_101 (lv_at hl 9 rfl) ?_
            obtain ⟨u13, hu13, h⟩ := ob_some h
            obtain ⟨hiu13, eu13⟩ := ld_of hu13
            refine va_lald hx hb hK hPa 2 0 rfl rfl hiu13 dS_coveredFrom_103 ?_
            rw [eu13]
            obtain ⟨u14, hu14, h⟩ := ob_some h
            refine vp_callSl (va_Run.run (va_runV (As := [.int p5, .long u12, .long u13]) (rest := []) ⟨hx, hb, hml, hown, hw⟩ (k_S_cross l dC dI cL cI o ox oy oe w p5 u12 u13 u14 hu14) (cwV 3 hw (gV w_264 w_265 w_266 w_7 w_267) rfl rfl rfl (by decide +kernel) ⟨Nat.le_of_ble_eq_true rfl, Nat.le_of_ble_eq_true rfl⟩) ⟨rd_blind, va_recv hK hPo (ci := 0) (q0 := 0) rfl rfl, rd_pre hPo hK⟩ rfl rfl hl.1 rfl (lv_room (Nat.le_of_ble_eq_true rfl)) dS_coveredFrom_104 ⟨Nat.le_of_ble_eq_true rfl, Nat.le_of_ble_eq_true rfl⟩)) (fun z hz => ?_)
            rw [hz]; clear hz
            refine lv_lconst (v := 0) hx hb dS_coveredFrom_107 (by decide) ?_
            refine W.lcmp hx hb dS_coveredFrom_108 ?_
            refine lv_if_ne (tgt := 142) hx hb dS_coveredFrom_109 (by decide) (fun c15 => ?_) (fun c15 => ?_)
            · have h := it_f c15 h
              exact k142 p1 p5 f6 p7 p9 h q6 hq6 ls (lv_sub hl [3, 4, 5, 6, 7, 8, 9] rfl)
            · have h := it_t c15 h
              refine lv_aload hx hb dS_coveredFrom_112 (lv_at hl 5 rfl) ?_
              refine lv_iload hx hb dS_coveredFrom_114 (lv_at hl 6 rfl) ?_
              refine lv_aload_n hx hb dS_coveredFrom_116 rfl (lv_at hl 3 rfl) ?_
              refine va_get (D := (dC, dI)) (ci := 0) (v := .ref ax) (C := R_S) (T := T_S) (N := 8) hx hb hw in_S hown hK hPa 0 rfl rfl 3 (by decide) (hw _ w_46) (fun _ h9 => h9) rfl dS_coveredFrom_117 ?_
              refine lv_iload hx hb dS_coveredFrom_120 (lv_at hl 2 rfl) ?_
              obtain ⟨u16, hu16, h⟩ := ob_some h
              obtain ⟨hiu16, eu16⟩ := ld_of hu16
              refine va_lald hx hb hK hPa 1 0 rfl rfl hiu16 dS_coveredFrom_122 ?_
              rw [eu16]
              refine lv_aload_n hx hb dS_coveredFrom_123 rfl (lv_at hl 3 rfl) ?_
              refine va_get (D := (dC, dI)) (ci := 0) (v := .ref ay) (C := R_S) (T := T_S) (N := 8) hx hb hw in_S hown hK hPa 0 rfl rfl 4 (by decide) (hw _ w_48) (fun _ h9 => h9) rfl dS_coveredFrom_124 ?_
              refine lv_iload hx hb dS_coveredFrom_127 (lv_at hl 2 rfl) ?_
              obtain ⟨u17, hu17, h⟩ := ob_some h
              obtain ⟨hiu17, eu17⟩ := ld_of hu17
              refine va_lald hx hb hK hPa 2 0 rfl rfl hiu17 dS_coveredFrom_129 ?_
              rw [eu17]
              obtain ⟨u18, hu18, h⟩ := ob_some h
              refine vp_callSl (va_Run.run (va_runV (As := [.int p5, .long u16, .long u17]) (rest := []) ⟨hx, hb, hml, hown, hw⟩ (k_S_cross l dC dI cL cI o ox oy oe w p5 u16 u17 u18 hu18) (cwV 3 hw (gV w_264 w_265 w_266 w_7 w_267) rfl rfl rfl (by decide +kernel) ⟨Nat.le_of_ble_eq_true rfl, Nat.le_of_ble_eq_true rfl⟩) ⟨rd_blind, va_recv hK hPo (ci := 0) (q0 := 0) rfl rfl, rd_pre hPo hK⟩ rfl rfl hl.1 rfl (lv_room (Nat.le_of_ble_eq_true rfl)) dS_coveredFrom_130 ⟨Nat.le_of_ble_eq_true rfl, Nat.le_of_ble_eq_true rfl⟩)) (fun z hz => ?_)
              rw [hz]; clear hz
              refine lv_lconst (v := 0) hx hb dS_coveredFrom_133 (by decide) ?_
              refine W.lcmp hx hb dS_coveredFrom_134 ?_
              refine lv_if_ne (tgt := 142) hx hb dS_coveredFrom_135 (by decide) (fun c19 => ?_) (fun c19 => ?_)
              · have h := it_f c19 h
                exact k142 p1 p5 f6 p7 p9 h q6 hq6 ls (lv_sub hl [3, 4, 5, 6, 7, 8, 9] rfl)
              · have h := it_t c19 h
                refine lv_lload hx hb dS_coveredFrom_138 (lv_at hl 0 rfl) ?_
                refine lv_lstore (lv' := [(7, .long u9), (13, .long u9), (11, .long u6), (10, .int u3), (0, .ref a), (1, .long p1), (4, .ref o), (5, .int p5), (6, .ref q6), (9, .int p9)]) hx hb dS_coveredFrom_140 hl (by decide) rfl (fun ls hl => ?_)
                exact k142 p1 p5 f6 u9 p9 h q6 hq6 ls (lv_sub hl [4, 5, 6, 7, 8, 0, 9] rfl)
  have k15 : ∀ (p1 : Int64) (p5 : Int32) (fs0 : Nat → Int64), f_S_coveredFrom_j15 v w p1 p5 fs0 = some r → ∀ (qs0 : Nat), va_P (dC, dI) cls3 [(qs0, .inl (cL, 48, .inr (.inl fs0)))] s.heap → ∀ (ls : Array Slot), lv_has ls 15 [(0, .ref a), (1, .long p1), (4, .ref o), (5, .int p5)] → W p l e (headSpec wsS_coveredFrom ({ frames := 1, cells := 0, slots := 0, locals := 26 })).room s m ([.ref a, .long x1, .int x3, .ref o, .int x5] : List Value).toArray below meth c s.heap [] 0 0 (MQ below (vp_Sl (fun z => z = r)) ([.ref a, .long x1, .int x3, .ref o, .int x5] : List Value).toArray s 0 0 (fun _ => False)) (F0 m 15 ls [.ref qs0]) := by
    intro p1 p5 fs0 h qs0 hqs0 ls hl
    unfold f_S_coveredFrom_j15 at h
    refine lv_astore (lv' := [(6, .ref qs0), (0, .ref a), (1, .long p1), (4, .ref o), (5, .int p5)]) hx hb dS_coveredFrom_15 hl (by decide) rfl (fun ls hl => ?_)
    refine lv_lload_n hx hb dS_coveredFrom_17 rfl (lv_at hl 2 rfl) ?_
    refine lv_lstore (lv' := [(7, .long p1), (6, .ref qs0), (0, .ref a), (1, .long p1), (4, .ref o), (5, .int p5)]) hx hb dS_coveredFrom_18 hl (by decide) rfl (fun ls hl => ?_)
    refine lv_iconst (v := 0) hx hb dS_coveredFrom_20 (by decide) ?_
    refine lv_istore (lv' := [(9, .int (0 : Int32)), (7, .long p1), (6, .ref qs0), (0, .ref a), (1, .long p1), (4, .ref o), (5, .int p5)]) hx hb dS_coveredFrom_21 hl (by decide) rfl (fun ls hl => ?_)
    exact k23 64 p1 p5 fs0 p1 (0 : Int32) h qs0 hqs0 ls (lv_sub hl [3, 4, 5, 6, 2, 1, 0] rfl)
  unfold f_S_coveredFrom at h
  refine lv_iload_n hx hb dS_coveredFrom_0 rfl (lv_at hl 2 rfl) ?_
  refine lv_if_eq (tgt := 11) hx hb dS_coveredFrom_1 (by decide) (fun c1 => ?_) (fun c1 => ?_)
  · have h := it_t c1 h
    refine lv_aload_n hx hb dS_coveredFrom_11 rfl (lv_at hl 0 rfl) ?_
    refine va_get (D := (dC, dI)) (ci := 0) (v := .ref ay) (C := R_S) (T := T_S) (N := 8) hx hb hw in_S hown hK hPa 0 rfl rfl 4 (by decide) (hw _ w_48) (fun _ h9 => h9) rfl dS_coveredFrom_12 ?_
    exact k15 x1 x5 (sY v) h ay (hPa.sub [2] rfl) ls (lv_sub hl [0, 1, 3, 4] rfl)
  · have h := it_f c1 h
    refine lv_aload_n hx hb dS_coveredFrom_4 rfl (lv_at hl 0 rfl) ?_
    refine va_get (D := (dC, dI)) (ci := 0) (v := .ref ax) (C := R_S) (T := T_S) (N := 8) hx hb hw in_S hown hK hPa 0 rfl rfl 3 (by decide) (hw _ w_46) (fun _ h9 => h9) rfl dS_coveredFrom_5 ?_
    refine lv_goto (tgt := 15) hx hb dS_coveredFrom_8 (by decide) ?_
    exact k15 x1 x5 (sX v) h ax (hPa.sub [1] rfl) ls (lv_sub hl [0, 1, 3, 4] rfl)
theorem dS_coversSide_0 : decode cS_coversSide 0 = .ok (.aload_n 1, 1) := by decide +kernel
theorem dS_coversSide_1 : decode cS_coversSide 1 = .ok (.getfield 30, 3) := by decide +kernel
theorem dS_coversSide_4 : decode cS_coversSide 4 = .ok (.iload_n 2, 1) := by decide +kernel
theorem dS_coversSide_5 : decode cS_coversSide 5 = .ok (.iaload, 1) := by decide +kernel
theorem dS_coversSide_6 : decode cS_coversSide 6 = .ok (.istore_n 3, 1) := by decide +kernel
theorem dS_coversSide_7 : decode cS_coversSide 7 = .ok (.aload_n 1, 1) := by decide +kernel
theorem dS_coversSide_8 : decode cS_coversSide 8 = .ok (.getfield 23, 3) := by decide +kernel
theorem dS_coversSide_11 : decode cS_coversSide 11 = .ok (.iload_n 2, 1) := by decide +kernel
theorem dS_coversSide_12 : decode cS_coversSide 12 = .ok (.laload, 1) := by decide +kernel
theorem dS_coversSide_13 : decode cS_coversSide 13 = .ok (.aload_n 1, 1) := by decide +kernel
theorem dS_coversSide_14 : decode cS_coversSide 14 = .ok (.getfield 23, 3) := by decide +kernel
theorem dS_coversSide_17 : decode cS_coversSide 17 = .ok (.iload_n 3, 1) := by decide +kernel
theorem dS_coversSide_18 : decode cS_coversSide 18 = .ok (.laload, 1) := by decide +kernel
theorem dS_coversSide_19 : decode cS_coversSide 19 = .ok (.lcmp, 1) := by decide +kernel
theorem dS_coversSide_20 : decode cS_coversSide 20 = .ok (.ifCond .eq 7, 3) := by decide +kernel
theorem dS_coversSide_23 : decode cS_coversSide 23 = .ok (.iconst 1, 1) := by decide +kernel
theorem dS_coversSide_24 : decode cS_coversSide 24 = .ok (.goto 4, 3) := by decide +kernel
theorem dS_coversSide_27 : decode cS_coversSide 27 = .ok (.iconst 0, 1) := by decide +kernel
theorem dS_coversSide_28 : decode cS_coversSide 28 = .ok (.istore 4, 2) := by decide +kernel
theorem dS_coversSide_30 : decode cS_coversSide 30 = .ok (.iload 4, 2) := by decide +kernel
theorem dS_coversSide_32 : decode cS_coversSide 32 = .ok (.ifCond .eq 12, 3) := by decide +kernel
theorem dS_coversSide_35 : decode cS_coversSide 35 = .ok (.aload_n 1, 1) := by decide +kernel
theorem dS_coversSide_36 : decode cS_coversSide 36 = .ok (.getfield 23, 3) := by decide +kernel
theorem dS_coversSide_39 : decode cS_coversSide 39 = .ok (.iload_n 2, 1) := by decide +kernel
theorem dS_coversSide_40 : decode cS_coversSide 40 = .ok (.laload, 1) := by decide +kernel
theorem dS_coversSide_41 : decode cS_coversSide 41 = .ok (.goto 9, 3) := by decide +kernel
theorem dS_coversSide_44 : decode cS_coversSide 44 = .ok (.aload_n 1, 1) := by decide +kernel
theorem dS_coversSide_45 : decode cS_coversSide 45 = .ok (.getfield 27, 3) := by decide +kernel
theorem dS_coversSide_48 : decode cS_coversSide 48 = .ok (.iload_n 2, 1) := by decide +kernel
theorem dS_coversSide_49 : decode cS_coversSide 49 = .ok (.laload, 1) := by decide +kernel
theorem dS_coversSide_50 : decode cS_coversSide 50 = .ok (.lstore 5, 2) := by decide +kernel
theorem dS_coversSide_52 : decode cS_coversSide 52 = .ok (.iload 4, 2) := by decide +kernel
theorem dS_coversSide_54 : decode cS_coversSide 54 = .ok (.ifCond .eq 12, 3) := by decide +kernel
theorem dS_coversSide_57 : decode cS_coversSide 57 = .ok (.aload_n 1, 1) := by decide +kernel
theorem dS_coversSide_58 : decode cS_coversSide 58 = .ok (.getfield 23, 3) := by decide +kernel
theorem dS_coversSide_61 : decode cS_coversSide 61 = .ok (.iload_n 3, 1) := by decide +kernel
theorem dS_coversSide_62 : decode cS_coversSide 62 = .ok (.laload, 1) := by decide +kernel
theorem dS_coversSide_63 : decode cS_coversSide 63 = .ok (.goto 9, 3) := by decide +kernel
theorem dS_coversSide_66 : decode cS_coversSide 66 = .ok (.aload_n 1, 1) := by decide +kernel
theorem dS_coversSide_67 : decode cS_coversSide 67 = .ok (.getfield 27, 3) := by decide +kernel
theorem dS_coversSide_70 : decode cS_coversSide 70 = .ok (.iload_n 3, 1) := by decide +kernel
theorem dS_coversSide_71 : decode cS_coversSide 71 = .ok (.laload, 1) := by decide +kernel
theorem dS_coversSide_72 : decode cS_coversSide 72 = .ok (.lstore 7, 2) := by decide +kernel
theorem dS_coversSide_74 : decode cS_coversSide 74 = .ok (.lload 5, 2) := by decide +kernel
theorem dS_coversSide_76 : decode cS_coversSide 76 = .ok (.lload 7, 2) := by decide +kernel
theorem dS_coversSide_78 : decode cS_coversSide 78 = .ok (.lcmp, 1) := by decide +kernel
theorem dS_coversSide_79 : decode cS_coversSide 79 = .ok (.ifCond .ne 29, 3) := by decide +kernel
theorem dS_coversSide_82 : decode cS_coversSide 82 = .ok (.aload_n 0, 1) := by decide +kernel
theorem dS_coversSide_83 : decode cS_coversSide 83 = .ok (.aload_n 1, 1) := by decide +kernel
theorem dS_coversSide_84 : decode cS_coversSide 84 = .ok (.getfield 23, 3) := by decide +kernel
theorem dS_coversSide_87 : decode cS_coversSide 87 = .ok (.iload_n 2, 1) := by decide +kernel
theorem dS_coversSide_88 : decode cS_coversSide 88 = .ok (.laload, 1) := by decide +kernel
theorem dS_coversSide_89 : decode cS_coversSide 89 = .ok (.aload_n 1, 1) := by decide +kernel
theorem dS_coversSide_90 : decode cS_coversSide 90 = .ok (.getfield 27, 3) := by decide +kernel
theorem dS_coversSide_93 : decode cS_coversSide 93 = .ok (.iload_n 2, 1) := by decide +kernel
theorem dS_coversSide_94 : decode cS_coversSide 94 = .ok (.laload, 1) := by decide +kernel
theorem dS_coversSide_95 : decode cS_coversSide 95 = .ok (.lconst 0, 1) := by decide +kernel
theorem dS_coversSide_96 : decode cS_coversSide 96 = .ok (.invokevirtual 102, 3) := by decide +kernel
theorem dS_coversSide_99 : decode cS_coversSide 99 = .ok (.ifCond .ne 7, 3) := by decide +kernel
theorem dS_coversSide_102 : decode cS_coversSide 102 = .ok (.iconst 1, 1) := by decide +kernel
theorem dS_coversSide_103 : decode cS_coversSide 103 = .ok (.goto 4, 3) := by decide +kernel
theorem dS_coversSide_106 : decode cS_coversSide 106 = .ok (.iconst 0, 1) := by decide +kernel
theorem dS_coversSide_107 : decode cS_coversSide 107 = .ok (.ireturn, 1) := by decide +kernel
theorem dS_coversSide_108 : decode cS_coversSide 108 = .ok (.lload 5, 2) := by decide +kernel
theorem dS_coversSide_110 : decode cS_coversSide 110 = .ok (.lload 7, 2) := by decide +kernel
theorem dS_coversSide_112 : decode cS_coversSide 112 = .ok (.invokestatic 69, 3) := by decide +kernel
theorem dS_coversSide_115 : decode cS_coversSide 115 = .ok (.lstore 9, 2) := by decide +kernel
theorem dS_coversSide_117 : decode cS_coversSide 117 = .ok (.lload 5, 2) := by decide +kernel
theorem dS_coversSide_119 : decode cS_coversSide 119 = .ok (.lload 7, 2) := by decide +kernel
theorem dS_coversSide_121 : decode cS_coversSide 121 = .ok (.invokestatic 63, 3) := by decide +kernel
theorem dS_coversSide_124 : decode cS_coversSide 124 = .ok (.lstore 11, 2) := by decide +kernel
theorem dS_coversSide_126 : decode cS_coversSide 126 = .ok (.iconst 0, 1) := by decide +kernel
theorem dS_coversSide_127 : decode cS_coversSide 127 = .ok (.istore 13, 2) := by decide +kernel
theorem dS_coversSide_129 : decode cS_coversSide 129 = .ok (.iload 13, 2) := by decide +kernel
theorem dS_coversSide_131 : decode cS_coversSide 131 = .ok (.aload_n 0, 1) := by decide +kernel
theorem dS_coversSide_132 : decode cS_coversSide 132 = .ok (.getfield 34, 3) := by decide +kernel
theorem dS_coversSide_135 : decode cS_coversSide 135 = .ok (.if_icmp .gt 29, 3) := by decide +kernel
theorem dS_coversSide_138 : decode cS_coversSide 138 = .ok (.lload 11, 2) := by decide +kernel
theorem dS_coversSide_140 : decode cS_coversSide 140 = .ok (.lload 9, 2) := by decide +kernel
theorem dS_coversSide_142 : decode cS_coversSide 142 = .ok (.lcmp, 1) := by decide +kernel
theorem dS_coversSide_143 : decode cS_coversSide 143 = .ok (.ifCond .ge 21, 3) := by decide +kernel
theorem dS_coversSide_146 : decode cS_coversSide 146 = .ok (.aload_n 0, 1) := by decide +kernel
theorem dS_coversSide_147 : decode cS_coversSide 147 = .ok (.lload 11, 2) := by decide +kernel
theorem dS_coversSide_149 : decode cS_coversSide 149 = .ok (.iload 4, 2) := by decide +kernel
theorem dS_coversSide_151 : decode cS_coversSide 151 = .ok (.aload_n 1, 1) := by decide +kernel
theorem dS_coversSide_152 : decode cS_coversSide 152 = .ok (.iload_n 2, 1) := by decide +kernel
theorem dS_coversSide_153 : decode cS_coversSide 153 = .ok (.invokevirtual 106, 3) := by decide +kernel
theorem dS_coversSide_156 : decode cS_coversSide 156 = .ok (.lstore 11, 2) := by decide +kernel
theorem dS_coversSide_158 : decode cS_coversSide 158 = .ok (.iinc 13 1, 3) := by decide +kernel
theorem dS_coversSide_161 : decode cS_coversSide 161 = .ok (.goto (-32), 3) := by decide +kernel
theorem dS_coversSide_164 : decode cS_coversSide 164 = .ok (.lload 11, 2) := by decide +kernel
theorem dS_coversSide_166 : decode cS_coversSide 166 = .ok (.lload 9, 2) := by decide +kernel
theorem dS_coversSide_168 : decode cS_coversSide 168 = .ok (.lcmp, 1) := by decide +kernel
theorem dS_coversSide_169 : decode cS_coversSide 169 = .ok (.ifCond .lt 7, 3) := by decide +kernel
theorem dS_coversSide_172 : decode cS_coversSide 172 = .ok (.iconst 1, 1) := by decide +kernel
theorem dS_coversSide_173 : decode cS_coversSide 173 = .ok (.goto 4, 3) := by decide +kernel
theorem dS_coversSide_176 : decode cS_coversSide 176 = .ok (.iconst 0, 1) := by decide +kernel
theorem dS_coversSide_177 : decode cS_coversSide 177 = .ok (.ireturn, 1) := by decide +kernel
def f_S_coversSide_j177 (v : SV) (w : SV) (s0 : Int32) : Option Int32 := rb s0
def f_S_coversSide_j164 (v : SV) (w : SV) (p9 : Int64) (p11 : Int64) : Option Int32 := (if (lg_cmp p11 p9) < 0 then (f_S_coversSide_j177 v w (0 : Int32)) else (f_S_coversSide_j177 v w (1 : Int32)))
def f_S_coversSide_l129 (v : SV) (w : SV) : Nat → Int32 → Int32 → Int64 → Int64 → Int32 → Option Int32
 | 0, _, _, _, _, _ => none
 | n + 1, p2, p4, p9, p11, p13 => (if (sN v) < p13 then (f_S_coversSide_j164 v w p9 p11) else (if 0 ≤ (lg_cmp p11 p9) then (f_S_coversSide_j164 v w p9 p11) else (f_S_coveredFrom v w p11 p4 p2).bind fun u20 => ((f_S_coversSide_l129 v w n) p2 p4 p9 u20 (p13 + 1))))
def f_S_coversSide_j107 (v : SV) (w : SV) (s0 : Int32) : Option Int32 := rb s0
def f_S_coversSide_j72 (v : SV) (w : SV) (p2 : Int32) (p4 : Int32) (p5 : Int64) (s0 : Int64) : Option Int32 := (if (lg_cmp p5 s0) = 0 then (ld 48 (sX w) p2).bind fun u14 => (ld 48 (sY w) p2).bind fun u15 => (f_S_compareToSides v u14 u15 (0 : Int64)).bind fun u16 => (if u16 = 0 then (f_S_coversSide_j107 v w (1 : Int32)) else (f_S_coversSide_j107 v w (0 : Int32))) else (some (if s0 < p5 then p5 else s0)).bind fun u12 => (some (if s0 < p5 then s0 else p5)).bind fun u13 => (f_S_coversSide_l129 v w 64 p2 p4 u12 u13 (0 : Int32)))
def f_S_coversSide_j50 (v : SV) (w : SV) (p2 : Int32) (p3 : Int32) (p4 : Int32) (s0 : Int64) : Option Int32 := (if p4 = 0 then (ld 48 (sY w) p3).bind fun u9 => (f_S_coversSide_j72 v w p2 p4 s0 u9) else (ld 48 (sX w) p3).bind fun u10 => (f_S_coversSide_j72 v w p2 p4 s0 u10))
def f_S_coversSide_j28 (v : SV) (w : SV) (p2 : Int32) (p3 : Int32) (s0 : Int32) : Option Int32 := (if s0 = 0 then (ld 48 (sY w) p2).bind fun u6 => (f_S_coversSide_j50 v w p2 p3 s0 u6) else (ld 48 (sX w) p2).bind fun u7 => (f_S_coversSide_j50 v w p2 p3 s0 u7))
def f_S_coversSide (v : SV) (w : SV) (x2 : Int32) : Option Int32 := (ld 48 (sE w) x2).bind fun u1 => (ld 48 (sX w) x2).bind fun u2 => (ld 48 (sX w) u1).bind fun u3 => (if (lg_cmp u2 u3) = 0 then (f_S_coversSide_j28 v w x2 u1 (0 : Int32)) else (f_S_coversSide_j28 v w x2 u1 (1 : Int32)))
set_option maxHeartbeats 4000000 in
set_option maxRecDepth 100000 in
theorem k_S_coversSide (l : Launch) (dC : Nat → ClassId) (dI : Nat → Nat → Nat) (cL cI : ClassId) (a ax ay ae : Nat) (v : SV) (o ox oy oe : Nat) (w : SV) (x2 : Int32) (r : Int32) (h : f_S_coversSide v w x2 = some r) : Met l yS_coversSide wsS_coversSide ({ frames := 4, cells := 0, slots := 0, locals := 129 }) (rd_Pc [.ref a, .ref o, .int x2] (fun H => va_P (dC, dI) cls3 (shW cL cI a ax ay ae v) H ∧ va_P (dC, dI) cls3 (shW cL cI o ox oy oe w) H) (dC, dI) cls3 [(cL, .long), (cI, .int)]) (vp_Si (fun z => z = r)) 0 0 (fun _ => False) := by
  refine Met.ofW (cc := cS_coversSide) (maxL := 14) (ret := (some .boolean)) (by decide) rfl ?_
  intro p e s m args below meth c s₁ B hml hv
  obtain ⟨rfl, ⟨hPa, hPo⟩, hK⟩ := hv
  have hx := B.exec
  have hb := B.bytes
  have hr := B.returns
  have hw : ∀ w ∈ wG, w.before ([.ref a, .ref o, .int x2] : List Value).toArray s = true := fun w hq => atoms_spec (ws := wsS_coversSide) B.pre w (List.mem_cons_of_mem _ hq)
  have hown : s.vm.findClass R_S = some m.cls := findClass_of_methodNamed B.named
  have hlocks := B.notSynchronized
  have hl := lv_entry ([.ref a, .ref o, .int x2] : List Value) (n := 14) (Nat.le_of_ble_eq_true rfl)
  rw [lg_entry_eq]
  generalize (lg_sl ([.ref a, .ref o, .int x2] : List Value) ++ List.replicate (14 - (lg_sl ([.ref a, .ref o, .int x2] : List Value)).length) Slot.unset).toArray = ls at hl ⊢
  have hl : lv_has ls 14 [(0, .ref a), (1, .ref o), (2, .int x2)] := hl
  have k177 : ∀ (s0 : Int32), f_S_coversSide_j177 v w s0 = some r →  ∀ (ls : Array Slot), lv_has ls 14 [] → W p l e (headSpec wsS_coversSide ({ frames := 4, cells := 0, slots := 0, locals := 129 })).room s m ([.ref a, .ref o, .int x2] : List Value).toArray below meth c s.heap [] 0 0 (MQ below (vp_Si (fun z => z = r)) ([.ref a, .ref o, .int x2] : List Value).toArray s 0 0 (fun _ => False)) (F0 m 177 ls [.int s0]) := by
    intro s0 h  ls hl
    unfold f_S_coversSide_j177 at h
    obtain ⟨hz, hr9⟩ := rb_of h
    exact W.zret hx hb hr hz (fun t ht hW => ⟨_, rfl, hr9, ht⟩) nil_locs dS_coversSide_177
  have k164 : ∀ (p9 : Int64) (p11 : Int64), f_S_coversSide_j164 v w p9 p11 = some r →  ∀ (ls : Array Slot), lv_has ls 14 [(9, .long p9), (11, .long p11)] → W p l e (headSpec wsS_coversSide ({ frames := 4, cells := 0, slots := 0, locals := 129 })).room s m ([.ref a, .ref o, .int x2] : List Value).toArray below meth c s.heap [] 0 0 (MQ below (vp_Si (fun z => z = r)) ([.ref a, .ref o, .int x2] : List Value).toArray s 0 0 (fun _ => False)) (F0 m 164 ls []) := by
    intro p9 p11 h  ls hl
    unfold f_S_coversSide_j164 at h
    refine lv_lload hx hb dS_coversSide_164 (lv_at hl 1 rfl) ?_
    refine lv_lload hx hb dS_coversSide_166 (lv_at hl 0 rfl) ?_
    refine W.lcmp hx hb dS_coversSide_168 ?_
    refine lv_if_lt (tgt := 176) hx hb dS_coversSide_169 (by decide) (fun c21 => ?_) (fun c21 => ?_)
    · have h := it_t c21 h
      refine lv_iconst (v := 0) hx hb dS_coversSide_176 (by decide) ?_
      exact k177 (0 : Int32) h ls (lv_sub hl [] rfl)
    · have h := it_f c21 h
      refine lv_iconst (v := 1) hx hb dS_coversSide_172 (by decide) ?_
      refine lv_goto (tgt := 177) hx hb dS_coversSide_173 (by decide) ?_
      exact k177 (1 : Int32) h ls (lv_sub hl [] rfl)
  have k129 : ∀ (n129 : Nat), ∀ (p2 : Int32) (p4 : Int32) (p9 : Int64) (p11 : Int64) (p13 : Int32), f_S_coversSide_l129 v w n129 p2 p4 p9 p11 p13 = some r →  ∀ (ls : Array Slot), lv_has ls 14 [(0, .ref a), (1, .ref o), (2, .int p2), (4, .int p4), (9, .long p9), (11, .long p11), (13, .int p13)] → W p l e (headSpec wsS_coversSide ({ frames := 4, cells := 0, slots := 0, locals := 129 })).room s m ([.ref a, .ref o, .int x2] : List Value).toArray below meth c s.heap [] 0 0 (MQ below (vp_Si (fun z => z = r)) ([.ref a, .ref o, .int x2] : List Value).toArray s 0 0 (fun _ => False)) (F0 m 129 ls []) := by
    intro n129
    induction n129 with
    | zero => intro p2 p4 p9 p11 p13 h; exact absurd h (by simp [f_S_coversSide_l129])
    | succ n129 ih129 =>
      intro p2 p4 p9 p11 p13 h  ls hl
      rw [f_S_coversSide_l129] at h
      refine lv_iload hx hb dS_coversSide_129 (lv_at hl 6 rfl) ?_
      refine lv_aload_n hx hb dS_coversSide_131 rfl (lv_at hl 0 rfl) ?_
      refine va_get (D := (dC, dI)) (ci := 0) (v := .int (sN v)) (C := R_S) (T := T_S) (N := 8) hx hb hw in_S hown hK hPa 0 rfl rfl 6 (by decide) (hw _ w_52) (fun _ h9 => h9) rfl dS_coversSide_132 ?_
      refine lv_icmp_gt (tgt := 164) hx hb dS_coversSide_135 (by decide) (fun c18 => ?_) (fun c18 => ?_)
      · have h := it_t c18 h
        exact k164 p9 p11 h ls (lv_sub hl [4, 5] rfl)
      · have h := it_f c18 h
        refine lv_lload hx hb dS_coversSide_138 (lv_at hl 5 rfl) ?_
        refine lv_lload hx hb dS_coversSide_140 (lv_at hl 4 rfl) ?_
        refine W.lcmp hx hb dS_coversSide_142 ?_
        refine lv_if_ge (tgt := 164) hx hb dS_coversSide_143 (by decide) (fun c19 => ?_) (fun c19 => ?_)
        · have h := it_t c19 h
          exact k164 p9 p11 h ls (lv_sub hl [4, 5] rfl)
        · have h := it_f c19 h
          refine lv_aload_n hx hb dS_coversSide_146 rfl (lv_at hl 0 rfl) ?_
          refine lv_lload hx hb dS_coversSide_147 (lv_at hl 5 rfl) ?_
          refine lv_iload hx hb dS_coversSide_149 (lv_at hl 3 rfl) ?_
          refine lv_aload_n hx hb dS_coversSide_151 rfl (lv_at hl 1 rfl) ?_
          refine lv_iload_n hx hb dS_coversSide_152 rfl (lv_at hl 2 rfl) ?_
          obtain ⟨u20, hu20, h⟩ := ob_some h
          refine vp_callSl (va_Run.run (va_runV (As := [.long p11, .int p4, .ref o, .int p2]) (rest := []) ⟨hx, hb, hml, hown, hw⟩ (k_S_coveredFrom l dC dI cL cI a ax ay ae v o ox oy oe w p11 p4 p2 u20 hu20) (cwV 4 hw (gV w_435 w_437 wp_5 w_7 w_438) rfl rfl rfl (by decide +kernel) ⟨Nat.le_of_ble_eq_true rfl, Nat.le_of_ble_eq_true rfl⟩) ⟨rd_blind, va_recv hK hPa (ci := 0) (q0 := 0) rfl rfl, rd_pre ⟨hPa, hPo⟩ hK⟩ rfl rfl hl.1 rfl (lv_room (Nat.le_of_ble_eq_true rfl)) dS_coversSide_153 ⟨Nat.le_of_ble_eq_true rfl, Nat.le_of_ble_eq_true rfl⟩)) (fun z hz => ?_)
          rw [hz]; clear hz
          refine lv_lstore (lv' := [(11, .long u20), (0, .ref a), (1, .ref o), (2, .int p2), (4, .int p4), (9, .long p9), (13, .int p13)]) hx hb dS_coversSide_156 hl (by decide) rfl (fun ls hl => ?_)
          refine lv_iinc (v := p13 + 1) (lv' := [(13, .int (p13 + 1)), (11, .long u20), (0, .ref a), (1, .ref o), (2, .int p2), (4, .int p4), (9, .long p9)]) hx hb dS_coversSide_158 hl (k := 6) rfl rfl (by decide) rfl (fun ls hl => ?_)
          refine lv_goto (tgt := 129) hx hb dS_coversSide_161 (by decide) ?_
          exact ih129 p2 p4 p9 u20 (p13 + 1) h ls (lv_sub hl [2, 3, 4, 5, 6, 1, 0] rfl)
  have k107 : ∀ (s0 : Int32), f_S_coversSide_j107 v w s0 = some r →  ∀ (ls : Array Slot), lv_has ls 14 [] → W p l e (headSpec wsS_coversSide ({ frames := 4, cells := 0, slots := 0, locals := 129 })).room s m ([.ref a, .ref o, .int x2] : List Value).toArray below meth c s.heap [] 0 0 (MQ below (vp_Si (fun z => z = r)) ([.ref a, .ref o, .int x2] : List Value).toArray s 0 0 (fun _ => False)) (F0 m 107 ls [.int s0]) := by
    intro s0 h  ls hl
    unfold f_S_coversSide_j107 at h
    obtain ⟨hz, hr9⟩ := rb_of h
    exact W.zret hx hb hr hz (fun t ht hW => ⟨_, rfl, hr9, ht⟩) nil_locs dS_coversSide_107
  have k72 : ∀ (p2 : Int32) (p4 : Int32) (p5 : Int64) (s0 : Int64), f_S_coversSide_j72 v w p2 p4 p5 s0 = some r →  ∀ (ls : Array Slot), lv_has ls 14 [(0, .ref a), (1, .ref o), (2, .int p2), (4, .int p4), (5, .long p5)] → W p l e (headSpec wsS_coversSide ({ frames := 4, cells := 0, slots := 0, locals := 129 })).room s m ([.ref a, .ref o, .int x2] : List Value).toArray below meth c s.heap [] 0 0 (MQ below (vp_Si (fun z => z = r)) ([.ref a, .ref o, .int x2] : List Value).toArray s 0 0 (fun _ => False)) (F0 m 72 ls [.long s0]) := by
    intro p2 p4 p5 s0 h  ls hl
    unfold f_S_coversSide_j72 at h
    refine lv_lstore (lv' := [(7, .long s0), (0, .ref a), (1, .ref o), (2, .int p2), (4, .int p4), (5, .long p5)]) hx hb dS_coversSide_72 hl (by decide) rfl (fun ls hl => ?_)
    refine lv_lload hx hb dS_coversSide_74 (lv_at hl 5 rfl) ?_
    refine lv_lload hx hb dS_coversSide_76 (lv_at hl 0 rfl) ?_
    refine W.lcmp hx hb dS_coversSide_78 ?_
    refine lv_if_ne (tgt := 108) hx hb dS_coversSide_79 (by decide) (fun c11 => ?_) (fun c11 => ?_)
    · have h := it_f c11 h
      refine lv_lload hx hb dS_coversSide_108 (lv_at hl 5 rfl) ?_
      refine lv_lload hx hb dS_coversSide_110 (lv_at hl 0 rfl) ?_
      obtain ⟨u12, hu12, h⟩ := ob_some h
      refine va_mmax_long hx hb (hml.trans hl.1.symm) hown (hw _ w_391) (hw _ w_282) (hw _ w_11) (hw _ wm_max_J) (Nat.le_of_ble_eq_true rfl) (Nat.le_of_ble_eq_true rfl) (Nat.le_of_ble_eq_true rfl) (Nat.le_of_ble_eq_true rfl) dS_coversSide_112 ?_
      rw [Option.some.inj hu12]
      refine lv_lstore (lv' := [(9, .long u12), (7, .long s0), (0, .ref a), (1, .ref o), (2, .int p2), (4, .int p4), (5, .long p5)]) hx hb dS_coversSide_115 hl (by decide) rfl (fun ls hl => ?_)
      refine lv_lload hx hb dS_coversSide_117 (lv_at hl 6 rfl) ?_
      refine lv_lload hx hb dS_coversSide_119 (lv_at hl 1 rfl) ?_
      obtain ⟨u13, hu13, h⟩ := ob_some h
      refine va_mmin_long hx hb (hml.trans hl.1.symm) hown (hw _ w_390) (hw _ w_279) (hw _ w_11) (hw _ wm_min_J) (Nat.le_of_ble_eq_true rfl) (Nat.le_of_ble_eq_true rfl) (Nat.le_of_ble_eq_true rfl) (Nat.le_of_ble_eq_true rfl) dS_coversSide_121 ?_
      rw [Option.some.inj hu13]
      refine lv_lstore (lv' := [(11, .long u13), (9, .long u12), (7, .long s0), (0, .ref a), (1, .ref o), (2, .int p2), (4, .int p4), (5, .long p5)]) hx hb dS_coversSide_124 hl (by decide) rfl (fun ls hl => ?_)
      refine lv_iconst (v := 0) hx hb dS_coversSide_126 (by decide) ?_
      refine lv_istore (lv' := [(13, .int (0 : Int32)), (11, .long u13), (9, .long u12), (7, .long s0), (0, .ref a), (1, .ref o), (2, .int p2), (4, .int p4), (5, .long p5)]) hx hb dS_coversSide_127 hl (by decide) rfl (fun ls hl => ?_)
      exact k129 64 p2 p4 u12 u13 (0 : Int32) h ls (lv_sub hl [4, 5, 6, 7, 2, 1, 0] rfl)
    · have h := it_t c11 h
      refine lv_aload_n hx hb dS_coversSide_82 rfl (lv_at hl 1 rfl) ?_
      refine lv_aload_n hx hb dS_coversSide_83 rfl (lv_at hl 2 rfl) ?_
      refine va_get (D := (dC, dI)) (ci := 0) (v := .ref ox) (C := R_S) (T := T_S) (N := 8) hx hb hw in_S hown hK hPo 0 rfl rfl 3 (by decide) (hw _ w_46) (fun _ h9 => h9) rfl dS_coversSide_84 ?_
      refine lv_iload_n hx hb dS_coversSide_87 rfl (lv_at hl 3 rfl) ?_
      obtain ⟨u14, hu14, h⟩ := ob_some h
      obtain ⟨hiu14, eu14⟩ := ld_of hu14
      refine va_lald hx hb hK hPo 1 0 rfl rfl hiu14 dS_coversSide_88 ?_
      rw [eu14]
      refine lv_aload_n hx hb dS_coversSide_89 rfl (lv_at hl 2 rfl) ?_
      refine va_get (D := (dC, dI)) (ci := 0) (v := .ref oy) (C := R_S) (T := T_S) (N := 8) hx hb hw in_S hown hK hPo 0 rfl rfl 4 (by decide) (hw _ w_48) (fun _ h9 => h9) rfl dS_coversSide_90 ?_
      refine lv_iload_n hx hb dS_coversSide_93 rfl (lv_at hl 3 rfl) ?_
      obtain ⟨u15, hu15, h⟩ := ob_some h
      obtain ⟨hiu15, eu15⟩ := ld_of hu15
      refine va_lald hx hb hK hPo 2 0 rfl rfl hiu15 dS_coversSide_94 ?_
      rw [eu15]
      refine lv_lconst (v := 0) hx hb dS_coversSide_95 (by decide) ?_
      obtain ⟨u16, hu16, h⟩ := ob_some h
      refine vp_callSi (va_Run.run (va_runV (As := [.long u14, .long u15, .long (0 : Int64)]) (rest := []) ⟨hx, hb, hml, hown, hw⟩ (k_S_compareToSides l dC dI cL cI a ax ay ae v u14 u15 (0 : Int64) u16 hu16) (cwV 3 hw (gV w_434 w_320 w_321 w_7 w_322) rfl rfl rfl (by decide +kernel) ⟨Nat.le_of_ble_eq_true rfl, Nat.le_of_ble_eq_true rfl⟩) ⟨rd_blind, va_recv hK hPa (ci := 0) (q0 := 0) rfl rfl, rd_pre hPa hK⟩ rfl rfl hl.1 rfl (lv_room (Nat.le_of_ble_eq_true rfl)) dS_coversSide_96 ⟨Nat.le_of_ble_eq_true rfl, Nat.le_of_ble_eq_true rfl⟩)) (fun z hz => ?_)
      rw [hz]; clear hz
      refine lv_if_ne (tgt := 106) hx hb dS_coversSide_99 (by decide) (fun c17 => ?_) (fun c17 => ?_)
      · have h := it_f c17 h
        refine lv_iconst (v := 0) hx hb dS_coversSide_106 (by decide) ?_
        exact k107 (0 : Int32) h ls (lv_sub hl [] rfl)
      · have h := it_t c17 h
        refine lv_iconst (v := 1) hx hb dS_coversSide_102 (by decide) ?_
        refine lv_goto (tgt := 107) hx hb dS_coversSide_103 (by decide) ?_
        exact k107 (1 : Int32) h ls (lv_sub hl [] rfl)
  have k50 : ∀ (p2 : Int32) (p3 : Int32) (p4 : Int32) (s0 : Int64), f_S_coversSide_j50 v w p2 p3 p4 s0 = some r →  ∀ (ls : Array Slot), lv_has ls 14 [(0, .ref a), (1, .ref o), (2, .int p2), (3, .int p3), (4, .int p4)] → W p l e (headSpec wsS_coversSide ({ frames := 4, cells := 0, slots := 0, locals := 129 })).room s m ([.ref a, .ref o, .int x2] : List Value).toArray below meth c s.heap [] 0 0 (MQ below (vp_Si (fun z => z = r)) ([.ref a, .ref o, .int x2] : List Value).toArray s 0 0 (fun _ => False)) (F0 m 50 ls [.long s0]) := by
    intro p2 p3 p4 s0 h  ls hl
    unfold f_S_coversSide_j50 at h
    refine lv_lstore (lv' := [(5, .long s0), (0, .ref a), (1, .ref o), (2, .int p2), (3, .int p3), (4, .int p4)]) hx hb dS_coversSide_50 hl (by decide) rfl (fun ls hl => ?_)
    refine lv_iload hx hb dS_coversSide_52 (lv_at hl 5 rfl) ?_
    refine lv_if_eq (tgt := 66) hx hb dS_coversSide_54 (by decide) (fun c8 => ?_) (fun c8 => ?_)
    · have h := it_t c8 h
      refine lv_aload_n hx hb dS_coversSide_66 rfl (lv_at hl 2 rfl) ?_
      refine va_get (D := (dC, dI)) (ci := 0) (v := .ref oy) (C := R_S) (T := T_S) (N := 8) hx hb hw in_S hown hK hPo 0 rfl rfl 4 (by decide) (hw _ w_48) (fun _ h9 => h9) rfl dS_coversSide_67 ?_
      refine lv_iload_n hx hb dS_coversSide_70 rfl (lv_at hl 4 rfl) ?_
      obtain ⟨u9, hu9, h⟩ := ob_some h
      obtain ⟨hiu9, eu9⟩ := ld_of hu9
      refine va_lald hx hb hK hPo 2 0 rfl rfl hiu9 dS_coversSide_71 ?_
      rw [eu9]
      exact k72 p2 p4 s0 u9 h ls (lv_sub hl [1, 2, 3, 5, 0] rfl)
    · have h := it_f c8 h
      refine lv_aload_n hx hb dS_coversSide_57 rfl (lv_at hl 2 rfl) ?_
      refine va_get (D := (dC, dI)) (ci := 0) (v := .ref ox) (C := R_S) (T := T_S) (N := 8) hx hb hw in_S hown hK hPo 0 rfl rfl 3 (by decide) (hw _ w_46) (fun _ h9 => h9) rfl dS_coversSide_58 ?_
      refine lv_iload_n hx hb dS_coversSide_61 rfl (lv_at hl 4 rfl) ?_
      obtain ⟨u10, hu10, h⟩ := ob_some h
      obtain ⟨hiu10, eu10⟩ := ld_of hu10
      refine va_lald hx hb hK hPo 1 0 rfl rfl hiu10 dS_coversSide_62 ?_
      rw [eu10]
      refine lv_goto (tgt := 72) hx hb dS_coversSide_63 (by decide) ?_
      exact k72 p2 p4 s0 u10 h ls (lv_sub hl [1, 2, 3, 5, 0] rfl)
  have k28 : ∀ (p2 : Int32) (p3 : Int32) (s0 : Int32), f_S_coversSide_j28 v w p2 p3 s0 = some r →  ∀ (ls : Array Slot), lv_has ls 14 [(0, .ref a), (1, .ref o), (2, .int p2), (3, .int p3)] → W p l e (headSpec wsS_coversSide ({ frames := 4, cells := 0, slots := 0, locals := 129 })).room s m ([.ref a, .ref o, .int x2] : List Value).toArray below meth c s.heap [] 0 0 (MQ below (vp_Si (fun z => z = r)) ([.ref a, .ref o, .int x2] : List Value).toArray s 0 0 (fun _ => False)) (F0 m 28 ls [.int s0]) := by
    intro p2 p3 s0 h  ls hl
    unfold f_S_coversSide_j28 at h
    refine lv_istore (lv' := [(4, .int s0), (0, .ref a), (1, .ref o), (2, .int p2), (3, .int p3)]) hx hb dS_coversSide_28 hl (by decide) rfl (fun ls hl => ?_)
    refine lv_iload hx hb dS_coversSide_30 (lv_at hl 0 rfl) ?_
    refine lv_if_eq (tgt := 44) hx hb dS_coversSide_32 (by decide) (fun c5 => ?_) (fun c5 => ?_)
    · have h := it_t c5 h
      refine lv_aload_n hx hb dS_coversSide_44 rfl (lv_at hl 2 rfl) ?_
      refine va_get (D := (dC, dI)) (ci := 0) (v := .ref oy) (C := R_S) (T := T_S) (N := 8) hx hb hw in_S hown hK hPo 0 rfl rfl 4 (by decide) (hw _ w_48) (fun _ h9 => h9) rfl dS_coversSide_45 ?_
      refine lv_iload_n hx hb dS_coversSide_48 rfl (lv_at hl 3 rfl) ?_
      obtain ⟨u6, hu6, h⟩ := ob_some h
      obtain ⟨hiu6, eu6⟩ := ld_of hu6
      refine va_lald hx hb hK hPo 2 0 rfl rfl hiu6 dS_coversSide_49 ?_
      rw [eu6]
      exact k50 p2 p3 s0 u6 h ls (lv_sub hl [1, 2, 3, 4, 0] rfl)
    · have h := it_f c5 h
      refine lv_aload_n hx hb dS_coversSide_35 rfl (lv_at hl 2 rfl) ?_
      refine va_get (D := (dC, dI)) (ci := 0) (v := .ref ox) (C := R_S) (T := T_S) (N := 8) hx hb hw in_S hown hK hPo 0 rfl rfl 3 (by decide) (hw _ w_46) (fun _ h9 => h9) rfl dS_coversSide_36 ?_
      refine lv_iload_n hx hb dS_coversSide_39 rfl (lv_at hl 3 rfl) ?_
      obtain ⟨u7, hu7, h⟩ := ob_some h
      obtain ⟨hiu7, eu7⟩ := ld_of hu7
      refine va_lald hx hb hK hPo 1 0 rfl rfl hiu7 dS_coversSide_40 ?_
      rw [eu7]
      refine lv_goto (tgt := 50) hx hb dS_coversSide_41 (by decide) ?_
      exact k50 p2 p3 s0 u7 h ls (lv_sub hl [1, 2, 3, 4, 0] rfl)
  unfold f_S_coversSide at h
  refine lv_aload_n hx hb dS_coversSide_0 rfl (lv_at hl 1 rfl) ?_
  refine va_get (D := (dC, dI)) (ci := 0) (v := .ref oe) (C := R_S) (T := T_S) (N := 8) hx hb hw in_S hown hK hPo 0 rfl rfl 5 (by decide) (hw _ w_50) (fun _ h9 => h9) rfl dS_coversSide_1 ?_
  refine lv_iload_n hx hb dS_coversSide_4 rfl (lv_at hl 2 rfl) ?_
  obtain ⟨u1, hu1, h⟩ := ob_some h
  obtain ⟨hiu1, eu1⟩ := ld_of hu1
  refine va_iald hx hb hK hPo 3 1 rfl rfl hiu1 dS_coversSide_5 ?_
  rw [eu1]
  refine lv_istore_n (lv' := [(3, .int u1), (0, .ref a), (1, .ref o), (2, .int x2)]) hx hb dS_coversSide_6 rfl hl (by decide) rfl (fun ls hl => ?_)
  refine lv_aload_n hx hb dS_coversSide_7 rfl (lv_at hl 2 rfl) ?_
  refine va_get (D := (dC, dI)) (ci := 0) (v := .ref ox) (C := R_S) (T := T_S) (N := 8) hx hb hw in_S hown hK hPo 0 rfl rfl 3 (by decide) (hw _ w_46) (fun _ h9 => h9) rfl dS_coversSide_8 ?_
  refine lv_iload_n hx hb dS_coversSide_11 rfl (lv_at hl 3 rfl) ?_
  obtain ⟨u2, hu2, h⟩ := ob_some h
  obtain ⟨hiu2, eu2⟩ := ld_of hu2
  refine va_lald hx hb hK hPo 1 0 rfl rfl hiu2 dS_coversSide_12 ?_
  rw [eu2]
  refine lv_aload_n hx hb dS_coversSide_13 rfl (lv_at hl 2 rfl) ?_
  refine va_get (D := (dC, dI)) (ci := 0) (v := .ref ox) (C := R_S) (T := T_S) (N := 8) hx hb hw in_S hown hK hPo 0 rfl rfl 3 (by decide) (hw _ w_46) (fun _ h9 => h9) rfl dS_coversSide_14 ?_
  refine lv_iload_n hx hb dS_coversSide_17 rfl (lv_at hl 0 rfl) ?_
  obtain ⟨u3, hu3, h⟩ := ob_some h
  obtain ⟨hiu3, eu3⟩ := ld_of hu3
  refine va_lald hx hb hK hPo 1 0 rfl rfl hiu3 dS_coversSide_18 ?_
  rw [eu3]
  refine W.lcmp hx hb dS_coversSide_19 ?_
  refine lv_if_eq (tgt := 27) hx hb dS_coversSide_20 (by decide) (fun c4 => ?_) (fun c4 => ?_)
  · have h := it_t c4 h
    refine lv_iconst (v := 0) hx hb dS_coversSide_27 (by decide) ?_
    exact k28 x2 u1 (0 : Int32) h ls (lv_sub hl [1, 2, 3, 0] rfl)
  · have h := it_f c4 h
    refine lv_iconst (v := 1) hx hb dS_coversSide_23 (by decide) ?_
    refine lv_goto (tgt := 28) hx hb dS_coversSide_24 (by decide) ?_
    exact k28 x2 u1 (1 : Int32) h ls (lv_sub hl [1, 2, 3, 0] rfl)
theorem dP_coversAll_0 : decode cP_coversAll 0 = .ok (.iconst 0, 1) := by decide +kernel
theorem dP_coversAll_1 : decode cP_coversAll 1 = .ok (.istore_n 2, 1) := by decide +kernel
theorem dP_coversAll_2 : decode cP_coversAll 2 = .ok (.iload_n 2, 1) := by decide +kernel
theorem dP_coversAll_3 : decode cP_coversAll 3 = .ok (.aload_n 1, 1) := by decide +kernel
theorem dP_coversAll_4 : decode cP_coversAll 4 = .ok (.getfield 29, 3) := by decide +kernel
theorem dP_coversAll_7 : decode cP_coversAll 7 = .ok (.if_icmp .ge 20, 3) := by decide +kernel
theorem dP_coversAll_10 : decode cP_coversAll 10 = .ok (.aload_n 0, 1) := by decide +kernel
theorem dP_coversAll_11 : decode cP_coversAll 11 = .ok (.aload_n 1, 1) := by decide +kernel
theorem dP_coversAll_12 : decode cP_coversAll 12 = .ok (.iload_n 2, 1) := by decide +kernel
theorem dP_coversAll_13 : decode cP_coversAll 13 = .ok (.invokevirtual 82, 3) := by decide +kernel
theorem dP_coversAll_16 : decode cP_coversAll 16 = .ok (.ifCond .ne 5, 3) := by decide +kernel
theorem dP_coversAll_19 : decode cP_coversAll 19 = .ok (.iconst 0, 1) := by decide +kernel
theorem dP_coversAll_20 : decode cP_coversAll 20 = .ok (.ireturn, 1) := by decide +kernel
theorem dP_coversAll_21 : decode cP_coversAll 21 = .ok (.iinc 2 1, 3) := by decide +kernel
theorem dP_coversAll_24 : decode cP_coversAll 24 = .ok (.goto (-22), 3) := by decide +kernel
theorem dP_coversAll_27 : decode cP_coversAll 27 = .ok (.iconst 1, 1) := by decide +kernel
theorem dP_coversAll_28 : decode cP_coversAll 28 = .ok (.ireturn, 1) := by decide +kernel
def f_P_coversAll_l2 (v : SV) (w : SV) : Nat → Int32 → Option Int32
 | 0, _ => none
 | n + 1, p2 => (if (sN w) ≤ p2 then rb (1 : Int32) else (f_S_coversSide v w p2).bind fun u2 => (if u2 = 0 then rb (0 : Int32) else ((f_P_coversAll_l2 v w n) (p2 + 1))))
def f_P_coversAll (v : SV) (w : SV) : Option Int32 := (f_P_coversAll_l2 v w 64 (0 : Int32))
set_option maxHeartbeats 4000000 in
set_option maxRecDepth 100000 in
theorem k_P_coversAll (l : Launch) (dC : Nat → ClassId) (dI : Nat → Nat → Nat) (cL cI : ClassId) (a ax ay ae : Nat) (v : SV) (o ox oy oe : Nat) (w : SV) (r : Int32) (h : f_P_coversAll v w = some r) : Met l yP_coversAll wsP_coversAll ({ frames := 5, cells := 0, slots := 0, locals := 162 }) (rd_Pc [.ref a, .ref o] (fun H => va_P (dC, dI) cls3 (shW cL cI a ax ay ae v) H ∧ va_P (dC, dI) cls3 (shW cL cI o ox oy oe w) H) (dC, dI) cls3 [(cL, .long), (cI, .int)]) (vp_Si (fun z => z = r)) 0 0 (fun _ => False) := by
  refine Met.ofW (cc := cP_coversAll) (maxL := 3) (ret := (some .boolean)) (by decide) rfl ?_
  intro p e s m args below meth c s₁ B hml hv
  obtain ⟨rfl, ⟨hPa, hPo⟩, hK⟩ := hv
  have hx := B.exec
  have hb := B.bytes
  have hr := B.returns
  have hw : ∀ w ∈ wG, w.before ([.ref a, .ref o] : List Value).toArray s = true := fun w hq => atoms_spec (ws := wsP_coversAll) B.pre w (List.mem_cons_of_mem _ hq)
  have hown : s.vm.findClass R_P = some m.cls := findClass_of_methodNamed B.named
  have hlocks := B.notSynchronized
  have hl := lv_entry ([.ref a, .ref o] : List Value) (n := 3) (Nat.le_of_ble_eq_true rfl)
  rw [lg_entry_eq]
  generalize (lg_sl ([.ref a, .ref o] : List Value) ++ List.replicate (3 - (lg_sl ([.ref a, .ref o] : List Value)).length) Slot.unset).toArray = ls at hl ⊢
  have hl : lv_has ls 3 [(0, .ref a), (1, .ref o)] := hl
  have k2 : ∀ (n2 : Nat), ∀ (p2 : Int32), f_P_coversAll_l2 v w n2 p2 = some r →  ∀ (ls : Array Slot), lv_has ls 3 [(0, .ref a), (1, .ref o), (2, .int p2)] → W p l e (headSpec wsP_coversAll ({ frames := 5, cells := 0, slots := 0, locals := 162 })).room s m ([.ref a, .ref o] : List Value).toArray below meth c s.heap [] 0 0 (MQ below (vp_Si (fun z => z = r)) ([.ref a, .ref o] : List Value).toArray s 0 0 (fun _ => False)) (F0 m 2 ls []) := by
    intro n2
    induction n2 with
    | zero => intro p2 h; exact absurd h (by simp [f_P_coversAll_l2])
    | succ n2 ih2 =>
      intro p2 h  ls hl
      rw [f_P_coversAll_l2] at h
      refine lv_iload_n hx hb dP_coversAll_2 rfl (lv_at hl 2 rfl) ?_
      refine lv_aload_n hx hb dP_coversAll_3 rfl (lv_at hl 1 rfl) ?_
      refine va_get (D := (dC, dI)) (ci := 0) (v := .int (sN w)) (C := R_S) (T := T_S) (N := 8) hx hb hw in_S hown hK hPo 0 rfl rfl 6 (by decide) (hw _ w_53) (fun _ h9 => h9) rfl dP_coversAll_4 ?_
      refine lv_icmp_ge (tgt := 27) hx hb dP_coversAll_7 (by decide) (fun c1 => ?_) (fun c1 => ?_)
      · have h := it_t c1 h
        refine lv_iconst (v := 1) hx hb dP_coversAll_27 (by decide) ?_
        obtain ⟨hz, hr9⟩ := rb_of h
        exact W.zret hx hb hr hz (fun t ht hW => ⟨_, rfl, hr9, ht⟩) nil_locs dP_coversAll_28
      · have h := it_f c1 h
        refine lv_aload_n hx hb dP_coversAll_10 rfl (lv_at hl 0 rfl) ?_
        refine lv_aload_n hx hb dP_coversAll_11 rfl (lv_at hl 1 rfl) ?_
        refine lv_iload_n hx hb dP_coversAll_12 rfl (lv_at hl 2 rfl) ?_
        obtain ⟨u2, hu2, h⟩ := ob_some h
        refine vp_callSi (va_Run.run (va_runV (As := [.ref o, .int p2]) (rest := []) ⟨hx, hb, hml, hown, hw⟩ (k_S_coversSide l dC dI cL cI a ax ay ae v o ox oy oe w p2 u2 hu2) (cwV 2 hw (gV w_430 w_431 w_432 w_7 w_433) rfl rfl rfl (by decide +kernel) ⟨Nat.le_of_ble_eq_true rfl, Nat.le_of_ble_eq_true rfl⟩) ⟨rd_blind, va_recv hK hPa (ci := 0) (q0 := 0) rfl rfl, rd_pre ⟨hPa, hPo⟩ hK⟩ rfl rfl hl.1 rfl (lv_room (Nat.le_of_ble_eq_true rfl)) dP_coversAll_13 ⟨Nat.le_of_ble_eq_true rfl, Nat.le_of_ble_eq_true rfl⟩)) (fun z hz => ?_)
        rw [hz]; clear hz
        refine lv_if_ne (tgt := 21) hx hb dP_coversAll_16 (by decide) (fun c3 => ?_) (fun c3 => ?_)
        · have h := it_f c3 h
          refine lv_iinc (v := p2 + 1) (lv' := [(2, .int (p2 + 1)), (0, .ref a), (1, .ref o)]) hx hb dP_coversAll_21 hl (k := 2) rfl rfl (by decide) rfl (fun ls hl => ?_)
          refine lv_goto (tgt := 2) hx hb dP_coversAll_24 (by decide) ?_
          exact ih2 (p2 + 1) h ls (lv_sub hl [1, 2, 0] rfl)
        · have h := it_t c3 h
          refine lv_iconst (v := 0) hx hb dP_coversAll_19 (by decide) ?_
          obtain ⟨hz, hr9⟩ := rb_of h
          exact W.zret hx hb hr hz (fun t ht hW => ⟨_, rfl, hr9, ht⟩) nil_locs dP_coversAll_20
  unfold f_P_coversAll at h
  refine lv_iconst (v := 0) hx hb dP_coversAll_0 (by decide) ?_
  refine lv_istore_n (lv' := [(2, .int (0 : Int32)), (0, .ref a), (1, .ref o)]) hx hb dP_coversAll_1 rfl hl (by decide) rfl (fun ls hl => ?_)
  exact k2 64 (0 : Int32) h ls (lv_sub hl [1, 2, 0] rfl)
theorem dP_haveOneCore_0 : decode cP_haveOneCore 0 = .ok (.aload_n 0, 1) := by decide +kernel
theorem dP_haveOneCore_1 : decode cP_haveOneCore 1 = .ok (.getfield 75, 3) := by decide +kernel
theorem dP_haveOneCore_4 : decode cP_haveOneCore 4 = .ok (.aload_n 1, 1) := by decide +kernel
theorem dP_haveOneCore_5 : decode cP_haveOneCore 5 = .ok (.getfield 75, 3) := by decide +kernel
theorem dP_haveOneCore_8 : decode cP_haveOneCore 8 = .ok (.if_icmp .ne 23, 3) := by decide +kernel
theorem dP_haveOneCore_11 : decode cP_haveOneCore 11 = .ok (.aload_n 0, 1) := by decide +kernel
theorem dP_haveOneCore_12 : decode cP_haveOneCore 12 = .ok (.aload_n 1, 1) := by decide +kernel
theorem dP_haveOneCore_13 : decode cP_haveOneCore 13 = .ok (.invokestatic 79, 3) := by decide +kernel
theorem dP_haveOneCore_16 : decode cP_haveOneCore 16 = .ok (.ifCond .eq 15, 3) := by decide +kernel
theorem dP_haveOneCore_19 : decode cP_haveOneCore 19 = .ok (.aload_n 1, 1) := by decide +kernel
theorem dP_haveOneCore_20 : decode cP_haveOneCore 20 = .ok (.aload_n 0, 1) := by decide +kernel
theorem dP_haveOneCore_21 : decode cP_haveOneCore 21 = .ok (.invokestatic 79, 3) := by decide +kernel
theorem dP_haveOneCore_24 : decode cP_haveOneCore 24 = .ok (.ifCond .eq 7, 3) := by decide +kernel
theorem dP_haveOneCore_27 : decode cP_haveOneCore 27 = .ok (.iconst 1, 1) := by decide +kernel
theorem dP_haveOneCore_28 : decode cP_haveOneCore 28 = .ok (.goto 4, 3) := by decide +kernel
theorem dP_haveOneCore_31 : decode cP_haveOneCore 31 = .ok (.iconst 0, 1) := by decide +kernel
theorem dP_haveOneCore_32 : decode cP_haveOneCore 32 = .ok (.ireturn, 1) := by decide +kernel
def f_P_haveOneCore_j32 (v : SV) (w : SV) (s0 : Int32) : Option Int32 := rb s0
def f_P_haveOneCore_j31 (v : SV) (w : SV) : Option Int32 := (f_P_haveOneCore_j32 v w (0 : Int32))
def f_P_haveOneCore (v : SV) (w : SV) : Option Int32 := (if (sB v) = (sB w) then (f_P_coversAll v w).bind fun u2 => (if u2 = 0 then (f_P_haveOneCore_j31 v w) else (f_P_coversAll w v).bind fun u4 => (if u4 = 0 then (f_P_haveOneCore_j31 v w) else (f_P_haveOneCore_j32 v w (1 : Int32)))) else (f_P_haveOneCore_j31 v w))
set_option maxHeartbeats 4000000 in
set_option maxRecDepth 100000 in
theorem k_P_haveOneCore (l : Launch) (dC : Nat → ClassId) (dI : Nat → Nat → Nat) (cL cI : ClassId) (a ax ay ae : Nat) (v : SV) (o ox oy oe : Nat) (w : SV) (r : Int32) (h : f_P_haveOneCore v w = some r) : Met l yP_haveOneCore wsP_haveOneCore ({ frames := 6, cells := 0, slots := 0, locals := 184 }) (rd_Pc [.ref a, .ref o] (fun H => va_P (dC, dI) cls3 (shW cL cI a ax ay ae v) H ∧ va_P (dC, dI) cls3 (shW cL cI o ox oy oe w) H) (dC, dI) cls3 [(cL, .long), (cI, .int)]) (vp_Si (fun z => z = r)) 0 0 (fun _ => False) := by
  refine Met.ofW (cc := cP_haveOneCore) (maxL := 2) (ret := (some .boolean)) (by decide) rfl ?_
  intro p e s m args below meth c s₁ B hml hv
  obtain ⟨rfl, ⟨hPa, hPo⟩, hK⟩ := hv
  have hx := B.exec
  have hb := B.bytes
  have hr := B.returns
  have hw : ∀ w ∈ wG, w.before ([.ref a, .ref o] : List Value).toArray s = true := fun w hq => atoms_spec (ws := wsP_haveOneCore) B.pre w (List.mem_cons_of_mem _ hq)
  have hown : s.vm.findClass R_P = some m.cls := findClass_of_methodNamed B.named
  have hlocks := B.notSynchronized
  have hl := lv_entry ([.ref a, .ref o] : List Value) (n := 2) (Nat.le_of_ble_eq_true rfl)
  rw [lg_entry_eq]
  generalize (lg_sl ([.ref a, .ref o] : List Value) ++ List.replicate (2 - (lg_sl ([.ref a, .ref o] : List Value)).length) Slot.unset).toArray = ls at hl ⊢
  have hl : lv_has ls 2 [(0, .ref a), (1, .ref o)] := hl
  have k32 : ∀ (s0 : Int32), f_P_haveOneCore_j32 v w s0 = some r →  ∀ (ls : Array Slot), lv_has ls 2 [] → W p l e (headSpec wsP_haveOneCore ({ frames := 6, cells := 0, slots := 0, locals := 184 })).room s m ([.ref a, .ref o] : List Value).toArray below meth c s.heap [] 0 0 (MQ below (vp_Si (fun z => z = r)) ([.ref a, .ref o] : List Value).toArray s 0 0 (fun _ => False)) (F0 m 32 ls [.int s0]) := by
    intro s0 h  ls hl
    unfold f_P_haveOneCore_j32 at h
    obtain ⟨hz, hr9⟩ := rb_of h
    exact W.zret hx hb hr hz (fun t ht hW => ⟨_, rfl, hr9, ht⟩) nil_locs dP_haveOneCore_32
  have k31 : f_P_haveOneCore_j31 v w = some r →  ∀ (ls : Array Slot), lv_has ls 2 [] → W p l e (headSpec wsP_haveOneCore ({ frames := 6, cells := 0, slots := 0, locals := 184 })).room s m ([.ref a, .ref o] : List Value).toArray below meth c s.heap [] 0 0 (MQ below (vp_Si (fun z => z = r)) ([.ref a, .ref o] : List Value).toArray s 0 0 (fun _ => False)) (F0 m 31 ls []) := by
    intro  h  ls hl
    unfold f_P_haveOneCore_j31 at h
    refine lv_iconst (v := 0) hx hb dP_haveOneCore_31 (by decide) ?_
    exact k32 (0 : Int32) h ls (lv_sub hl [] rfl)
  unfold f_P_haveOneCore at h
  refine lv_aload_n hx hb dP_haveOneCore_0 rfl (lv_at hl 0 rfl) ?_
  refine va_get (D := (dC, dI)) (ci := 0) (v := .int (sB v)) (C := R_S) (T := T_S) (N := 8) hx hb hw in_S hown hK hPa 0 rfl rfl 1 (by decide) (hw _ w_43) (fun _ h9 => h9) rfl dP_haveOneCore_1 ?_
  refine lv_aload_n hx hb dP_haveOneCore_4 rfl (lv_at hl 1 rfl) ?_
  refine va_get (D := (dC, dI)) (ci := 0) (v := .int (sB w)) (C := R_S) (T := T_S) (N := 8) hx hb hw in_S hown hK hPo 0 rfl rfl 1 (by decide) (hw _ w_43) (fun _ h9 => h9) rfl dP_haveOneCore_5 ?_
  refine lv_icmp_ne (tgt := 31) hx hb dP_haveOneCore_8 (by decide) (fun c1 => ?_) (fun c1 => ?_)
  · have h := it_f c1 h
    exact k31 h ls (lv_sub hl [] rfl)
  · have h := it_t c1 h
    refine lv_aload_n hx hb dP_haveOneCore_11 rfl (lv_at hl 0 rfl) ?_
    refine lv_aload_n hx hb dP_haveOneCore_12 rfl (lv_at hl 1 rfl) ?_
    obtain ⟨u2, hu2, h⟩ := ob_some h
    refine vp_callSi (va_Run.run (va_runS (As := [.ref a, .ref o]) (rest := []) ⟨hx, hb, hml, hown, hw⟩ (k_P_coversAll l dC dI cL cI a ax ay ae v o ox oy oe w u2 hu2) (va_cwS 2 hw (gS w_427 w_428 w_10 w_429) rfl rfl rfl (by decide +kernel) ⟨Nat.le_of_ble_eq_true rfl, Nat.le_of_ble_eq_true rfl⟩) ⟨rd_blind, rd_pre ⟨hPa, hPo⟩ hK⟩ rfl rfl hl.1 rfl (lv_room (Nat.le_of_ble_eq_true rfl)) dP_haveOneCore_13 ⟨Nat.le_of_ble_eq_true rfl, Nat.le_of_ble_eq_true rfl⟩)) (fun z hz => ?_)
    rw [hz]; clear hz
    refine lv_if_eq (tgt := 31) hx hb dP_haveOneCore_16 (by decide) (fun c3 => ?_) (fun c3 => ?_)
    · have h := it_t c3 h
      exact k31 h ls (lv_sub hl [] rfl)
    · have h := it_f c3 h
      refine lv_aload_n hx hb dP_haveOneCore_19 rfl (lv_at hl 1 rfl) ?_
      refine lv_aload_n hx hb dP_haveOneCore_20 rfl (lv_at hl 0 rfl) ?_
      obtain ⟨u4, hu4, h⟩ := ob_some h
      refine vp_callSi (va_Run.run (va_runS (As := [.ref o, .ref a]) (rest := []) ⟨hx, hb, hml, hown, hw⟩ (k_P_coversAll l dC dI cL cI o ox oy oe w a ax ay ae v u4 hu4) (va_cwS 2 hw (gS w_427 w_428 w_10 w_429) rfl rfl rfl (by decide +kernel) ⟨Nat.le_of_ble_eq_true rfl, Nat.le_of_ble_eq_true rfl⟩) ⟨rd_blind, rd_pre ⟨hPo, hPa⟩ hK⟩ rfl rfl hl.1 rfl (lv_room (Nat.le_of_ble_eq_true rfl)) dP_haveOneCore_21 ⟨Nat.le_of_ble_eq_true rfl, Nat.le_of_ble_eq_true rfl⟩)) (fun z hz => ?_)
      rw [hz]; clear hz
      refine lv_if_eq (tgt := 31) hx hb dP_haveOneCore_24 (by decide) (fun c5 => ?_) (fun c5 => ?_)
      · have h := it_t c5 h
        exact k31 h ls (lv_sub hl [] rfl)
      · have h := it_f c5 h
        refine lv_iconst (v := 1) hx hb dP_haveOneCore_27 (by decide) ?_
        refine lv_goto (tgt := 32) hx hb dP_haveOneCore_28 (by decide) ?_
        exact k32 (1 : Int32) h ls (lv_sub hl [] rfl)
