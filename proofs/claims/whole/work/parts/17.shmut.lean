/-! Shape: methods that write it, laid by program -/
theorem dS_addCorner_0 : decode cS_addCorner 0 = .ok (.aload_n 0, 1) := by decide +kernel
theorem dS_addCorner_1 : decode cS_addCorner 1 = .ok (.getfield 34, 3) := by decide +kernel
theorem dS_addCorner_4 : decode cS_addCorner 4 = .ok (.bipush 48, 2) := by decide +kernel
theorem dS_addCorner_6 : decode cS_addCorner 6 = .ok (.if_icmp .lt 5, 3) := by decide +kernel
theorem dS_addCorner_9 : decode cS_addCorner 9 = .ok (.iconst 0, 1) := by decide +kernel
theorem dS_addCorner_10 : decode cS_addCorner 10 = .ok (.ireturn, 1) := by decide +kernel
theorem dS_addCorner_11 : decode cS_addCorner 11 = .ok (.aload_n 0, 1) := by decide +kernel
theorem dS_addCorner_12 : decode cS_addCorner 12 = .ok (.getfield 34, 3) := by decide +kernel
theorem dS_addCorner_15 : decode cS_addCorner 15 = .ok (.aload_n 0, 1) := by decide +kernel
theorem dS_addCorner_16 : decode cS_addCorner 16 = .ok (.getfield 37, 3) := by decide +kernel
theorem dS_addCorner_19 : decode cS_addCorner 19 = .ok (.if_icmp .le 52, 3) := by decide +kernel
theorem dS_addCorner_22 : decode cS_addCorner 22 = .ok (.aload_n 0, 1) := by decide +kernel
theorem dS_addCorner_23 : decode cS_addCorner 23 = .ok (.getfield 23, 3) := by decide +kernel
theorem dS_addCorner_26 : decode cS_addCorner 26 = .ok (.aload_n 0, 1) := by decide +kernel
theorem dS_addCorner_27 : decode cS_addCorner 27 = .ok (.getfield 34, 3) := by decide +kernel
theorem dS_addCorner_30 : decode cS_addCorner 30 = .ok (.iconst 1, 1) := by decide +kernel
theorem dS_addCorner_31 : decode cS_addCorner 31 = .ok (.isub, 1) := by decide +kernel
theorem dS_addCorner_32 : decode cS_addCorner 32 = .ok (.laload, 1) := by decide +kernel
theorem dS_addCorner_33 : decode cS_addCorner 33 = .ok (.lload_n 1, 1) := by decide +kernel
theorem dS_addCorner_34 : decode cS_addCorner 34 = .ok (.lcmp, 1) := by decide +kernel
theorem dS_addCorner_35 : decode cS_addCorner 35 = .ok (.ifCond .ne 21, 3) := by decide +kernel
theorem dS_addCorner_38 : decode cS_addCorner 38 = .ok (.aload_n 0, 1) := by decide +kernel
theorem dS_addCorner_39 : decode cS_addCorner 39 = .ok (.getfield 27, 3) := by decide +kernel
theorem dS_addCorner_42 : decode cS_addCorner 42 = .ok (.aload_n 0, 1) := by decide +kernel
theorem dS_addCorner_43 : decode cS_addCorner 43 = .ok (.getfield 34, 3) := by decide +kernel
theorem dS_addCorner_46 : decode cS_addCorner 46 = .ok (.iconst 1, 1) := by decide +kernel
theorem dS_addCorner_47 : decode cS_addCorner 47 = .ok (.isub, 1) := by decide +kernel
theorem dS_addCorner_48 : decode cS_addCorner 48 = .ok (.laload, 1) := by decide +kernel
theorem dS_addCorner_49 : decode cS_addCorner 49 = .ok (.lload_n 3, 1) := by decide +kernel
theorem dS_addCorner_50 : decode cS_addCorner 50 = .ok (.lcmp, 1) := by decide +kernel
theorem dS_addCorner_51 : decode cS_addCorner 51 = .ok (.ifCond .ne 5, 3) := by decide +kernel
theorem dS_addCorner_54 : decode cS_addCorner 54 = .ok (.iconst 0, 1) := by decide +kernel
theorem dS_addCorner_55 : decode cS_addCorner 55 = .ok (.ireturn, 1) := by decide +kernel
theorem dS_addCorner_56 : decode cS_addCorner 56 = .ok (.aload_n 0, 1) := by decide +kernel
theorem dS_addCorner_57 : decode cS_addCorner 57 = .ok (.getfield 30, 3) := by decide +kernel
theorem dS_addCorner_60 : decode cS_addCorner 60 = .ok (.aload_n 0, 1) := by decide +kernel
theorem dS_addCorner_61 : decode cS_addCorner 61 = .ok (.getfield 34, 3) := by decide +kernel
theorem dS_addCorner_64 : decode cS_addCorner 64 = .ok (.iconst 1, 1) := by decide +kernel
theorem dS_addCorner_65 : decode cS_addCorner 65 = .ok (.isub, 1) := by decide +kernel
theorem dS_addCorner_66 : decode cS_addCorner 66 = .ok (.aload_n 0, 1) := by decide +kernel
theorem dS_addCorner_67 : decode cS_addCorner 67 = .ok (.getfield 34, 3) := by decide +kernel
theorem dS_addCorner_70 : decode cS_addCorner 70 = .ok (.iastore, 1) := by decide +kernel
theorem dS_addCorner_71 : decode cS_addCorner 71 = .ok (.aload_n 0, 1) := by decide +kernel
theorem dS_addCorner_72 : decode cS_addCorner 72 = .ok (.getfield 23, 3) := by decide +kernel
theorem dS_addCorner_75 : decode cS_addCorner 75 = .ok (.aload_n 0, 1) := by decide +kernel
theorem dS_addCorner_76 : decode cS_addCorner 76 = .ok (.getfield 34, 3) := by decide +kernel
theorem dS_addCorner_79 : decode cS_addCorner 79 = .ok (.lload_n 1, 1) := by decide +kernel
theorem dS_addCorner_80 : decode cS_addCorner 80 = .ok (.lastore, 1) := by decide +kernel
theorem dS_addCorner_81 : decode cS_addCorner 81 = .ok (.aload_n 0, 1) := by decide +kernel
theorem dS_addCorner_82 : decode cS_addCorner 82 = .ok (.getfield 27, 3) := by decide +kernel
theorem dS_addCorner_85 : decode cS_addCorner 85 = .ok (.aload_n 0, 1) := by decide +kernel
theorem dS_addCorner_86 : decode cS_addCorner 86 = .ok (.getfield 34, 3) := by decide +kernel
theorem dS_addCorner_89 : decode cS_addCorner 89 = .ok (.lload_n 3, 1) := by decide +kernel
theorem dS_addCorner_90 : decode cS_addCorner 90 = .ok (.lastore, 1) := by decide +kernel
theorem dS_addCorner_91 : decode cS_addCorner 91 = .ok (.aload_n 0, 1) := by decide +kernel
theorem dS_addCorner_92 : decode cS_addCorner 92 = .ok (.getfield 30, 3) := by decide +kernel
theorem dS_addCorner_95 : decode cS_addCorner 95 = .ok (.aload_n 0, 1) := by decide +kernel
theorem dS_addCorner_96 : decode cS_addCorner 96 = .ok (.getfield 34, 3) := by decide +kernel
theorem dS_addCorner_99 : decode cS_addCorner 99 = .ok (.aload_n 0, 1) := by decide +kernel
theorem dS_addCorner_100 : decode cS_addCorner 100 = .ok (.getfield 15, 3) := by decide +kernel
theorem dS_addCorner_103 : decode cS_addCorner 103 = .ok (.ifCond .eq 10, 3) := by decide +kernel
theorem dS_addCorner_106 : decode cS_addCorner 106 = .ok (.aload_n 0, 1) := by decide +kernel
theorem dS_addCorner_107 : decode cS_addCorner 107 = .ok (.getfield 37, 3) := by decide +kernel
theorem dS_addCorner_110 : decode cS_addCorner 110 = .ok (.goto 7, 3) := by decide +kernel
theorem dS_addCorner_113 : decode cS_addCorner 113 = .ok (.aload_n 0, 1) := by decide +kernel
theorem dS_addCorner_114 : decode cS_addCorner 114 = .ok (.getfield 34, 3) := by decide +kernel
theorem dS_addCorner_117 : decode cS_addCorner 117 = .ok (.iastore, 1) := by decide +kernel
theorem dS_addCorner_118 : decode cS_addCorner 118 = .ok (.aload_n 0, 1) := by decide +kernel
theorem dS_addCorner_119 : decode cS_addCorner 119 = .ok (.dup, 1) := by decide +kernel
theorem dS_addCorner_120 : decode cS_addCorner 120 = .ok (.getfield 34, 3) := by decide +kernel
theorem dS_addCorner_123 : decode cS_addCorner 123 = .ok (.iconst 1, 1) := by decide +kernel
theorem dS_addCorner_124 : decode cS_addCorner 124 = .ok (.iadd, 1) := by decide +kernel
theorem dS_addCorner_125 : decode cS_addCorner 125 = .ok (.putfield 34, 3) := by decide +kernel
theorem dS_addCorner_128 : decode cS_addCorner 128 = .ok (.iconst 1, 1) := by decide +kernel
theorem dS_addCorner_129 : decode cS_addCorner 129 = .ok (.ireturn, 1) := by decide +kernel
def f_S_addCorner_j117 (vv : SV) (s1 : Int32) (s2 : Int32) : Option (Int32 × SV) := (ck 48 s1).bind fun u14 => (some (ss_ends vv (upd (sE vv) s1.toNatClampNeg s2))).bind fun v15 => (some (ss_count v15 ((sN v15) + (1 : Int32)))).bind fun v16 => (rb (1 : Int32)).bind fun uz => some (uz, v16)
def f_S_addCorner_j71 (vv : SV) (p1 : Int64) (p3 : Int64) : Option (Int32 × SV) := (ck 48 (sN vv)).bind fun u7 => (some (ss_xs vv (vp_updL (sX vv) (sN vv).toNatClampNeg p1))).bind fun v8 => (ck 48 (sN v8)).bind fun u9 => (some (ss_ys v8 (vp_updL (sY v8) (sN v8).toNatClampNeg p3))).bind fun v10 => (if (sB v10) = 0 then (f_S_addCorner_j117 v10 (sN v10) (sN v10)) else (f_S_addCorner_j117 v10 (sN v10) (sO v10)))
def f_S_addCorner_j56 (vv : SV) (p1 : Int64) (p3 : Int64) : Option (Int32 × SV) := (ck 48 ((sN vv) - (1 : Int32))).bind fun u12 => (some (ss_ends vv (upd (sE vv) ((sN vv) - (1 : Int32)).toNatClampNeg (sN vv)))).bind fun v13 => (f_S_addCorner_j71 v13 p1 p3)
def f_S_addCorner (v : SV) (x1 : Int64) (x3 : Int64) : Option (Int32 × SV) := (if (sN v) < (48 : Int32) then (if (sN v) ≤ (sO v) then (f_S_addCorner_j71 v x1 x3) else (ld 48 (sX v) ((sN v) - (1 : Int32))).bind fun u3 => (if (lg_cmp u3 x1) = 0 then (ld 48 (sY v) ((sN v) - (1 : Int32))).bind fun u5 => (if (lg_cmp u5 x3) = 0 then (rb (0 : Int32)).bind fun uz => some (uz, v) else (f_S_addCorner_j56 v x1 x3)) else (f_S_addCorner_j56 v x1 x3))) else (rb (0 : Int32)).bind fun uz => some (uz, v))
set_option maxHeartbeats 4000000 in
set_option maxRecDepth 100000 in
theorem k_S_addCorner (l : Launch) (dC : Nat → ClassId) (dI : Nat → Nat → Nat) (cL cI : ClassId) (a ax ay ae : Nat) (v : SV) (x1 : Int64) (x3 : Int64) (r : (Int32 × SV)) (h : f_S_addCorner v x1 x3 = some r) : Met l yS_addCorner wsS_addCorner ({ frames := 0, cells := 0, slots := 0, locals := 0 }) (rd_Pc [.ref a, .long x1, .long x3] (fun H => va_P (dC, dI) cls3 (shW cL cI a ax ay ae v) H ∧ va_D (in4 a ax ay ae) (shW cL cI a ax ay ae v)) (dC, dI) cls3 [(cL, .long), (cI, .int)]) (mu_Q (some (.int r.1)) (dC, dI) cls3 (shW cL cI a ax ay ae r.2) (in4 a ax ay ae)) 0 0 (in4 a ax ay ae) := by
  refine Met.ofW (cc := cS_addCorner) (maxL := 5) (ret := (some .boolean)) (by decide) rfl ?_
  intro p e s m args below meth c s₁ B hml hv
  obtain ⟨rfl, ⟨hPa, hD⟩, hK⟩ := hv
  have hx := B.exec
  have hb := B.bytes
  have hr := B.returns
  have hw : ∀ w ∈ wG, w.before ([.ref a, .long x1, .long x3] : List Value).toArray s = true := fun w hq => atoms_spec (ws := wsS_addCorner) B.pre w (List.mem_cons_of_mem _ hq)
  have hown : s.vm.findClass R_S = some m.cls := findClass_of_methodNamed B.named
  have hlocks := B.notSynchronized
  have hl := lv_entry ([.ref a, .long x1, .long x3] : List Value) (n := 5) (Nat.le_of_ble_eq_true rfl)
  rw [lg_entry_eq]
  generalize (lg_sl ([.ref a, .long x1, .long x3] : List Value) ++ List.replicate (5 - (lg_sl ([.ref a, .long x1, .long x3] : List Value)).length) Slot.unset).toArray = ls at hl ⊢
  have hl : lv_has ls 5 [(0, .ref a), (1, .long x1), (3, .long x3)] := hl
  have k117 : ∀ (vv : SV) (s1 : Int32) (s2 : Int32), f_S_addCorner_j117 vv s1 s2 = some r → ∀ (H : Heap) (locs : List Loc), va_P (dC, dI) cls3 (shW cL cI a ax ay ae vv) H → va_D (in4 a ax ay ae) (shW cL cI a ax ay ae vv) → va_S (in4 a ax ay ae) s.heap H locs → ∀ (ls : Array Slot), lv_has ls 5 [(0, .ref a)] → W p l e (headSpec wsS_addCorner ({ frames := 0, cells := 0, slots := 0, locals := 0 })).room s m ([.ref a, .long x1, .long x3] : List Value).toArray below meth c H locs 0 0 (MQ below (mu_Q (some (.int r.1)) (dC, dI) cls3 (shW cL cI a ax ay ae r.2) (in4 a ax ay ae)) ([.ref a, .long x1, .long x3] : List Value).toArray s 0 0 (in4 a ax ay ae)) (F0 m 117 ls [.int s2, .int s1, .ref ae]) := by
    intro vv s1 s2 h H locs hPa hD hS ls hl
    unfold f_S_addCorner_j117 at h
    obtain ⟨u14, hu14, h⟩ := ob_some h
    refine va_iast hx hb hK hPa hD hS 3 1 rfl rfl (ck_of hu14) dS_addCorner_117 (fun H locs hPa hD hS => ?_)
    obtain ⟨v15, hv15, h⟩ := ob_some h
    have hPa : va_P (dC, dI) cls3 (shW cL cI a ax ay ae (ss_ends vv (upd (sE vv) s1.toNatClampNeg s2))) H := hPa
    have hD : va_D (in4 a ax ay ae) (shW cL cI a ax ay ae (ss_ends vv (upd (sE vv) s1.toNatClampNeg s2))) := hD
    rw [Option.some.inj hv15] at hPa hD
    refine lv_aload_n hx hb dS_addCorner_118 rfl (lv_at hl 0 rfl) ?_
    refine lv_dup hx hb dS_addCorner_119 rfl ?_
    refine va_get (D := (dC, dI)) (ci := 0) (v := .int (sN v15)) (C := R_S) (T := T_S) (N := 8) hx hb hw in_S hown hK hPa 0 rfl rfl 6 (by decide) (hw _ w_52) (fun _ h9 => h9) rfl dS_addCorner_120 ?_
    refine lv_iconst (v := 1) hx hb dS_addCorner_123 (by decide) ?_
    refine lv_iadd hx hb dS_addCorner_124 ?_
    refine va_put (D := (dC, dI)) (ci := 0) (v := .int ((sN v15) + (1 : Int32))) (ty := .int) (C := R_S) (T := T_S) (N := 8) hx hb hw in_S t_S t_S_ok nm_S hown hK hPa hD hS 0 rfl rfl 6 (by decide) (hw _ w_52) (fun _ h9 => h9) rfl (by decide +kernel) rfl rfl (Nat.le_of_ble_eq_true rfl) dS_addCorner_125 (fun H locs hPa hD hS => ?_)
    obtain ⟨v16, hv16, h⟩ := ob_some h
    have hPa : va_P (dC, dI) cls3 (shW cL cI a ax ay ae (ss_count v15 ((sN v15) + (1 : Int32)))) H := hPa
    have hD : va_D (in4 a ax ay ae) (shW cL cI a ax ay ae (ss_count v15 ((sN v15) + (1 : Int32)))) := hD
    rw [Option.some.inj hv16] at hPa hD
    refine lv_iconst (v := 1) hx hb dS_addCorner_128 (by decide) ?_
    obtain ⟨uz, huz, h⟩ := ob_some h
    obtain ⟨hz, hr9⟩ := rb_of huz
    have h := Option.some.inj h
    subst hr9
    subst h
    exact W.zret hx hb hr hz (fun t ht hW => ⟨rfl, by rw [ht]; exact hPa, hS.F ht⟩) hS.2.2 dS_addCorner_129
  have k71 : ∀ (vv : SV) (p1 : Int64) (p3 : Int64), f_S_addCorner_j71 vv p1 p3 = some r → ∀ (H : Heap) (locs : List Loc), va_P (dC, dI) cls3 (shW cL cI a ax ay ae vv) H → va_D (in4 a ax ay ae) (shW cL cI a ax ay ae vv) → va_S (in4 a ax ay ae) s.heap H locs → ∀ (ls : Array Slot), lv_has ls 5 [(0, .ref a), (1, .long p1), (3, .long p3)] → W p l e (headSpec wsS_addCorner ({ frames := 0, cells := 0, slots := 0, locals := 0 })).room s m ([.ref a, .long x1, .long x3] : List Value).toArray below meth c H locs 0 0 (MQ below (mu_Q (some (.int r.1)) (dC, dI) cls3 (shW cL cI a ax ay ae r.2) (in4 a ax ay ae)) ([.ref a, .long x1, .long x3] : List Value).toArray s 0 0 (in4 a ax ay ae)) (F0 m 71 ls []) := by
    intro vv p1 p3 h H locs hPa hD hS ls hl
    unfold f_S_addCorner_j71 at h
    refine lv_aload_n hx hb dS_addCorner_71 rfl (lv_at hl 0 rfl) ?_
    refine va_get (D := (dC, dI)) (ci := 0) (v := .ref ax) (C := R_S) (T := T_S) (N := 8) hx hb hw in_S hown hK hPa 0 rfl rfl 3 (by decide) (hw _ w_46) (fun _ h9 => h9) rfl dS_addCorner_72 ?_
    refine lv_aload_n hx hb dS_addCorner_75 rfl (lv_at hl 0 rfl) ?_
    refine va_get (D := (dC, dI)) (ci := 0) (v := .int (sN vv)) (C := R_S) (T := T_S) (N := 8) hx hb hw in_S hown hK hPa 0 rfl rfl 6 (by decide) (hw _ w_52) (fun _ h9 => h9) rfl dS_addCorner_76 ?_
    refine lv_lload_n hx hb dS_addCorner_79 rfl (lv_at hl 1 rfl) ?_
    obtain ⟨u7, hu7, h⟩ := ob_some h
    refine va_last hx hb hK hPa hD hS 1 0 rfl rfl (ck_of hu7) dS_addCorner_80 (fun H locs hPa hD hS => ?_)
    obtain ⟨v8, hv8, h⟩ := ob_some h
    have hPa : va_P (dC, dI) cls3 (shW cL cI a ax ay ae (ss_xs vv (vp_updL (sX vv) (sN vv).toNatClampNeg p1))) H := hPa
    have hD : va_D (in4 a ax ay ae) (shW cL cI a ax ay ae (ss_xs vv (vp_updL (sX vv) (sN vv).toNatClampNeg p1))) := hD
    rw [Option.some.inj hv8] at hPa hD
    refine lv_aload_n hx hb dS_addCorner_81 rfl (lv_at hl 0 rfl) ?_
    refine va_get (D := (dC, dI)) (ci := 0) (v := .ref ay) (C := R_S) (T := T_S) (N := 8) hx hb hw in_S hown hK hPa 0 rfl rfl 4 (by decide) (hw _ w_48) (fun _ h9 => h9) rfl dS_addCorner_82 ?_
    refine lv_aload_n hx hb dS_addCorner_85 rfl (lv_at hl 0 rfl) ?_
    refine va_get (D := (dC, dI)) (ci := 0) (v := .int (sN v8)) (C := R_S) (T := T_S) (N := 8) hx hb hw in_S hown hK hPa 0 rfl rfl 6 (by decide) (hw _ w_52) (fun _ h9 => h9) rfl dS_addCorner_86 ?_
    refine lv_lload_n hx hb dS_addCorner_89 rfl (lv_at hl 2 rfl) ?_
    obtain ⟨u9, hu9, h⟩ := ob_some h
    refine va_last hx hb hK hPa hD hS 2 0 rfl rfl (ck_of hu9) dS_addCorner_90 (fun H locs hPa hD hS => ?_)
    obtain ⟨v10, hv10, h⟩ := ob_some h
    have hPa : va_P (dC, dI) cls3 (shW cL cI a ax ay ae (ss_ys v8 (vp_updL (sY v8) (sN v8).toNatClampNeg p3))) H := hPa
    have hD : va_D (in4 a ax ay ae) (shW cL cI a ax ay ae (ss_ys v8 (vp_updL (sY v8) (sN v8).toNatClampNeg p3))) := hD
    rw [Option.some.inj hv10] at hPa hD
    refine lv_aload_n hx hb dS_addCorner_91 rfl (lv_at hl 0 rfl) ?_
    refine va_get (D := (dC, dI)) (ci := 0) (v := .ref ae) (C := R_S) (T := T_S) (N := 8) hx hb hw in_S hown hK hPa 0 rfl rfl 5 (by decide) (hw _ w_50) (fun _ h9 => h9) rfl dS_addCorner_92 ?_
    refine lv_aload_n hx hb dS_addCorner_95 rfl (lv_at hl 0 rfl) ?_
    refine va_get (D := (dC, dI)) (ci := 0) (v := .int (sN v10)) (C := R_S) (T := T_S) (N := 8) hx hb hw in_S hown hK hPa 0 rfl rfl 6 (by decide) (hw _ w_52) (fun _ h9 => h9) rfl dS_addCorner_96 ?_
    refine lv_aload_n hx hb dS_addCorner_99 rfl (lv_at hl 0 rfl) ?_
    refine va_get (D := (dC, dI)) (ci := 0) (v := .int (sB v10)) (C := R_S) (T := T_S) (N := 8) hx hb hw in_S hown hK hPa 0 rfl rfl 1 (by decide) (hw _ w_42) (fun _ h9 => h9) rfl dS_addCorner_100 ?_
    refine lv_if_eq (tgt := 113) hx hb dS_addCorner_103 (by decide) (fun c11 => ?_) (fun c11 => ?_)
    · have h := it_t c11 h
      refine lv_aload_n hx hb dS_addCorner_113 rfl (lv_at hl 0 rfl) ?_
      refine va_get (D := (dC, dI)) (ci := 0) (v := .int (sN v10)) (C := R_S) (T := T_S) (N := 8) hx hb hw in_S hown hK hPa 0 rfl rfl 6 (by decide) (hw _ w_52) (fun _ h9 => h9) rfl dS_addCorner_114 ?_
      exact k117 v10 (sN v10) (sN v10) h H locs hPa hD hS ls (lv_sub hl [0] rfl)
    · have h := it_f c11 h
      refine lv_aload_n hx hb dS_addCorner_106 rfl (lv_at hl 0 rfl) ?_
      refine va_get (D := (dC, dI)) (ci := 0) (v := .int (sO v10)) (C := R_S) (T := T_S) (N := 8) hx hb hw in_S hown hK hPa 0 rfl rfl 7 (by decide) (hw _ w_54) (fun _ h9 => h9) rfl dS_addCorner_107 ?_
      refine lv_goto (tgt := 117) hx hb dS_addCorner_110 (by decide) ?_
      exact k117 v10 (sN v10) (sO v10) h H locs hPa hD hS ls (lv_sub hl [0] rfl)
  have k56 : ∀ (vv : SV) (p1 : Int64) (p3 : Int64), f_S_addCorner_j56 vv p1 p3 = some r → ∀ (H : Heap) (locs : List Loc), va_P (dC, dI) cls3 (shW cL cI a ax ay ae vv) H → va_D (in4 a ax ay ae) (shW cL cI a ax ay ae vv) → va_S (in4 a ax ay ae) s.heap H locs → ∀ (ls : Array Slot), lv_has ls 5 [(0, .ref a), (1, .long p1), (3, .long p3)] → W p l e (headSpec wsS_addCorner ({ frames := 0, cells := 0, slots := 0, locals := 0 })).room s m ([.ref a, .long x1, .long x3] : List Value).toArray below meth c H locs 0 0 (MQ below (mu_Q (some (.int r.1)) (dC, dI) cls3 (shW cL cI a ax ay ae r.2) (in4 a ax ay ae)) ([.ref a, .long x1, .long x3] : List Value).toArray s 0 0 (in4 a ax ay ae)) (F0 m 56 ls []) := by
    intro vv p1 p3 h H locs hPa hD hS ls hl
    unfold f_S_addCorner_j56 at h
    refine lv_aload_n hx hb dS_addCorner_56 rfl (lv_at hl 0 rfl) ?_
    refine va_get (D := (dC, dI)) (ci := 0) (v := .ref ae) (C := R_S) (T := T_S) (N := 8) hx hb hw in_S hown hK hPa 0 rfl rfl 5 (by decide) (hw _ w_50) (fun _ h9 => h9) rfl dS_addCorner_57 ?_
    refine lv_aload_n hx hb dS_addCorner_60 rfl (lv_at hl 0 rfl) ?_
    refine va_get (D := (dC, dI)) (ci := 0) (v := .int (sN vv)) (C := R_S) (T := T_S) (N := 8) hx hb hw in_S hown hK hPa 0 rfl rfl 6 (by decide) (hw _ w_52) (fun _ h9 => h9) rfl dS_addCorner_61 ?_
    refine lv_iconst (v := 1) hx hb dS_addCorner_64 (by decide) ?_
    refine lv_isub hx hb dS_addCorner_65 ?_
    refine lv_aload_n hx hb dS_addCorner_66 rfl (lv_at hl 0 rfl) ?_
    refine va_get (D := (dC, dI)) (ci := 0) (v := .int (sN vv)) (C := R_S) (T := T_S) (N := 8) hx hb hw in_S hown hK hPa 0 rfl rfl 6 (by decide) (hw _ w_52) (fun _ h9 => h9) rfl dS_addCorner_67 ?_
    obtain ⟨u12, hu12, h⟩ := ob_some h
    refine va_iast hx hb hK hPa hD hS 3 1 rfl rfl (ck_of hu12) dS_addCorner_70 (fun H locs hPa hD hS => ?_)
    obtain ⟨v13, hv13, h⟩ := ob_some h
    have hPa : va_P (dC, dI) cls3 (shW cL cI a ax ay ae (ss_ends vv (upd (sE vv) ((sN vv) - (1 : Int32)).toNatClampNeg (sN vv)))) H := hPa
    have hD : va_D (in4 a ax ay ae) (shW cL cI a ax ay ae (ss_ends vv (upd (sE vv) ((sN vv) - (1 : Int32)).toNatClampNeg (sN vv)))) := hD
    rw [Option.some.inj hv13] at hPa hD
    exact k71 v13 p1 p3 h H locs hPa hD hS ls (lv_sub hl [0, 1, 2] rfl)
  have hS : va_S (in4 a ax ay ae) s.heap s.heap [] := va_S.rf
  obtain ⟨H, hH⟩ : ∃ H : Heap, H = s.heap := ⟨_, rfl⟩
  obtain ⟨locs, hlocs⟩ : ∃ L : List Loc, L = [] := ⟨_, rfl⟩
  suffices hgo : W p l e (headSpec wsS_addCorner ({ frames := 0, cells := 0, slots := 0, locals := 0 })).room s m ([.ref a, .long x1, .long x3] : List Value).toArray below meth c H locs 0 0 (MQ below (mu_Q (some (.int r.1)) (dC, dI) cls3 (shW cL cI a ax ay ae r.2) (in4 a ax ay ae)) ([.ref a, .long x1, .long x3] : List Value).toArray s 0 0 (in4 a ax ay ae)) (F0 m 0 ls []) by rw [hH, hlocs] at hgo; exact hgo
  rw [← hH] at hPa
  have hS : va_S (in4 a ax ay ae) s.heap H locs := by rw [hH, hlocs]; exact hS
  clear hH hlocs
  unfold f_S_addCorner at h
  refine lv_aload_n hx hb dS_addCorner_0 rfl (lv_at hl 0 rfl) ?_
  refine va_get (D := (dC, dI)) (ci := 0) (v := .int (sN v)) (C := R_S) (T := T_S) (N := 8) hx hb hw in_S hown hK hPa 0 rfl rfl 6 (by decide) (hw _ w_52) (fun _ h9 => h9) rfl dS_addCorner_1 ?_
  refine lv_bipush (v := 48) hx hb dS_addCorner_4 (by decide) ?_
  refine lv_icmp_lt (tgt := 11) hx hb dS_addCorner_6 (by decide) (fun c1 => ?_) (fun c1 => ?_)
  · have h := it_t c1 h
    refine lv_aload_n hx hb dS_addCorner_11 rfl (lv_at hl 0 rfl) ?_
    refine va_get (D := (dC, dI)) (ci := 0) (v := .int (sN v)) (C := R_S) (T := T_S) (N := 8) hx hb hw in_S hown hK hPa 0 rfl rfl 6 (by decide) (hw _ w_52) (fun _ h9 => h9) rfl dS_addCorner_12 ?_
    refine lv_aload_n hx hb dS_addCorner_15 rfl (lv_at hl 0 rfl) ?_
    refine va_get (D := (dC, dI)) (ci := 0) (v := .int (sO v)) (C := R_S) (T := T_S) (N := 8) hx hb hw in_S hown hK hPa 0 rfl rfl 7 (by decide) (hw _ w_54) (fun _ h9 => h9) rfl dS_addCorner_16 ?_
    refine lv_icmp_le (tgt := 71) hx hb dS_addCorner_19 (by decide) (fun c2 => ?_) (fun c2 => ?_)
    · have h := it_t c2 h
      exact k71 v x1 x3 h H locs hPa hD hS ls (lv_sub hl [0, 1, 2] rfl)
    · have h := it_f c2 h
      refine lv_aload_n hx hb dS_addCorner_22 rfl (lv_at hl 0 rfl) ?_
      refine va_get (D := (dC, dI)) (ci := 0) (v := .ref ax) (C := R_S) (T := T_S) (N := 8) hx hb hw in_S hown hK hPa 0 rfl rfl 3 (by decide) (hw _ w_46) (fun _ h9 => h9) rfl dS_addCorner_23 ?_
      refine lv_aload_n hx hb dS_addCorner_26 rfl (lv_at hl 0 rfl) ?_
      refine va_get (D := (dC, dI)) (ci := 0) (v := .int (sN v)) (C := R_S) (T := T_S) (N := 8) hx hb hw in_S hown hK hPa 0 rfl rfl 6 (by decide) (hw _ w_52) (fun _ h9 => h9) rfl dS_addCorner_27 ?_
      refine lv_iconst (v := 1) hx hb dS_addCorner_30 (by decide) ?_
      refine lv_isub hx hb dS_addCorner_31 ?_
      obtain ⟨u3, hu3, h⟩ := ob_some h
      obtain ⟨hiu3, eu3⟩ := ld_of hu3
      refine va_lald hx hb hK hPa 1 0 rfl rfl hiu3 dS_addCorner_32 ?_
      rw [eu3]
      refine lv_lload_n hx hb dS_addCorner_33 rfl (lv_at hl 1 rfl) ?_
      refine W.lcmp hx hb dS_addCorner_34 ?_
      refine lv_if_ne (tgt := 56) hx hb dS_addCorner_35 (by decide) (fun c4 => ?_) (fun c4 => ?_)
      · have h := it_f c4 h
        exact k56 v x1 x3 h H locs hPa hD hS ls (lv_sub hl [0, 1, 2] rfl)
      · have h := it_t c4 h
        refine lv_aload_n hx hb dS_addCorner_38 rfl (lv_at hl 0 rfl) ?_
        refine va_get (D := (dC, dI)) (ci := 0) (v := .ref ay) (C := R_S) (T := T_S) (N := 8) hx hb hw in_S hown hK hPa 0 rfl rfl 4 (by decide) (hw _ w_48) (fun _ h9 => h9) rfl dS_addCorner_39 ?_
        refine lv_aload_n hx hb dS_addCorner_42 rfl (lv_at hl 0 rfl) ?_
        refine va_get (D := (dC, dI)) (ci := 0) (v := .int (sN v)) (C := R_S) (T := T_S) (N := 8) hx hb hw in_S hown hK hPa 0 rfl rfl 6 (by decide) (hw _ w_52) (fun _ h9 => h9) rfl dS_addCorner_43 ?_
        refine lv_iconst (v := 1) hx hb dS_addCorner_46 (by decide) ?_
        refine lv_isub hx hb dS_addCorner_47 ?_
        obtain ⟨u5, hu5, h⟩ := ob_some h
        obtain ⟨hiu5, eu5⟩ := ld_of hu5
        refine va_lald hx hb hK hPa 2 0 rfl rfl hiu5 dS_addCorner_48 ?_
        rw [eu5]
        refine lv_lload_n hx hb dS_addCorner_49 rfl (lv_at hl 2 rfl) ?_
        refine W.lcmp hx hb dS_addCorner_50 ?_
        refine lv_if_ne (tgt := 56) hx hb dS_addCorner_51 (by decide) (fun c6 => ?_) (fun c6 => ?_)
        · have h := it_f c6 h
          exact k56 v x1 x3 h H locs hPa hD hS ls (lv_sub hl [0, 1, 2] rfl)
        · have h := it_t c6 h
          refine lv_iconst (v := 0) hx hb dS_addCorner_54 (by decide) ?_
          obtain ⟨uz, huz, h⟩ := ob_some h
          obtain ⟨hz, hr9⟩ := rb_of huz
          have h := Option.some.inj h
          subst hr9
          subst h
          exact W.zret hx hb hr hz (fun t ht hW => ⟨rfl, by rw [ht]; exact hPa, hS.F ht⟩) hS.2.2 dS_addCorner_55
  · have h := it_f c1 h
    refine lv_iconst (v := 0) hx hb dS_addCorner_9 (by decide) ?_
    obtain ⟨uz, huz, h⟩ := ob_some h
    obtain ⟨hz, hr9⟩ := rb_of huz
    have h := Option.some.inj h
    subst hr9
    subst h
    exact W.zret hx hb hr hz (fun t ht hW => ⟨rfl, by rw [ht]; exact hPa, hS.F ht⟩) hS.2.2 dS_addCorner_10
theorem dS_closeRing_0 : decode cS_closeRing 0 = .ok (.aload_n 0, 1) := by decide +kernel
theorem dS_closeRing_1 : decode cS_closeRing 1 = .ok (.invokevirtual 44, 3) := by decide +kernel
theorem dS_closeRing_4 : decode cS_closeRing 4 = .ok (.ifCond .eq 24, 3) := by decide +kernel
theorem dS_closeRing_7 : decode cS_closeRing 7 = .ok (.aload_n 0, 1) := by decide +kernel
theorem dS_closeRing_8 : decode cS_closeRing 8 = .ok (.aload_n 0, 1) := by decide +kernel
theorem dS_closeRing_9 : decode cS_closeRing 9 = .ok (.getfield 37, 3) := by decide +kernel
theorem dS_closeRing_12 : decode cS_closeRing 12 = .ok (.putfield 34, 3) := by decide +kernel
theorem dS_closeRing_15 : decode cS_closeRing 15 = .ok (.aload_n 0, 1) := by decide +kernel
theorem dS_closeRing_16 : decode cS_closeRing 16 = .ok (.getfield 37, 3) := by decide +kernel
theorem dS_closeRing_19 : decode cS_closeRing 19 = .ok (.ifCond .le 7, 3) := by decide +kernel
theorem dS_closeRing_22 : decode cS_closeRing 22 = .ok (.iconst 1, 1) := by decide +kernel
theorem dS_closeRing_23 : decode cS_closeRing 23 = .ok (.goto 4, 3) := by decide +kernel
theorem dS_closeRing_26 : decode cS_closeRing 26 = .ok (.iconst 0, 1) := by decide +kernel
theorem dS_closeRing_27 : decode cS_closeRing 27 = .ok (.ireturn, 1) := by decide +kernel
theorem dS_closeRing_28 : decode cS_closeRing 28 = .ok (.aload_n 0, 1) := by decide +kernel
theorem dS_closeRing_29 : decode cS_closeRing 29 = .ok (.invokevirtual 47, 3) := by decide +kernel
theorem dS_closeRing_32 : decode cS_closeRing 32 = .ok (.ifCond .eq 13, 3) := by decide +kernel
theorem dS_closeRing_35 : decode cS_closeRing 35 = .ok (.aload_n 0, 1) := by decide +kernel
theorem dS_closeRing_36 : decode cS_closeRing 36 = .ok (.aload_n 0, 1) := by decide +kernel
theorem dS_closeRing_37 : decode cS_closeRing 37 = .ok (.getfield 37, 3) := by decide +kernel
theorem dS_closeRing_40 : decode cS_closeRing 40 = .ok (.putfield 34, 3) := by decide +kernel
theorem dS_closeRing_43 : decode cS_closeRing 43 = .ok (.iconst 0, 1) := by decide +kernel
theorem dS_closeRing_44 : decode cS_closeRing 44 = .ok (.ireturn, 1) := by decide +kernel
theorem dS_closeRing_45 : decode cS_closeRing 45 = .ok (.aload_n 0, 1) := by decide +kernel
theorem dS_closeRing_46 : decode cS_closeRing 46 = .ok (.aload_n 0, 1) := by decide +kernel
theorem dS_closeRing_47 : decode cS_closeRing 47 = .ok (.getfield 34, 3) := by decide +kernel
theorem dS_closeRing_50 : decode cS_closeRing 50 = .ok (.putfield 37, 3) := by decide +kernel
theorem dS_closeRing_53 : decode cS_closeRing 53 = .ok (.iconst 1, 1) := by decide +kernel
theorem dS_closeRing_54 : decode cS_closeRing 54 = .ok (.ireturn, 1) := by decide +kernel
def f_S_closeRing_j27 (vv : SV) (s0 : Int32) : Option (Int32 × SV) := (rb s0).bind fun uz => some (uz, vv)
def f_S_closeRing (v : SV) : Option (Int32 × SV) := (f_S_isOpenRingEmpty v).bind fun u1 => (if u1 = 0 then (f_S_isOpenRingCrossing v).bind fun u3 => (if u3 = 0 then (some (ss_open v (sN v))).bind fun v5 => (rb (1 : Int32)).bind fun uz => some (uz, v5) else (some (ss_count v (sO v))).bind fun v6 => (rb (0 : Int32)).bind fun uz => some (uz, v6)) else (some (ss_count v (sO v))).bind fun v7 => (if (sO v7) ≤ 0 then (f_S_closeRing_j27 v7 (0 : Int32)) else (f_S_closeRing_j27 v7 (1 : Int32))))
set_option maxHeartbeats 4000000 in
set_option maxRecDepth 100000 in
theorem k_S_closeRing (l : Launch) (dC : Nat → ClassId) (dI : Nat → Nat → Nat) (cL cI : ClassId) (a ax ay ae : Nat) (v : SV) (r : (Int32 × SV)) (h : f_S_closeRing v = some r) : Met l yS_closeRing wsS_closeRing ({ frames := 4, cells := 0, slots := 0, locals := 102 }) (rd_Pc [.ref a] (fun H => va_P (dC, dI) cls3 (shW cL cI a ax ay ae v) H ∧ va_D (in4 a ax ay ae) (shW cL cI a ax ay ae v)) (dC, dI) cls3 [(cL, .long), (cI, .int)]) (mu_Q (some (.int r.1)) (dC, dI) cls3 (shW cL cI a ax ay ae r.2) (in4 a ax ay ae)) 0 0 (in4 a ax ay ae) := by
  refine Met.ofW (cc := cS_closeRing) (maxL := 1) (ret := (some .boolean)) (by decide) rfl ?_
  intro p e s m args below meth c s₁ B hml hv
  obtain ⟨rfl, ⟨hPa, hD⟩, hK⟩ := hv
  have hx := B.exec
  have hb := B.bytes
  have hr := B.returns
  have hw : ∀ w ∈ wG, w.before ([.ref a] : List Value).toArray s = true := fun w hq => atoms_spec (ws := wsS_closeRing) B.pre w (List.mem_cons_of_mem _ hq)
  have hown : s.vm.findClass R_S = some m.cls := findClass_of_methodNamed B.named
  have hlocks := B.notSynchronized
  have hl := lv_entry ([.ref a] : List Value) (n := 1) (Nat.le_of_ble_eq_true rfl)
  rw [lg_entry_eq]
  generalize (lg_sl ([.ref a] : List Value) ++ List.replicate (1 - (lg_sl ([.ref a] : List Value)).length) Slot.unset).toArray = ls at hl ⊢
  have hl : lv_has ls 1 [(0, .ref a)] := hl
  have k27 : ∀ (vv : SV) (s0 : Int32), f_S_closeRing_j27 vv s0 = some r → ∀ (H : Heap) (locs : List Loc), va_P (dC, dI) cls3 (shW cL cI a ax ay ae vv) H → va_D (in4 a ax ay ae) (shW cL cI a ax ay ae vv) → va_S (in4 a ax ay ae) s.heap H locs → ∀ (ls : Array Slot), lv_has ls 1 [] → W p l e (headSpec wsS_closeRing ({ frames := 4, cells := 0, slots := 0, locals := 102 })).room s m ([.ref a] : List Value).toArray below meth c H locs 0 0 (MQ below (mu_Q (some (.int r.1)) (dC, dI) cls3 (shW cL cI a ax ay ae r.2) (in4 a ax ay ae)) ([.ref a] : List Value).toArray s 0 0 (in4 a ax ay ae)) (F0 m 27 ls [.int s0]) := by
    intro vv s0 h H locs hPa hD hS ls hl
    unfold f_S_closeRing_j27 at h
    obtain ⟨uz, huz, h⟩ := ob_some h
    obtain ⟨hz, hr9⟩ := rb_of huz
    have h := Option.some.inj h
    subst hr9
    subst h
    exact W.zret hx hb hr hz (fun t ht hW => ⟨rfl, by rw [ht]; exact hPa, hS.F ht⟩) hS.2.2 dS_closeRing_27
  have hS : va_S (in4 a ax ay ae) s.heap s.heap [] := va_S.rf
  obtain ⟨H, hH⟩ : ∃ H : Heap, H = s.heap := ⟨_, rfl⟩
  obtain ⟨locs, hlocs⟩ : ∃ L : List Loc, L = [] := ⟨_, rfl⟩
  suffices hgo : W p l e (headSpec wsS_closeRing ({ frames := 4, cells := 0, slots := 0, locals := 102 })).room s m ([.ref a] : List Value).toArray below meth c H locs 0 0 (MQ below (mu_Q (some (.int r.1)) (dC, dI) cls3 (shW cL cI a ax ay ae r.2) (in4 a ax ay ae)) ([.ref a] : List Value).toArray s 0 0 (in4 a ax ay ae)) (F0 m 0 ls []) by rw [hH, hlocs] at hgo; exact hgo
  rw [← hH] at hPa
  have hS : va_S (in4 a ax ay ae) s.heap H locs := by rw [hH, hlocs]; exact hS
  clear hH hlocs
  unfold f_S_closeRing at h
  refine lv_aload_n hx hb dS_closeRing_0 rfl (lv_at hl 0 rfl) ?_
  obtain ⟨u1, hu1, h⟩ := ob_some h
  refine vp_callSi (va_Run.run (va_runV (As := []) (rest := []) ⟨hx, hb, hml, hown, hw⟩ (k_S_isOpenRingEmpty l dC dI cL cI a ax ay ae v u1 hu1) (cwV 0 hw (gV w_260 w_261 w_262 w_7 w_263) rfl rfl rfl (by decide +kernel) ⟨Nat.le_of_ble_eq_true rfl, Nat.le_of_ble_eq_true rfl⟩) ⟨rd_blind, va_recv hK hPa (ci := 0) (q0 := 0) rfl rfl, rd_pre hPa hK⟩ rfl rfl hl.1 rfl (lv_room (Nat.le_of_ble_eq_true rfl)) dS_closeRing_1 ⟨Nat.le_of_ble_eq_true rfl, Nat.le_of_ble_eq_true rfl⟩)) (fun z hz => ?_)
  rw [hz]; clear hz
  refine lv_if_eq (tgt := 28) hx hb dS_closeRing_4 (by decide) (fun c2 => ?_) (fun c2 => ?_)
  · have h := it_t c2 h
    refine lv_aload_n hx hb dS_closeRing_28 rfl (lv_at hl 0 rfl) ?_
    obtain ⟨u3, hu3, h⟩ := ob_some h
    refine vp_callSi (va_Run.run (va_runV (As := []) (rest := []) ⟨hx, hb, hml, hown, hw⟩ (k_S_isOpenRingCrossing l dC dI cL cI a ax ay ae v u3 hu3) (cwV 0 hw (gV w_268 w_269 w_270 w_7 w_271) rfl rfl rfl (by decide +kernel) ⟨Nat.le_of_ble_eq_true rfl, Nat.le_of_ble_eq_true rfl⟩) ⟨rd_blind, va_recv hK hPa (ci := 0) (q0 := 0) rfl rfl, rd_pre hPa hK⟩ rfl rfl hl.1 rfl (lv_room (Nat.le_of_ble_eq_true rfl)) dS_closeRing_29 ⟨Nat.le_of_ble_eq_true rfl, Nat.le_of_ble_eq_true rfl⟩)) (fun z hz => ?_)
    rw [hz]; clear hz
    refine lv_if_eq (tgt := 45) hx hb dS_closeRing_32 (by decide) (fun c4 => ?_) (fun c4 => ?_)
    · have h := it_t c4 h
      refine lv_aload_n hx hb dS_closeRing_45 rfl (lv_at hl 0 rfl) ?_
      refine lv_aload_n hx hb dS_closeRing_46 rfl (lv_at hl 0 rfl) ?_
      refine va_get (D := (dC, dI)) (ci := 0) (v := .int (sN v)) (C := R_S) (T := T_S) (N := 8) hx hb hw in_S hown hK hPa 0 rfl rfl 6 (by decide) (hw _ w_52) (fun _ h9 => h9) rfl dS_closeRing_47 ?_
      refine va_put (D := (dC, dI)) (ci := 0) (v := .int (sN v)) (ty := .int) (C := R_S) (T := T_S) (N := 8) hx hb hw in_S t_S t_S_ok nm_S hown hK hPa hD hS 0 rfl rfl 7 (by decide) (hw _ w_54) (fun _ h9 => h9) rfl (by decide +kernel) rfl rfl (Nat.le_of_ble_eq_true rfl) dS_closeRing_50 (fun H locs hPa hD hS => ?_)
      obtain ⟨v5, hv5, h⟩ := ob_some h
      have hPa : va_P (dC, dI) cls3 (shW cL cI a ax ay ae (ss_open v (sN v))) H := hPa
      have hD : va_D (in4 a ax ay ae) (shW cL cI a ax ay ae (ss_open v (sN v))) := hD
      rw [Option.some.inj hv5] at hPa hD
      refine lv_iconst (v := 1) hx hb dS_closeRing_53 (by decide) ?_
      obtain ⟨uz, huz, h⟩ := ob_some h
      obtain ⟨hz, hr9⟩ := rb_of huz
      have h := Option.some.inj h
      subst hr9
      subst h
      exact W.zret hx hb hr hz (fun t ht hW => ⟨rfl, by rw [ht]; exact hPa, hS.F ht⟩) hS.2.2 dS_closeRing_54
    · have h := it_f c4 h
      refine lv_aload_n hx hb dS_closeRing_35 rfl (lv_at hl 0 rfl) ?_
      refine lv_aload_n hx hb dS_closeRing_36 rfl (lv_at hl 0 rfl) ?_
      refine va_get (D := (dC, dI)) (ci := 0) (v := .int (sO v)) (C := R_S) (T := T_S) (N := 8) hx hb hw in_S hown hK hPa 0 rfl rfl 7 (by decide) (hw _ w_54) (fun _ h9 => h9) rfl dS_closeRing_37 ?_
      refine va_put (D := (dC, dI)) (ci := 0) (v := .int (sO v)) (ty := .int) (C := R_S) (T := T_S) (N := 8) hx hb hw in_S t_S t_S_ok nm_S hown hK hPa hD hS 0 rfl rfl 6 (by decide) (hw _ w_52) (fun _ h9 => h9) rfl (by decide +kernel) rfl rfl (Nat.le_of_ble_eq_true rfl) dS_closeRing_40 (fun H locs hPa hD hS => ?_)
      obtain ⟨v6, hv6, h⟩ := ob_some h
      have hPa : va_P (dC, dI) cls3 (shW cL cI a ax ay ae (ss_count v (sO v))) H := hPa
      have hD : va_D (in4 a ax ay ae) (shW cL cI a ax ay ae (ss_count v (sO v))) := hD
      rw [Option.some.inj hv6] at hPa hD
      refine lv_iconst (v := 0) hx hb dS_closeRing_43 (by decide) ?_
      obtain ⟨uz, huz, h⟩ := ob_some h
      obtain ⟨hz, hr9⟩ := rb_of huz
      have h := Option.some.inj h
      subst hr9
      subst h
      exact W.zret hx hb hr hz (fun t ht hW => ⟨rfl, by rw [ht]; exact hPa, hS.F ht⟩) hS.2.2 dS_closeRing_44
  · have h := it_f c2 h
    refine lv_aload_n hx hb dS_closeRing_7 rfl (lv_at hl 0 rfl) ?_
    refine lv_aload_n hx hb dS_closeRing_8 rfl (lv_at hl 0 rfl) ?_
    refine va_get (D := (dC, dI)) (ci := 0) (v := .int (sO v)) (C := R_S) (T := T_S) (N := 8) hx hb hw in_S hown hK hPa 0 rfl rfl 7 (by decide) (hw _ w_54) (fun _ h9 => h9) rfl dS_closeRing_9 ?_
    refine va_put (D := (dC, dI)) (ci := 0) (v := .int (sO v)) (ty := .int) (C := R_S) (T := T_S) (N := 8) hx hb hw in_S t_S t_S_ok nm_S hown hK hPa hD hS 0 rfl rfl 6 (by decide) (hw _ w_52) (fun _ h9 => h9) rfl (by decide +kernel) rfl rfl (Nat.le_of_ble_eq_true rfl) dS_closeRing_12 (fun H locs hPa hD hS => ?_)
    obtain ⟨v7, hv7, h⟩ := ob_some h
    have hPa : va_P (dC, dI) cls3 (shW cL cI a ax ay ae (ss_count v (sO v))) H := hPa
    have hD : va_D (in4 a ax ay ae) (shW cL cI a ax ay ae (ss_count v (sO v))) := hD
    rw [Option.some.inj hv7] at hPa hD
    refine lv_aload_n hx hb dS_closeRing_15 rfl (lv_at hl 0 rfl) ?_
    refine va_get (D := (dC, dI)) (ci := 0) (v := .int (sO v7)) (C := R_S) (T := T_S) (N := 8) hx hb hw in_S hown hK hPa 0 rfl rfl 7 (by decide) (hw _ w_54) (fun _ h9 => h9) rfl dS_closeRing_16 ?_
    refine lv_if_le (tgt := 26) hx hb dS_closeRing_19 (by decide) (fun c8 => ?_) (fun c8 => ?_)
    · have h := it_t c8 h
      refine lv_iconst (v := 0) hx hb dS_closeRing_26 (by decide) ?_
      exact k27 v7 (0 : Int32) h H locs hPa hD hS ls (lv_sub hl [] rfl)
    · have h := it_f c8 h
      refine lv_iconst (v := 1) hx hb dS_closeRing_22 (by decide) ?_
      refine lv_goto (tgt := 27) hx hb dS_closeRing_23 (by decide) ?_
      exact k27 v7 (1 : Int32) h H locs hPa hD hS ls (lv_sub hl [] rfl)
theorem dS_mirrorCorners_0 : decode cS_mirrorCorners 0 = .ok (.iconst 0, 1) := by decide +kernel
theorem dS_mirrorCorners_1 : decode cS_mirrorCorners 1 = .ok (.istore_n 1, 1) := by decide +kernel
theorem dS_mirrorCorners_2 : decode cS_mirrorCorners 2 = .ok (.iload_n 1, 1) := by decide +kernel
theorem dS_mirrorCorners_3 : decode cS_mirrorCorners 3 = .ok (.aload_n 0, 1) := by decide +kernel
theorem dS_mirrorCorners_4 : decode cS_mirrorCorners 4 = .ok (.getfield 34, 3) := by decide +kernel
theorem dS_mirrorCorners_7 : decode cS_mirrorCorners 7 = .ok (.if_icmp .ge 22, 3) := by decide +kernel
theorem dS_mirrorCorners_10 : decode cS_mirrorCorners 10 = .ok (.aload_n 0, 1) := by decide +kernel
theorem dS_mirrorCorners_11 : decode cS_mirrorCorners 11 = .ok (.getfield 23, 3) := by decide +kernel
theorem dS_mirrorCorners_14 : decode cS_mirrorCorners 14 = .ok (.iload_n 1, 1) := by decide +kernel
theorem dS_mirrorCorners_15 : decode cS_mirrorCorners 15 = .ok (.aload_n 0, 1) := by decide +kernel
theorem dS_mirrorCorners_16 : decode cS_mirrorCorners 16 = .ok (.getfield 23, 3) := by decide +kernel
theorem dS_mirrorCorners_19 : decode cS_mirrorCorners 19 = .ok (.iload_n 1, 1) := by decide +kernel
theorem dS_mirrorCorners_20 : decode cS_mirrorCorners 20 = .ok (.laload, 1) := by decide +kernel
theorem dS_mirrorCorners_21 : decode cS_mirrorCorners 21 = .ok (.lneg, 1) := by decide +kernel
theorem dS_mirrorCorners_22 : decode cS_mirrorCorners 22 = .ok (.lastore, 1) := by decide +kernel
theorem dS_mirrorCorners_23 : decode cS_mirrorCorners 23 = .ok (.iinc 1 1, 3) := by decide +kernel
theorem dS_mirrorCorners_26 : decode cS_mirrorCorners 26 = .ok (.goto (-24), 3) := by decide +kernel
theorem dS_mirrorCorners_29 : decode cS_mirrorCorners 29 = .ok (.return_, 1) := by decide +kernel
def f_S_mirrorCorners_l2 : Nat → SV → Int32 → Option SV
 | 0, _, _ => none
 | n + 1, vv, p1 => (if (sN vv) ≤ p1 then some vv else (ld 48 (sX vv) p1).bind fun u2 => (ck 48 p1).bind fun u3 => (some (ss_xs vv (vp_updL (sX vv) p1.toNatClampNeg (-u2)))).bind fun v4 => ((f_S_mirrorCorners_l2 n) v4 (p1 + 1)))
def f_S_mirrorCorners (v : SV) : Option SV := (f_S_mirrorCorners_l2 64 v (0 : Int32))
set_option maxHeartbeats 4000000 in
set_option maxRecDepth 100000 in
theorem k_S_mirrorCorners (l : Launch) (dC : Nat → ClassId) (dI : Nat → Nat → Nat) (cL cI : ClassId) (a ax ay ae : Nat) (v : SV) (r : SV) (h : f_S_mirrorCorners v = some r) : Met l yS_mirrorCorners wsS_mirrorCorners ({ frames := 0, cells := 0, slots := 0, locals := 0 }) (rd_Pc [.ref a] (fun H => va_P (dC, dI) cls3 (shW cL cI a ax ay ae v) H ∧ va_D (in4 a ax ay ae) (shW cL cI a ax ay ae v)) (dC, dI) cls3 [(cL, .long), (cI, .int)]) (mu_Q none (dC, dI) cls3 (shW cL cI a ax ay ae r) (in4 a ax ay ae)) 0 0 (in4 a ax ay ae) := by
  refine Met.ofW (cc := cS_mirrorCorners) (maxL := 2) (ret := none) (by decide) rfl ?_
  intro p e s m args below meth c s₁ B hml hv
  obtain ⟨rfl, ⟨hPa, hD⟩, hK⟩ := hv
  have hx := B.exec
  have hb := B.bytes
  have hr := B.returns
  have hw : ∀ w ∈ wG, w.before ([.ref a] : List Value).toArray s = true := fun w hq => atoms_spec (ws := wsS_mirrorCorners) B.pre w (List.mem_cons_of_mem _ hq)
  have hown : s.vm.findClass R_S = some m.cls := findClass_of_methodNamed B.named
  have hlocks := B.notSynchronized
  have hl := lv_entry ([.ref a] : List Value) (n := 2) (Nat.le_of_ble_eq_true rfl)
  rw [lg_entry_eq]
  generalize (lg_sl ([.ref a] : List Value) ++ List.replicate (2 - (lg_sl ([.ref a] : List Value)).length) Slot.unset).toArray = ls at hl ⊢
  have hl : lv_has ls 2 [(0, .ref a)] := hl
  have k2 : ∀ (n2 : Nat), ∀ (vv : SV) (p1 : Int32), f_S_mirrorCorners_l2 n2 vv p1 = some r → ∀ (H : Heap) (locs : List Loc), va_P (dC, dI) cls3 (shW cL cI a ax ay ae vv) H → va_D (in4 a ax ay ae) (shW cL cI a ax ay ae vv) → va_S (in4 a ax ay ae) s.heap H locs → ∀ (ls : Array Slot), lv_has ls 2 [(0, .ref a), (1, .int p1)] → W p l e (headSpec wsS_mirrorCorners ({ frames := 0, cells := 0, slots := 0, locals := 0 })).room s m ([.ref a] : List Value).toArray below meth c H locs 0 0 (MQ below (mu_Q none (dC, dI) cls3 (shW cL cI a ax ay ae r) (in4 a ax ay ae)) ([.ref a] : List Value).toArray s 0 0 (in4 a ax ay ae)) (F0 m 2 ls []) := by
    intro n2
    induction n2 with
    | zero => intro vv p1 h; exact absurd h (by simp [f_S_mirrorCorners_l2])
    | succ n2 ih2 =>
      intro vv p1 h H locs hPa hD hS ls hl
      rw [f_S_mirrorCorners_l2] at h
      refine lv_iload_n hx hb dS_mirrorCorners_2 rfl (lv_at hl 1 rfl) ?_
      refine lv_aload_n hx hb dS_mirrorCorners_3 rfl (lv_at hl 0 rfl) ?_
      refine va_get (D := (dC, dI)) (ci := 0) (v := .int (sN vv)) (C := R_S) (T := T_S) (N := 8) hx hb hw in_S hown hK hPa 0 rfl rfl 6 (by decide) (hw _ w_52) (fun _ h9 => h9) rfl dS_mirrorCorners_4 ?_
      refine lv_icmp_ge (tgt := 29) hx hb dS_mirrorCorners_7 (by decide) (fun c1 => ?_) (fun c1 => ?_)
      · have h := it_t c1 h
        have h := Option.some.inj h
        subst h
        exact W.vret hx hb hr (fun t ht hW => ⟨rfl, by rw [ht]; exact hPa, hS.F ht⟩) hS.2.2 dS_mirrorCorners_29
      · have h := it_f c1 h
        refine lv_aload_n hx hb dS_mirrorCorners_10 rfl (lv_at hl 0 rfl) ?_
        refine va_get (D := (dC, dI)) (ci := 0) (v := .ref ax) (C := R_S) (T := T_S) (N := 8) hx hb hw in_S hown hK hPa 0 rfl rfl 3 (by decide) (hw _ w_46) (fun _ h9 => h9) rfl dS_mirrorCorners_11 ?_
        refine lv_iload_n hx hb dS_mirrorCorners_14 rfl (lv_at hl 1 rfl) ?_
        refine lv_aload_n hx hb dS_mirrorCorners_15 rfl (lv_at hl 0 rfl) ?_
        refine va_get (D := (dC, dI)) (ci := 0) (v := .ref ax) (C := R_S) (T := T_S) (N := 8) hx hb hw in_S hown hK hPa 0 rfl rfl 3 (by decide) (hw _ w_46) (fun _ h9 => h9) rfl dS_mirrorCorners_16 ?_
        refine lv_iload_n hx hb dS_mirrorCorners_19 rfl (lv_at hl 1 rfl) ?_
        obtain ⟨u2, hu2, h⟩ := ob_some h
        obtain ⟨hiu2, eu2⟩ := ld_of hu2
        refine va_lald hx hb hK hPa 1 0 rfl rfl hiu2 dS_mirrorCorners_20 ?_
        rw [eu2]
        refine lv_lneg hx hb dS_mirrorCorners_21 ?_
        obtain ⟨u3, hu3, h⟩ := ob_some h
        refine va_last hx hb hK hPa hD hS 1 0 rfl rfl (ck_of hu3) dS_mirrorCorners_22 (fun H locs hPa hD hS => ?_)
        obtain ⟨v4, hv4, h⟩ := ob_some h
        have hPa : va_P (dC, dI) cls3 (shW cL cI a ax ay ae (ss_xs vv (vp_updL (sX vv) p1.toNatClampNeg (-u2)))) H := hPa
        have hD : va_D (in4 a ax ay ae) (shW cL cI a ax ay ae (ss_xs vv (vp_updL (sX vv) p1.toNatClampNeg (-u2)))) := hD
        rw [Option.some.inj hv4] at hPa hD
        refine lv_iinc (v := p1 + 1) (lv' := [(1, .int (p1 + 1)), (0, .ref a)]) hx hb dS_mirrorCorners_23 hl (k := 1) rfl rfl (by decide) rfl (fun ls hl => ?_)
        refine lv_goto (tgt := 2) hx hb dS_mirrorCorners_26 (by decide) ?_
        exact ih2 v4 (p1 + 1) h H locs hPa hD hS ls (lv_sub hl [1, 0] rfl)
  have hS : va_S (in4 a ax ay ae) s.heap s.heap [] := va_S.rf
  obtain ⟨H, hH⟩ : ∃ H : Heap, H = s.heap := ⟨_, rfl⟩
  obtain ⟨locs, hlocs⟩ : ∃ L : List Loc, L = [] := ⟨_, rfl⟩
  suffices hgo : W p l e (headSpec wsS_mirrorCorners ({ frames := 0, cells := 0, slots := 0, locals := 0 })).room s m ([.ref a] : List Value).toArray below meth c H locs 0 0 (MQ below (mu_Q none (dC, dI) cls3 (shW cL cI a ax ay ae r) (in4 a ax ay ae)) ([.ref a] : List Value).toArray s 0 0 (in4 a ax ay ae)) (F0 m 0 ls []) by rw [hH, hlocs] at hgo; exact hgo
  rw [← hH] at hPa
  have hS : va_S (in4 a ax ay ae) s.heap H locs := by rw [hH, hlocs]; exact hS
  clear hH hlocs
  unfold f_S_mirrorCorners at h
  refine lv_iconst (v := 0) hx hb dS_mirrorCorners_0 (by decide) ?_
  refine lv_istore_n (lv' := [(1, .int (0 : Int32)), (0, .ref a)]) hx hb dS_mirrorCorners_1 rfl hl (by decide) rfl (fun ls hl => ?_)
  exact k2 64 v (0 : Int32) h H locs hPa hD hS ls (lv_sub hl [1, 0] rfl)
theorem dS_turnCornersOnce_0 : decode cS_turnCornersOnce 0 = .ok (.iconst 0, 1) := by decide +kernel
theorem dS_turnCornersOnce_1 : decode cS_turnCornersOnce 1 = .ok (.istore_n 1, 1) := by decide +kernel
theorem dS_turnCornersOnce_2 : decode cS_turnCornersOnce 2 = .ok (.iload_n 1, 1) := by decide +kernel
theorem dS_turnCornersOnce_3 : decode cS_turnCornersOnce 3 = .ok (.aload_n 0, 1) := by decide +kernel
theorem dS_turnCornersOnce_4 : decode cS_turnCornersOnce 4 = .ok (.getfield 34, 3) := by decide +kernel
theorem dS_turnCornersOnce_7 : decode cS_turnCornersOnce 7 = .ok (.if_icmp .ge 36, 3) := by decide +kernel
theorem dS_turnCornersOnce_10 : decode cS_turnCornersOnce 10 = .ok (.aload_n 0, 1) := by decide +kernel
theorem dS_turnCornersOnce_11 : decode cS_turnCornersOnce 11 = .ok (.getfield 23, 3) := by decide +kernel
theorem dS_turnCornersOnce_14 : decode cS_turnCornersOnce 14 = .ok (.iload_n 1, 1) := by decide +kernel
theorem dS_turnCornersOnce_15 : decode cS_turnCornersOnce 15 = .ok (.laload, 1) := by decide +kernel
theorem dS_turnCornersOnce_16 : decode cS_turnCornersOnce 16 = .ok (.lstore_n 2, 1) := by decide +kernel
theorem dS_turnCornersOnce_17 : decode cS_turnCornersOnce 17 = .ok (.aload_n 0, 1) := by decide +kernel
theorem dS_turnCornersOnce_18 : decode cS_turnCornersOnce 18 = .ok (.getfield 23, 3) := by decide +kernel
theorem dS_turnCornersOnce_21 : decode cS_turnCornersOnce 21 = .ok (.iload_n 1, 1) := by decide +kernel
theorem dS_turnCornersOnce_22 : decode cS_turnCornersOnce 22 = .ok (.aload_n 0, 1) := by decide +kernel
theorem dS_turnCornersOnce_23 : decode cS_turnCornersOnce 23 = .ok (.getfield 27, 3) := by decide +kernel
theorem dS_turnCornersOnce_26 : decode cS_turnCornersOnce 26 = .ok (.iload_n 1, 1) := by decide +kernel
theorem dS_turnCornersOnce_27 : decode cS_turnCornersOnce 27 = .ok (.laload, 1) := by decide +kernel
theorem dS_turnCornersOnce_28 : decode cS_turnCornersOnce 28 = .ok (.lneg, 1) := by decide +kernel
theorem dS_turnCornersOnce_29 : decode cS_turnCornersOnce 29 = .ok (.lastore, 1) := by decide +kernel
theorem dS_turnCornersOnce_30 : decode cS_turnCornersOnce 30 = .ok (.aload_n 0, 1) := by decide +kernel
theorem dS_turnCornersOnce_31 : decode cS_turnCornersOnce 31 = .ok (.getfield 27, 3) := by decide +kernel
theorem dS_turnCornersOnce_34 : decode cS_turnCornersOnce 34 = .ok (.iload_n 1, 1) := by decide +kernel
theorem dS_turnCornersOnce_35 : decode cS_turnCornersOnce 35 = .ok (.lload_n 2, 1) := by decide +kernel
theorem dS_turnCornersOnce_36 : decode cS_turnCornersOnce 36 = .ok (.lastore, 1) := by decide +kernel
theorem dS_turnCornersOnce_37 : decode cS_turnCornersOnce 37 = .ok (.iinc 1 1, 3) := by decide +kernel
theorem dS_turnCornersOnce_40 : decode cS_turnCornersOnce 40 = .ok (.goto (-38), 3) := by decide +kernel
theorem dS_turnCornersOnce_43 : decode cS_turnCornersOnce 43 = .ok (.return_, 1) := by decide +kernel
def f_S_turnCornersOnce_l2 : Nat → SV → Int32 → Option SV
 | 0, _, _ => none
 | n + 1, vv, p1 => (if (sN vv) ≤ p1 then some vv else (ld 48 (sX vv) p1).bind fun u2 => (ld 48 (sY vv) p1).bind fun u3 => (ck 48 p1).bind fun u4 => (some (ss_xs vv (vp_updL (sX vv) p1.toNatClampNeg (-u3)))).bind fun v5 => (ck 48 p1).bind fun u6 => (some (ss_ys v5 (vp_updL (sY v5) p1.toNatClampNeg u2))).bind fun v7 => ((f_S_turnCornersOnce_l2 n) v7 (p1 + 1)))
def f_S_turnCornersOnce (v : SV) : Option SV := (f_S_turnCornersOnce_l2 64 v (0 : Int32))
set_option maxHeartbeats 4000000 in
set_option maxRecDepth 100000 in
theorem k_S_turnCornersOnce (l : Launch) (dC : Nat → ClassId) (dI : Nat → Nat → Nat) (cL cI : ClassId) (a ax ay ae : Nat) (v : SV) (r : SV) (h : f_S_turnCornersOnce v = some r) : Met l yS_turnCornersOnce wsS_turnCornersOnce ({ frames := 0, cells := 0, slots := 0, locals := 0 }) (rd_Pc [.ref a] (fun H => va_P (dC, dI) cls3 (shW cL cI a ax ay ae v) H ∧ va_D (in4 a ax ay ae) (shW cL cI a ax ay ae v)) (dC, dI) cls3 [(cL, .long), (cI, .int)]) (mu_Q none (dC, dI) cls3 (shW cL cI a ax ay ae r) (in4 a ax ay ae)) 0 0 (in4 a ax ay ae) := by
  refine Met.ofW (cc := cS_turnCornersOnce) (maxL := 4) (ret := none) (by decide) rfl ?_
  intro p e s m args below meth c s₁ B hml hv
  obtain ⟨rfl, ⟨hPa, hD⟩, hK⟩ := hv
  have hx := B.exec
  have hb := B.bytes
  have hr := B.returns
  have hw : ∀ w ∈ wG, w.before ([.ref a] : List Value).toArray s = true := fun w hq => atoms_spec (ws := wsS_turnCornersOnce) B.pre w (List.mem_cons_of_mem _ hq)
  have hown : s.vm.findClass R_S = some m.cls := findClass_of_methodNamed B.named
  have hlocks := B.notSynchronized
  have hl := lv_entry ([.ref a] : List Value) (n := 4) (Nat.le_of_ble_eq_true rfl)
  rw [lg_entry_eq]
  generalize (lg_sl ([.ref a] : List Value) ++ List.replicate (4 - (lg_sl ([.ref a] : List Value)).length) Slot.unset).toArray = ls at hl ⊢
  have hl : lv_has ls 4 [(0, .ref a)] := hl
  have k2 : ∀ (n2 : Nat), ∀ (vv : SV) (p1 : Int32), f_S_turnCornersOnce_l2 n2 vv p1 = some r → ∀ (H : Heap) (locs : List Loc), va_P (dC, dI) cls3 (shW cL cI a ax ay ae vv) H → va_D (in4 a ax ay ae) (shW cL cI a ax ay ae vv) → va_S (in4 a ax ay ae) s.heap H locs → ∀ (ls : Array Slot), lv_has ls 4 [(0, .ref a), (1, .int p1)] → W p l e (headSpec wsS_turnCornersOnce ({ frames := 0, cells := 0, slots := 0, locals := 0 })).room s m ([.ref a] : List Value).toArray below meth c H locs 0 0 (MQ below (mu_Q none (dC, dI) cls3 (shW cL cI a ax ay ae r) (in4 a ax ay ae)) ([.ref a] : List Value).toArray s 0 0 (in4 a ax ay ae)) (F0 m 2 ls []) := by
    intro n2
    induction n2 with
    | zero => intro vv p1 h; exact absurd h (by simp [f_S_turnCornersOnce_l2])
    | succ n2 ih2 =>
      intro vv p1 h H locs hPa hD hS ls hl
      rw [f_S_turnCornersOnce_l2] at h
      refine lv_iload_n hx hb dS_turnCornersOnce_2 rfl (lv_at hl 1 rfl) ?_
      refine lv_aload_n hx hb dS_turnCornersOnce_3 rfl (lv_at hl 0 rfl) ?_
      refine va_get (D := (dC, dI)) (ci := 0) (v := .int (sN vv)) (C := R_S) (T := T_S) (N := 8) hx hb hw in_S hown hK hPa 0 rfl rfl 6 (by decide) (hw _ w_52) (fun _ h9 => h9) rfl dS_turnCornersOnce_4 ?_
      refine lv_icmp_ge (tgt := 43) hx hb dS_turnCornersOnce_7 (by decide) (fun c1 => ?_) (fun c1 => ?_)
      · have h := it_t c1 h
        have h := Option.some.inj h
        subst h
        exact W.vret hx hb hr (fun t ht hW => ⟨rfl, by rw [ht]; exact hPa, hS.F ht⟩) hS.2.2 dS_turnCornersOnce_43
      · have h := it_f c1 h
        refine lv_aload_n hx hb dS_turnCornersOnce_10 rfl (lv_at hl 0 rfl) ?_
        refine va_get (D := (dC, dI)) (ci := 0) (v := .ref ax) (C := R_S) (T := T_S) (N := 8) hx hb hw in_S hown hK hPa 0 rfl rfl 3 (by decide) (hw _ w_46) (fun _ h9 => h9) rfl dS_turnCornersOnce_11 ?_
        refine lv_iload_n hx hb dS_turnCornersOnce_14 rfl (lv_at hl 1 rfl) ?_
        obtain ⟨u2, hu2, h⟩ := ob_some h
        obtain ⟨hiu2, eu2⟩ := ld_of hu2
        refine va_lald hx hb hK hPa 1 0 rfl rfl hiu2 dS_turnCornersOnce_15 ?_
        rw [eu2]
        refine lv_lstore_n (lv' := [(2, .long u2), (0, .ref a), (1, .int p1)]) hx hb dS_turnCornersOnce_16 rfl hl (by decide) rfl (fun ls hl => ?_)
        refine lv_aload_n hx hb dS_turnCornersOnce_17 rfl (lv_at hl 1 rfl) ?_
        refine va_get (D := (dC, dI)) (ci := 0) (v := .ref ax) (C := R_S) (T := T_S) (N := 8) hx hb hw in_S hown hK hPa 0 rfl rfl 3 (by decide) (hw _ w_46) (fun _ h9 => h9) rfl dS_turnCornersOnce_18 ?_
        refine lv_iload_n hx hb dS_turnCornersOnce_21 rfl (lv_at hl 2 rfl) ?_
        refine lv_aload_n hx hb dS_turnCornersOnce_22 rfl (lv_at hl 1 rfl) ?_
        refine va_get (D := (dC, dI)) (ci := 0) (v := .ref ay) (C := R_S) (T := T_S) (N := 8) hx hb hw in_S hown hK hPa 0 rfl rfl 4 (by decide) (hw _ w_48) (fun _ h9 => h9) rfl dS_turnCornersOnce_23 ?_
        refine lv_iload_n hx hb dS_turnCornersOnce_26 rfl (lv_at hl 2 rfl) ?_
        obtain ⟨u3, hu3, h⟩ := ob_some h
        obtain ⟨hiu3, eu3⟩ := ld_of hu3
        refine va_lald hx hb hK hPa 2 0 rfl rfl hiu3 dS_turnCornersOnce_27 ?_
        rw [eu3]
        refine lv_lneg hx hb dS_turnCornersOnce_28 ?_
        obtain ⟨u4, hu4, h⟩ := ob_some h
        refine va_last hx hb hK hPa hD hS 1 0 rfl rfl (ck_of hu4) dS_turnCornersOnce_29 (fun H locs hPa hD hS => ?_)
        obtain ⟨v5, hv5, h⟩ := ob_some h
        have hPa : va_P (dC, dI) cls3 (shW cL cI a ax ay ae (ss_xs vv (vp_updL (sX vv) p1.toNatClampNeg (-u3)))) H := hPa
        have hD : va_D (in4 a ax ay ae) (shW cL cI a ax ay ae (ss_xs vv (vp_updL (sX vv) p1.toNatClampNeg (-u3)))) := hD
        rw [Option.some.inj hv5] at hPa hD
        refine lv_aload_n hx hb dS_turnCornersOnce_30 rfl (lv_at hl 1 rfl) ?_
        refine va_get (D := (dC, dI)) (ci := 0) (v := .ref ay) (C := R_S) (T := T_S) (N := 8) hx hb hw in_S hown hK hPa 0 rfl rfl 4 (by decide) (hw _ w_48) (fun _ h9 => h9) rfl dS_turnCornersOnce_31 ?_
        refine lv_iload_n hx hb dS_turnCornersOnce_34 rfl (lv_at hl 2 rfl) ?_
        refine lv_lload_n hx hb dS_turnCornersOnce_35 rfl (lv_at hl 0 rfl) ?_
        obtain ⟨u6, hu6, h⟩ := ob_some h
        refine va_last hx hb hK hPa hD hS 2 0 rfl rfl (ck_of hu6) dS_turnCornersOnce_36 (fun H locs hPa hD hS => ?_)
        obtain ⟨v7, hv7, h⟩ := ob_some h
        have hPa : va_P (dC, dI) cls3 (shW cL cI a ax ay ae (ss_ys v5 (vp_updL (sY v5) p1.toNatClampNeg u2))) H := hPa
        have hD : va_D (in4 a ax ay ae) (shW cL cI a ax ay ae (ss_ys v5 (vp_updL (sY v5) p1.toNatClampNeg u2))) := hD
        rw [Option.some.inj hv7] at hPa hD
        refine lv_iinc (v := p1 + 1) (lv' := [(1, .int (p1 + 1)), (2, .long u2), (0, .ref a)]) hx hb dS_turnCornersOnce_37 hl (k := 2) rfl rfl (by decide) rfl (fun ls hl => ?_)
        refine lv_goto (tgt := 2) hx hb dS_turnCornersOnce_40 (by decide) ?_
        exact ih2 v7 (p1 + 1) h H locs hPa hD hS ls (lv_sub hl [2, 0] rfl)
  have hS : va_S (in4 a ax ay ae) s.heap s.heap [] := va_S.rf
  obtain ⟨H, hH⟩ : ∃ H : Heap, H = s.heap := ⟨_, rfl⟩
  obtain ⟨locs, hlocs⟩ : ∃ L : List Loc, L = [] := ⟨_, rfl⟩
  suffices hgo : W p l e (headSpec wsS_turnCornersOnce ({ frames := 0, cells := 0, slots := 0, locals := 0 })).room s m ([.ref a] : List Value).toArray below meth c H locs 0 0 (MQ below (mu_Q none (dC, dI) cls3 (shW cL cI a ax ay ae r) (in4 a ax ay ae)) ([.ref a] : List Value).toArray s 0 0 (in4 a ax ay ae)) (F0 m 0 ls []) by rw [hH, hlocs] at hgo; exact hgo
  rw [← hH] at hPa
  have hS : va_S (in4 a ax ay ae) s.heap H locs := by rw [hH, hlocs]; exact hS
  clear hH hlocs
  unfold f_S_turnCornersOnce at h
  refine lv_iconst (v := 0) hx hb dS_turnCornersOnce_0 (by decide) ?_
  refine lv_istore_n (lv' := [(1, .int (0 : Int32)), (0, .ref a)]) hx hb dS_turnCornersOnce_1 rfl hl (by decide) rfl (fun ls hl => ?_)
  exact k2 64 v (0 : Int32) h H locs hPa hD hS ls (lv_sub hl [1, 0] rfl)
