/-! methods that make a shape, laid by program -/
theorem dS_copyWithRadius_0 : decode cS_copyWithRadius 0 = .ok (.new 10, 3) := by decide +kernel
theorem dS_copyWithRadius_3 : decode cS_copyWithRadius 3 = .ok (.dup, 1) := by decide +kernel
theorem dS_copyWithRadius_4 : decode cS_copyWithRadius 4 = .ok (.aload_n 0, 1) := by decide +kernel
theorem dS_copyWithRadius_5 : decode cS_copyWithRadius 5 = .ok (.getfield 9, 3) := by decide +kernel
theorem dS_copyWithRadius_8 : decode cS_copyWithRadius 8 = .ok (.aload_n 0, 1) := by decide +kernel
theorem dS_copyWithRadius_9 : decode cS_copyWithRadius 9 = .ok (.getfield 15, 3) := by decide +kernel
theorem dS_copyWithRadius_12 : decode cS_copyWithRadius 12 = .ok (.lload_n 1, 1) := by decide +kernel
theorem dS_copyWithRadius_13 : decode cS_copyWithRadius 13 = .ok (.invokespecial 60, 3) := by decide +kernel
theorem dS_copyWithRadius_16 : decode cS_copyWithRadius 16 = .ok (.astore_n 3, 1) := by decide +kernel
theorem dS_copyWithRadius_17 : decode cS_copyWithRadius 17 = .ok (.iconst 0, 1) := by decide +kernel
theorem dS_copyWithRadius_18 : decode cS_copyWithRadius 18 = .ok (.istore 4, 2) := by decide +kernel
theorem dS_copyWithRadius_20 : decode cS_copyWithRadius 20 = .ok (.iload 4, 2) := by decide +kernel
theorem dS_copyWithRadius_22 : decode cS_copyWithRadius 22 = .ok (.aload_n 0, 1) := by decide +kernel
theorem dS_copyWithRadius_23 : decode cS_copyWithRadius 23 = .ok (.getfield 34, 3) := by decide +kernel
theorem dS_copyWithRadius_26 : decode cS_copyWithRadius 26 = .ok (.if_icmp .ge 51, 3) := by decide +kernel
theorem dS_copyWithRadius_29 : decode cS_copyWithRadius 29 = .ok (.aload_n 3, 1) := by decide +kernel
theorem dS_copyWithRadius_30 : decode cS_copyWithRadius 30 = .ok (.getfield 23, 3) := by decide +kernel
theorem dS_copyWithRadius_33 : decode cS_copyWithRadius 33 = .ok (.iload 4, 2) := by decide +kernel
theorem dS_copyWithRadius_35 : decode cS_copyWithRadius 35 = .ok (.aload_n 0, 1) := by decide +kernel
theorem dS_copyWithRadius_36 : decode cS_copyWithRadius 36 = .ok (.getfield 23, 3) := by decide +kernel
theorem dS_copyWithRadius_39 : decode cS_copyWithRadius 39 = .ok (.iload 4, 2) := by decide +kernel
theorem dS_copyWithRadius_41 : decode cS_copyWithRadius 41 = .ok (.laload, 1) := by decide +kernel
theorem dS_copyWithRadius_42 : decode cS_copyWithRadius 42 = .ok (.lastore, 1) := by decide +kernel
theorem dS_copyWithRadius_43 : decode cS_copyWithRadius 43 = .ok (.aload_n 3, 1) := by decide +kernel
theorem dS_copyWithRadius_44 : decode cS_copyWithRadius 44 = .ok (.getfield 27, 3) := by decide +kernel
theorem dS_copyWithRadius_47 : decode cS_copyWithRadius 47 = .ok (.iload 4, 2) := by decide +kernel
theorem dS_copyWithRadius_49 : decode cS_copyWithRadius 49 = .ok (.aload_n 0, 1) := by decide +kernel
theorem dS_copyWithRadius_50 : decode cS_copyWithRadius 50 = .ok (.getfield 27, 3) := by decide +kernel
theorem dS_copyWithRadius_53 : decode cS_copyWithRadius 53 = .ok (.iload 4, 2) := by decide +kernel
theorem dS_copyWithRadius_55 : decode cS_copyWithRadius 55 = .ok (.laload, 1) := by decide +kernel
theorem dS_copyWithRadius_56 : decode cS_copyWithRadius 56 = .ok (.lastore, 1) := by decide +kernel
theorem dS_copyWithRadius_57 : decode cS_copyWithRadius 57 = .ok (.aload_n 3, 1) := by decide +kernel
theorem dS_copyWithRadius_58 : decode cS_copyWithRadius 58 = .ok (.getfield 30, 3) := by decide +kernel
theorem dS_copyWithRadius_61 : decode cS_copyWithRadius 61 = .ok (.iload 4, 2) := by decide +kernel
theorem dS_copyWithRadius_63 : decode cS_copyWithRadius 63 = .ok (.aload_n 0, 1) := by decide +kernel
theorem dS_copyWithRadius_64 : decode cS_copyWithRadius 64 = .ok (.getfield 30, 3) := by decide +kernel
theorem dS_copyWithRadius_67 : decode cS_copyWithRadius 67 = .ok (.iload 4, 2) := by decide +kernel
theorem dS_copyWithRadius_69 : decode cS_copyWithRadius 69 = .ok (.iaload, 1) := by decide +kernel
theorem dS_copyWithRadius_70 : decode cS_copyWithRadius 70 = .ok (.iastore, 1) := by decide +kernel
theorem dS_copyWithRadius_71 : decode cS_copyWithRadius 71 = .ok (.iinc 4 1, 3) := by decide +kernel
theorem dS_copyWithRadius_74 : decode cS_copyWithRadius 74 = .ok (.goto (-54), 3) := by decide +kernel
theorem dS_copyWithRadius_77 : decode cS_copyWithRadius 77 = .ok (.aload_n 3, 1) := by decide +kernel
theorem dS_copyWithRadius_78 : decode cS_copyWithRadius 78 = .ok (.aload_n 0, 1) := by decide +kernel
theorem dS_copyWithRadius_79 : decode cS_copyWithRadius 79 = .ok (.getfield 34, 3) := by decide +kernel
theorem dS_copyWithRadius_82 : decode cS_copyWithRadius 82 = .ok (.putfield 34, 3) := by decide +kernel
theorem dS_copyWithRadius_85 : decode cS_copyWithRadius 85 = .ok (.aload_n 3, 1) := by decide +kernel
theorem dS_copyWithRadius_86 : decode cS_copyWithRadius 86 = .ok (.aload_n 0, 1) := by decide +kernel
theorem dS_copyWithRadius_87 : decode cS_copyWithRadius 87 = .ok (.getfield 37, 3) := by decide +kernel
theorem dS_copyWithRadius_90 : decode cS_copyWithRadius 90 = .ok (.putfield 37, 3) := by decide +kernel
theorem dS_copyWithRadius_93 : decode cS_copyWithRadius 93 = .ok (.aload_n 3, 1) := by decide +kernel
theorem dS_copyWithRadius_94 : decode cS_copyWithRadius 94 = .ok (.areturn, 1) := by decide +kernel
def f_S_copyWithRadius_l20 (v : SV) : Nat → SV → Int32 → Option SV
 | 0, _, _ => none
 | n + 1, vv, p4 => (if (sN v) ≤ p4 then (some (ss_count vv (sN v))).bind fun v3 => (some (ss_open v3 (sO v))).bind fun v4 => some v4 else (ld 48 (sX v) p4).bind fun u5 => (ck 48 p4).bind fun u6 => (some (ss_xs vv (vp_updL (sX vv) p4.toNatClampNeg u5))).bind fun v7 => (ld 48 (sY v) p4).bind fun u8 => (ck 48 p4).bind fun u9 => (some (ss_ys v7 (vp_updL (sY v7) p4.toNatClampNeg u8))).bind fun v10 => (ld 48 (sE v) p4).bind fun u11 => (ck 48 p4).bind fun u12 => (some (ss_ends v10 (upd (sE v10) p4.toNatClampNeg u11))).bind fun v13 => ((f_S_copyWithRadius_l20 v n) v13 (p4 + 1)))
def f_S_copyWithRadius (v : SV) (x1 : Int64) : Option SV := (bz (sB v)).bind fun u1 => (f_S_copyWithRadius_l20 v 64 (sv0 (sF v) (sB v) x1) (0 : Int32))
set_option maxHeartbeats 1000000 in
set_option maxRecDepth 100000 in
theorem k_S_copyWithRadius (l : Launch) (dC : Nat → ClassId) (dI : Nat → Nat → Nat) (cL cI : ClassId) (sz : Nat) (a ax ay ae : Nat) (v : SV) (x1 : Int64) (r : SV) (h : f_S_copyWithRadius v x1 = some r) : Met l yS_copyWithRadius wsS_copyWithRadius ({ frames := 2, cells := 4, slots := 152, locals := 44 }) (rd_Pc [.ref a, .long x1] (fun H => va_P (dC, dI) cls3 (shW cL cI a ax ay ae v) H ∧ H.size = sz) (dC, dI) cls3 [(cL, .long), (cI, .int)]) (al_Q (some (.ref sz)) (fun H => va_P (dC, dI) cls3 (shW cL cI sz (sz + 1) (sz + 2) (sz + 3) r) H) (fun x => sz ≤ x)) 4 152 (fun x => sz ≤ x) := by
  refine Met.ofW (cc := cS_copyWithRadius) (maxL := 5) (ret := (some (.object "ShapeForms$Shape"))) (by decide) rfl ?_
  intro p e s m args below meth c s₁ B hml hv
  obtain ⟨rfl, ⟨hPa, hz0⟩, hK⟩ := hv
  have hx := B.exec
  have hb := B.bytes
  have hr := B.returns
  have hw : ∀ w ∈ wG, w.before ([.ref a, .long x1] : List Value).toArray s = true := fun w hq => atoms_spec (ws := wsS_copyWithRadius) B.pre w (List.mem_cons_of_mem _ hq)
  have hown : s.vm.findClass R_S = some m.cls := findClass_of_methodNamed B.named
  have hlocks := B.notSynchronized
  have hK2 := hK.sub (tys' := [(cL, .long), (cI, .int)]) [0, 1] rfl
  have hl := lv_entry ([.ref a, .long x1] : List Value) (n := 5) (Nat.le_of_ble_eq_true rfl)
  rw [lg_entry_eq]
  generalize (lg_sl ([.ref a, .long x1] : List Value) ++ List.replicate (5 - (lg_sl ([.ref a, .long x1] : List Value)).length) Slot.unset).toArray = ls at hl ⊢
  have hl : lv_has ls 5 [(0, .ref a), (1, .long x1)] := hl
  have k20 : ∀ (n20 : Nat), ∀ (vv : SV) (p4 : Int32), f_S_copyWithRadius_l20 v n20 vv p4 = some r → ∀ (H : Heap) (locs : List Loc), va_P (dC, dI) cls3 (shW cL cI sz (sz + 1) (sz + 2) (sz + 3) vv) H → va_D (fun x => sz ≤ x) (shW cL cI sz (sz + 1) (sz + 2) (sz + 3) vv) → va_S (fun x => sz ≤ x) s.heap H locs → ∀ (ls : Array Slot), lv_has ls 5 [(0, .ref a), (3, .ref sz), (4, .int p4)] → W p l e (headSpec wsS_copyWithRadius ({ frames := 2, cells := 4, slots := 152, locals := 44 })).room s m ([.ref a, .long x1] : List Value).toArray below meth c H locs 4 152 (MQ below (al_Q (some (.ref sz)) (fun H => va_P (dC, dI) cls3 (shW cL cI sz (sz + 1) (sz + 2) (sz + 3) r) H) (fun x => sz ≤ x)) ([.ref a, .long x1] : List Value).toArray s 4 152 (fun x => sz ≤ x)) (F0 m 20 ls []) := by
    intro n20
    induction n20 with
    | zero => intro vv p4 h; exact absurd h (by simp [f_S_copyWithRadius_l20])
    | succ n20 ih20 =>
      intro vv p4 h H locs hPb hD hS ls hl
      rw [f_S_copyWithRadius_l20] at h
      refine lv_iload hx hb dS_copyWithRadius_20 (lv_at hl 2 rfl) ?_
      refine lv_aload_n hx hb dS_copyWithRadius_22 rfl (lv_at hl 0 rfl) ?_
      refine va_get (D := (dC, dI)) (ci := 0) (v := .int (sN v)) (C := R_S) (T := T_S) (N := 8) hx hb hw in_S hown hK (keepN hPa hz0 hS) 0 rfl rfl 6 (by decide) (hw _ w_52) (fun _ h9 => h9) rfl dS_copyWithRadius_23 ?_
      refine lv_icmp_ge (tgt := 77) hx hb dS_copyWithRadius_26 (by decide) (fun c2 => ?_) (fun c2 => ?_)
      · have h := it_t c2 h
        refine lv_aload_n hx hb dS_copyWithRadius_77 rfl (lv_at hl 1 rfl) ?_
        refine lv_aload_n hx hb dS_copyWithRadius_78 rfl (lv_at hl 0 rfl) ?_
        refine va_get (D := (dC, dI)) (ci := 0) (v := .int (sN v)) (C := R_S) (T := T_S) (N := 8) hx hb hw in_S hown hK (keepN hPa hz0 hS) 0 rfl rfl 6 (by decide) (hw _ w_52) (fun _ h9 => h9) rfl dS_copyWithRadius_79 ?_
        refine va_put (D := (dC, dI)) (ci := 0) (v := .int (sN v)) (ty := .int) (C := R_S) (T := T_S) (N := 8) hx hb hw in_S t_S t_S_ok nm_S hown hK hPb hD hS 0 rfl rfl 6 (by decide) (hw _ w_52) (fun _ h9 => h9) rfl (by decide +kernel) rfl rfl (Nat.le_of_ble_eq_true rfl) dS_copyWithRadius_82 (fun H locs hPb hD hS => ?_)
        obtain ⟨v3, hv3, h⟩ := ob_some h
        have hPb : va_P (dC, dI) cls3 (shW cL cI sz (sz + 1) (sz + 2) (sz + 3) (ss_count vv (sN v))) H := hPb
        have hD : va_D (fun x => sz ≤ x) (shW cL cI sz (sz + 1) (sz + 2) (sz + 3) (ss_count vv (sN v))) := hD
        rw [Option.some.inj hv3] at hPb hD
        refine lv_aload_n hx hb dS_copyWithRadius_85 rfl (lv_at hl 1 rfl) ?_
        refine lv_aload_n hx hb dS_copyWithRadius_86 rfl (lv_at hl 0 rfl) ?_
        refine va_get (D := (dC, dI)) (ci := 0) (v := .int (sO v)) (C := R_S) (T := T_S) (N := 8) hx hb hw in_S hown hK (keepN hPa hz0 hS) 0 rfl rfl 7 (by decide) (hw _ w_54) (fun _ h9 => h9) rfl dS_copyWithRadius_87 ?_
        refine va_put (D := (dC, dI)) (ci := 0) (v := .int (sO v)) (ty := .int) (C := R_S) (T := T_S) (N := 8) hx hb hw in_S t_S t_S_ok nm_S hown hK hPb hD hS 0 rfl rfl 7 (by decide) (hw _ w_54) (fun _ h9 => h9) rfl (by decide +kernel) rfl rfl (Nat.le_of_ble_eq_true rfl) dS_copyWithRadius_90 (fun H locs hPb hD hS => ?_)
        obtain ⟨v4, hv4, h⟩ := ob_some h
        have hPb : va_P (dC, dI) cls3 (shW cL cI sz (sz + 1) (sz + 2) (sz + 3) (ss_open v3 (sO v))) H := hPb
        have hD : va_D (fun x => sz ≤ x) (shW cL cI sz (sz + 1) (sz + 2) (sz + 3) (ss_open v3 (sO v))) := hD
        rw [Option.some.inj hv4] at hPb hD
        refine lv_aload_n hx hb dS_copyWithRadius_93 rfl (lv_at hl 1 rfl) ?_
        have h := Option.some.inj h
        subst h
        exact W.aret hx hb hr (Or.inl ⟨_, rfl⟩) (Or.inr ⟨_, rfl⟩) (fun t ht hW => ⟨rfl, by rw [ht]; exact hPb, hS.F ht⟩) hS.2.2 dS_copyWithRadius_94
      · have h := it_f c2 h
        refine lv_aload_n hx hb dS_copyWithRadius_29 rfl (lv_at hl 1 rfl) ?_
        refine va_get (D := (dC, dI)) (ci := 0) (v := .ref (sz + 1)) (C := R_S) (T := T_S) (N := 8) hx hb hw in_S hown hK hPb 0 rfl rfl 3 (by decide) (hw _ w_46) (fun _ h9 => h9) rfl dS_copyWithRadius_30 ?_
        refine lv_iload hx hb dS_copyWithRadius_33 (lv_at hl 2 rfl) ?_
        refine lv_aload_n hx hb dS_copyWithRadius_35 rfl (lv_at hl 0 rfl) ?_
        refine va_get (D := (dC, dI)) (ci := 0) (v := .ref ax) (C := R_S) (T := T_S) (N := 8) hx hb hw in_S hown hK (keepN hPa hz0 hS) 0 rfl rfl 3 (by decide) (hw _ w_46) (fun _ h9 => h9) rfl dS_copyWithRadius_36 ?_
        refine lv_iload hx hb dS_copyWithRadius_39 (lv_at hl 2 rfl) ?_
        obtain ⟨u5, hu5, h⟩ := ob_some h
        obtain ⟨hiu5, eu5⟩ := ld_of hu5
        refine va_lald hx hb hK (keepN hPa hz0 hS) 1 0 rfl rfl hiu5 dS_copyWithRadius_41 ?_
        rw [eu5]
        obtain ⟨u6, hu6, h⟩ := ob_some h
        refine va_last hx hb hK hPb hD hS 1 0 rfl rfl (ck_of hu6) dS_copyWithRadius_42 (fun H locs hPb hD hS => ?_)
        obtain ⟨v7, hv7, h⟩ := ob_some h
        have hPb : va_P (dC, dI) cls3 (shW cL cI sz (sz + 1) (sz + 2) (sz + 3) (ss_xs vv (vp_updL (sX vv) p4.toNatClampNeg u5))) H := hPb
        have hD : va_D (fun x => sz ≤ x) (shW cL cI sz (sz + 1) (sz + 2) (sz + 3) (ss_xs vv (vp_updL (sX vv) p4.toNatClampNeg u5))) := hD
        rw [Option.some.inj hv7] at hPb hD
        refine lv_aload_n hx hb dS_copyWithRadius_43 rfl (lv_at hl 1 rfl) ?_
        refine va_get (D := (dC, dI)) (ci := 0) (v := .ref (sz + 2)) (C := R_S) (T := T_S) (N := 8) hx hb hw in_S hown hK hPb 0 rfl rfl 4 (by decide) (hw _ w_48) (fun _ h9 => h9) rfl dS_copyWithRadius_44 ?_
        refine lv_iload hx hb dS_copyWithRadius_47 (lv_at hl 2 rfl) ?_
        refine lv_aload_n hx hb dS_copyWithRadius_49 rfl (lv_at hl 0 rfl) ?_
        refine va_get (D := (dC, dI)) (ci := 0) (v := .ref ay) (C := R_S) (T := T_S) (N := 8) hx hb hw in_S hown hK (keepN hPa hz0 hS) 0 rfl rfl 4 (by decide) (hw _ w_48) (fun _ h9 => h9) rfl dS_copyWithRadius_50 ?_
        refine lv_iload hx hb dS_copyWithRadius_53 (lv_at hl 2 rfl) ?_
        obtain ⟨u8, hu8, h⟩ := ob_some h
        obtain ⟨hiu8, eu8⟩ := ld_of hu8
        refine va_lald hx hb hK (keepN hPa hz0 hS) 2 0 rfl rfl hiu8 dS_copyWithRadius_55 ?_
        rw [eu8]
        obtain ⟨u9, hu9, h⟩ := ob_some h
        refine va_last hx hb hK hPb hD hS 2 0 rfl rfl (ck_of hu9) dS_copyWithRadius_56 (fun H locs hPb hD hS => ?_)
        obtain ⟨v10, hv10, h⟩ := ob_some h
        have hPb : va_P (dC, dI) cls3 (shW cL cI sz (sz + 1) (sz + 2) (sz + 3) (ss_ys v7 (vp_updL (sY v7) p4.toNatClampNeg u8))) H := hPb
        have hD : va_D (fun x => sz ≤ x) (shW cL cI sz (sz + 1) (sz + 2) (sz + 3) (ss_ys v7 (vp_updL (sY v7) p4.toNatClampNeg u8))) := hD
        rw [Option.some.inj hv10] at hPb hD
        refine lv_aload_n hx hb dS_copyWithRadius_57 rfl (lv_at hl 1 rfl) ?_
        refine va_get (D := (dC, dI)) (ci := 0) (v := .ref (sz + 3)) (C := R_S) (T := T_S) (N := 8) hx hb hw in_S hown hK hPb 0 rfl rfl 5 (by decide) (hw _ w_50) (fun _ h9 => h9) rfl dS_copyWithRadius_58 ?_
        refine lv_iload hx hb dS_copyWithRadius_61 (lv_at hl 2 rfl) ?_
        refine lv_aload_n hx hb dS_copyWithRadius_63 rfl (lv_at hl 0 rfl) ?_
        refine va_get (D := (dC, dI)) (ci := 0) (v := .ref ae) (C := R_S) (T := T_S) (N := 8) hx hb hw in_S hown hK (keepN hPa hz0 hS) 0 rfl rfl 5 (by decide) (hw _ w_50) (fun _ h9 => h9) rfl dS_copyWithRadius_64 ?_
        refine lv_iload hx hb dS_copyWithRadius_67 (lv_at hl 2 rfl) ?_
        obtain ⟨u11, hu11, h⟩ := ob_some h
        obtain ⟨hiu11, eu11⟩ := ld_of hu11
        refine va_iald hx hb hK (keepN hPa hz0 hS) 3 1 rfl rfl hiu11 dS_copyWithRadius_69 ?_
        rw [eu11]
        obtain ⟨u12, hu12, h⟩ := ob_some h
        refine va_iast hx hb hK hPb hD hS 3 1 rfl rfl (ck_of hu12) dS_copyWithRadius_70 (fun H locs hPb hD hS => ?_)
        obtain ⟨v13, hv13, h⟩ := ob_some h
        have hPb : va_P (dC, dI) cls3 (shW cL cI sz (sz + 1) (sz + 2) (sz + 3) (ss_ends v10 (upd (sE v10) p4.toNatClampNeg u11))) H := hPb
        have hD : va_D (fun x => sz ≤ x) (shW cL cI sz (sz + 1) (sz + 2) (sz + 3) (ss_ends v10 (upd (sE v10) p4.toNatClampNeg u11))) := hD
        rw [Option.some.inj hv13] at hPb hD
        refine lv_iinc (v := p4 + 1) (lv' := [(4, .int (p4 + 1)), (0, .ref a), (3, .ref sz)]) hx hb dS_copyWithRadius_71 hl (k := 2) rfl rfl (by decide) rfl (fun ls hl => ?_)
        refine lv_goto (tgt := 20) hx hb dS_copyWithRadius_74 (by decide) ?_
        exact ih20 v13 (p4 + 1) h H locs hPb hD hS ls (lv_sub hl [1, 2, 0] rfl)
  obtain ⟨H, hH⟩ : ∃ H : Heap, H = s.heap := ⟨_, rfl⟩
  obtain ⟨locs, hlocs⟩ : ∃ L : List Loc, L = [] := ⟨_, rfl⟩
  suffices hgo : W p l e (headSpec wsS_copyWithRadius ({ frames := 2, cells := 4, slots := 152, locals := 44 })).room s m ([.ref a, .long x1] : List Value).toArray below meth c H locs 0 0 (MQ below (al_Q (some (.ref sz)) (fun H => va_P (dC, dI) cls3 (shW cL cI sz (sz + 1) (sz + 2) (sz + 3) r) H) (fun x => sz ≤ x)) ([.ref a, .long x1] : List Value).toArray s 4 152 (fun x => sz ≤ x)) (F0 m 0 ls []) by rw [hH, hlocs] at hgo; exact hgo
  have hS : va_S (fun x => sz ≤ x) s.heap H locs := by rw [hH, hlocs]; exact va_S.rf
  have hz : H.size = sz := by rw [hH]; exact hz0
  clear hH hlocs
  unfold f_S_copyWithRadius at h
  refine al_new (D := (dC, dI)) (cl := cls3) (ws := []) (A := (fun x => sz ≤ x)) (ci := 0) (fs := [.int 0, .int 0, .long 0, .null, .null, .null, .int 0, .int 0]) (C := R_S) (T := T_S) (N := 8) (sz := sz) hx hb hw in_S t_S t_S_ok hown (hw _ w_310) (hw _ w_35) (hw _ w_7) hK P_nil D_nil hS hz (Nat.le_refl _) rfl (fun j hj => by rcases (show j = 0 ∨ j = 1 ∨ j = 2 ∨ j = 3 ∨ j = 4 ∨ j = 5 ∨ j = 6 ∨ j = 7 by omega) with rfl | rfl | rfl | rfl | rfl | rfl | rfl | rfl <;> rfl) (Nat.le_of_ble_eq_true rfl) (Nat.le_of_ble_eq_true rfl) dS_copyWithRadius_0 (fun H hPb hD hS hz _ => ?_)
  have hPb : va_P (dC, dI) cls3 [(sz, .inr (0, [.int 0, .int 0, .long 0, .null, .null, .null, .int 0, .int 0]))] H := hPb
  refine lv_dup hx hb dS_copyWithRadius_3 rfl ?_
  refine lv_aload_n hx hb dS_copyWithRadius_4 rfl (lv_at hl 0 rfl) ?_
  refine va_get (D := (dC, dI)) (ci := 0) (v := .int (sF v)) (C := R_S) (T := T_S) (N := 8) hx hb hw in_S hown hK (keepN hPa hz0 hS) 0 rfl rfl 0 (by decide) (hw _ w_40) (fun _ h9 => h9) rfl dS_copyWithRadius_5 ?_
  refine lv_aload_n hx hb dS_copyWithRadius_8 rfl (lv_at hl 0 rfl) ?_
  refine va_get (D := (dC, dI)) (ci := 0) (v := .int (sB v)) (C := R_S) (T := T_S) (N := 8) hx hb hw in_S hown hK (keepN hPa hz0 hS) 0 rfl rfl 1 (by decide) (hw _ w_42) (fun _ h9 => h9) rfl dS_copyWithRadius_9 ?_
  refine lv_lload_n hx hb dS_copyWithRadius_12 rfl (lv_at hl 1 rfl) ?_
  obtain ⟨u1, hu1, h⟩ := ob_some h
  refine al_call (va_runI (As := [.int (sF v), .int (sB v), .long x1]) (rest := [.ref sz]) ⟨hx, hb, hml, hown, hw⟩ (k_S_init l dC dI cL cI sz (sz + 1) (sF v) (sB v) x1 (bz_of hu1)) (cwI 3 hw (gC w_38) rfl rfl rfl (hw _ w_7) (hw _ w_311) (hw _ w_37) rfl (by decide +kernel) ⟨Nat.le_of_ble_eq_true rfl, Nat.le_of_ble_eq_true rfl⟩) ⟨rd_blind (F := (fun H => va_P (dC, dI) cls3 [(sz, .inr (0, [.int 0, .int 0, .long 0, .null, .null, .null, .int 0, .int 0]))] H ∧ H.size = sz + 1 ∧ sz < sz + 1)), rd_pre (F := (fun H => va_P (dC, dI) cls3 [(sz, .inr (0, [.int 0, .int 0, .long 0, .null, .null, .null, .int 0, .int 0]))] H ∧ H.size = sz + 1 ∧ sz < sz + 1)) ⟨hPb, hz, Nat.lt_succ_self _⟩ hK2⟩ rfl rfl hl.1 rfl (lv_room (Nat.le_of_ble_eq_true rfl)) dS_copyWithRadius_13 ⟨Nat.le_of_ble_eq_true rfl, Nat.le_of_ble_eq_true rfl⟩) hS (fun q z => by rcases z with z | z; exact Nat.le_of_eq z.symm; exact Nat.le_of_succ_le z) (fun H locs hG hS _ _ => ?_)
  have hPb : va_P (dC, dI) cls3 (shW cL cI sz (sz + 1) (sz + 2) (sz + 3) (sv0 (sF v) (sB v) x1)) H := hG.1
  have hD : va_D (fun x => sz ≤ x) (shW cL cI sz (sz + 1) (sz + 2) (sz + 3) (sv0 (sF v) (sB v) x1)) := sh_Dof
  refine W.widen (k := 4) (n := 152) (Nat.le_of_ble_eq_true rfl) (Nat.le_of_ble_eq_true rfl) ?_
  refine lv_astore_n (lv' := [(3, .ref sz), (0, .ref a), (1, .long x1)]) hx hb dS_copyWithRadius_16 rfl hl (by decide) rfl (fun ls hl => ?_)
  refine lv_iconst (v := 0) hx hb dS_copyWithRadius_17 (by decide) ?_
  refine lv_istore (lv' := [(4, .int (0 : Int32)), (3, .ref sz), (0, .ref a), (1, .long x1)]) hx hb dS_copyWithRadius_18 hl (by decide) rfl (fun ls hl => ?_)
  exact k20 64 (sv0 (sF v) (sB v) x1) (0 : Int32) h H locs hPb hD hS ls (lv_sub hl [2, 1, 0] rfl)
theorem dF_roundedBox_0 : decode cF_roundedBox 0 = .ok (.lload_n 0, 1) := by decide +kernel
theorem dF_roundedBox_1 : decode cF_roundedBox 1 = .ok (.lload 4, 2) := by decide +kernel
theorem dF_roundedBox_3 : decode cF_roundedBox 3 = .ok (.lcmp, 1) := by decide +kernel
theorem dF_roundedBox_4 : decode cF_roundedBox 4 = .ok (.ifCond .ge 14, 3) := by decide +kernel
theorem dF_roundedBox_7 : decode cF_roundedBox 7 = .ok (.lload_n 2, 1) := by decide +kernel
theorem dF_roundedBox_8 : decode cF_roundedBox 8 = .ok (.lload 6, 2) := by decide +kernel
theorem dF_roundedBox_10 : decode cF_roundedBox 10 = .ok (.lcmp, 1) := by decide +kernel
theorem dF_roundedBox_11 : decode cF_roundedBox 11 = .ok (.ifCond .ge 7, 3) := by decide +kernel
theorem dF_roundedBox_14 : decode cF_roundedBox 14 = .ok (.iconst 1, 1) := by decide +kernel
theorem dF_roundedBox_15 : decode cF_roundedBox 15 = .ok (.goto 4, 3) := by decide +kernel
theorem dF_roundedBox_18 : decode cF_roundedBox 18 = .ok (.iconst 0, 1) := by decide +kernel
theorem dF_roundedBox_19 : decode cF_roundedBox 19 = .ok (.istore 10, 2) := by decide +kernel
theorem dF_roundedBox_21 : decode cF_roundedBox 21 = .ok (.new 9, 3) := by decide +kernel
theorem dF_roundedBox_24 : decode cF_roundedBox 24 = .ok (.dup, 1) := by decide +kernel
theorem dF_roundedBox_25 : decode cF_roundedBox 25 = .ok (.iconst 1, 1) := by decide +kernel
theorem dF_roundedBox_26 : decode cF_roundedBox 26 = .ok (.iload 10, 2) := by decide +kernel
theorem dF_roundedBox_28 : decode cF_roundedBox 28 = .ok (.lload 8, 2) := by decide +kernel
theorem dF_roundedBox_30 : decode cF_roundedBox 30 = .ok (.invokespecial 27, 3) := by decide +kernel
theorem dF_roundedBox_33 : decode cF_roundedBox 33 = .ok (.astore 11, 2) := by decide +kernel
theorem dF_roundedBox_35 : decode cF_roundedBox 35 = .ok (.aload 11, 2) := by decide +kernel
theorem dF_roundedBox_37 : decode cF_roundedBox 37 = .ok (.lload_n 0, 1) := by decide +kernel
theorem dF_roundedBox_38 : decode cF_roundedBox 38 = .ok (.lload_n 2, 1) := by decide +kernel
theorem dF_roundedBox_39 : decode cF_roundedBox 39 = .ok (.invokevirtual 30, 3) := by decide +kernel
theorem dF_roundedBox_42 : decode cF_roundedBox 42 = .ok (.pop, 1) := by decide +kernel
theorem dF_roundedBox_43 : decode cF_roundedBox 43 = .ok (.iload 10, 2) := by decide +kernel
theorem dF_roundedBox_45 : decode cF_roundedBox 45 = .ok (.ifCond .eq 12, 3) := by decide +kernel
theorem dF_roundedBox_48 : decode cF_roundedBox 48 = .ok (.aload 11, 2) := by decide +kernel
theorem dF_roundedBox_50 : decode cF_roundedBox 50 = .ok (.lload 4, 2) := by decide +kernel
theorem dF_roundedBox_52 : decode cF_roundedBox 52 = .ok (.lload_n 2, 1) := by decide +kernel
theorem dF_roundedBox_53 : decode cF_roundedBox 53 = .ok (.invokevirtual 30, 3) := by decide +kernel
theorem dF_roundedBox_56 : decode cF_roundedBox 56 = .ok (.pop, 1) := by decide +kernel
theorem dF_roundedBox_57 : decode cF_roundedBox 57 = .ok (.aload 11, 2) := by decide +kernel
theorem dF_roundedBox_59 : decode cF_roundedBox 59 = .ok (.lload 4, 2) := by decide +kernel
theorem dF_roundedBox_61 : decode cF_roundedBox 61 = .ok (.lload 6, 2) := by decide +kernel
theorem dF_roundedBox_63 : decode cF_roundedBox 63 = .ok (.invokevirtual 30, 3) := by decide +kernel
theorem dF_roundedBox_66 : decode cF_roundedBox 66 = .ok (.pop, 1) := by decide +kernel
theorem dF_roundedBox_67 : decode cF_roundedBox 67 = .ok (.iload 10, 2) := by decide +kernel
theorem dF_roundedBox_69 : decode cF_roundedBox 69 = .ok (.ifCond .eq 12, 3) := by decide +kernel
theorem dF_roundedBox_72 : decode cF_roundedBox 72 = .ok (.aload 11, 2) := by decide +kernel
theorem dF_roundedBox_74 : decode cF_roundedBox 74 = .ok (.lload_n 0, 1) := by decide +kernel
theorem dF_roundedBox_75 : decode cF_roundedBox 75 = .ok (.lload 6, 2) := by decide +kernel
theorem dF_roundedBox_77 : decode cF_roundedBox 77 = .ok (.invokevirtual 30, 3) := by decide +kernel
theorem dF_roundedBox_80 : decode cF_roundedBox 80 = .ok (.pop, 1) := by decide +kernel
theorem dF_roundedBox_81 : decode cF_roundedBox 81 = .ok (.aload 11, 2) := by decide +kernel
theorem dF_roundedBox_83 : decode cF_roundedBox 83 = .ok (.areturn, 1) := by decide +kernel
def f_F_roundedBox_j81 (vv : SV) : Option SV := some vv
def f_F_roundedBox_j57 (vv : SV) (p0 : Int64) (p4 : Int64) (p6 : Int64) (p10 : Int32) : Option SV := (f_S_addCorner vv p4 p6).bind fun u7 => (if p10 = 0 then (f_F_roundedBox_j81 u7.2) else (f_S_addCorner u7.2 p0 p6).bind fun u9 => (f_F_roundedBox_j81 u9.2))
def f_F_roundedBox_j19 (p0 : Int64) (p2 : Int64) (p4 : Int64) (p6 : Int64) (p8 : Int64) (s0 : Int32) : Option SV := (bz s0).bind fun u3 => (f_S_addCorner (sv0 (1 : Int32) s0 p8) p0 p2).bind fun u4 => (if s0 = 0 then (f_F_roundedBox_j57 u4.2 p0 p4 p6 s0) else (f_S_addCorner u4.2 p4 p2).bind fun u6 => (f_F_roundedBox_j57 u6.2 p0 p4 p6 s0))
def f_F_roundedBox_j18 (p0 : Int64) (p2 : Int64) (p4 : Int64) (p6 : Int64) (p8 : Int64) : Option SV := (f_F_roundedBox_j19 p0 p2 p4 p6 p8 (0 : Int32))
def f_F_roundedBox (x0 : Int64) (x2 : Int64) (x4 : Int64) (x6 : Int64) (x8 : Int64) : Option SV := (if 0 ≤ (lg_cmp x0 x4) then (f_F_roundedBox_j18 x0 x2 x4 x6 x8) else (if 0 ≤ (lg_cmp x2 x6) then (f_F_roundedBox_j18 x0 x2 x4 x6 x8) else (f_F_roundedBox_j19 x0 x2 x4 x6 x8 (1 : Int32))))
set_option maxHeartbeats 1000000 in
set_option maxRecDepth 100000 in
theorem k_F_roundedBox (l : Launch) (dC : Nat → ClassId) (dI : Nat → Nat → Nat) (cL cI : ClassId) (sz : Nat) (x0 : Int64) (x2 : Int64) (x4 : Int64) (x6 : Int64) (x8 : Int64) (r : SV) (h : f_F_roundedBox x0 x2 x4 x6 x8 = some r) : Met l yF_roundedBox wsF_roundedBox ({ frames := 2, cells := 4, slots := 152, locals := 44 }) (rd_Pc [.long x0, .long x2, .long x4, .long x6, .long x8] (fun H => H.size = sz) (dC, dI) cls3 [(cL, .long), (cI, .int)]) (al_Q (some (.ref sz)) (fun H => va_P (dC, dI) cls3 (shW cL cI sz (sz + 1) (sz + 2) (sz + 3) r) H) (fun x => sz ≤ x)) 4 152 (fun x => sz ≤ x) := by
  refine Met.ofW (cc := cF_roundedBox) (maxL := 12) (ret := (some (.object "ShapeForms$Shape"))) (by decide) rfl ?_
  intro p e s m args below meth c s₁ B hml hv
  obtain ⟨rfl, hz0, hK⟩ := hv
  have hx := B.exec
  have hb := B.bytes
  have hr := B.returns
  have hw : ∀ w ∈ wG, w.before ([.long x0, .long x2, .long x4, .long x6, .long x8] : List Value).toArray s = true := fun w hq => atoms_spec (ws := wsF_roundedBox) B.pre w (List.mem_cons_of_mem _ hq)
  have hown : s.vm.findClass R_F = some m.cls := findClass_of_methodNamed B.named
  have hlocks := B.notSynchronized
  have hK2 := hK.sub (tys' := [(cL, .long), (cI, .int)]) [0, 1] rfl
  have hl := lv_entry ([.long x0, .long x2, .long x4, .long x6, .long x8] : List Value) (n := 12) (Nat.le_of_ble_eq_true rfl)
  rw [lg_entry_eq]
  generalize (lg_sl ([.long x0, .long x2, .long x4, .long x6, .long x8] : List Value) ++ List.replicate (12 - (lg_sl ([.long x0, .long x2, .long x4, .long x6, .long x8] : List Value)).length) Slot.unset).toArray = ls at hl ⊢
  have hl : lv_has ls 12 [(0, .long x0), (2, .long x2), (4, .long x4), (6, .long x6), (8, .long x8)] := hl
  have k81 : ∀ (vv : SV), f_F_roundedBox_j81 vv = some r → ∀ (H : Heap) (locs : List Loc), va_P (dC, dI) cls3 (shW cL cI sz (sz + 1) (sz + 2) (sz + 3) vv) H → va_D (fun x => sz ≤ x) (shW cL cI sz (sz + 1) (sz + 2) (sz + 3) vv) → va_S (fun x => sz ≤ x) s.heap H locs → ∀ (ls : Array Slot), lv_has ls 12 [(11, .ref sz)] → W p l e (headSpec wsF_roundedBox ({ frames := 2, cells := 4, slots := 152, locals := 44 })).room s m ([.long x0, .long x2, .long x4, .long x6, .long x8] : List Value).toArray below meth c H locs 4 152 (MQ below (al_Q (some (.ref sz)) (fun H => va_P (dC, dI) cls3 (shW cL cI sz (sz + 1) (sz + 2) (sz + 3) r) H) (fun x => sz ≤ x)) ([.long x0, .long x2, .long x4, .long x6, .long x8] : List Value).toArray s 4 152 (fun x => sz ≤ x)) (F0 m 81 ls []) := by
    intro vv h H locs hPb hD hS ls hl
    unfold f_F_roundedBox_j81 at h
    refine lv_aload hx hb dF_roundedBox_81 (lv_at hl 0 rfl) ?_
    have h := Option.some.inj h
    subst h
    exact W.aret hx hb hr (Or.inl ⟨_, rfl⟩) (Or.inr ⟨_, rfl⟩) (fun t ht hW => ⟨rfl, by rw [ht]; exact hPb, hS.F ht⟩) hS.2.2 dF_roundedBox_83
  have k57 : ∀ (vv : SV) (p0 : Int64) (p4 : Int64) (p6 : Int64) (p10 : Int32), f_F_roundedBox_j57 vv p0 p4 p6 p10 = some r → ∀ (H : Heap) (locs : List Loc), va_P (dC, dI) cls3 (shW cL cI sz (sz + 1) (sz + 2) (sz + 3) vv) H → va_D (fun x => sz ≤ x) (shW cL cI sz (sz + 1) (sz + 2) (sz + 3) vv) → va_S (fun x => sz ≤ x) s.heap H locs → ∀ (ls : Array Slot), lv_has ls 12 [(0, .long p0), (4, .long p4), (6, .long p6), (10, .int p10), (11, .ref sz)] → W p l e (headSpec wsF_roundedBox ({ frames := 2, cells := 4, slots := 152, locals := 44 })).room s m ([.long x0, .long x2, .long x4, .long x6, .long x8] : List Value).toArray below meth c H locs 4 152 (MQ below (al_Q (some (.ref sz)) (fun H => va_P (dC, dI) cls3 (shW cL cI sz (sz + 1) (sz + 2) (sz + 3) r) H) (fun x => sz ≤ x)) ([.long x0, .long x2, .long x4, .long x6, .long x8] : List Value).toArray s 4 152 (fun x => sz ≤ x)) (F0 m 57 ls []) := by
    intro vv p0 p4 p6 p10 h H locs hPb hD hS ls hl
    unfold f_F_roundedBox_j57 at h
    refine lv_aload hx hb dF_roundedBox_57 (lv_at hl 4 rfl) ?_
    refine lv_lload hx hb dF_roundedBox_59 (lv_at hl 1 rfl) ?_
    refine lv_lload hx hb dF_roundedBox_61 (lv_at hl 2 rfl) ?_
    obtain ⟨u7, hu7, h⟩ := ob_some h
    refine mu_call (va_runV (As := [.long p4, .long p6]) (rest := []) ⟨hx, hb, hml, hown, hw⟩ (k_S_addCorner l dC dI cL cI sz (sz + 1) (sz + 2) (sz + 3) vv p4 p6 u7 hu7) (cwV 2 hw (gV w_170 w_171 w_172 w_7 w_173) rfl rfl rfl (by decide +kernel) ⟨Nat.le_of_ble_eq_true rfl, Nat.le_of_ble_eq_true rfl⟩) ⟨rd_blind, va_recv hK hPb (ci := 0) (q0 := 0) rfl rfl, rd_pre ⟨hPb, sh_D4⟩ hK2⟩ rfl rfl hl.1 rfl (lv_room (Nat.le_of_ble_eq_true rfl)) dF_roundedBox_63 ⟨Nat.le_of_ble_eq_true rfl, Nat.le_of_ble_eq_true rfl⟩) hS (fun q z => by have z : q = sz ∨ q = sz + 1 ∨ q = sz + 2 ∨ q = sz + 3 := z; show sz ≤ q; omega) (fun H locs hPb hS _ _ => ?_)
    have hD := sh_D (u7.2) hD
    refine lv_pop hx hb dF_roundedBox_66 rfl ?_
    refine lv_iload hx hb dF_roundedBox_67 (lv_at hl 3 rfl) ?_
    refine lv_if_eq (tgt := 81) hx hb dF_roundedBox_69 (by decide) (fun c8 => ?_) (fun c8 => ?_)
    · have h := it_t c8 h
      exact k81 u7.2 h H locs hPb hD hS ls (lv_sub hl [4] rfl)
    · have h := it_f c8 h
      refine lv_aload hx hb dF_roundedBox_72 (lv_at hl 4 rfl) ?_
      refine lv_lload_n hx hb dF_roundedBox_74 rfl (lv_at hl 0 rfl) ?_
      refine lv_lload hx hb dF_roundedBox_75 (lv_at hl 2 rfl) ?_
      obtain ⟨u9, hu9, h⟩ := ob_some h
      refine mu_call (va_runV (As := [.long p0, .long p6]) (rest := []) ⟨hx, hb, hml, hown, hw⟩ (k_S_addCorner l dC dI cL cI sz (sz + 1) (sz + 2) (sz + 3) u7.2 p0 p6 u9 hu9) (cwV 2 hw (gV w_170 w_171 w_172 w_7 w_173) rfl rfl rfl (by decide +kernel) ⟨Nat.le_of_ble_eq_true rfl, Nat.le_of_ble_eq_true rfl⟩) ⟨rd_blind, va_recv hK hPb (ci := 0) (q0 := 0) rfl rfl, rd_pre ⟨hPb, sh_D4⟩ hK2⟩ rfl rfl hl.1 rfl (lv_room (Nat.le_of_ble_eq_true rfl)) dF_roundedBox_77 ⟨Nat.le_of_ble_eq_true rfl, Nat.le_of_ble_eq_true rfl⟩) hS (fun q z => by have z : q = sz ∨ q = sz + 1 ∨ q = sz + 2 ∨ q = sz + 3 := z; show sz ≤ q; omega) (fun H locs hPb hS _ _ => ?_)
      have hD := sh_D (u9.2) hD
      refine lv_pop hx hb dF_roundedBox_80 rfl ?_
      exact k81 u9.2 h H locs hPb hD hS ls (lv_sub hl [4] rfl)
  have k19 : ∀ (p0 : Int64) (p2 : Int64) (p4 : Int64) (p6 : Int64) (p8 : Int64) (s0 : Int32), f_F_roundedBox_j19 p0 p2 p4 p6 p8 s0 = some r → ∀ (H : Heap) (locs : List Loc), H.size = sz → va_S (fun x => sz ≤ x) s.heap H locs → ∀ (ls : Array Slot), lv_has ls 12 [(0, .long p0), (2, .long p2), (4, .long p4), (6, .long p6), (8, .long p8)] → W p l e (headSpec wsF_roundedBox ({ frames := 2, cells := 4, slots := 152, locals := 44 })).room s m ([.long x0, .long x2, .long x4, .long x6, .long x8] : List Value).toArray below meth c H locs 0 0 (MQ below (al_Q (some (.ref sz)) (fun H => va_P (dC, dI) cls3 (shW cL cI sz (sz + 1) (sz + 2) (sz + 3) r) H) (fun x => sz ≤ x)) ([.long x0, .long x2, .long x4, .long x6, .long x8] : List Value).toArray s 4 152 (fun x => sz ≤ x)) (F0 m 19 ls [.int s0]) := by
    intro p0 p2 p4 p6 p8 s0 h H locs hz hS ls hl
    unfold f_F_roundedBox_j19 at h
    refine lv_istore (lv' := [(10, .int s0), (0, .long p0), (2, .long p2), (4, .long p4), (6, .long p6), (8, .long p8)]) hx hb dF_roundedBox_19 hl (by decide) rfl (fun ls hl => ?_)
    refine al_new (D := (dC, dI)) (cl := cls3) (ws := []) (A := (fun x => sz ≤ x)) (ci := 0) (fs := [.int 0, .int 0, .long 0, .null, .null, .null, .int 0, .int 0]) (C := R_S) (T := T_S) (N := 8) (sz := sz) hx hb hw in_S t_S t_S_ok hown (hw _ w_22) (hw _ w_35) (hw _ w_7) hK P_nil D_nil hS hz (Nat.le_refl _) rfl (fun j hj => by rcases (show j = 0 ∨ j = 1 ∨ j = 2 ∨ j = 3 ∨ j = 4 ∨ j = 5 ∨ j = 6 ∨ j = 7 by omega) with rfl | rfl | rfl | rfl | rfl | rfl | rfl | rfl <;> rfl) (Nat.le_of_ble_eq_true rfl) (Nat.le_of_ble_eq_true rfl) dF_roundedBox_21 (fun H hPb hD hS hz _ => ?_)
    have hPb : va_P (dC, dI) cls3 [(sz, .inr (0, [.int 0, .int 0, .long 0, .null, .null, .null, .int 0, .int 0]))] H := hPb
    refine lv_dup hx hb dF_roundedBox_24 rfl ?_
    refine lv_iconst (v := 1) hx hb dF_roundedBox_25 (by decide) ?_
    refine lv_iload hx hb dF_roundedBox_26 (lv_at hl 0 rfl) ?_
    refine lv_lload hx hb dF_roundedBox_28 (lv_at hl 5 rfl) ?_
    obtain ⟨u3, hu3, h⟩ := ob_some h
    refine al_call (va_runI (As := [.int (1 : Int32), .int s0, .long p8]) (rest := [.ref sz]) ⟨hx, hb, hml, hown, hw⟩ (k_S_init l dC dI cL cI sz (sz + 1) (1 : Int32) s0 p8 (bz_of hu3)) (cwI 3 hw (gC w_38) rfl rfl rfl (hw _ w_7) (hw _ w_36) (hw _ w_37) rfl (by decide +kernel) ⟨Nat.le_of_ble_eq_true rfl, Nat.le_of_ble_eq_true rfl⟩) ⟨rd_blind (F := (fun H => va_P (dC, dI) cls3 [(sz, .inr (0, [.int 0, .int 0, .long 0, .null, .null, .null, .int 0, .int 0]))] H ∧ H.size = sz + 1 ∧ sz < sz + 1)), rd_pre (F := (fun H => va_P (dC, dI) cls3 [(sz, .inr (0, [.int 0, .int 0, .long 0, .null, .null, .null, .int 0, .int 0]))] H ∧ H.size = sz + 1 ∧ sz < sz + 1)) ⟨hPb, hz, Nat.lt_succ_self _⟩ hK2⟩ rfl rfl hl.1 rfl (lv_room (Nat.le_of_ble_eq_true rfl)) dF_roundedBox_30 ⟨Nat.le_of_ble_eq_true rfl, Nat.le_of_ble_eq_true rfl⟩) hS (fun q z => by rcases z with z | z; exact Nat.le_of_eq z.symm; exact Nat.le_of_succ_le z) (fun H locs hG hS _ _ => ?_)
    have hPb : va_P (dC, dI) cls3 (shW cL cI sz (sz + 1) (sz + 2) (sz + 3) (sv0 (1 : Int32) s0 p8)) H := hG.1
    have hD : va_D (fun x => sz ≤ x) (shW cL cI sz (sz + 1) (sz + 2) (sz + 3) (sv0 (1 : Int32) s0 p8)) := sh_Dof
    refine W.widen (k := 4) (n := 152) (Nat.le_of_ble_eq_true rfl) (Nat.le_of_ble_eq_true rfl) ?_
    refine lv_astore (lv' := [(11, .ref sz), (10, .int s0), (0, .long p0), (2, .long p2), (4, .long p4), (6, .long p6), (8, .long p8)]) hx hb dF_roundedBox_33 hl (by decide) rfl (fun ls hl => ?_)
    refine lv_aload hx hb dF_roundedBox_35 (lv_at hl 0 rfl) ?_
    refine lv_lload_n hx hb dF_roundedBox_37 rfl (lv_at hl 2 rfl) ?_
    refine lv_lload_n hx hb dF_roundedBox_38 rfl (lv_at hl 3 rfl) ?_
    obtain ⟨u4, hu4, h⟩ := ob_some h
    refine mu_call (va_runV (As := [.long p0, .long p2]) (rest := []) ⟨hx, hb, hml, hown, hw⟩ (k_S_addCorner l dC dI cL cI sz (sz + 1) (sz + 2) (sz + 3) (sv0 (1 : Int32) s0 p8) p0 p2 u4 hu4) (cwV 2 hw (gV w_170 w_171 w_172 w_7 w_173) rfl rfl rfl (by decide +kernel) ⟨Nat.le_of_ble_eq_true rfl, Nat.le_of_ble_eq_true rfl⟩) ⟨rd_blind, va_recv hK hPb (ci := 0) (q0 := 0) rfl rfl, rd_pre ⟨hPb, sh_D4⟩ hK2⟩ rfl rfl hl.1 rfl (lv_room (Nat.le_of_ble_eq_true rfl)) dF_roundedBox_39 ⟨Nat.le_of_ble_eq_true rfl, Nat.le_of_ble_eq_true rfl⟩) hS (fun q z => by have z : q = sz ∨ q = sz + 1 ∨ q = sz + 2 ∨ q = sz + 3 := z; show sz ≤ q; omega) (fun H locs hPb hS _ _ => ?_)
    have hD := sh_D (u4.2) hD
    refine lv_pop hx hb dF_roundedBox_42 rfl ?_
    refine lv_iload hx hb dF_roundedBox_43 (lv_at hl 1 rfl) ?_
    refine lv_if_eq (tgt := 57) hx hb dF_roundedBox_45 (by decide) (fun c5 => ?_) (fun c5 => ?_)
    · have h := it_t c5 h
      exact k57 u4.2 p0 p4 p6 s0 h H locs hPb hD hS ls (lv_sub hl [2, 4, 5, 1, 0] rfl)
    · have h := it_f c5 h
      refine lv_aload hx hb dF_roundedBox_48 (lv_at hl 0 rfl) ?_
      refine lv_lload hx hb dF_roundedBox_50 (lv_at hl 4 rfl) ?_
      refine lv_lload_n hx hb dF_roundedBox_52 rfl (lv_at hl 3 rfl) ?_
      obtain ⟨u6, hu6, h⟩ := ob_some h
      refine mu_call (va_runV (As := [.long p4, .long p2]) (rest := []) ⟨hx, hb, hml, hown, hw⟩ (k_S_addCorner l dC dI cL cI sz (sz + 1) (sz + 2) (sz + 3) u4.2 p4 p2 u6 hu6) (cwV 2 hw (gV w_170 w_171 w_172 w_7 w_173) rfl rfl rfl (by decide +kernel) ⟨Nat.le_of_ble_eq_true rfl, Nat.le_of_ble_eq_true rfl⟩) ⟨rd_blind, va_recv hK hPb (ci := 0) (q0 := 0) rfl rfl, rd_pre ⟨hPb, sh_D4⟩ hK2⟩ rfl rfl hl.1 rfl (lv_room (Nat.le_of_ble_eq_true rfl)) dF_roundedBox_53 ⟨Nat.le_of_ble_eq_true rfl, Nat.le_of_ble_eq_true rfl⟩) hS (fun q z => by have z : q = sz ∨ q = sz + 1 ∨ q = sz + 2 ∨ q = sz + 3 := z; show sz ≤ q; omega) (fun H locs hPb hS _ _ => ?_)
      have hD := sh_D (u6.2) hD
      refine lv_pop hx hb dF_roundedBox_56 rfl ?_
      exact k57 u6.2 p0 p4 p6 s0 h H locs hPb hD hS ls (lv_sub hl [2, 4, 5, 1, 0] rfl)
  have k18 : ∀ (p0 : Int64) (p2 : Int64) (p4 : Int64) (p6 : Int64) (p8 : Int64), f_F_roundedBox_j18 p0 p2 p4 p6 p8 = some r → ∀ (H : Heap) (locs : List Loc), H.size = sz → va_S (fun x => sz ≤ x) s.heap H locs → ∀ (ls : Array Slot), lv_has ls 12 [(0, .long p0), (2, .long p2), (4, .long p4), (6, .long p6), (8, .long p8)] → W p l e (headSpec wsF_roundedBox ({ frames := 2, cells := 4, slots := 152, locals := 44 })).room s m ([.long x0, .long x2, .long x4, .long x6, .long x8] : List Value).toArray below meth c H locs 0 0 (MQ below (al_Q (some (.ref sz)) (fun H => va_P (dC, dI) cls3 (shW cL cI sz (sz + 1) (sz + 2) (sz + 3) r) H) (fun x => sz ≤ x)) ([.long x0, .long x2, .long x4, .long x6, .long x8] : List Value).toArray s 4 152 (fun x => sz ≤ x)) (F0 m 18 ls []) := by
    intro p0 p2 p4 p6 p8 h H locs hz hS ls hl
    unfold f_F_roundedBox_j18 at h
    refine lv_iconst (v := 0) hx hb dF_roundedBox_18 (by decide) ?_
    exact k19 p0 p2 p4 p6 p8 (0 : Int32) h H locs hz hS ls (lv_sub hl [0, 1, 2, 3, 4] rfl)
  obtain ⟨H, hH⟩ : ∃ H : Heap, H = s.heap := ⟨_, rfl⟩
  obtain ⟨locs, hlocs⟩ : ∃ L : List Loc, L = [] := ⟨_, rfl⟩
  suffices hgo : W p l e (headSpec wsF_roundedBox ({ frames := 2, cells := 4, slots := 152, locals := 44 })).room s m ([.long x0, .long x2, .long x4, .long x6, .long x8] : List Value).toArray below meth c H locs 0 0 (MQ below (al_Q (some (.ref sz)) (fun H => va_P (dC, dI) cls3 (shW cL cI sz (sz + 1) (sz + 2) (sz + 3) r) H) (fun x => sz ≤ x)) ([.long x0, .long x2, .long x4, .long x6, .long x8] : List Value).toArray s 4 152 (fun x => sz ≤ x)) (F0 m 0 ls []) by rw [hH, hlocs] at hgo; exact hgo
  have hS : va_S (fun x => sz ≤ x) s.heap H locs := by rw [hH, hlocs]; exact va_S.rf
  have hz : H.size = sz := by rw [hH]; exact hz0
  clear hH hlocs
  unfold f_F_roundedBox at h
  refine lv_lload_n hx hb dF_roundedBox_0 rfl (lv_at hl 0 rfl) ?_
  refine lv_lload hx hb dF_roundedBox_1 (lv_at hl 2 rfl) ?_
  refine W.lcmp hx hb dF_roundedBox_3 ?_
  refine lv_if_ge (tgt := 18) hx hb dF_roundedBox_4 (by decide) (fun c1 => ?_) (fun c1 => ?_)
  · have h := it_t c1 h
    exact k18 x0 x2 x4 x6 x8 h H locs hz hS ls (lv_sub hl [0, 1, 2, 3, 4] rfl)
  · have h := it_f c1 h
    refine lv_lload_n hx hb dF_roundedBox_7 rfl (lv_at hl 1 rfl) ?_
    refine lv_lload hx hb dF_roundedBox_8 (lv_at hl 3 rfl) ?_
    refine W.lcmp hx hb dF_roundedBox_10 ?_
    refine lv_if_ge (tgt := 18) hx hb dF_roundedBox_11 (by decide) (fun c2 => ?_) (fun c2 => ?_)
    · have h := it_t c2 h
      exact k18 x0 x2 x4 x6 x8 h H locs hz hS ls (lv_sub hl [0, 1, 2, 3, 4] rfl)
    · have h := it_f c2 h
      refine lv_iconst (v := 1) hx hb dF_roundedBox_14 (by decide) ?_
      refine lv_goto (tgt := 19) hx hb dF_roundedBox_15 (by decide) ?_
      exact k19 x0 x2 x4 x6 x8 (1 : Int32) h H locs hz hS ls (lv_sub hl [0, 1, 2, 3, 4] rfl)
