/-! the class's object: how many shapes, and their values; its cells; find -/
abbrev CV : Type := Nat × (Nat → SV)
def sfW (cO : ClassId) (x0 xa : Nat) (ad : Nat → Nat → Nat) (v : CV) : va_W := [(x0, .inr (1, [.ref xa, .int (nI v.1)])), (xa, .inl (cO, 40, .inr (.inr (.inr (.inr (fun i => if i < v.1 then some (ad i 0) else none))))))]
def SFH (D : va_G) (cL cI cO : ClassId) (x0 xa : Nat) (ad : Nat → Nat → Nat) (v : CV) (H : Heap) : Prop := va_P D cls3 (sfW cO x0 xa ad v) H ∧ (∀ i, i < v.1 → va_P D cls3 (shW cL cI (ad i 0) (ad i 1) (ad i 2) (ad i 3) (v.2 i)) H) ∧ v.1 ≤ 40
abbrev ty3 (cL cI cO : ClassId) : List (ClassId × FieldType) := [(cL, .long), (cI, .int), (cO, .object R_S)]
/-- what a method that may throw takes -/
abbrev ev_Pc (N0 : Nat) (av : List Value) (F : Heap → Prop) (D : va_G) (cl : List vw_C) (tys : List (ClassId × FieldType)) : Array Value → State → Prop := va_Pc av (fun U => F U.heap ∧ va_K D cl tys U ∧ EV N0 U)
theorem ev_blind {N0 : Nat} {av : List Value} {F : Heap → Prop} {D : va_G} {cl : List vw_C} {tys : List (ClassId × FieldType)} : FrameBlind (ev_Pc N0 av F D cl tys) := fun a U g mk q => by
  obtain ⟨q0, qP, qK, qE⟩ := q
  exact ⟨q0, qP, va_K.moved (u := U) (U := U.calling g mk a) (Vm.Alike.refl U.vm) qK, qE.blind⟩
theorem ev_pre {N0 : Nat} {av : List Value} {F : Heap → Prop} {D : va_G} {cl : List vw_C} {tys : List (ClassId × FieldType)} {s : State} (hF : F s.heap) (hK : va_K D cl tys s) (hev : EV N0 s) : ∀ U : State, U.heap = s.heap → s.WarmedH U.vm → ev_Pc N0 av F D cl tys av.toArray U := fun U hU hW => ⟨rfl, by rw [hU]; exact hF, va_K.moved hW.alike hK, hev.go hW hU (fun _ _ _ => rfl)⟩
def f_F_find (v : CV) (x1 : Int32) : Option Nat := if x1 < 0 ∨ nI v.1 ≤ x1 then none else some x1.toNatClampNeg
def g_F_find (v : CV) (x1 : Int32) : Option String := if x1 < 0 ∨ nI v.1 ≤ x1 then some "java/lang/IndexOutOfBoundsException" else none
theorem find_lt {v : CV} {x1 : Int32} {i : Nat} (hn : v.1 ≤ 40) (h : f_F_find v x1 = some i) : i < v.1 ∧ ¬ x1 < 0 ∧ x1 < nI v.1 ∧ x1.toNatClampNeg = i := by
  unfold f_F_find at h
  by_cases c : x1 < 0 ∨ nI v.1 ≤ x1
  · rw [if_pos c] at h; cases h
  · rw [if_neg c] at h
    have h := Option.some.inj h
    have c1 : ¬ x1 < 0 := fun z => c (Or.inl z)
    have c2 : ¬ nI v.1 ≤ x1 := fun z => c (Or.inr z)
    obtain ⟨j, hj, e⟩ := nI_of c1
    have e2 : x1.toNatClampNeg = j := by rw [e]; exact nI_clamp hj
    rw [e, nI_leI (by omega) hj] at c2
    refine ⟨by omega, c1, ?_, h⟩
    rw [e, nI_ltI hj (by omega)]; omega
theorem dF_find_0 : decode cF_find 0 = .ok (.iload_n 1, 1) := by decide +kernel
theorem dF_find_1 : decode cF_find 1 = .ok (.ifCond .lt 11, 3) := by decide +kernel
theorem dF_find_4 : decode cF_find 4 = .ok (.iload_n 1, 1) := by decide +kernel
theorem dF_find_5 : decode cF_find 5 = .ok (.aload_n 0, 1) := by decide +kernel
theorem dF_find_6 : decode cF_find 6 = .ok (.getfield 15, 3) := by decide +kernel
theorem dF_find_9 : decode cF_find 9 = .ok (.if_icmp .lt 7, 3) := by decide +kernel
theorem dF_find_12 : decode cF_find 12 = .ok (.aconst_null, 1) := by decide +kernel
theorem dF_find_13 : decode cF_find 13 = .ok (.goto 9, 3) := by decide +kernel
theorem dF_find_16 : decode cF_find 16 = .ok (.aload_n 0, 1) := by decide +kernel
theorem dF_find_17 : decode cF_find 17 = .ok (.getfield 11, 3) := by decide +kernel
theorem dF_find_20 : decode cF_find 20 = .ok (.iload_n 1, 1) := by decide +kernel
theorem dF_find_21 : decode cF_find 21 = .ok (.aaload, 1) := by decide +kernel
theorem dF_find_22 : decode cF_find 22 = .ok (.astore_n 2, 1) := by decide +kernel
theorem dF_find_23 : decode cF_find 23 = .ok (.aload_n 2, 1) := by decide +kernel
theorem dF_find_24 : decode cF_find 24 = .ok (.ifnonnull 13, 3) := by decide +kernel
theorem dF_find_27 : decode cF_find 27 = .ok (.new 111, 3) := by decide +kernel
theorem dF_find_30 : decode cF_find 30 = .ok (.dup, 1) := by decide +kernel
theorem dF_find_31 : decode cF_find 31 = .ok (.ldc 155, 2) := by decide +kernel
theorem dF_find_33 : decode cF_find 33 = .ok (.invokespecial 115, 3) := by decide +kernel
theorem dF_find_36 : decode cF_find 36 = .ok (.athrow, 1) := by decide +kernel
theorem dF_find_37 : decode cF_find 37 = .ok (.aload_n 2, 1) := by decide +kernel
theorem dF_find_38 : decode cF_find 38 = .ok (.areturn, 1) := by decide +kernel
set_option maxHeartbeats 4000000 in
set_option maxRecDepth 100000 in
theorem k_F_find (l : Launch) (dC : Nat → ClassId) (dI : Nat → Nat → Nat) (cL cI cO : ClassId) (x0 xa : Nat) (ad : Nat → Nat → Nat) (v : CV) (x1 : Int32) (i : Nat) (h : f_F_find v x1 = some i) : Met l yF_find wsF_find ({ frames := 0, cells := 0, slots := 0, locals := 0 }) (rd_Pc [.ref x0, .int x1] (fun H => SFH (dC, dI) cL cI cO x0 xa ad v H) (dC, dI) cls3 (ty3 cL cI cO)) (va_Sr (fun k => k = ad i 0) (fun k => .ref k)) 0 0 (fun _ => False) := by
  refine Met.ofW (cc := cF_find) (maxL := 3) (ret := (some (.object "ShapeForms$Shape"))) (by decide) rfl ?_
  intro p e s m args below meth c s₁ B hml hv
  obtain ⟨rfl, hP, hK⟩ := hv
  obtain ⟨hlt, c1, c2, hi⟩ := find_lt hP.2.2 h
  have hn := hP.2.2
  replace hP := hP.1
  have hx := B.exec
  have hb := B.bytes
  have hr := B.returns
  have hw : ∀ w ∈ wG, w.before ([.ref x0, .int x1] : List Value).toArray s = true := fun w hq => atoms_spec (ws := wsF_find) B.pre w (List.mem_cons_of_mem _ hq)
  have hown : s.vm.findClass R_F = some m.cls := findClass_of_methodNamed B.named
  have hlocks := B.notSynchronized
  have hl := lv_entry ([.ref x0, .int x1] : List Value) (n := 3) (Nat.le_of_ble_eq_true rfl)
  rw [lg_entry_eq]
  generalize (lg_sl ([.ref x0, .int x1] : List Value) ++ List.replicate (3 - (lg_sl ([.ref x0, .int x1] : List Value)).length) Slot.unset).toArray = ls at hl ⊢
  have hl : lv_has ls 3 [(0, .ref x0), (1, .int x1)] := hl
  refine lv_iload_n hx hb dF_find_0 rfl (lv_at hl 1 rfl) ?_
  refine lv_if_lt (tgt := 12) hx hb dF_find_1 (by decide) (fun z => absurd z c1) (fun _ => ?_)
  refine lv_iload_n hx hb dF_find_4 rfl (lv_at hl 1 rfl) ?_
  refine lv_aload_n hx hb dF_find_5 rfl (lv_at hl 0 rfl) ?_
  refine va_get (D := (dC, dI)) (ci := 1) (v := .int (nI v.1)) (C := R_F) (T := T_F) (N := 2) hx hb hw in_F hown hK hP 0 rfl rfl 1 (by decide) (hw _ w_25) (fun _ h9 => h9) rfl dF_find_6 ?_
  refine lv_icmp_lt (tgt := 16) hx hb dF_find_9 (by decide) (fun _ => ?_) (fun z => absurd c2 z)
  refine lv_aload_n hx hb dF_find_16 rfl (lv_at hl 0 rfl) ?_
  refine va_get (D := (dC, dI)) (ci := 1) (v := .ref xa) (C := R_F) (T := T_F) (N := 2) hx hb hw in_F hown hK hP 0 rfl rfl 0 (by decide) (hw _ w_24) (fun _ h9 => h9) rfl dF_find_17 ?_
  refine lv_iload_n hx hb dF_find_20 rfl (lv_at hl 1 rfl) ?_
  refine va_aldq hx hb hK hP 1 2 rfl rfl (fun z => z.elim c1 (fun z => by rw [hi] at z; omega)) dF_find_21 ?_
  refine W.eq (g2 := F0 m 22 ls [.ref (ad i 0)]) (by show F0 m 22 ls [va_rf (if x1.toNatClampNeg < v.1 then some (ad x1.toNatClampNeg 0) else none)] = _; rw [hi, if_pos hlt]; rfl) ?_
  refine lv_astore_n (lv' := [(2, .ref (ad i 0)), (0, .ref x0), (1, .int x1)]) hx hb dF_find_22 rfl hl (by decide) rfl (fun ls hl => ?_)
  refine lv_aload_n hx hb dF_find_23 rfl (lv_at hl 0 rfl) ?_
  refine lv_ifnonnull (tgt := 37) hx hb dF_find_24 (by decide) ?_
  refine lv_aload_n hx hb dF_find_37 rfl (lv_at hl 0 rfl) ?_
  exact W.aret hx hb hr (Or.inl ⟨_, rfl⟩) (Or.inr ⟨_, rfl⟩) (fun t ht hW => ⟨_, rfl, rfl, ht⟩) nil_locs dF_find_38

set_option maxHeartbeats 4000000 in
set_option maxRecDepth 100000 in
theorem kt_F_find (l : Launch) (hl0 : l.stackTraces = false) (N0 : Nat) (dC : Nat → ClassId) (dI : Nat → Nat → Nat) (cL cI cO : ClassId) (x0 xa : Nat) (ad : Nat → Nat → Nat) (v : CV) (x1 : Int32) (E : String) (h : g_F_find v x1 = some E) : vx_Met l yF_find wsF_find ({ frames := 6, cells := 1, slots := 6, locals := 90 }) (ev_Pc N0 [.ref x0, .int x1] (fun H => SFH (dC, dI) cL cI cO x0 xa ad v H) (dC, dI) cls3 (ty3 cL cI cO)) NoQ (XE E) 1 6 (fun _ => False) := by
  refine vx_ofW (cc := cF_find) (maxL := 3) (ret := (some (.object "ShapeForms$Shape"))) (by decide) rfl ?_
  intro p e s m args below meth c s₁ B hml htab hv
  obtain ⟨rfl, hP, hK, hev⟩ := hv
  have hn := hP.2.2
  replace hP := hP.1
  have hE : E = "java/lang/IndexOutOfBoundsException" ∧ (x1 < 0 ∨ nI v.1 ≤ x1) := by
    unfold g_F_find at h
    by_cases c : x1 < 0 ∨ nI v.1 ≤ x1
    · rw [if_pos c] at h; exact ⟨(Option.some.inj h).symm, c⟩
    · rw [if_neg c] at h; cases h
  obtain ⟨rfl, hbad⟩ := hE
  have hx := B.exec
  have hb := B.bytes
  have hr := B.returns
  have hw : ∀ w ∈ wG, w.before ([.ref x0, .int x1] : List Value).toArray s = true := fun w hq => atoms_spec (ws := wsF_find) B.pre w (List.mem_cons_of_mem _ hq)
  have hown : s.vm.findClass R_F = some m.cls := findClass_of_methodNamed B.named
  have hlocks := B.notSynchronized
  have hl := lv_entry ([.ref x0, .int x1] : List Value) (n := 3) (Nat.le_of_ble_eq_true rfl)
  rw [lg_entry_eq]
  generalize (lg_sl ([.ref x0, .int x1] : List Value) ++ List.replicate (3 - (lg_sl ([.ref x0, .int x1] : List Value)).length) Slot.unset).toArray = ls at hl ⊢
  have hl : lv_has ls 3 [(0, .ref x0), (1, .int x1)] := hl
  have k22 : ∀ (ls : Array Slot), lv_has ls 3 [(0, .ref x0), (1, .int x1)] → W p l e (headSpec wsF_find ({ frames := 6, cells := 1, slots := 6, locals := 90 })).room s m ([.ref x0, .int x1] : List Value).toArray below meth c s.heap [] 0 0 (vx_MQ below NoQ (XE "java/lang/IndexOutOfBoundsException") ([.ref x0, .int x1] : List Value).toArray s 1 6 (fun _ => False)) (F0 m 12 ls []) := by
    intro ls hl
    refine lv_null hx hb dF_find_12 ?_
    refine lv_goto (tgt := 22) hx hb dF_find_13 (by decide) ?_
    refine lv_astore_nN (lv' := [(2, .null), (0, .ref x0), (1, .int x1)]) hx hb dF_find_22 rfl hl (by decide) rfl (fun ls hl => ?_)
    refine lv_aload_nN hx hb dF_find_23 rfl (lv_at hl 0 rfl) ?_
    refine lv_ifnonnullN hx hb dF_find_24 ?_
    exact thr_F (text := "no such shape") hx hb hl0 hown hev hw tIOB_fit w_208 w_8 (by decide +kernel) tIOB_good tIOB_bad tIOB_ot (hl.1.trans hml.symm) htab hlocks dF_find_27 dF_find_30 dF_find_31 dF_find_33 dF_find_36 (Nat.le_of_ble_eq_true rfl) (Nat.le_of_ble_eq_true rfl) (Nat.le_of_ble_eq_true rfl) (Nat.le_of_ble_eq_true rfl)
  refine lv_iload_n hx hb dF_find_0 rfl (lv_at hl 1 rfl) ?_
  refine lv_if_lt (tgt := 12) hx hb dF_find_1 (by decide) (fun z => ?_) (fun c1 => ?_)
  · exact k22 ls (lv_sub hl [0, 1] rfl)
  · refine lv_iload_n hx hb dF_find_4 rfl (lv_at hl 1 rfl) ?_
    refine lv_aload_n hx hb dF_find_5 rfl (lv_at hl 0 rfl) ?_
    refine va_get (D := (dC, dI)) (ci := 1) (v := .int (nI v.1)) (C := R_F) (T := T_F) (N := 2) hx hb hw in_F hown hK hP 0 rfl rfl 1 (by decide) (hw _ w_25) (fun _ h9 => h9) rfl dF_find_6 ?_
    refine lv_icmp_lt (tgt := 16) hx hb dF_find_9 (by decide) (fun z => ?_) (fun z => ?_)
    · refine absurd z ?_
      rcases hbad with q | q
      · exact absurd q c1
      · rw [Int32.lt_iff_toInt_lt]; rw [Int32.le_iff_toInt_le] at q; omega
    · exact k22 ls (lv_sub hl [0, 1] rfl)

