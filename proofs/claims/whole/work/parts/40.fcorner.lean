/-! ShapeForms: corner and ring, normal ways, laid by program -/
def f_F_corner (v : CV) (x1 : Int32) (x2 : Int64) (x4 : Int64) : Option (Int32 × CV) := (f_F_find v x1).bind fun u1 => (f_S_takesCorners (v.2 u1)).bind fun u2 => (if u2 = 0 then none else (f_F_needPlace x2 x4).bind fun u4 => (f_S_addCorner (v.2 u1) x2 x4).bind fun u5 => (rb u5.1).bind fun uz => some (uz, (v.1, va_up v.2 u1 u5.2)))
set_option maxHeartbeats 1000000 in
set_option maxRecDepth 100000 in
theorem k_F_corner (l : Launch) (dC : Nat → ClassId) (dI : Nat → Nat → Nat) (cL cI cO : ClassId) (N0 sz : Nat) (bs : Nat → Nat) (v : CV) (x1 : Int32) (x2 : Int64) (x4 : Int64) (r : (Int32 × CV)) (h : f_F_corner v x1 x2 x4 = some r) : Met l yF_corner wsF_corner ({ frames := 2, cells := 4, slots := 152, locals := 46 }) (rd_Pc [.ref N0, .int x1, .long x2, .long x4] (fun H => SFS (dC, dI) cL cI cO N0 bs v H ∧ H.size = sz) (dC, dI) cls3 (ty3 cL cI cO)) (al_Q (some (.int r.1)) (fun H => ∃ bs', SFS (dC, dI) cL cI cO N0 bs' r.2 H) (inC N0)) 4 152 (inC N0) := by
  refine Met.ofW (cc := cF_corner) (maxL := 7) (ret := (some .boolean)) (by decide) rfl ?_
  intro p e s m args below meth c s₁ B hml hv
  obtain ⟨rfl, ⟨hPx, hz0⟩, hK⟩ := hv
  have hx := B.exec
  have hb := B.bytes
  have hr := B.returns
  have hw : ∀ w ∈ wG, w.before ([.ref N0, .int x1, .long x2, .long x4] : List Value).toArray s = true := fun w hq => atoms_spec (ws := wsF_corner) B.pre w (List.mem_cons_of_mem _ hq)
  have hown : s.vm.findClass R_F = some m.cls := findClass_of_methodNamed B.named
  have hlocks := B.notSynchronized
  have hK2 := hK.sub (tys' := [(cL, .long), (cI, .int)]) [0, 1] rfl
  have hN0 : N0 + 17 ≤ sz := by rw [← hz0]; exact hPx.2.2.2
  have hfar : ∀ i, i < v.1 → bs i + 4 ≤ sz := by rw [← hz0]; exact sfs_far hPx
  have hl := lv_entry ([.ref N0, .int x1, .long x2, .long x4] : List Value) (n := 7) (Nat.le_of_ble_eq_true rfl)
  rw [lg_entry_eq]
  generalize (lg_sl ([.ref N0, .int x1, .long x2, .long x4] : List Value) ++ List.replicate (7 - (lg_sl ([.ref N0, .int x1, .long x2, .long x4] : List Value)).length) Slot.unset).toArray = ls at hl ⊢
  have hl : lv_has ls 7 [(0, .ref N0), (1, .int x1), (2, .long x2), (4, .long x4)] := hl
  obtain ⟨H, hH⟩ : ∃ H : Heap, H = s.heap := ⟨_, rfl⟩
  obtain ⟨locs, hlocs⟩ : ∃ L : List Loc, L = [] := ⟨_, rfl⟩
  suffices hgo : W p l e (headSpec wsF_corner ({ frames := 2, cells := 4, slots := 152, locals := 46 })).room s m ([.ref N0, .int x1, .long x2, .long x4] : List Value).toArray below meth c H locs 0 0 (MQ below (al_Q (some (.int r.1)) (fun H => ∃ bs', SFS (dC, dI) cL cI cO N0 bs' r.2 H) (inC N0)) ([.ref N0, .int x1, .long x2, .long x4] : List Value).toArray s 4 152 (inC N0)) (F0 m 0 ls []) by rw [hH, hlocs] at hgo; exact hgo
  have hS : va_S (fun x => sz ≤ x) s.heap H locs := by rw [hH, hlocs]; exact va_S.rf
  have hz : H.size = sz := by rw [hH]; exact hz0
  clear hH hlocs
  unfold f_F_corner at h
  refine lv_aload_n hx hb dF_corner_0 rfl (lv_at hl 0 rfl) ?_
  refine lv_iload_n hx hb dF_corner_1 rfl (lv_at hl 1 rfl) ?_
  obtain ⟨u1, hu1, h⟩ := ob_some h
  refine va_csr (va_Run.run (va_runV (As := [.int x1]) (rest := []) ⟨hx, hb, hml, hown, hw⟩ (k_F_find l dC dI cL cI cO N0 (N0 + 1) (adB bs) v x1 u1 hu1) (cwV 1 hw (gV w_204 w_206 wp_2 w_1 w_207) rfl rfl rfl (by decide +kernel) ⟨Nat.le_of_ble_eq_true rfl, Nat.le_of_ble_eq_true rfl⟩) ⟨rd_blind, va_recv hK (sfs_keep hPx hz0 hS).1.1 (ci := 1) (q0 := 0) rfl rfl, rd_pre (sfs_keep hPx hz0 hS).1 hK⟩ rfl rfl hl.1 rfl (lv_room (Nat.le_of_ble_eq_true rfl)) dF_corner_2 ⟨Nat.le_of_ble_eq_true rfl, Nat.le_of_ble_eq_true rfl⟩)) (fun z hz9 => ?_)
  rw [hz9]; clear hz9
  have hltu1 := (find_lt hPx.1.2.2 hu1).1
  refine lv_astore (lv' := [(6, .ref (bs u1 + 0)), (0, .ref N0), (1, .int x1), (2, .long x2), (4, .long x4)]) hx hb dF_corner_5 hl (by decide) rfl (fun ls hl => ?_)
  refine lv_aload hx hb dF_corner_7 (lv_at hl 0 rfl) ?_
  obtain ⟨u2, hu2, h⟩ := ob_some h
  refine vp_callSi (va_Run.run (va_runV (As := []) (rest := []) ⟨hx, hb, hml, hown, hw⟩ (k_S_takesCorners l dC dI cL cI (bs u1 + 0) (bs u1 + 1) (bs u1 + 2) (bs u1 + 3) (v.2 u1) u2 hu2) (cwV 0 hw (gV w_224 w_225 w_226 w_7 w_227) rfl rfl rfl (by decide +kernel) ⟨Nat.le_of_ble_eq_true rfl, Nat.le_of_ble_eq_true rfl⟩) ⟨rd_blind, va_recv hK (keepN (hPx.1.2.1 u1 hltu1) hz0 hS) (ci := 0) (q0 := 0) rfl rfl, rd_pre (keepN (hPx.1.2.1 u1 hltu1) hz0 hS) hK2⟩ rfl rfl hl.1 rfl (lv_room (Nat.le_of_ble_eq_true rfl)) dF_corner_9 ⟨Nat.le_of_ble_eq_true rfl, Nat.le_of_ble_eq_true rfl⟩)) (fun z hz9 => ?_)
  rw [hz9]; clear hz9
  refine lv_if_ne (tgt := 25) hx hb dF_corner_12 (by decide) (fun c3 => ?_) (fun c3 => ?_)
  · have h := it_f c3 h
    refine lv_lload_n hx hb dF_corner_25 rfl (lv_at hl 3 rfl) ?_
    refine lv_lload hx hb dF_corner_26 (lv_at hl 4 rfl) ?_
    obtain ⟨u4, hu4, h⟩ := ob_some h
    refine va_csv (va_Run.run (va_runS (As := [.long x2, .long x4]) (rest := []) ⟨hx, hb, hml, hown, hw⟩ (k_F_needPlace l dC dI cL cI x2 x4 u4 hu4) (va_cwS 2 hw (gS w_86 w_87 w_1 w_88) rfl rfl rfl (by decide +kernel) ⟨Nat.le_of_ble_eq_true rfl, Nat.le_of_ble_eq_true rfl⟩) ⟨rd_blind, rd_pre trivial hK2⟩ rfl rfl hl.1 rfl (lv_room (Nat.le_of_ble_eq_true rfl)) dF_corner_28 ⟨Nat.le_of_ble_eq_true rfl, Nat.le_of_ble_eq_true rfl⟩)) (fun _ => ?_)
    refine lv_aload hx hb dF_corner_31 (lv_at hl 0 rfl) ?_
    refine lv_lload_n hx hb dF_corner_33 rfl (lv_at hl 3 rfl) ?_
    refine lv_lload hx hb dF_corner_34 (lv_at hl 4 rfl) ?_
    obtain ⟨u5, hu5, h⟩ := ob_some h
    have hSF := sfs_keep hPx hz0 hS
    refine mu_call (va_runV (As := [.long x2, .long x4]) (rest := []) ⟨hx, hb, hml, hown, hw⟩ (k_S_addCorner l dC dI cL cI (bs u1 + 0) (bs u1 + 1) (bs u1 + 2) (bs u1 + 3) (v.2 u1) x2 x4 u5 hu5) (cwV 2 hw (gV w_170 w_171 w_172 w_7 w_173) rfl rfl rfl (by decide +kernel) ⟨Nat.le_of_ble_eq_true rfl, Nat.le_of_ble_eq_true rfl⟩) ⟨rd_blind, va_recv hK (hSF.1.2.1 u1 hltu1) (ci := 0) (q0 := 0) rfl rfl, rd_pre ⟨hSF.1.2.1 u1 hltu1, sh_D4⟩ hK2⟩ rfl rfl hl.1 rfl (lv_room (Nat.le_of_ble_eq_true rfl)) dF_corner_36 ⟨Nat.le_of_ble_eq_true rfl, Nat.le_of_ble_eq_true rfl⟩) (hS.mono (sfs_in hN0)) (in4_C (hPx.2.1 u1 hltu1)) (fun H locs hPu hS hle hk => ?_)
    have hG := sfs_upd hSF hltu1 hle hPu hk
    obtain ⟨uz, huz, h⟩ := ob_some h
    obtain ⟨hzz, hr9⟩ := rb_of huz
    have h := Option.some.inj h
    subst hr9
    subst h
    refine W.widen (k := 4) (n := 152) (Nat.le_of_ble_eq_true rfl) (Nat.le_of_ble_eq_true rfl) ?_
    exact W.zret hx hb hr hzz (fun t ht hW => ⟨rfl, ⟨_, by rw [ht]; exact hG⟩, hS.F ht⟩) hS.2.2 dF_corner_39
  · have h := it_t c3 h
    cases h
def f_F_ring (v : CV) (x1 : Int32) : Option (Int32 × CV) := (f_F_find v x1).bind fun u1 => (f_S_hasOpenRing (v.2 u1)).bind fun u2 => (if u2 = 0 then none else (f_S_closeRing (v.2 u1)).bind fun u4 => (rb u4.1).bind fun uz => some (uz, (v.1, va_up v.2 u1 u4.2)))
set_option maxHeartbeats 1000000 in
set_option maxRecDepth 100000 in
theorem k_F_ring (l : Launch) (dC : Nat → ClassId) (dI : Nat → Nat → Nat) (cL cI cO : ClassId) (N0 sz : Nat) (bs : Nat → Nat) (v : CV) (x1 : Int32) (r : (Int32 × CV)) (h : f_F_ring v x1 = some r) : Met l yF_ring wsF_ring ({ frames := 5, cells := 4, slots := 152, locals := 122 }) (rd_Pc [.ref N0, .int x1] (fun H => SFS (dC, dI) cL cI cO N0 bs v H ∧ H.size = sz) (dC, dI) cls3 (ty3 cL cI cO)) (al_Q (some (.int r.1)) (fun H => ∃ bs', SFS (dC, dI) cL cI cO N0 bs' r.2 H) (inC N0)) 4 152 (inC N0) := by
  refine Met.ofW (cc := cF_ring) (maxL := 3) (ret := (some .boolean)) (by decide) rfl ?_
  intro p e s m args below meth c s₁ B hml hv
  obtain ⟨rfl, ⟨hPx, hz0⟩, hK⟩ := hv
  have hx := B.exec
  have hb := B.bytes
  have hr := B.returns
  have hw : ∀ w ∈ wG, w.before ([.ref N0, .int x1] : List Value).toArray s = true := fun w hq => atoms_spec (ws := wsF_ring) B.pre w (List.mem_cons_of_mem _ hq)
  have hown : s.vm.findClass R_F = some m.cls := findClass_of_methodNamed B.named
  have hlocks := B.notSynchronized
  have hK2 := hK.sub (tys' := [(cL, .long), (cI, .int)]) [0, 1] rfl
  have hN0 : N0 + 17 ≤ sz := by rw [← hz0]; exact hPx.2.2.2
  have hfar : ∀ i, i < v.1 → bs i + 4 ≤ sz := by rw [← hz0]; exact sfs_far hPx
  have hl := lv_entry ([.ref N0, .int x1] : List Value) (n := 3) (Nat.le_of_ble_eq_true rfl)
  rw [lg_entry_eq]
  generalize (lg_sl ([.ref N0, .int x1] : List Value) ++ List.replicate (3 - (lg_sl ([.ref N0, .int x1] : List Value)).length) Slot.unset).toArray = ls at hl ⊢
  have hl : lv_has ls 3 [(0, .ref N0), (1, .int x1)] := hl
  obtain ⟨H, hH⟩ : ∃ H : Heap, H = s.heap := ⟨_, rfl⟩
  obtain ⟨locs, hlocs⟩ : ∃ L : List Loc, L = [] := ⟨_, rfl⟩
  suffices hgo : W p l e (headSpec wsF_ring ({ frames := 5, cells := 4, slots := 152, locals := 122 })).room s m ([.ref N0, .int x1] : List Value).toArray below meth c H locs 0 0 (MQ below (al_Q (some (.int r.1)) (fun H => ∃ bs', SFS (dC, dI) cL cI cO N0 bs' r.2 H) (inC N0)) ([.ref N0, .int x1] : List Value).toArray s 4 152 (inC N0)) (F0 m 0 ls []) by rw [hH, hlocs] at hgo; exact hgo
  have hS : va_S (fun x => sz ≤ x) s.heap H locs := by rw [hH, hlocs]; exact va_S.rf
  have hz : H.size = sz := by rw [hH]; exact hz0
  clear hH hlocs
  unfold f_F_ring at h
  refine lv_aload_n hx hb dF_ring_0 rfl (lv_at hl 0 rfl) ?_
  refine lv_iload_n hx hb dF_ring_1 rfl (lv_at hl 1 rfl) ?_
  obtain ⟨u1, hu1, h⟩ := ob_some h
  refine va_csr (va_Run.run (va_runV (As := [.int x1]) (rest := []) ⟨hx, hb, hml, hown, hw⟩ (k_F_find l dC dI cL cI cO N0 (N0 + 1) (adB bs) v x1 u1 hu1) (cwV 1 hw (gV w_204 w_206 wp_2 w_1 w_207) rfl rfl rfl (by decide +kernel) ⟨Nat.le_of_ble_eq_true rfl, Nat.le_of_ble_eq_true rfl⟩) ⟨rd_blind, va_recv hK (sfs_keep hPx hz0 hS).1.1 (ci := 1) (q0 := 0) rfl rfl, rd_pre (sfs_keep hPx hz0 hS).1 hK⟩ rfl rfl hl.1 rfl (lv_room (Nat.le_of_ble_eq_true rfl)) dF_ring_2 ⟨Nat.le_of_ble_eq_true rfl, Nat.le_of_ble_eq_true rfl⟩)) (fun z hz9 => ?_)
  rw [hz9]; clear hz9
  have hltu1 := (find_lt hPx.1.2.2 hu1).1
  refine lv_astore_n (lv' := [(2, .ref (bs u1 + 0)), (0, .ref N0), (1, .int x1)]) hx hb dF_ring_5 rfl hl (by decide) rfl (fun ls hl => ?_)
  refine lv_aload_n hx hb dF_ring_6 rfl (lv_at hl 0 rfl) ?_
  obtain ⟨u2, hu2, h⟩ := ob_some h
  refine vp_callSi (va_Run.run (va_runV (As := []) (rest := []) ⟨hx, hb, hml, hown, hw⟩ (k_S_hasOpenRing l dC dI cL cI (bs u1 + 0) (bs u1 + 1) (bs u1 + 2) (bs u1 + 3) (v.2 u1) u2 hu2) (cwV 0 hw (gV w_251 w_252 w_253 w_7 w_254) rfl rfl rfl (by decide +kernel) ⟨Nat.le_of_ble_eq_true rfl, Nat.le_of_ble_eq_true rfl⟩) ⟨rd_blind, va_recv hK (keepN (hPx.1.2.1 u1 hltu1) hz0 hS) (ci := 0) (q0 := 0) rfl rfl, rd_pre (keepN (hPx.1.2.1 u1 hltu1) hz0 hS) hK2⟩ rfl rfl hl.1 rfl (lv_room (Nat.le_of_ble_eq_true rfl)) dF_ring_7 ⟨Nat.le_of_ble_eq_true rfl, Nat.le_of_ble_eq_true rfl⟩)) (fun z hz9 => ?_)
  rw [hz9]; clear hz9
  refine lv_if_ne (tgt := 23) hx hb dF_ring_10 (by decide) (fun c3 => ?_) (fun c3 => ?_)
  · have h := it_f c3 h
    refine lv_aload_n hx hb dF_ring_23 rfl (lv_at hl 0 rfl) ?_
    obtain ⟨u4, hu4, h⟩ := ob_some h
    have hSF := sfs_keep hPx hz0 hS
    refine mu_call (va_runV (As := []) (rest := []) ⟨hx, hb, hml, hown, hw⟩ (k_S_closeRing l dC dI cL cI (bs u1 + 0) (bs u1 + 1) (bs u1 + 2) (bs u1 + 3) (v.2 u1) u4 hu4) (cwV 0 hw (gV w_256 w_257 w_258 w_7 w_259) rfl rfl rfl (by decide +kernel) ⟨Nat.le_of_ble_eq_true rfl, Nat.le_of_ble_eq_true rfl⟩) ⟨rd_blind, va_recv hK (hSF.1.2.1 u1 hltu1) (ci := 0) (q0 := 0) rfl rfl, rd_pre ⟨hSF.1.2.1 u1 hltu1, sh_D4⟩ hK2⟩ rfl rfl hl.1 rfl (lv_room (Nat.le_of_ble_eq_true rfl)) dF_ring_24 ⟨Nat.le_of_ble_eq_true rfl, Nat.le_of_ble_eq_true rfl⟩) (hS.mono (sfs_in hN0)) (in4_C (hPx.2.1 u1 hltu1)) (fun H locs hPu hS hle hk => ?_)
    have hG := sfs_upd hSF hltu1 hle hPu hk
    obtain ⟨uz, huz, h⟩ := ob_some h
    obtain ⟨hzz, hr9⟩ := rb_of huz
    have h := Option.some.inj h
    subst hr9
    subst h
    refine W.widen (k := 4) (n := 152) (Nat.le_of_ble_eq_true rfl) (Nat.le_of_ble_eq_true rfl) ?_
    exact W.zret hx hb hr hzz (fun t ht hW => ⟨rfl, ⟨_, by rw [ht]; exact hG⟩, hS.F ht⟩) hS.2.2 dF_ring_27
  · have h := it_t c3 h
    cases h
