def Sim_circle (R : CV → MV → Prop) : Prop := ∀ v mv, R v mv → ∀ (p0 : Int64) (p1 : Int64) (p2 : Int64), ∃ o : Int32 × MV, f_M_circle mv p0 p1 p2 = some o ∧ ((∃ r : Int32 × CV, f_F_circle v p0 p1 p2 = some r ∧ md_thrown o.2 = 0 ∧ r.1.toInt64 = o.1.toInt64 ∧ R r.2 o.2) ∨ (g_F_circle v p0 p1 p2 = some "java/lang/IllegalArgumentException" ∧ md_thrown o.2 = 1 ∧ R v o.2))
set_option maxHeartbeats 2000000 in
set_option maxRecDepth 100000 in
theorem lt_circle {p : Program} {l : Launch} {e : Env} {s : State} {m : MethodId} {below : List Frame} {meth : Method} {c : Code} {b L : Nat} {xs : Nat → Int32} {N0 : Nat} {dC : Nat → ClassId} {dI : Nat → Nat → Nat} {cL cI cO : ClassId} {R : CV → MV → Prop} {j : Nat} (C : LA p l s m meth c b L xs N0 dC dI cL cI cO) (hj : 11 * j + 11 ≤ L) (hnext : Nxt R p l e s m below meth c b N0 (dC, dI) cL cI cO j) (k : Int32) (o : Int32 × MV) (bs : Nat → Nat) (v : CV) (mv : MV) (fo : Nat → Int64) (H : Heap) (locs : List Loc) (ls : Array Slot) (hM : f_M_circle mv (wJ xs j 1 2) (wJ xs j 3 4) (wJ xs j 5 6) = some o) (hth : md_thrown o.2 = k) (hR : R v o.2) (hout : k = 0 → fo 0 = o.1.toInt64) (hLS : LSt (dC, dI) cL cI cO N0 bs v mv fo H) (hS : va_S (fun q => N0 ≤ q) s.heap H locs) (hl : lv_has ls 8 (lvL b N0 j)) : LW p l e s m below meth c b H locs (17 + 4 * j + 4) (5092 + 152 * j + 152) (F0 m 180 ls [.int k]) := by
  obtain ⟨⟨hx, hb, hr, hml, hown, hts, hX, hbl, hlocks, hgv⟩, hN, hK, hev, hl0, hL⟩ := C
  have hw : ∀ w ∈ wG, w.before #[Value.ref b] s = true := fun w h => hts w (wG_tbl w h)
  have hown : s.vm.findClass R_L = some m.cls := hown
  have hbA : ¬ (fun q : Nat => N0 ≤ q) b := fun z => by have z : N0 ≤ b := z; omega
  have hK2 := hK.sub (tys' := [(cL, .long), (cI, .int)]) [0, 1] rfl
  have hj512 : j < 512 := by omega
  obtain ⟨hSF, hMd, hO⟩ := hLS
  have hSs : va_S (fun q => N0 ≤ q) s.heap H locs := hS
  refine lv_istore (lv' := [(5, .int k), (0, .ref b), (1, .ref N0), (2, .ref (N0 + 2)), (3, .ref (N0 + 16)), (4, .int (nI (11 * j)))]) hx hb dL_law_180 hl (by decide) rfl (fun ls hl => ?_)
  refine lv_aload_n hx hb dL_law_182 rfl (lv_at hl 3 rfl) ?_
  refine lv_aload_n hx hb dL_law_183 rfl (lv_at hl 1 rfl) ?_
  refine lv_iload hx hb dL_law_184 (lv_at hl 5 rfl) ?_
  refine lv_iconst (v := 1) hx hb dL_law_186 (by decide) ?_
  refine lv_iadd hx hb dL_law_187 ?_
  refine va_sld hx hb hX hbl hbA hSs (w_in hL hj 1 (by decide)) dL_law_188 ?_
  refine lv_i2l hx hb dL_law_189 rfl ?_
  refine lv_bipush (v := 32) hx hb dL_law_190 (by decide) ?_
  refine lv_lshl hx hb dL_law_192 rfl ?_
  refine lv_aload_n hx hb dL_law_193 rfl (lv_at hl 1 rfl) ?_
  refine lv_iload hx hb dL_law_194 (lv_at hl 5 rfl) ?_
  refine lv_iconst (v := 2) hx hb dL_law_196 (by decide) ?_
  refine lv_iadd hx hb dL_law_197 ?_
  refine va_sld hx hb hX hbl hbA hSs (w_in hL hj 2 (by decide)) dL_law_198 ?_
  refine lv_i2l hx hb dL_law_199 rfl ?_
  refine lv_ldc2 (v := 4294967295) hx hb hown (hw _ w_688) dL_law_200 ?_
  refine lv_land hx hb dL_law_203 ?_
  refine lv_lor hx hb dL_law_204 ?_
  refine lv_aload_n hx hb dL_law_205 rfl (lv_at hl 1 rfl) ?_
  refine lv_iload hx hb dL_law_206 (lv_at hl 5 rfl) ?_
  refine lv_iconst (v := 3) hx hb dL_law_208 (by decide) ?_
  refine lv_iadd hx hb dL_law_209 ?_
  refine va_sld hx hb hX hbl hbA hSs (w_in hL hj 3 (by decide)) dL_law_210 ?_
  refine lv_i2l hx hb dL_law_211 rfl ?_
  refine lv_bipush (v := 32) hx hb dL_law_212 (by decide) ?_
  refine lv_lshl hx hb dL_law_214 rfl ?_
  refine lv_aload_n hx hb dL_law_215 rfl (lv_at hl 1 rfl) ?_
  refine lv_iload hx hb dL_law_216 (lv_at hl 5 rfl) ?_
  refine lv_iconst (v := 4) hx hb dL_law_218 (by decide) ?_
  refine lv_iadd hx hb dL_law_219 ?_
  refine va_sld hx hb hX hbl hbA hSs (w_in hL hj 4 (by decide)) dL_law_220 ?_
  refine lv_i2l hx hb dL_law_221 rfl ?_
  refine lv_ldc2 (v := 4294967295) hx hb hown (hw _ w_688) dL_law_222 ?_
  refine lv_land hx hb dL_law_225 ?_
  refine lv_lor hx hb dL_law_226 ?_
  refine lv_aload_n hx hb dL_law_227 rfl (lv_at hl 1 rfl) ?_
  refine lv_iload hx hb dL_law_228 (lv_at hl 5 rfl) ?_
  refine lv_iconst (v := 5) hx hb dL_law_230 (by decide) ?_
  refine lv_iadd hx hb dL_law_231 ?_
  refine va_sld hx hb hX hbl hbA hSs (w_in hL hj 5 (by decide)) dL_law_232 ?_
  refine lv_i2l hx hb dL_law_233 rfl ?_
  refine lv_bipush (v := 32) hx hb dL_law_234 (by decide) ?_
  refine lv_lshl hx hb dL_law_236 rfl ?_
  refine lv_aload_n hx hb dL_law_237 rfl (lv_at hl 1 rfl) ?_
  refine lv_iload hx hb dL_law_238 (lv_at hl 5 rfl) ?_
  refine lv_bipush (v := 6) hx hb dL_law_240 (by decide) ?_
  refine lv_iadd hx hb dL_law_242 ?_
  refine va_sld hx hb hX hbl hbA hSs (w_in hL hj 6 (by decide)) dL_law_243 ?_
  refine lv_i2l hx hb dL_law_244 rfl ?_
  refine lv_ldc2 (v := 4294967295) hx hb hown (hw _ w_688) dL_law_245 ?_
  refine lv_land hx hb dL_law_248 ?_
  refine lv_lor hx hb dL_law_249 ?_
  refine W.eq (g2 := F0 m 250 ls [.long (wJ xs j 5 6), .long (wJ xs j 3 4), .long (wJ xs j 1 2), .ref (N0 + 2)]) rfl ?_
  refine mu_call (va_runV (As := [.long (wJ xs j 1 2), .long (wJ xs j 3 4), .long (wJ xs j 5 6)]) (rest := []) ⟨hx, hb, hml, hown, hw⟩ (k_M_circle l dC dI cL cI (qM N0) mv (wJ xs j 1 2) (wJ xs j 3 4) (wJ xs j 5 6) o hM) (cwV 3 hw (gV w_495 w_496 w_497 w_2 w_498) rfl rfl rfl (by decide +kernel) ⟨Nat.le_of_ble_eq_true rfl, Nat.le_of_ble_eq_true rfl⟩) ⟨rd_blind, va_recv hK hMd (ci := 2) (q0 := 0) rfl rfl, rd_pre ⟨hMd, md_D0⟩ hK2⟩ rfl rfl hl.1 rfl (lv_room (Nat.le_of_ble_eq_true rfl)) dL_law_250 ⟨by show 17 + 4 * j + 4 + 0 ≤ 601024; omega, by show 5092 + 152 * j + 152 + 0 ≤ 7293034; omega⟩) hS (fun q z => by have := inQ_le z; show N0 ≤ q; omega) (fun H locs hMd hS hle hk => ?_)
  replace hSF := sfs_keepM hSF hle hk
  replace hO := out_keepM hO hk
  refine lv_istore (lv' := [(6, .int o.1), (5, .int k), (0, .ref b), (1, .ref N0), (2, .ref (N0 + 2)), (3, .ref (N0 + 16)), (4, .int (nI (11 * j)))]) hx hb dL_law_253 hl (by decide) rfl (fun ls hl => ?_)
  refine lv_aload_n hx hb dL_law_255 rfl (lv_at hl 4 rfl) ?_
  refine vp_callSi (va_Run.run (va_runV (As := []) (rest := []) ⟨hx, hb, hml, hown, hw⟩ (k_M_thrown l dC dI cL cI (qM N0) o.2 _ rfl) (cwV 0 hw (gV w_491 w_492 w_493 w_2 w_494) rfl rfl rfl (by decide +kernel) ⟨Nat.le_of_ble_eq_true rfl, Nat.le_of_ble_eq_true rfl⟩) ⟨rd_blind, va_recv hK hMd (ci := 2) (q0 := 0) rfl rfl, rd_pre hMd hK2⟩ rfl rfl hl.1 rfl (lv_room (Nat.le_of_ble_eq_true rfl)) dL_law_256 ⟨by show 17 + 4 * j + 4 + 0 ≤ 601024; omega, by show 5092 + 152 * j + 152 + 0 ≤ 7293034; omega⟩)) (fun z hz9 => ?_)
  rw [hz9, hth]; clear hz9
  refine lv_iload hx hb dL_law_259 (lv_at hl 1 rfl) ?_
  refine lv_icmp_eq (tgt := 266) hx hb dL_law_261 (by decide) (fun _ => ?_) (fun z => absurd rfl z)
  refine lv_iload hx hb dL_law_266 (lv_at hl 1 rfl) ?_
  refine lv_if_ne (tgt := 283) hx hb dL_law_268 (by decide) (fun _ => ?_) (fun c1 => ?_)
  · refine lv_goto (tgt := 1532) hx hb dL_law_283 (by decide) ?_
    refine W.widen (k := 17 + 4 * (j + 1)) (n := 5092 + 152 * (j + 1)) (by omega) (by omega) ?_
    exact hnext bs v o.2 fo _ _ ls hR ⟨hSF, hMd, hO⟩ hS (lv_sub hl [2, 3, 4, 5, 6] rfl)
  · refine lv_aload_n hx hb dL_law_271 rfl (lv_at hl 5 rfl) ?_
    refine lv_iconst (v := 0) hx hb dL_law_272 (by decide) ?_
    refine va_lald hx hb hK hO 0 0 rfl rfl in01 dL_law_273 ?_
    rw [show fo (0 : Int32).toNatClampNeg = o.1.toInt64 from hout c1]
    refine lv_iload hx hb dL_law_274 (lv_at hl 0 rfl) ?_
    refine lv_i2l hx hb dL_law_276 rfl ?_
    refine W.lcmp hx hb dL_law_277 ?_
    rw [lg_self]
    refine lv_if_eq (tgt := 283) hx hb dL_law_278 (by decide) (fun _ => ?_) (fun z => absurd rfl z)
    refine lv_goto (tgt := 1532) hx hb dL_law_283 (by decide) ?_
    refine W.widen (k := 17 + 4 * (j + 1)) (n := 5092 + 152 * (j + 1)) (by omega) (by omega) ?_
    exact hnext bs v o.2 fo _ _ ls hR ⟨hSF, hMd, hO⟩ hS (lv_sub hl [2, 3, 4, 5, 6] rfl)
set_option maxHeartbeats 2000000 in
set_option maxRecDepth 100000 in
theorem lh_circle {p : Program} {l : Launch} {e : Env} {s : State} {m : MethodId} {below : List Frame} {meth : Method} {c : Code} {b L : Nat} {xs : Nat → Int32} {N0 : Nat} {dC : Nat → ClassId} {dI : Nat → Nat → Nat} {cL cI cO : ClassId} {R : CV → MV → Prop} {j : Nat} (C : LA p l s m meth c b L xs N0 dC dI cL cI cO) (hj : 11 * j + 11 ≤ L) (hnext : Nxt R p l e s m below meth c b N0 (dC, dI) cL cI cO j) (hSim : Sim_circle R) (bs : Nat → Nat) (v : CV) (mv : MV) (fo : Nat → Int64) (H : Heap) (locs : List Loc) (ls : Array Slot) (hR : R v mv) (hLS : LSt (dC, dI) cL cI cO N0 bs v mv fo H) (hS : va_S (fun q => N0 ≤ q) s.heap H locs) (hl : lv_has ls 8 (lvL b N0 j)) : LW p l e s m below meth c b H locs (17 + 4 * j) (5092 + 152 * j) (F0 m 108 ls []) := by
  have C0 := C
  obtain ⟨⟨hx, hb, hr, hml, hown, hts, hX, hbl, hlocks, hgv⟩, hN, hK, hev, hl0, hL⟩ := C
  have hw : ∀ w ∈ wG, w.before #[Value.ref b] s = true := fun w h => hts w (wG_tbl w h)
  have hown : s.vm.findClass R_L = some m.cls := hown
  have hbA : ¬ (fun q : Nat => N0 ≤ q) b := fun z => by have z : N0 ≤ b := z; omega
  have hK2 := hK.sub (tys' := [(cL, .long), (cI, .int)]) [0, 1] rfl
  have hj512 : j < 512 := by omega
  have hSs : va_S (fun q => N0 ≤ q) s.heap H locs := hS
  refine lv_aload_n hx hb dL_law_108 rfl (lv_at hl 1 rfl) ?_
  refine lv_aload_n hx hb dL_law_109 rfl (lv_at hl 0 rfl) ?_
  refine lv_iload hx hb dL_law_110 (lv_at hl 4 rfl) ?_
  refine lv_iconst (v := 1) hx hb dL_law_112 (by decide) ?_
  refine lv_iadd hx hb dL_law_113 ?_
  refine va_sld hx hb hX hbl hbA hSs (w_in hL hj 1 (by decide)) dL_law_114 ?_
  refine lv_i2l hx hb dL_law_115 rfl ?_
  refine lv_bipush (v := 32) hx hb dL_law_116 (by decide) ?_
  refine lv_lshl hx hb dL_law_118 rfl ?_
  refine lv_aload_n hx hb dL_law_119 rfl (lv_at hl 0 rfl) ?_
  refine lv_iload hx hb dL_law_120 (lv_at hl 4 rfl) ?_
  refine lv_iconst (v := 2) hx hb dL_law_122 (by decide) ?_
  refine lv_iadd hx hb dL_law_123 ?_
  refine va_sld hx hb hX hbl hbA hSs (w_in hL hj 2 (by decide)) dL_law_124 ?_
  refine lv_i2l hx hb dL_law_125 rfl ?_
  refine lv_ldc2 (v := 4294967295) hx hb hown (hw _ w_688) dL_law_126 ?_
  refine lv_land hx hb dL_law_129 ?_
  refine lv_lor hx hb dL_law_130 ?_
  refine lv_aload_n hx hb dL_law_131 rfl (lv_at hl 0 rfl) ?_
  refine lv_iload hx hb dL_law_132 (lv_at hl 4 rfl) ?_
  refine lv_iconst (v := 3) hx hb dL_law_134 (by decide) ?_
  refine lv_iadd hx hb dL_law_135 ?_
  refine va_sld hx hb hX hbl hbA hSs (w_in hL hj 3 (by decide)) dL_law_136 ?_
  refine lv_i2l hx hb dL_law_137 rfl ?_
  refine lv_bipush (v := 32) hx hb dL_law_138 (by decide) ?_
  refine lv_lshl hx hb dL_law_140 rfl ?_
  refine lv_aload_n hx hb dL_law_141 rfl (lv_at hl 0 rfl) ?_
  refine lv_iload hx hb dL_law_142 (lv_at hl 4 rfl) ?_
  refine lv_iconst (v := 4) hx hb dL_law_144 (by decide) ?_
  refine lv_iadd hx hb dL_law_145 ?_
  refine va_sld hx hb hX hbl hbA hSs (w_in hL hj 4 (by decide)) dL_law_146 ?_
  refine lv_i2l hx hb dL_law_147 rfl ?_
  refine lv_ldc2 (v := 4294967295) hx hb hown (hw _ w_688) dL_law_148 ?_
  refine lv_land hx hb dL_law_151 ?_
  refine lv_lor hx hb dL_law_152 ?_
  refine lv_aload_n hx hb dL_law_153 rfl (lv_at hl 0 rfl) ?_
  refine lv_iload hx hb dL_law_154 (lv_at hl 4 rfl) ?_
  refine lv_iconst (v := 5) hx hb dL_law_156 (by decide) ?_
  refine lv_iadd hx hb dL_law_157 ?_
  refine va_sld hx hb hX hbl hbA hSs (w_in hL hj 5 (by decide)) dL_law_158 ?_
  refine lv_i2l hx hb dL_law_159 rfl ?_
  refine lv_bipush (v := 32) hx hb dL_law_160 (by decide) ?_
  refine lv_lshl hx hb dL_law_162 rfl ?_
  refine lv_aload_n hx hb dL_law_163 rfl (lv_at hl 0 rfl) ?_
  refine lv_iload hx hb dL_law_164 (lv_at hl 4 rfl) ?_
  refine lv_bipush (v := 6) hx hb dL_law_166 (by decide) ?_
  refine lv_iadd hx hb dL_law_168 ?_
  refine va_sld hx hb hX hbl hbA hSs (w_in hL hj 6 (by decide)) dL_law_169 ?_
  refine lv_i2l hx hb dL_law_170 rfl ?_
  refine lv_ldc2 (v := 4294967295) hx hb hown (hw _ w_688) dL_law_171 ?_
  refine lv_land hx hb dL_law_174 ?_
  refine lv_lor hx hb dL_law_175 ?_
  refine lv_aload_n hx hb dL_law_176 rfl (lv_at hl 3 rfl) ?_
  refine W.eq (g2 := F0 m 177 ls [.ref (N0 + 16), .long (wJ xs j 5 6), .long (wJ xs j 3 4), .long (wJ xs j 1 2), .ref N0]) rfl ?_
  obtain ⟨o, hM, hcase⟩ := hSim v mv hR (wJ xs j 1 2) (wJ xs j 3 4) (wJ xs j 5 6)
  obtain ⟨hSF, hMd, hO⟩ := hLS
  have hk0 : ∀ q : Nat, q < s.heap.size → ¬ N0 ≤ q → H[q]? = s.heap[q]? := hS.2.1
  rcases hcase with ⟨r, hF, hth, he, hR2⟩ | ⟨hF, hth, hR2⟩
  · refine al_call (vx_runSW (As := [.ref N0, .long (wJ xs j 1 2), .long (wJ xs j 3 4), .long (wJ xs j 5 6), .ref (N0 + 16)]) (rest := []) ⟨hx, hb, hml, hown, hw⟩ (kn_L_circle l N0 H.size dC dI cL cI cO bs v fo (wJ xs j 1 2) (wJ xs j 3 4) (wJ xs j 5 6) r hF) (vx_cwSW 5 hw (gSW w_78 w_79 w_0 wc_80) rfl rfl rfl (by decide +kernel) ⟨Nat.le_of_ble_eq_true rfl, Nat.le_of_ble_eq_true rfl⟩) ⟨hl_blind, hl_pre ⟨⟨hSF, rfl⟩, hO⟩ hK hev hk0⟩ rfl rfl hl.1 rfl (lv_room (Nat.le_of_ble_eq_true rfl)) dL_law_177 ⟨by show 17 + 4 * j + 4 ≤ 601024; omega, by show 5092 + 152 * j + 152 ≤ 7293034; omega⟩) hS (fun q z => by have z : (q = N0 ∨ q = N0 + 1 ∨ N0 + 17 ≤ q) ∨ q = N0 + 16 := z; show N0 ≤ q; omega) (fun H1 locs hG hS hle hk => ?_)
    obtain ⟨⟨bs', hSF⟩, hO⟩ := hG
    exact lt_circle C0 hj hnext 0 o bs' _ mv _ _ _ ls hM hth hR2 (fun _ => by show vp_updL fo 0 _ 0 = _; rw [show ∀ x : Int64, vp_updL fo 0 x 0 = x from fun x => by simp [vp_updL]]; exact he) ⟨hSF, md_keepL hMd hk, hO⟩ hS hl
  · refine al_call (vx_runSW (As := [.ref N0, .long (wJ xs j 1 2), .long (wJ xs j 3 4), .long (wJ xs j 5 6), .ref (N0 + 16)]) (rest := []) ⟨hx, hb, hml, hown, hw⟩ (kxIAE_L_circle l hl0 N0 H.size dC dI cL cI cO bs v fo (wJ xs j 1 2) (wJ xs j 3 4) (wJ xs j 5 6) hF) (vx_cwSW 5 hw (gSW w_78 w_79 w_0 wc_80) rfl rfl rfl (by decide +kernel) ⟨Nat.le_of_ble_eq_true rfl, Nat.le_of_ble_eq_true rfl⟩) ⟨hl_blind, hl_pre ⟨⟨hSF, rfl⟩, hO⟩ hK hev hk0⟩ rfl rfl hl.1 rfl (lv_room (Nat.le_of_ble_eq_true rfl)) dL_law_177 ⟨by show 17 + 4 * j + 4 ≤ 601024; omega, by show 5092 + 152 * j + 152 ≤ 7293034; omega⟩) hS (fun q z => by have z : (q = N0 ∨ q = N0 + 1 ∨ N0 + 17 ≤ q) ∨ q = N0 + 16 := z; show N0 ≤ q; omega) (fun H1 locs hG hS hle hk => ?_)
    obtain ⟨⟨bs', hSF⟩, hO⟩ := hG
    exact lt_circle C0 hj hnext 1 o bs' _ mv _ _ _ ls hM hth hR2 (fun z => absurd z (by decide)) ⟨hSF, md_keepL hMd hk, hO⟩ hS hl
def Sim_box (R : CV → MV → Prop) : Prop := ∀ v mv, R v mv → ∀ (p0 : Int64) (p1 : Int64) (p2 : Int64) (p3 : Int64) (p4 : Int64), ∃ o : Int32 × MV, f_M_box mv p0 p1 p2 p3 p4 = some o ∧ ((∃ r : Int32 × CV, f_F_box v p0 p1 p2 p3 p4 = some r ∧ md_thrown o.2 = 0 ∧ r.1.toInt64 = o.1.toInt64 ∧ R r.2 o.2) ∨ (g_F_box v p0 p1 p2 p3 p4 = some "java/lang/IllegalArgumentException" ∧ md_thrown o.2 = 1 ∧ R v o.2))
set_option maxHeartbeats 2000000 in
set_option maxRecDepth 100000 in
theorem lt_box {p : Program} {l : Launch} {e : Env} {s : State} {m : MethodId} {below : List Frame} {meth : Method} {c : Code} {b L : Nat} {xs : Nat → Int32} {N0 : Nat} {dC : Nat → ClassId} {dI : Nat → Nat → Nat} {cL cI cO : ClassId} {R : CV → MV → Prop} {j : Nat} (C : LA p l s m meth c b L xs N0 dC dI cL cI cO) (hj : 11 * j + 11 ≤ L) (hnext : Nxt R p l e s m below meth c b N0 (dC, dI) cL cI cO j) (k : Int32) (o : Int32 × MV) (bs : Nat → Nat) (v : CV) (mv : MV) (fo : Nat → Int64) (H : Heap) (locs : List Loc) (ls : Array Slot) (hM : f_M_box mv (wJ xs j 1 2) (wJ xs j 3 4) (wJ xs j 5 6) (wJ xs j 7 8) (wJ xs j 9 10) = some o) (hth : md_thrown o.2 = k) (hR : R v o.2) (hout : k = 0 → fo 0 = o.1.toInt64) (hLS : LSt (dC, dI) cL cI cO N0 bs v mv fo H) (hS : va_S (fun q => N0 ≤ q) s.heap H locs) (hl : lv_has ls 8 (lvL b N0 j)) : LW p l e s m below meth c b H locs (17 + 4 * j + 4) (5092 + 152 * j + 152) (F0 m 406 ls [.int k]) := by
  obtain ⟨⟨hx, hb, hr, hml, hown, hts, hX, hbl, hlocks, hgv⟩, hN, hK, hev, hl0, hL⟩ := C
  have hw : ∀ w ∈ wG, w.before #[Value.ref b] s = true := fun w h => hts w (wG_tbl w h)
  have hown : s.vm.findClass R_L = some m.cls := hown
  have hbA : ¬ (fun q : Nat => N0 ≤ q) b := fun z => by have z : N0 ≤ b := z; omega
  have hK2 := hK.sub (tys' := [(cL, .long), (cI, .int)]) [0, 1] rfl
  have hj512 : j < 512 := by omega
  obtain ⟨hSF, hMd, hO⟩ := hLS
  have hSs : va_S (fun q => N0 ≤ q) s.heap H locs := hS
  refine lv_istore (lv' := [(5, .int k), (0, .ref b), (1, .ref N0), (2, .ref (N0 + 2)), (3, .ref (N0 + 16)), (4, .int (nI (11 * j)))]) hx hb dL_law_406 hl (by decide) rfl (fun ls hl => ?_)
  refine lv_aload_n hx hb dL_law_408 rfl (lv_at hl 3 rfl) ?_
  refine lv_aload_n hx hb dL_law_409 rfl (lv_at hl 1 rfl) ?_
  refine lv_iload hx hb dL_law_410 (lv_at hl 5 rfl) ?_
  refine lv_iconst (v := 1) hx hb dL_law_412 (by decide) ?_
  refine lv_iadd hx hb dL_law_413 ?_
  refine va_sld hx hb hX hbl hbA hSs (w_in hL hj 1 (by decide)) dL_law_414 ?_
  refine lv_i2l hx hb dL_law_415 rfl ?_
  refine lv_bipush (v := 32) hx hb dL_law_416 (by decide) ?_
  refine lv_lshl hx hb dL_law_418 rfl ?_
  refine lv_aload_n hx hb dL_law_419 rfl (lv_at hl 1 rfl) ?_
  refine lv_iload hx hb dL_law_420 (lv_at hl 5 rfl) ?_
  refine lv_iconst (v := 2) hx hb dL_law_422 (by decide) ?_
  refine lv_iadd hx hb dL_law_423 ?_
  refine va_sld hx hb hX hbl hbA hSs (w_in hL hj 2 (by decide)) dL_law_424 ?_
  refine lv_i2l hx hb dL_law_425 rfl ?_
  refine lv_ldc2 (v := 4294967295) hx hb hown (hw _ w_688) dL_law_426 ?_
  refine lv_land hx hb dL_law_429 ?_
  refine lv_lor hx hb dL_law_430 ?_
  refine lv_aload_n hx hb dL_law_431 rfl (lv_at hl 1 rfl) ?_
  refine lv_iload hx hb dL_law_432 (lv_at hl 5 rfl) ?_
  refine lv_iconst (v := 3) hx hb dL_law_434 (by decide) ?_
  refine lv_iadd hx hb dL_law_435 ?_
  refine va_sld hx hb hX hbl hbA hSs (w_in hL hj 3 (by decide)) dL_law_436 ?_
  refine lv_i2l hx hb dL_law_437 rfl ?_
  refine lv_bipush (v := 32) hx hb dL_law_438 (by decide) ?_
  refine lv_lshl hx hb dL_law_440 rfl ?_
  refine lv_aload_n hx hb dL_law_441 rfl (lv_at hl 1 rfl) ?_
  refine lv_iload hx hb dL_law_442 (lv_at hl 5 rfl) ?_
  refine lv_iconst (v := 4) hx hb dL_law_444 (by decide) ?_
  refine lv_iadd hx hb dL_law_445 ?_
  refine va_sld hx hb hX hbl hbA hSs (w_in hL hj 4 (by decide)) dL_law_446 ?_
  refine lv_i2l hx hb dL_law_447 rfl ?_
  refine lv_ldc2 (v := 4294967295) hx hb hown (hw _ w_688) dL_law_448 ?_
  refine lv_land hx hb dL_law_451 ?_
  refine lv_lor hx hb dL_law_452 ?_
  refine lv_aload_n hx hb dL_law_453 rfl (lv_at hl 1 rfl) ?_
  refine lv_iload hx hb dL_law_454 (lv_at hl 5 rfl) ?_
  refine lv_iconst (v := 5) hx hb dL_law_456 (by decide) ?_
  refine lv_iadd hx hb dL_law_457 ?_
  refine va_sld hx hb hX hbl hbA hSs (w_in hL hj 5 (by decide)) dL_law_458 ?_
  refine lv_i2l hx hb dL_law_459 rfl ?_
  refine lv_bipush (v := 32) hx hb dL_law_460 (by decide) ?_
  refine lv_lshl hx hb dL_law_462 rfl ?_
  refine lv_aload_n hx hb dL_law_463 rfl (lv_at hl 1 rfl) ?_
  refine lv_iload hx hb dL_law_464 (lv_at hl 5 rfl) ?_
  refine lv_bipush (v := 6) hx hb dL_law_466 (by decide) ?_
  refine lv_iadd hx hb dL_law_468 ?_
  refine va_sld hx hb hX hbl hbA hSs (w_in hL hj 6 (by decide)) dL_law_469 ?_
  refine lv_i2l hx hb dL_law_470 rfl ?_
  refine lv_ldc2 (v := 4294967295) hx hb hown (hw _ w_688) dL_law_471 ?_
  refine lv_land hx hb dL_law_474 ?_
  refine lv_lor hx hb dL_law_475 ?_
  refine lv_aload_n hx hb dL_law_476 rfl (lv_at hl 1 rfl) ?_
  refine lv_iload hx hb dL_law_477 (lv_at hl 5 rfl) ?_
  refine lv_bipush (v := 7) hx hb dL_law_479 (by decide) ?_
  refine lv_iadd hx hb dL_law_481 ?_
  refine va_sld hx hb hX hbl hbA hSs (w_in hL hj 7 (by decide)) dL_law_482 ?_
  refine lv_i2l hx hb dL_law_483 rfl ?_
  refine lv_bipush (v := 32) hx hb dL_law_484 (by decide) ?_
  refine lv_lshl hx hb dL_law_486 rfl ?_
  refine lv_aload_n hx hb dL_law_487 rfl (lv_at hl 1 rfl) ?_
  refine lv_iload hx hb dL_law_488 (lv_at hl 5 rfl) ?_
  refine lv_bipush (v := 8) hx hb dL_law_490 (by decide) ?_
  refine lv_iadd hx hb dL_law_492 ?_
  refine va_sld hx hb hX hbl hbA hSs (w_in hL hj 8 (by decide)) dL_law_493 ?_
  refine lv_i2l hx hb dL_law_494 rfl ?_
  refine lv_ldc2 (v := 4294967295) hx hb hown (hw _ w_688) dL_law_495 ?_
  refine lv_land hx hb dL_law_498 ?_
  refine lv_lor hx hb dL_law_499 ?_
  refine lv_aload_n hx hb dL_law_500 rfl (lv_at hl 1 rfl) ?_
  refine lv_iload hx hb dL_law_501 (lv_at hl 5 rfl) ?_
  refine lv_bipush (v := 9) hx hb dL_law_503 (by decide) ?_
  refine lv_iadd hx hb dL_law_505 ?_
  refine va_sld hx hb hX hbl hbA hSs (w_in hL hj 9 (by decide)) dL_law_506 ?_
  refine lv_i2l hx hb dL_law_507 rfl ?_
  refine lv_bipush (v := 32) hx hb dL_law_508 (by decide) ?_
  refine lv_lshl hx hb dL_law_510 rfl ?_
  refine lv_aload_n hx hb dL_law_511 rfl (lv_at hl 1 rfl) ?_
  refine lv_iload hx hb dL_law_512 (lv_at hl 5 rfl) ?_
  refine lv_bipush (v := 10) hx hb dL_law_514 (by decide) ?_
  refine lv_iadd hx hb dL_law_516 ?_
  refine va_sld hx hb hX hbl hbA hSs (w_in hL hj 10 (by decide)) dL_law_517 ?_
  refine lv_i2l hx hb dL_law_518 rfl ?_
  refine lv_ldc2 (v := 4294967295) hx hb hown (hw _ w_688) dL_law_519 ?_
  refine lv_land hx hb dL_law_522 ?_
  refine lv_lor hx hb dL_law_523 ?_
  refine W.eq (g2 := F0 m 524 ls [.long (wJ xs j 9 10), .long (wJ xs j 7 8), .long (wJ xs j 5 6), .long (wJ xs j 3 4), .long (wJ xs j 1 2), .ref (N0 + 2)]) rfl ?_
  refine mu_call (va_runV (As := [.long (wJ xs j 1 2), .long (wJ xs j 3 4), .long (wJ xs j 5 6), .long (wJ xs j 7 8), .long (wJ xs j 9 10)]) (rest := []) ⟨hx, hb, hml, hown, hw⟩ (k_M_box l dC dI cL cI (qM N0) mv (wJ xs j 1 2) (wJ xs j 3 4) (wJ xs j 5 6) (wJ xs j 7 8) (wJ xs j 9 10) o hM) (cwV 5 hw (gV w_516 w_517 w_518 w_2 w_519) rfl rfl rfl (by decide +kernel) ⟨Nat.le_of_ble_eq_true rfl, Nat.le_of_ble_eq_true rfl⟩) ⟨rd_blind, va_recv hK hMd (ci := 2) (q0 := 0) rfl rfl, rd_pre ⟨hMd, md_D0⟩ hK2⟩ rfl rfl hl.1 rfl (lv_room (Nat.le_of_ble_eq_true rfl)) dL_law_524 ⟨by show 17 + 4 * j + 4 + 0 ≤ 601024; omega, by show 5092 + 152 * j + 152 + 0 ≤ 7293034; omega⟩) hS (fun q z => by have := inQ_le z; show N0 ≤ q; omega) (fun H locs hMd hS hle hk => ?_)
  replace hSF := sfs_keepM hSF hle hk
  replace hO := out_keepM hO hk
  refine lv_istore (lv' := [(6, .int o.1), (5, .int k), (0, .ref b), (1, .ref N0), (2, .ref (N0 + 2)), (3, .ref (N0 + 16)), (4, .int (nI (11 * j)))]) hx hb dL_law_527 hl (by decide) rfl (fun ls hl => ?_)
  refine lv_aload_n hx hb dL_law_529 rfl (lv_at hl 4 rfl) ?_
  refine vp_callSi (va_Run.run (va_runV (As := []) (rest := []) ⟨hx, hb, hml, hown, hw⟩ (k_M_thrown l dC dI cL cI (qM N0) o.2 _ rfl) (cwV 0 hw (gV w_491 w_492 w_493 w_2 w_494) rfl rfl rfl (by decide +kernel) ⟨Nat.le_of_ble_eq_true rfl, Nat.le_of_ble_eq_true rfl⟩) ⟨rd_blind, va_recv hK hMd (ci := 2) (q0 := 0) rfl rfl, rd_pre hMd hK2⟩ rfl rfl hl.1 rfl (lv_room (Nat.le_of_ble_eq_true rfl)) dL_law_530 ⟨by show 17 + 4 * j + 4 + 0 ≤ 601024; omega, by show 5092 + 152 * j + 152 + 0 ≤ 7293034; omega⟩)) (fun z hz9 => ?_)
  rw [hz9, hth]; clear hz9
  refine lv_iload hx hb dL_law_533 (lv_at hl 1 rfl) ?_
  refine lv_icmp_eq (tgt := 540) hx hb dL_law_535 (by decide) (fun _ => ?_) (fun z => absurd rfl z)
  refine lv_iload hx hb dL_law_540 (lv_at hl 1 rfl) ?_
  refine lv_if_ne (tgt := 557) hx hb dL_law_542 (by decide) (fun _ => ?_) (fun c1 => ?_)
  · refine lv_goto (tgt := 1532) hx hb dL_law_557 (by decide) ?_
    refine W.widen (k := 17 + 4 * (j + 1)) (n := 5092 + 152 * (j + 1)) (by omega) (by omega) ?_
    exact hnext bs v o.2 fo _ _ ls hR ⟨hSF, hMd, hO⟩ hS (lv_sub hl [2, 3, 4, 5, 6] rfl)
  · refine lv_aload_n hx hb dL_law_545 rfl (lv_at hl 5 rfl) ?_
    refine lv_iconst (v := 0) hx hb dL_law_546 (by decide) ?_
    refine va_lald hx hb hK hO 0 0 rfl rfl in01 dL_law_547 ?_
    rw [show fo (0 : Int32).toNatClampNeg = o.1.toInt64 from hout c1]
    refine lv_iload hx hb dL_law_548 (lv_at hl 0 rfl) ?_
    refine lv_i2l hx hb dL_law_550 rfl ?_
    refine W.lcmp hx hb dL_law_551 ?_
    rw [lg_self]
    refine lv_if_eq (tgt := 557) hx hb dL_law_552 (by decide) (fun _ => ?_) (fun z => absurd rfl z)
    refine lv_goto (tgt := 1532) hx hb dL_law_557 (by decide) ?_
    refine W.widen (k := 17 + 4 * (j + 1)) (n := 5092 + 152 * (j + 1)) (by omega) (by omega) ?_
    exact hnext bs v o.2 fo _ _ ls hR ⟨hSF, hMd, hO⟩ hS (lv_sub hl [2, 3, 4, 5, 6] rfl)
set_option maxHeartbeats 2000000 in
set_option maxRecDepth 100000 in
theorem lh_box {p : Program} {l : Launch} {e : Env} {s : State} {m : MethodId} {below : List Frame} {meth : Method} {c : Code} {b L : Nat} {xs : Nat → Int32} {N0 : Nat} {dC : Nat → ClassId} {dI : Nat → Nat → Nat} {cL cI cO : ClassId} {R : CV → MV → Prop} {j : Nat} (C : LA p l s m meth c b L xs N0 dC dI cL cI cO) (hj : 11 * j + 11 ≤ L) (hnext : Nxt R p l e s m below meth c b N0 (dC, dI) cL cI cO j) (hSim : Sim_box R) (bs : Nat → Nat) (v : CV) (mv : MV) (fo : Nat → Int64) (H : Heap) (locs : List Loc) (ls : Array Slot) (hR : R v mv) (hLS : LSt (dC, dI) cL cI cO N0 bs v mv fo H) (hS : va_S (fun q => N0 ≤ q) s.heap H locs) (hl : lv_has ls 8 (lvL b N0 j)) : LW p l e s m below meth c b H locs (17 + 4 * j) (5092 + 152 * j) (F0 m 286 ls []) := by
  have C0 := C
  obtain ⟨⟨hx, hb, hr, hml, hown, hts, hX, hbl, hlocks, hgv⟩, hN, hK, hev, hl0, hL⟩ := C
  have hw : ∀ w ∈ wG, w.before #[Value.ref b] s = true := fun w h => hts w (wG_tbl w h)
  have hown : s.vm.findClass R_L = some m.cls := hown
  have hbA : ¬ (fun q : Nat => N0 ≤ q) b := fun z => by have z : N0 ≤ b := z; omega
  have hK2 := hK.sub (tys' := [(cL, .long), (cI, .int)]) [0, 1] rfl
  have hj512 : j < 512 := by omega
  have hSs : va_S (fun q => N0 ≤ q) s.heap H locs := hS
  refine lv_aload_n hx hb dL_law_286 rfl (lv_at hl 1 rfl) ?_
  refine lv_aload_n hx hb dL_law_287 rfl (lv_at hl 0 rfl) ?_
  refine lv_iload hx hb dL_law_288 (lv_at hl 4 rfl) ?_
  refine lv_iconst (v := 1) hx hb dL_law_290 (by decide) ?_
  refine lv_iadd hx hb dL_law_291 ?_
  refine va_sld hx hb hX hbl hbA hSs (w_in hL hj 1 (by decide)) dL_law_292 ?_
  refine lv_i2l hx hb dL_law_293 rfl ?_
  refine lv_bipush (v := 32) hx hb dL_law_294 (by decide) ?_
  refine lv_lshl hx hb dL_law_296 rfl ?_
  refine lv_aload_n hx hb dL_law_297 rfl (lv_at hl 0 rfl) ?_
  refine lv_iload hx hb dL_law_298 (lv_at hl 4 rfl) ?_
  refine lv_iconst (v := 2) hx hb dL_law_300 (by decide) ?_
  refine lv_iadd hx hb dL_law_301 ?_
  refine va_sld hx hb hX hbl hbA hSs (w_in hL hj 2 (by decide)) dL_law_302 ?_
  refine lv_i2l hx hb dL_law_303 rfl ?_
  refine lv_ldc2 (v := 4294967295) hx hb hown (hw _ w_688) dL_law_304 ?_
  refine lv_land hx hb dL_law_307 ?_
  refine lv_lor hx hb dL_law_308 ?_
  refine lv_aload_n hx hb dL_law_309 rfl (lv_at hl 0 rfl) ?_
  refine lv_iload hx hb dL_law_310 (lv_at hl 4 rfl) ?_
  refine lv_iconst (v := 3) hx hb dL_law_312 (by decide) ?_
  refine lv_iadd hx hb dL_law_313 ?_
  refine va_sld hx hb hX hbl hbA hSs (w_in hL hj 3 (by decide)) dL_law_314 ?_
  refine lv_i2l hx hb dL_law_315 rfl ?_
  refine lv_bipush (v := 32) hx hb dL_law_316 (by decide) ?_
  refine lv_lshl hx hb dL_law_318 rfl ?_
  refine lv_aload_n hx hb dL_law_319 rfl (lv_at hl 0 rfl) ?_
  refine lv_iload hx hb dL_law_320 (lv_at hl 4 rfl) ?_
  refine lv_iconst (v := 4) hx hb dL_law_322 (by decide) ?_
  refine lv_iadd hx hb dL_law_323 ?_
  refine va_sld hx hb hX hbl hbA hSs (w_in hL hj 4 (by decide)) dL_law_324 ?_
  refine lv_i2l hx hb dL_law_325 rfl ?_
  refine lv_ldc2 (v := 4294967295) hx hb hown (hw _ w_688) dL_law_326 ?_
  refine lv_land hx hb dL_law_329 ?_
  refine lv_lor hx hb dL_law_330 ?_
  refine lv_aload_n hx hb dL_law_331 rfl (lv_at hl 0 rfl) ?_
  refine lv_iload hx hb dL_law_332 (lv_at hl 4 rfl) ?_
  refine lv_iconst (v := 5) hx hb dL_law_334 (by decide) ?_
  refine lv_iadd hx hb dL_law_335 ?_
  refine va_sld hx hb hX hbl hbA hSs (w_in hL hj 5 (by decide)) dL_law_336 ?_
  refine lv_i2l hx hb dL_law_337 rfl ?_
  refine lv_bipush (v := 32) hx hb dL_law_338 (by decide) ?_
  refine lv_lshl hx hb dL_law_340 rfl ?_
  refine lv_aload_n hx hb dL_law_341 rfl (lv_at hl 0 rfl) ?_
  refine lv_iload hx hb dL_law_342 (lv_at hl 4 rfl) ?_
  refine lv_bipush (v := 6) hx hb dL_law_344 (by decide) ?_
  refine lv_iadd hx hb dL_law_346 ?_
  refine va_sld hx hb hX hbl hbA hSs (w_in hL hj 6 (by decide)) dL_law_347 ?_
  refine lv_i2l hx hb dL_law_348 rfl ?_
  refine lv_ldc2 (v := 4294967295) hx hb hown (hw _ w_688) dL_law_349 ?_
  refine lv_land hx hb dL_law_352 ?_
  refine lv_lor hx hb dL_law_353 ?_
  refine lv_aload_n hx hb dL_law_354 rfl (lv_at hl 0 rfl) ?_
  refine lv_iload hx hb dL_law_355 (lv_at hl 4 rfl) ?_
  refine lv_bipush (v := 7) hx hb dL_law_357 (by decide) ?_
  refine lv_iadd hx hb dL_law_359 ?_
  refine va_sld hx hb hX hbl hbA hSs (w_in hL hj 7 (by decide)) dL_law_360 ?_
  refine lv_i2l hx hb dL_law_361 rfl ?_
  refine lv_bipush (v := 32) hx hb dL_law_362 (by decide) ?_
  refine lv_lshl hx hb dL_law_364 rfl ?_
  refine lv_aload_n hx hb dL_law_365 rfl (lv_at hl 0 rfl) ?_
  refine lv_iload hx hb dL_law_366 (lv_at hl 4 rfl) ?_
  refine lv_bipush (v := 8) hx hb dL_law_368 (by decide) ?_
  refine lv_iadd hx hb dL_law_370 ?_
  refine va_sld hx hb hX hbl hbA hSs (w_in hL hj 8 (by decide)) dL_law_371 ?_
  refine lv_i2l hx hb dL_law_372 rfl ?_
  refine lv_ldc2 (v := 4294967295) hx hb hown (hw _ w_688) dL_law_373 ?_
  refine lv_land hx hb dL_law_376 ?_
  refine lv_lor hx hb dL_law_377 ?_
  refine lv_aload_n hx hb dL_law_378 rfl (lv_at hl 0 rfl) ?_
  refine lv_iload hx hb dL_law_379 (lv_at hl 4 rfl) ?_
  refine lv_bipush (v := 9) hx hb dL_law_381 (by decide) ?_
  refine lv_iadd hx hb dL_law_383 ?_
  refine va_sld hx hb hX hbl hbA hSs (w_in hL hj 9 (by decide)) dL_law_384 ?_
  refine lv_i2l hx hb dL_law_385 rfl ?_
  refine lv_bipush (v := 32) hx hb dL_law_386 (by decide) ?_
  refine lv_lshl hx hb dL_law_388 rfl ?_
  refine lv_aload_n hx hb dL_law_389 rfl (lv_at hl 0 rfl) ?_
  refine lv_iload hx hb dL_law_390 (lv_at hl 4 rfl) ?_
  refine lv_bipush (v := 10) hx hb dL_law_392 (by decide) ?_
  refine lv_iadd hx hb dL_law_394 ?_
  refine va_sld hx hb hX hbl hbA hSs (w_in hL hj 10 (by decide)) dL_law_395 ?_
  refine lv_i2l hx hb dL_law_396 rfl ?_
  refine lv_ldc2 (v := 4294967295) hx hb hown (hw _ w_688) dL_law_397 ?_
  refine lv_land hx hb dL_law_400 ?_
  refine lv_lor hx hb dL_law_401 ?_
  refine lv_aload_n hx hb dL_law_402 rfl (lv_at hl 3 rfl) ?_
  refine W.eq (g2 := F0 m 403 ls [.ref (N0 + 16), .long (wJ xs j 9 10), .long (wJ xs j 7 8), .long (wJ xs j 5 6), .long (wJ xs j 3 4), .long (wJ xs j 1 2), .ref N0]) rfl ?_
  obtain ⟨o, hM, hcase⟩ := hSim v mv hR (wJ xs j 1 2) (wJ xs j 3 4) (wJ xs j 5 6) (wJ xs j 7 8) (wJ xs j 9 10)
  obtain ⟨hSF, hMd, hO⟩ := hLS
  have hk0 : ∀ q : Nat, q < s.heap.size → ¬ N0 ≤ q → H[q]? = s.heap[q]? := hS.2.1
  rcases hcase with ⟨r, hF, hth, he, hR2⟩ | ⟨hF, hth, hR2⟩
  · refine al_call (vx_runSW (As := [.ref N0, .long (wJ xs j 1 2), .long (wJ xs j 3 4), .long (wJ xs j 5 6), .long (wJ xs j 7 8), .long (wJ xs j 9 10), .ref (N0 + 16)]) (rest := []) ⟨hx, hb, hml, hown, hw⟩ (kn_L_box l N0 H.size dC dI cL cI cO bs v fo (wJ xs j 1 2) (wJ xs j 3 4) (wJ xs j 5 6) (wJ xs j 7 8) (wJ xs j 9 10) r hF) (vx_cwSW 7 hw (gSW w_174 w_175 w_0 wc_176) rfl rfl rfl (by decide +kernel) ⟨Nat.le_of_ble_eq_true rfl, Nat.le_of_ble_eq_true rfl⟩) ⟨hl_blind, hl_pre ⟨⟨hSF, rfl⟩, hO⟩ hK hev hk0⟩ rfl rfl hl.1 rfl (lv_room (Nat.le_of_ble_eq_true rfl)) dL_law_403 ⟨by show 17 + 4 * j + 4 ≤ 601024; omega, by show 5092 + 152 * j + 152 ≤ 7293034; omega⟩) hS (fun q z => by have z : (q = N0 ∨ q = N0 + 1 ∨ N0 + 17 ≤ q) ∨ q = N0 + 16 := z; show N0 ≤ q; omega) (fun H1 locs hG hS hle hk => ?_)
    obtain ⟨⟨bs', hSF⟩, hO⟩ := hG
    exact lt_box C0 hj hnext 0 o bs' _ mv _ _ _ ls hM hth hR2 (fun _ => by show vp_updL fo 0 _ 0 = _; rw [show ∀ x : Int64, vp_updL fo 0 x 0 = x from fun x => by simp [vp_updL]]; exact he) ⟨hSF, md_keepL hMd hk, hO⟩ hS hl
  · refine al_call (vx_runSW (As := [.ref N0, .long (wJ xs j 1 2), .long (wJ xs j 3 4), .long (wJ xs j 5 6), .long (wJ xs j 7 8), .long (wJ xs j 9 10), .ref (N0 + 16)]) (rest := []) ⟨hx, hb, hml, hown, hw⟩ (kxIAE_L_box l hl0 N0 H.size dC dI cL cI cO bs v fo (wJ xs j 1 2) (wJ xs j 3 4) (wJ xs j 5 6) (wJ xs j 7 8) (wJ xs j 9 10) hF) (vx_cwSW 7 hw (gSW w_174 w_175 w_0 wc_176) rfl rfl rfl (by decide +kernel) ⟨Nat.le_of_ble_eq_true rfl, Nat.le_of_ble_eq_true rfl⟩) ⟨hl_blind, hl_pre ⟨⟨hSF, rfl⟩, hO⟩ hK hev hk0⟩ rfl rfl hl.1 rfl (lv_room (Nat.le_of_ble_eq_true rfl)) dL_law_403 ⟨by show 17 + 4 * j + 4 ≤ 601024; omega, by show 5092 + 152 * j + 152 ≤ 7293034; omega⟩) hS (fun q z => by have z : (q = N0 ∨ q = N0 + 1 ∨ N0 + 17 ≤ q) ∨ q = N0 + 16 := z; show N0 ≤ q; omega) (fun H1 locs hG hS hle hk => ?_)
    obtain ⟨⟨bs', hSF⟩, hO⟩ := hG
    exact lt_box C0 hj hnext 1 o bs' _ mv _ _ _ ls hM hth hR2 (fun z => absurd z (by decide)) ⟨hSF, md_keepL hMd hk, hO⟩ hS hl
def Sim_polygon (R : CV → MV → Prop) : Prop := ∀ v mv, R v mv → ∃ (o : Int32 × MV) (r : Int32 × CV), f_M_polygon mv = some o ∧ f_F_polygon v = some r ∧ r.1 = o.1 ∧ R r.2 o.2
set_option maxHeartbeats 2000000 in
set_option maxRecDepth 100000 in
theorem lc_polygon {p : Program} {l : Launch} {e : Env} {s : State} {m : MethodId} {below : List Frame} {meth : Method} {c : Code} {b L : Nat} {xs : Nat → Int32} {N0 : Nat} {dC : Nat → ClassId} {dI : Nat → Nat → Nat} {cL cI cO : ClassId} {R : CV → MV → Prop} {j : Nat} (C : LA p l s m meth c b L xs N0 dC dI cL cI cO) (hj : 11 * j + 11 ≤ L) (hnext : Nxt R p l e s m below meth c b N0 (dC, dI) cL cI cO j) (hSim : Sim_polygon R) (bs : Nat → Nat) (v : CV) (mv : MV) (fo : Nat → Int64) (H : Heap) (locs : List Loc) (ls : Array Slot) (hR : R v mv) (hLS : LSt (dC, dI) cL cI cO N0 bs v mv fo H) (hS : va_S (fun q => N0 ≤ q) s.heap H locs) (hl : lv_has ls 8 (lvL b N0 j)) : LW p l e s m below meth c b H locs (17 + 4 * j) (5092 + 152 * j) (F0 m 560 ls []) := by
  obtain ⟨⟨hx, hb, hr, hml, hown, hts, hX, hbl, hlocks, hgv⟩, hN, hK, hev, hl0, hL⟩ := C
  have hw : ∀ w ∈ wG, w.before #[Value.ref b] s = true := fun w h => hts w (wG_tbl w h)
  have hown : s.vm.findClass R_L = some m.cls := hown
  have hbA : ¬ (fun q : Nat => N0 ≤ q) b := fun z => by have z : N0 ≤ b := z; omega
  have hK2 := hK.sub (tys' := [(cL, .long), (cI, .int)]) [0, 1] rfl
  have hj512 : j < 512 := by omega
  obtain ⟨o, r, hM, hF, he, hR2⟩ := hSim v mv hR
  obtain ⟨hSF, hMd, hO⟩ := hLS
  refine lv_aload_n hx hb dL_law_560 rfl (lv_at hl 1 rfl) ?_
  refine al_call (va_runV (As := []) (rest := []) ⟨hx, hb, hml, hown, hw⟩ (k_F_polygon l dC dI cL cI cO N0 H.size bs v r hF) (cwV 0 hw (gV w_31 w_32 w_33 w_1 w_34) rfl rfl rfl (by decide +kernel) ⟨Nat.le_of_ble_eq_true rfl, Nat.le_of_ble_eq_true rfl⟩) ⟨rd_blind, va_recv hK hSF.1.1 (ci := 1) (q0 := 0) rfl rfl, rd_pre ⟨hSF, rfl⟩ hK⟩ rfl rfl hl.1 rfl (lv_room (Nat.le_of_ble_eq_true rfl)) dL_law_561 ⟨by show 17 + 4 * j + 4 ≤ 601024; omega, by show 5092 + 152 * j + 152 ≤ 7293034; omega⟩) hS (fun q z => by have z : q = N0 ∨ q = N0 + 1 ∨ N0 + 17 ≤ q := z; show N0 ≤ q; omega) (fun H1 locs hG hS hle hk => ?_)
  obtain ⟨bs', hSF⟩ := hG
  replace hMd := md_keepL hMd (fun q h1 h2 => hk q h1 (fun z => h2 (Or.inl z)))
  replace hO := out_keep hO hk
  refine lv_aload_n hx hb dL_law_564 rfl (lv_at hl 2 rfl) ?_
  refine mu_call (va_runV (As := []) (rest := [.int r.1]) ⟨hx, hb, hml, hown, hw⟩ (k_M_polygon l dC dI cL cI (qM N0) mv  o hM) (cwV 0 hw (gV w_520 w_521 w_522 w_2 w_523) rfl rfl rfl (by decide +kernel) ⟨Nat.le_of_ble_eq_true rfl, Nat.le_of_ble_eq_true rfl⟩) ⟨rd_blind, va_recv hK hMd (ci := 2) (q0 := 0) rfl rfl, rd_pre ⟨hMd, md_D0⟩ hK2⟩ rfl rfl hl.1 rfl (lv_room (Nat.le_of_ble_eq_true rfl)) dL_law_565 ⟨by show 17 + 4 * j + 4 + 0 ≤ 601024; omega, by show 5092 + 152 * j + 152 + 0 ≤ 7293034; omega⟩) hS (fun q z => by have := inQ_le z; show N0 ≤ q; omega) (fun H locs hMd hS hle hk => ?_)
  replace hSF := sfs_keepM hSF hle hk
  replace hO := out_keepM hO hk
  refine lv_icmp_eq (tgt := 1532) hx hb dL_law_568 (by decide) (fun _ => ?_) (fun z => absurd he z)
  refine W.widen (k := 17 + 4 * (j + 1)) (n := 5092 + 152 * (j + 1)) (by omega) (by omega) ?_
  exact hnext bs' r.2 o.2 fo _ _ ls hR2 ⟨hSF, hMd, hO⟩ hS (lv_sub hl [0, 1, 2, 3, 4] rfl)
def Sim_trace (R : CV → MV → Prop) : Prop := ∀ v mv, R v mv → ∀ (p0 : Int64), ∃ o : Int32 × MV, f_M_trace mv p0 = some o ∧ ((∃ r : Int32 × CV, f_F_trace v p0 = some r ∧ md_thrown o.2 = 0 ∧ r.1.toInt64 = o.1.toInt64 ∧ R r.2 o.2) ∨ (g_F_trace v p0 = some "java/lang/IllegalArgumentException" ∧ md_thrown o.2 = 1 ∧ R v o.2))
set_option maxHeartbeats 2000000 in
set_option maxRecDepth 100000 in
theorem lt_trace {p : Program} {l : Launch} {e : Env} {s : State} {m : MethodId} {below : List Frame} {meth : Method} {c : Code} {b L : Nat} {xs : Nat → Int32} {N0 : Nat} {dC : Nat → ClassId} {dI : Nat → Nat → Nat} {cL cI cO : ClassId} {R : CV → MV → Prop} {j : Nat} (C : LA p l s m meth c b L xs N0 dC dI cL cI cO) (hj : 11 * j + 11 ≤ L) (hnext : Nxt R p l e s m below meth c b N0 (dC, dI) cL cI cO j) (k : Int32) (o : Int32 × MV) (bs : Nat → Nat) (v : CV) (mv : MV) (fo : Nat → Int64) (H : Heap) (locs : List Loc) (ls : Array Slot) (hM : f_M_trace mv (wJ xs j 1 2) = some o) (hth : md_thrown o.2 = k) (hR : R v o.2) (hout : k = 0 → fo 0 = o.1.toInt64) (hLS : LSt (dC, dI) cL cI cO N0 bs v mv fo H) (hS : va_S (fun q => N0 ≤ q) s.heap H locs) (hl : lv_has ls 8 (lvL b N0 j)) : LW p l e s m below meth c b H locs (17 + 4 * j + 4) (5092 + 152 * j + 152) (F0 m 600 ls [.int k]) := by
  obtain ⟨⟨hx, hb, hr, hml, hown, hts, hX, hbl, hlocks, hgv⟩, hN, hK, hev, hl0, hL⟩ := C
  have hw : ∀ w ∈ wG, w.before #[Value.ref b] s = true := fun w h => hts w (wG_tbl w h)
  have hown : s.vm.findClass R_L = some m.cls := hown
  have hbA : ¬ (fun q : Nat => N0 ≤ q) b := fun z => by have z : N0 ≤ b := z; omega
  have hK2 := hK.sub (tys' := [(cL, .long), (cI, .int)]) [0, 1] rfl
  have hj512 : j < 512 := by omega
  obtain ⟨hSF, hMd, hO⟩ := hLS
  have hSs : va_S (fun q => N0 ≤ q) s.heap H locs := hS
  refine lv_istore (lv' := [(5, .int k), (0, .ref b), (1, .ref N0), (2, .ref (N0 + 2)), (3, .ref (N0 + 16)), (4, .int (nI (11 * j)))]) hx hb dL_law_600 hl (by decide) rfl (fun ls hl => ?_)
  refine lv_aload_n hx hb dL_law_602 rfl (lv_at hl 3 rfl) ?_
  refine lv_aload_n hx hb dL_law_603 rfl (lv_at hl 1 rfl) ?_
  refine lv_iload hx hb dL_law_604 (lv_at hl 5 rfl) ?_
  refine lv_iconst (v := 1) hx hb dL_law_606 (by decide) ?_
  refine lv_iadd hx hb dL_law_607 ?_
  refine va_sld hx hb hX hbl hbA hSs (w_in hL hj 1 (by decide)) dL_law_608 ?_
  refine lv_i2l hx hb dL_law_609 rfl ?_
  refine lv_bipush (v := 32) hx hb dL_law_610 (by decide) ?_
  refine lv_lshl hx hb dL_law_612 rfl ?_
  refine lv_aload_n hx hb dL_law_613 rfl (lv_at hl 1 rfl) ?_
  refine lv_iload hx hb dL_law_614 (lv_at hl 5 rfl) ?_
  refine lv_iconst (v := 2) hx hb dL_law_616 (by decide) ?_
  refine lv_iadd hx hb dL_law_617 ?_
  refine va_sld hx hb hX hbl hbA hSs (w_in hL hj 2 (by decide)) dL_law_618 ?_
  refine lv_i2l hx hb dL_law_619 rfl ?_
  refine lv_ldc2 (v := 4294967295) hx hb hown (hw _ w_688) dL_law_620 ?_
  refine lv_land hx hb dL_law_623 ?_
  refine lv_lor hx hb dL_law_624 ?_
  refine W.eq (g2 := F0 m 625 ls [.long (wJ xs j 1 2), .ref (N0 + 2)]) rfl ?_
  refine mu_call (va_runV (As := [.long (wJ xs j 1 2)]) (rest := []) ⟨hx, hb, hml, hown, hw⟩ (k_M_trace l dC dI cL cI (qM N0) mv (wJ xs j 1 2) o hM) (cwV 1 hw (gV w_524 w_525 w_526 w_2 w_527) rfl rfl rfl (by decide +kernel) ⟨Nat.le_of_ble_eq_true rfl, Nat.le_of_ble_eq_true rfl⟩) ⟨rd_blind, va_recv hK hMd (ci := 2) (q0 := 0) rfl rfl, rd_pre ⟨hMd, md_D0⟩ hK2⟩ rfl rfl hl.1 rfl (lv_room (Nat.le_of_ble_eq_true rfl)) dL_law_625 ⟨by show 17 + 4 * j + 4 + 0 ≤ 601024; omega, by show 5092 + 152 * j + 152 + 0 ≤ 7293034; omega⟩) hS (fun q z => by have := inQ_le z; show N0 ≤ q; omega) (fun H locs hMd hS hle hk => ?_)
  replace hSF := sfs_keepM hSF hle hk
  replace hO := out_keepM hO hk
  refine lv_istore (lv' := [(6, .int o.1), (5, .int k), (0, .ref b), (1, .ref N0), (2, .ref (N0 + 2)), (3, .ref (N0 + 16)), (4, .int (nI (11 * j)))]) hx hb dL_law_628 hl (by decide) rfl (fun ls hl => ?_)
  refine lv_aload_n hx hb dL_law_630 rfl (lv_at hl 4 rfl) ?_
  refine vp_callSi (va_Run.run (va_runV (As := []) (rest := []) ⟨hx, hb, hml, hown, hw⟩ (k_M_thrown l dC dI cL cI (qM N0) o.2 _ rfl) (cwV 0 hw (gV w_491 w_492 w_493 w_2 w_494) rfl rfl rfl (by decide +kernel) ⟨Nat.le_of_ble_eq_true rfl, Nat.le_of_ble_eq_true rfl⟩) ⟨rd_blind, va_recv hK hMd (ci := 2) (q0 := 0) rfl rfl, rd_pre hMd hK2⟩ rfl rfl hl.1 rfl (lv_room (Nat.le_of_ble_eq_true rfl)) dL_law_631 ⟨by show 17 + 4 * j + 4 + 0 ≤ 601024; omega, by show 5092 + 152 * j + 152 + 0 ≤ 7293034; omega⟩)) (fun z hz9 => ?_)
  rw [hz9, hth]; clear hz9
  refine lv_iload hx hb dL_law_634 (lv_at hl 1 rfl) ?_
  refine lv_icmp_eq (tgt := 641) hx hb dL_law_636 (by decide) (fun _ => ?_) (fun z => absurd rfl z)
  refine lv_iload hx hb dL_law_641 (lv_at hl 1 rfl) ?_
  refine lv_if_ne (tgt := 658) hx hb dL_law_643 (by decide) (fun _ => ?_) (fun c1 => ?_)
  · refine lv_goto (tgt := 1532) hx hb dL_law_658 (by decide) ?_
    refine W.widen (k := 17 + 4 * (j + 1)) (n := 5092 + 152 * (j + 1)) (by omega) (by omega) ?_
    exact hnext bs v o.2 fo _ _ ls hR ⟨hSF, hMd, hO⟩ hS (lv_sub hl [2, 3, 4, 5, 6] rfl)
  · refine lv_aload_n hx hb dL_law_646 rfl (lv_at hl 5 rfl) ?_
    refine lv_iconst (v := 0) hx hb dL_law_647 (by decide) ?_
    refine va_lald hx hb hK hO 0 0 rfl rfl in01 dL_law_648 ?_
    rw [show fo (0 : Int32).toNatClampNeg = o.1.toInt64 from hout c1]
    refine lv_iload hx hb dL_law_649 (lv_at hl 0 rfl) ?_
    refine lv_i2l hx hb dL_law_651 rfl ?_
    refine W.lcmp hx hb dL_law_652 ?_
    rw [lg_self]
    refine lv_if_eq (tgt := 658) hx hb dL_law_653 (by decide) (fun _ => ?_) (fun z => absurd rfl z)
    refine lv_goto (tgt := 1532) hx hb dL_law_658 (by decide) ?_
    refine W.widen (k := 17 + 4 * (j + 1)) (n := 5092 + 152 * (j + 1)) (by omega) (by omega) ?_
    exact hnext bs v o.2 fo _ _ ls hR ⟨hSF, hMd, hO⟩ hS (lv_sub hl [2, 3, 4, 5, 6] rfl)
set_option maxHeartbeats 2000000 in
set_option maxRecDepth 100000 in
theorem lh_trace {p : Program} {l : Launch} {e : Env} {s : State} {m : MethodId} {below : List Frame} {meth : Method} {c : Code} {b L : Nat} {xs : Nat → Int32} {N0 : Nat} {dC : Nat → ClassId} {dI : Nat → Nat → Nat} {cL cI cO : ClassId} {R : CV → MV → Prop} {j : Nat} (C : LA p l s m meth c b L xs N0 dC dI cL cI cO) (hj : 11 * j + 11 ≤ L) (hnext : Nxt R p l e s m below meth c b N0 (dC, dI) cL cI cO j) (hSim : Sim_trace R) (bs : Nat → Nat) (v : CV) (mv : MV) (fo : Nat → Int64) (H : Heap) (locs : List Loc) (ls : Array Slot) (hR : R v mv) (hLS : LSt (dC, dI) cL cI cO N0 bs v mv fo H) (hS : va_S (fun q => N0 ≤ q) s.heap H locs) (hl : lv_has ls 8 (lvL b N0 j)) : LW p l e s m below meth c b H locs (17 + 4 * j) (5092 + 152 * j) (F0 m 573 ls []) := by
  have C0 := C
  obtain ⟨⟨hx, hb, hr, hml, hown, hts, hX, hbl, hlocks, hgv⟩, hN, hK, hev, hl0, hL⟩ := C
  have hw : ∀ w ∈ wG, w.before #[Value.ref b] s = true := fun w h => hts w (wG_tbl w h)
  have hown : s.vm.findClass R_L = some m.cls := hown
  have hbA : ¬ (fun q : Nat => N0 ≤ q) b := fun z => by have z : N0 ≤ b := z; omega
  have hK2 := hK.sub (tys' := [(cL, .long), (cI, .int)]) [0, 1] rfl
  have hj512 : j < 512 := by omega
  have hSs : va_S (fun q => N0 ≤ q) s.heap H locs := hS
  refine lv_aload_n hx hb dL_law_573 rfl (lv_at hl 1 rfl) ?_
  refine lv_aload_n hx hb dL_law_574 rfl (lv_at hl 0 rfl) ?_
  refine lv_iload hx hb dL_law_575 (lv_at hl 4 rfl) ?_
  refine lv_iconst (v := 1) hx hb dL_law_577 (by decide) ?_
  refine lv_iadd hx hb dL_law_578 ?_
  refine va_sld hx hb hX hbl hbA hSs (w_in hL hj 1 (by decide)) dL_law_579 ?_
  refine lv_i2l hx hb dL_law_580 rfl ?_
  refine lv_bipush (v := 32) hx hb dL_law_581 (by decide) ?_
  refine lv_lshl hx hb dL_law_583 rfl ?_
  refine lv_aload_n hx hb dL_law_584 rfl (lv_at hl 0 rfl) ?_
  refine lv_iload hx hb dL_law_585 (lv_at hl 4 rfl) ?_
  refine lv_iconst (v := 2) hx hb dL_law_587 (by decide) ?_
  refine lv_iadd hx hb dL_law_588 ?_
  refine va_sld hx hb hX hbl hbA hSs (w_in hL hj 2 (by decide)) dL_law_589 ?_
  refine lv_i2l hx hb dL_law_590 rfl ?_
  refine lv_ldc2 (v := 4294967295) hx hb hown (hw _ w_688) dL_law_591 ?_
  refine lv_land hx hb dL_law_594 ?_
  refine lv_lor hx hb dL_law_595 ?_
  refine lv_aload_n hx hb dL_law_596 rfl (lv_at hl 3 rfl) ?_
  refine W.eq (g2 := F0 m 597 ls [.ref (N0 + 16), .long (wJ xs j 1 2), .ref N0]) rfl ?_
  obtain ⟨o, hM, hcase⟩ := hSim v mv hR (wJ xs j 1 2)
  obtain ⟨hSF, hMd, hO⟩ := hLS
  have hk0 : ∀ q : Nat, q < s.heap.size → ¬ N0 ≤ q → H[q]? = s.heap[q]? := hS.2.1
  rcases hcase with ⟨r, hF, hth, he, hR2⟩ | ⟨hF, hth, hR2⟩
  · refine al_call (vx_runSW (As := [.ref N0, .long (wJ xs j 1 2), .ref (N0 + 16)]) (rest := []) ⟨hx, hb, hml, hown, hw⟩ (kn_L_trace l N0 H.size dC dI cL cI cO bs v fo (wJ xs j 1 2) r hF) (vx_cwSW 3 hw (gSW w_186 w_187 w_0 wc_188) rfl rfl rfl (by decide +kernel) ⟨Nat.le_of_ble_eq_true rfl, Nat.le_of_ble_eq_true rfl⟩) ⟨hl_blind, hl_pre ⟨⟨hSF, rfl⟩, hO⟩ hK hev hk0⟩ rfl rfl hl.1 rfl (lv_room (Nat.le_of_ble_eq_true rfl)) dL_law_597 ⟨by show 17 + 4 * j + 4 ≤ 601024; omega, by show 5092 + 152 * j + 152 ≤ 7293034; omega⟩) hS (fun q z => by have z : (q = N0 ∨ q = N0 + 1 ∨ N0 + 17 ≤ q) ∨ q = N0 + 16 := z; show N0 ≤ q; omega) (fun H1 locs hG hS hle hk => ?_)
    obtain ⟨⟨bs', hSF⟩, hO⟩ := hG
    exact lt_trace C0 hj hnext 0 o bs' _ mv _ _ _ ls hM hth hR2 (fun _ => by show vp_updL fo 0 _ 0 = _; rw [show ∀ x : Int64, vp_updL fo 0 x 0 = x from fun x => by simp [vp_updL]]; exact he) ⟨hSF, md_keepL hMd hk, hO⟩ hS hl
  · refine al_call (vx_runSW (As := [.ref N0, .long (wJ xs j 1 2), .ref (N0 + 16)]) (rest := []) ⟨hx, hb, hml, hown, hw⟩ (kxIAE_L_trace l hl0 N0 H.size dC dI cL cI cO bs v fo (wJ xs j 1 2) hF) (vx_cwSW 3 hw (gSW w_186 w_187 w_0 wc_188) rfl rfl rfl (by decide +kernel) ⟨Nat.le_of_ble_eq_true rfl, Nat.le_of_ble_eq_true rfl⟩) ⟨hl_blind, hl_pre ⟨⟨hSF, rfl⟩, hO⟩ hK hev hk0⟩ rfl rfl hl.1 rfl (lv_room (Nat.le_of_ble_eq_true rfl)) dL_law_597 ⟨by show 17 + 4 * j + 4 ≤ 601024; omega, by show 5092 + 152 * j + 152 ≤ 7293034; omega⟩) hS (fun q z => by have z : (q = N0 ∨ q = N0 + 1 ∨ N0 + 17 ≤ q) ∨ q = N0 + 16 := z; show N0 ≤ q; omega) (fun H1 locs hG hS hle hk => ?_)
    obtain ⟨⟨bs', hSF⟩, hO⟩ := hG
    exact lt_trace C0 hj hnext 1 o bs' _ mv _ _ _ ls hM hth hR2 (fun z => absurd z (by decide)) ⟨hSF, md_keepL hMd hk, hO⟩ hS hl
def Sim_corner (R : CV → MV → Prop) : Prop := ∀ v mv, R v mv → ∀ (p0 : Int32) (p1 : Int64) (p2 : Int64), ∃ o : Int32 × MV, f_M_corner mv p0 p1 p2 = some o ∧ ((∃ r : Int32 × CV, f_F_corner v p0 p1 p2 = some r ∧ md_thrown o.2 = 0 ∧ bl r.1 = bl o.1 ∧ R r.2 o.2) ∨ (g_F_corner v p0 p1 p2 = some "java/lang/IndexOutOfBoundsException" ∧ md_thrown o.2 = 1 ∧ R v o.2) ∨ (g_F_corner v p0 p1 p2 = some "java/lang/IllegalStateException" ∧ md_thrown o.2 = 2 ∧ R v o.2) ∨ (g_F_corner v p0 p1 p2 = some "java/lang/IllegalArgumentException" ∧ md_thrown o.2 = 3 ∧ R v o.2))
set_option maxHeartbeats 2000000 in
set_option maxRecDepth 100000 in
theorem lt_corner {p : Program} {l : Launch} {e : Env} {s : State} {m : MethodId} {below : List Frame} {meth : Method} {c : Code} {b L : Nat} {xs : Nat → Int32} {N0 : Nat} {dC : Nat → ClassId} {dI : Nat → Nat → Nat} {cL cI cO : ClassId} {R : CV → MV → Prop} {j : Nat} (C : LA p l s m meth c b L xs N0 dC dI cL cI cO) (hj : 11 * j + 11 ≤ L) (hnext : Nxt R p l e s m below meth c b N0 (dC, dI) cL cI cO j) (k : Int32) (o : Int32 × MV) (bs : Nat → Nat) (v : CV) (mv : MV) (fo : Nat → Int64) (H : Heap) (locs : List Loc) (ls : Array Slot) (hM : f_M_corner mv (wI xs j 1) (wJ xs j 2 3) (wJ xs j 4 5) = some o) (hth : md_thrown o.2 = k) (hR : R v o.2) (hout : k = 0 → fo 0 = bl o.1) (hLS : LSt (dC, dI) cL cI cO N0 bs v mv fo H) (hS : va_S (fun q => N0 ≤ q) s.heap H locs) (hl : lv_has ls 8 (lvL b N0 j)) : LW p l e s m below meth c b H locs (17 + 4 * j + 4) (5092 + 152 * j + 152) (F0 m 716 ls [.int k]) := by
  obtain ⟨⟨hx, hb, hr, hml, hown, hts, hX, hbl, hlocks, hgv⟩, hN, hK, hev, hl0, hL⟩ := C
  have hw : ∀ w ∈ wG, w.before #[Value.ref b] s = true := fun w h => hts w (wG_tbl w h)
  have hown : s.vm.findClass R_L = some m.cls := hown
  have hbA : ¬ (fun q : Nat => N0 ≤ q) b := fun z => by have z : N0 ≤ b := z; omega
  have hK2 := hK.sub (tys' := [(cL, .long), (cI, .int)]) [0, 1] rfl
  have hj512 : j < 512 := by omega
  obtain ⟨hSF, hMd, hO⟩ := hLS
  have hSs : va_S (fun q => N0 ≤ q) s.heap H locs := hS
  refine lv_istore (lv' := [(5, .int k), (0, .ref b), (1, .ref N0), (2, .ref (N0 + 2)), (3, .ref (N0 + 16)), (4, .int (nI (11 * j)))]) hx hb dL_law_716 hl (by decide) rfl (fun ls hl => ?_)
  refine lv_aload_n hx hb dL_law_718 rfl (lv_at hl 3 rfl) ?_
  refine lv_aload_n hx hb dL_law_719 rfl (lv_at hl 1 rfl) ?_
  refine lv_iload hx hb dL_law_720 (lv_at hl 5 rfl) ?_
  refine lv_iconst (v := 1) hx hb dL_law_722 (by decide) ?_
  refine lv_iadd hx hb dL_law_723 ?_
  refine va_sld hx hb hX hbl hbA hSs (w_in hL hj 1 (by decide)) dL_law_724 ?_
  refine lv_aload_n hx hb dL_law_725 rfl (lv_at hl 1 rfl) ?_
  refine lv_iload hx hb dL_law_726 (lv_at hl 5 rfl) ?_
  refine lv_iconst (v := 2) hx hb dL_law_728 (by decide) ?_
  refine lv_iadd hx hb dL_law_729 ?_
  refine va_sld hx hb hX hbl hbA hSs (w_in hL hj 2 (by decide)) dL_law_730 ?_
  refine lv_i2l hx hb dL_law_731 rfl ?_
  refine lv_bipush (v := 32) hx hb dL_law_732 (by decide) ?_
  refine lv_lshl hx hb dL_law_734 rfl ?_
  refine lv_aload_n hx hb dL_law_735 rfl (lv_at hl 1 rfl) ?_
  refine lv_iload hx hb dL_law_736 (lv_at hl 5 rfl) ?_
  refine lv_iconst (v := 3) hx hb dL_law_738 (by decide) ?_
  refine lv_iadd hx hb dL_law_739 ?_
  refine va_sld hx hb hX hbl hbA hSs (w_in hL hj 3 (by decide)) dL_law_740 ?_
  refine lv_i2l hx hb dL_law_741 rfl ?_
  refine lv_ldc2 (v := 4294967295) hx hb hown (hw _ w_688) dL_law_742 ?_
  refine lv_land hx hb dL_law_745 ?_
  refine lv_lor hx hb dL_law_746 ?_
  refine lv_aload_n hx hb dL_law_747 rfl (lv_at hl 1 rfl) ?_
  refine lv_iload hx hb dL_law_748 (lv_at hl 5 rfl) ?_
  refine lv_iconst (v := 4) hx hb dL_law_750 (by decide) ?_
  refine lv_iadd hx hb dL_law_751 ?_
  refine va_sld hx hb hX hbl hbA hSs (w_in hL hj 4 (by decide)) dL_law_752 ?_
  refine lv_i2l hx hb dL_law_753 rfl ?_
  refine lv_bipush (v := 32) hx hb dL_law_754 (by decide) ?_
  refine lv_lshl hx hb dL_law_756 rfl ?_
  refine lv_aload_n hx hb dL_law_757 rfl (lv_at hl 1 rfl) ?_
  refine lv_iload hx hb dL_law_758 (lv_at hl 5 rfl) ?_
  refine lv_iconst (v := 5) hx hb dL_law_760 (by decide) ?_
  refine lv_iadd hx hb dL_law_761 ?_
  refine va_sld hx hb hX hbl hbA hSs (w_in hL hj 5 (by decide)) dL_law_762 ?_
  refine lv_i2l hx hb dL_law_763 rfl ?_
  refine lv_ldc2 (v := 4294967295) hx hb hown (hw _ w_688) dL_law_764 ?_
  refine lv_land hx hb dL_law_767 ?_
  refine lv_lor hx hb dL_law_768 ?_
  refine W.eq (g2 := F0 m 769 ls [.long (wJ xs j 4 5), .long (wJ xs j 2 3), .int (wI xs j 1), .ref (N0 + 2)]) rfl ?_
  refine mu_call (va_runV (As := [.int (wI xs j 1), .long (wJ xs j 2 3), .long (wJ xs j 4 5)]) (rest := []) ⟨hx, hb, hml, hown, hw⟩ (k_M_corner l dC dI cL cI (qM N0) mv (wI xs j 1) (wJ xs j 2 3) (wJ xs j 4 5) o hM) (cwV 3 hw (gV w_530 w_531 w_532 w_2 w_533) rfl rfl rfl (by decide +kernel) ⟨Nat.le_of_ble_eq_true rfl, Nat.le_of_ble_eq_true rfl⟩) ⟨rd_blind, va_recv hK hMd (ci := 2) (q0 := 0) rfl rfl, rd_pre ⟨hMd, md_D0⟩ hK2⟩ rfl rfl hl.1 rfl (lv_room (Nat.le_of_ble_eq_true rfl)) dL_law_769 ⟨by show 17 + 4 * j + 4 + 0 ≤ 601024; omega, by show 5092 + 152 * j + 152 + 0 ≤ 7293034; omega⟩) hS (fun q z => by have := inQ_le z; show N0 ≤ q; omega) (fun H locs hMd hS hle hk => ?_)
  replace hSF := sfs_keepM hSF hle hk
  replace hO := out_keepM hO hk
  refine lv_istore (lv' := [(6, .int o.1), (5, .int k), (0, .ref b), (1, .ref N0), (2, .ref (N0 + 2)), (3, .ref (N0 + 16)), (4, .int (nI (11 * j)))]) hx hb dL_law_772 hl (by decide) rfl (fun ls hl => ?_)
  refine lv_aload_n hx hb dL_law_774 rfl (lv_at hl 4 rfl) ?_
  refine vp_callSi (va_Run.run (va_runV (As := []) (rest := []) ⟨hx, hb, hml, hown, hw⟩ (k_M_thrown l dC dI cL cI (qM N0) o.2 _ rfl) (cwV 0 hw (gV w_491 w_492 w_493 w_2 w_494) rfl rfl rfl (by decide +kernel) ⟨Nat.le_of_ble_eq_true rfl, Nat.le_of_ble_eq_true rfl⟩) ⟨rd_blind, va_recv hK hMd (ci := 2) (q0 := 0) rfl rfl, rd_pre hMd hK2⟩ rfl rfl hl.1 rfl (lv_room (Nat.le_of_ble_eq_true rfl)) dL_law_775 ⟨by show 17 + 4 * j + 4 + 0 ≤ 601024; omega, by show 5092 + 152 * j + 152 + 0 ≤ 7293034; omega⟩)) (fun z hz9 => ?_)
  rw [hz9, hth]; clear hz9
  refine lv_iload hx hb dL_law_778 (lv_at hl 1 rfl) ?_
  refine lv_icmp_eq (tgt := 785) hx hb dL_law_780 (by decide) (fun _ => ?_) (fun z => absurd rfl z)
  refine lv_iload hx hb dL_law_785 (lv_at hl 1 rfl) ?_
  refine lv_if_ne (tgt := 809) hx hb dL_law_787 (by decide) (fun _ => ?_) (fun c1 => ?_)
  · refine lv_goto (tgt := 1532) hx hb dL_law_809 (by decide) ?_
    refine W.widen (k := 17 + 4 * (j + 1)) (n := 5092 + 152 * (j + 1)) (by omega) (by omega) ?_
    exact hnext bs v o.2 fo _ _ ls hR ⟨hSF, hMd, hO⟩ hS (lv_sub hl [2, 3, 4, 5, 6] rfl)
  · refine lv_aload_n hx hb dL_law_790 rfl (lv_at hl 5 rfl) ?_
    refine lv_iconst (v := 0) hx hb dL_law_791 (by decide) ?_
    refine va_lald hx hb hK hO 0 0 rfl rfl in01 dL_law_792 ?_
    rw [show fo (0 : Int32).toNatClampNeg = bl o.1 from hout c1]
    refine lv_iload hx hb dL_law_793 (lv_at hl 0 rfl) ?_
    refine lv_if_eq (tgt := 802) hx hb dL_law_795 (by decide) (fun c2 => ?_) (fun c2 => ?_)
    · rw [show bl o.1 = 0 from if_pos c2]
      refine lv_lconst (v := 0) hx hb dL_law_802 (by decide) ?_
      refine W.lcmp hx hb dL_law_803 ?_
      rw [lg_self]
      refine lv_if_eq (tgt := 809) hx hb dL_law_804 (by decide) (fun _ => ?_) (fun z => absurd rfl z)
      refine lv_goto (tgt := 1532) hx hb dL_law_809 (by decide) ?_
      refine W.widen (k := 17 + 4 * (j + 1)) (n := 5092 + 152 * (j + 1)) (by omega) (by omega) ?_
      exact hnext bs v o.2 fo _ _ ls hR ⟨hSF, hMd, hO⟩ hS (lv_sub hl [2, 3, 4, 5, 6] rfl)
    · rw [show bl o.1 = 1 from if_neg c2]
      refine lv_lconst (v := 1) hx hb dL_law_798 (by decide) ?_
      refine lv_goto (tgt := 803) hx hb dL_law_799 (by decide) ?_
      refine W.lcmp hx hb dL_law_803 ?_
      rw [lg_self]
      refine lv_if_eq (tgt := 809) hx hb dL_law_804 (by decide) (fun _ => ?_) (fun z => absurd rfl z)
      refine lv_goto (tgt := 1532) hx hb dL_law_809 (by decide) ?_
      refine W.widen (k := 17 + 4 * (j + 1)) (n := 5092 + 152 * (j + 1)) (by omega) (by omega) ?_
      exact hnext bs v o.2 fo _ _ ls hR ⟨hSF, hMd, hO⟩ hS (lv_sub hl [2, 3, 4, 5, 6] rfl)
set_option maxHeartbeats 2000000 in
set_option maxRecDepth 100000 in
theorem lh_corner {p : Program} {l : Launch} {e : Env} {s : State} {m : MethodId} {below : List Frame} {meth : Method} {c : Code} {b L : Nat} {xs : Nat → Int32} {N0 : Nat} {dC : Nat → ClassId} {dI : Nat → Nat → Nat} {cL cI cO : ClassId} {R : CV → MV → Prop} {j : Nat} (C : LA p l s m meth c b L xs N0 dC dI cL cI cO) (hj : 11 * j + 11 ≤ L) (hnext : Nxt R p l e s m below meth c b N0 (dC, dI) cL cI cO j) (hSim : Sim_corner R) (bs : Nat → Nat) (v : CV) (mv : MV) (fo : Nat → Int64) (H : Heap) (locs : List Loc) (ls : Array Slot) (hR : R v mv) (hLS : LSt (dC, dI) cL cI cO N0 bs v mv fo H) (hS : va_S (fun q => N0 ≤ q) s.heap H locs) (hl : lv_has ls 8 (lvL b N0 j)) : LW p l e s m below meth c b H locs (17 + 4 * j) (5092 + 152 * j) (F0 m 661 ls []) := by
  have C0 := C
  obtain ⟨⟨hx, hb, hr, hml, hown, hts, hX, hbl, hlocks, hgv⟩, hN, hK, hev, hl0, hL⟩ := C
  have hw : ∀ w ∈ wG, w.before #[Value.ref b] s = true := fun w h => hts w (wG_tbl w h)
  have hown : s.vm.findClass R_L = some m.cls := hown
  have hbA : ¬ (fun q : Nat => N0 ≤ q) b := fun z => by have z : N0 ≤ b := z; omega
  have hK2 := hK.sub (tys' := [(cL, .long), (cI, .int)]) [0, 1] rfl
  have hj512 : j < 512 := by omega
  have hSs : va_S (fun q => N0 ≤ q) s.heap H locs := hS
  refine lv_aload_n hx hb dL_law_661 rfl (lv_at hl 1 rfl) ?_
  refine lv_aload_n hx hb dL_law_662 rfl (lv_at hl 0 rfl) ?_
  refine lv_iload hx hb dL_law_663 (lv_at hl 4 rfl) ?_
  refine lv_iconst (v := 1) hx hb dL_law_665 (by decide) ?_
  refine lv_iadd hx hb dL_law_666 ?_
  refine va_sld hx hb hX hbl hbA hSs (w_in hL hj 1 (by decide)) dL_law_667 ?_
  refine lv_aload_n hx hb dL_law_668 rfl (lv_at hl 0 rfl) ?_
  refine lv_iload hx hb dL_law_669 (lv_at hl 4 rfl) ?_
  refine lv_iconst (v := 2) hx hb dL_law_671 (by decide) ?_
  refine lv_iadd hx hb dL_law_672 ?_
  refine va_sld hx hb hX hbl hbA hSs (w_in hL hj 2 (by decide)) dL_law_673 ?_
  refine lv_i2l hx hb dL_law_674 rfl ?_
  refine lv_bipush (v := 32) hx hb dL_law_675 (by decide) ?_
  refine lv_lshl hx hb dL_law_677 rfl ?_
  refine lv_aload_n hx hb dL_law_678 rfl (lv_at hl 0 rfl) ?_
  refine lv_iload hx hb dL_law_679 (lv_at hl 4 rfl) ?_
  refine lv_iconst (v := 3) hx hb dL_law_681 (by decide) ?_
  refine lv_iadd hx hb dL_law_682 ?_
  refine va_sld hx hb hX hbl hbA hSs (w_in hL hj 3 (by decide)) dL_law_683 ?_
  refine lv_i2l hx hb dL_law_684 rfl ?_
  refine lv_ldc2 (v := 4294967295) hx hb hown (hw _ w_688) dL_law_685 ?_
  refine lv_land hx hb dL_law_688 ?_
  refine lv_lor hx hb dL_law_689 ?_
  refine lv_aload_n hx hb dL_law_690 rfl (lv_at hl 0 rfl) ?_
  refine lv_iload hx hb dL_law_691 (lv_at hl 4 rfl) ?_
  refine lv_iconst (v := 4) hx hb dL_law_693 (by decide) ?_
  refine lv_iadd hx hb dL_law_694 ?_
  refine va_sld hx hb hX hbl hbA hSs (w_in hL hj 4 (by decide)) dL_law_695 ?_
  refine lv_i2l hx hb dL_law_696 rfl ?_
  refine lv_bipush (v := 32) hx hb dL_law_697 (by decide) ?_
  refine lv_lshl hx hb dL_law_699 rfl ?_
  refine lv_aload_n hx hb dL_law_700 rfl (lv_at hl 0 rfl) ?_
  refine lv_iload hx hb dL_law_701 (lv_at hl 4 rfl) ?_
  refine lv_iconst (v := 5) hx hb dL_law_703 (by decide) ?_
  refine lv_iadd hx hb dL_law_704 ?_
  refine va_sld hx hb hX hbl hbA hSs (w_in hL hj 5 (by decide)) dL_law_705 ?_
  refine lv_i2l hx hb dL_law_706 rfl ?_
  refine lv_ldc2 (v := 4294967295) hx hb hown (hw _ w_688) dL_law_707 ?_
  refine lv_land hx hb dL_law_710 ?_
  refine lv_lor hx hb dL_law_711 ?_
  refine lv_aload_n hx hb dL_law_712 rfl (lv_at hl 3 rfl) ?_
  refine W.eq (g2 := F0 m 713 ls [.ref (N0 + 16), .long (wJ xs j 4 5), .long (wJ xs j 2 3), .int (wI xs j 1), .ref N0]) rfl ?_
  obtain ⟨o, hM, hcase⟩ := hSim v mv hR (wI xs j 1) (wJ xs j 2 3) (wJ xs j 4 5)
  obtain ⟨hSF, hMd, hO⟩ := hLS
  have hk0 : ∀ q : Nat, q < s.heap.size → ¬ N0 ≤ q → H[q]? = s.heap[q]? := hS.2.1
  rcases hcase with ⟨r, hF, hth, he, hR2⟩ | ⟨hF, hth, hR2⟩ | ⟨hF, hth, hR2⟩ | ⟨hF, hth, hR2⟩
  · refine al_call (vx_runSW (As := [.ref N0, .int (wI xs j 1), .long (wJ xs j 2 3), .long (wJ xs j 4 5), .ref (N0 + 16)]) (rest := []) ⟨hx, hb, hml, hown, hw⟩ (kn_L_corner l N0 H.size dC dI cL cI cO bs v fo (wI xs j 1) (wJ xs j 2 3) (wJ xs j 4 5) r hF) (vx_cwSW 5 hw (gSW w_195 w_196 w_0 wc_197) rfl rfl rfl (by decide +kernel) ⟨Nat.le_of_ble_eq_true rfl, Nat.le_of_ble_eq_true rfl⟩) ⟨hl_blind, hl_pre ⟨⟨hSF, rfl⟩, hO⟩ hK hev hk0⟩ rfl rfl hl.1 rfl (lv_room (Nat.le_of_ble_eq_true rfl)) dL_law_713 ⟨by show 17 + 4 * j + 4 ≤ 601024; omega, by show 5092 + 152 * j + 152 ≤ 7293034; omega⟩) hS (fun q z => by have z : (q = N0 ∨ q = N0 + 1 ∨ N0 + 17 ≤ q) ∨ q = N0 + 16 := z; show N0 ≤ q; omega) (fun H1 locs hG hS hle hk => ?_)
    obtain ⟨⟨bs', hSF⟩, hO⟩ := hG
    exact lt_corner C0 hj hnext 0 o bs' _ mv _ _ _ ls hM hth hR2 (fun _ => by show vp_updL fo 0 _ 0 = _; rw [show ∀ x : Int64, vp_updL fo 0 x 0 = x from fun x => by simp [vp_updL]]; exact he) ⟨hSF, md_keepL hMd hk, hO⟩ hS hl
  · refine al_call (vx_runSW (As := [.ref N0, .int (wI xs j 1), .long (wJ xs j 2 3), .long (wJ xs j 4 5), .ref (N0 + 16)]) (rest := []) ⟨hx, hb, hml, hown, hw⟩ (kxIOB_L_corner l hl0 N0 H.size dC dI cL cI cO bs v fo (wI xs j 1) (wJ xs j 2 3) (wJ xs j 4 5) hF) (vx_cwSW 5 hw (gSW w_195 w_196 w_0 wc_197) rfl rfl rfl (by decide +kernel) ⟨Nat.le_of_ble_eq_true rfl, Nat.le_of_ble_eq_true rfl⟩) ⟨hl_blind, hl_pre ⟨⟨hSF, rfl⟩, hO⟩ hK hev hk0⟩ rfl rfl hl.1 rfl (lv_room (Nat.le_of_ble_eq_true rfl)) dL_law_713 ⟨by show 17 + 4 * j + 4 ≤ 601024; omega, by show 5092 + 152 * j + 152 ≤ 7293034; omega⟩) hS (fun q z => by have z : (q = N0 ∨ q = N0 + 1 ∨ N0 + 17 ≤ q) ∨ q = N0 + 16 := z; show N0 ≤ q; omega) (fun H1 locs hG hS hle hk => ?_)
    obtain ⟨⟨bs', hSF⟩, hO⟩ := hG
    exact lt_corner C0 hj hnext 1 o bs' _ mv _ _ _ ls hM hth hR2 (fun z => absurd z (by decide)) ⟨hSF, md_keepL hMd hk, hO⟩ hS hl
  · refine al_call (vx_runSW (As := [.ref N0, .int (wI xs j 1), .long (wJ xs j 2 3), .long (wJ xs j 4 5), .ref (N0 + 16)]) (rest := []) ⟨hx, hb, hml, hown, hw⟩ (kxISE_L_corner l hl0 N0 H.size dC dI cL cI cO bs v fo (wI xs j 1) (wJ xs j 2 3) (wJ xs j 4 5) hF) (vx_cwSW 5 hw (gSW w_195 w_196 w_0 wc_197) rfl rfl rfl (by decide +kernel) ⟨Nat.le_of_ble_eq_true rfl, Nat.le_of_ble_eq_true rfl⟩) ⟨hl_blind, hl_pre ⟨⟨hSF, rfl⟩, hO⟩ hK hev hk0⟩ rfl rfl hl.1 rfl (lv_room (Nat.le_of_ble_eq_true rfl)) dL_law_713 ⟨by show 17 + 4 * j + 4 ≤ 601024; omega, by show 5092 + 152 * j + 152 ≤ 7293034; omega⟩) hS (fun q z => by have z : (q = N0 ∨ q = N0 + 1 ∨ N0 + 17 ≤ q) ∨ q = N0 + 16 := z; show N0 ≤ q; omega) (fun H1 locs hG hS hle hk => ?_)
    obtain ⟨⟨bs', hSF⟩, hO⟩ := hG
    exact lt_corner C0 hj hnext 2 o bs' _ mv _ _ _ ls hM hth hR2 (fun z => absurd z (by decide)) ⟨hSF, md_keepL hMd hk, hO⟩ hS hl
  · refine al_call (vx_runSW (As := [.ref N0, .int (wI xs j 1), .long (wJ xs j 2 3), .long (wJ xs j 4 5), .ref (N0 + 16)]) (rest := []) ⟨hx, hb, hml, hown, hw⟩ (kxIAE_L_corner l hl0 N0 H.size dC dI cL cI cO bs v fo (wI xs j 1) (wJ xs j 2 3) (wJ xs j 4 5) hF) (vx_cwSW 5 hw (gSW w_195 w_196 w_0 wc_197) rfl rfl rfl (by decide +kernel) ⟨Nat.le_of_ble_eq_true rfl, Nat.le_of_ble_eq_true rfl⟩) ⟨hl_blind, hl_pre ⟨⟨hSF, rfl⟩, hO⟩ hK hev hk0⟩ rfl rfl hl.1 rfl (lv_room (Nat.le_of_ble_eq_true rfl)) dL_law_713 ⟨by show 17 + 4 * j + 4 ≤ 601024; omega, by show 5092 + 152 * j + 152 ≤ 7293034; omega⟩) hS (fun q z => by have z : (q = N0 ∨ q = N0 + 1 ∨ N0 + 17 ≤ q) ∨ q = N0 + 16 := z; show N0 ≤ q; omega) (fun H1 locs hG hS hle hk => ?_)
    obtain ⟨⟨bs', hSF⟩, hO⟩ := hG
    exact lt_corner C0 hj hnext 3 o bs' _ mv _ _ _ ls hM hth hR2 (fun z => absurd z (by decide)) ⟨hSF, md_keepL hMd hk, hO⟩ hS hl
def Sim_ring (R : CV → MV → Prop) : Prop := ∀ v mv, R v mv → ∀ (p0 : Int32), ∃ o : Int32 × MV, f_M_ring mv p0 = some o ∧ ((∃ r : Int32 × CV, f_F_ring v p0 = some r ∧ md_thrown o.2 = 0 ∧ bl r.1 = bl o.1 ∧ R r.2 o.2) ∨ (g_F_ring v p0 = some "java/lang/IndexOutOfBoundsException" ∧ md_thrown o.2 = 1 ∧ R v o.2) ∨ (g_F_ring v p0 = some "java/lang/IllegalStateException" ∧ md_thrown o.2 = 2 ∧ R v o.2))
set_option maxHeartbeats 2000000 in
set_option maxRecDepth 100000 in
theorem lt_ring {p : Program} {l : Launch} {e : Env} {s : State} {m : MethodId} {below : List Frame} {meth : Method} {c : Code} {b L : Nat} {xs : Nat → Int32} {N0 : Nat} {dC : Nat → ClassId} {dI : Nat → Nat → Nat} {cL cI cO : ClassId} {R : CV → MV → Prop} {j : Nat} (C : LA p l s m meth c b L xs N0 dC dI cL cI cO) (hj : 11 * j + 11 ≤ L) (hnext : Nxt R p l e s m below meth c b N0 (dC, dI) cL cI cO j) (k : Int32) (o : Int32 × MV) (bs : Nat → Nat) (v : CV) (mv : MV) (fo : Nat → Int64) (H : Heap) (locs : List Loc) (ls : Array Slot) (hM : f_M_ring mv (wI xs j 1) = some o) (hth : md_thrown o.2 = k) (hR : R v o.2) (hout : k = 0 → fo 0 = bl o.1) (hLS : LSt (dC, dI) cL cI cO N0 bs v mv fo H) (hS : va_S (fun q => N0 ≤ q) s.heap H locs) (hl : lv_has ls 8 (lvL b N0 j)) : LW p l e s m below meth c b H locs (17 + 4 * j + 4) (5092 + 152 * j + 152) (F0 m 823 ls [.int k]) := by
  obtain ⟨⟨hx, hb, hr, hml, hown, hts, hX, hbl, hlocks, hgv⟩, hN, hK, hev, hl0, hL⟩ := C
  have hw : ∀ w ∈ wG, w.before #[Value.ref b] s = true := fun w h => hts w (wG_tbl w h)
  have hown : s.vm.findClass R_L = some m.cls := hown
  have hbA : ¬ (fun q : Nat => N0 ≤ q) b := fun z => by have z : N0 ≤ b := z; omega
  have hK2 := hK.sub (tys' := [(cL, .long), (cI, .int)]) [0, 1] rfl
  have hj512 : j < 512 := by omega
  obtain ⟨hSF, hMd, hO⟩ := hLS
  have hSs : va_S (fun q => N0 ≤ q) s.heap H locs := hS
  refine lv_istore (lv' := [(5, .int k), (0, .ref b), (1, .ref N0), (2, .ref (N0 + 2)), (3, .ref (N0 + 16)), (4, .int (nI (11 * j)))]) hx hb dL_law_823 hl (by decide) rfl (fun ls hl => ?_)
  refine lv_aload_n hx hb dL_law_825 rfl (lv_at hl 3 rfl) ?_
  refine lv_aload_n hx hb dL_law_826 rfl (lv_at hl 1 rfl) ?_
  refine lv_iload hx hb dL_law_827 (lv_at hl 5 rfl) ?_
  refine lv_iconst (v := 1) hx hb dL_law_829 (by decide) ?_
  refine lv_iadd hx hb dL_law_830 ?_
  refine va_sld hx hb hX hbl hbA hSs (w_in hL hj 1 (by decide)) dL_law_831 ?_
  refine W.eq (g2 := F0 m 832 ls [.int (wI xs j 1), .ref (N0 + 2)]) rfl ?_
  refine mu_call (va_runV (As := [.int (wI xs j 1)]) (rest := []) ⟨hx, hb, hml, hown, hw⟩ (k_M_ring l dC dI cL cI (qM N0) mv (wI xs j 1) o hM) (cwV 1 hw (gV w_542 w_543 w_544 w_2 w_545) rfl rfl rfl (by decide +kernel) ⟨Nat.le_of_ble_eq_true rfl, Nat.le_of_ble_eq_true rfl⟩) ⟨rd_blind, va_recv hK hMd (ci := 2) (q0 := 0) rfl rfl, rd_pre ⟨hMd, md_D0⟩ hK2⟩ rfl rfl hl.1 rfl (lv_room (Nat.le_of_ble_eq_true rfl)) dL_law_832 ⟨by show 17 + 4 * j + 4 + 0 ≤ 601024; omega, by show 5092 + 152 * j + 152 + 0 ≤ 7293034; omega⟩) hS (fun q z => by have := inQ_le z; show N0 ≤ q; omega) (fun H locs hMd hS hle hk => ?_)
  replace hSF := sfs_keepM hSF hle hk
  replace hO := out_keepM hO hk
  refine lv_istore (lv' := [(6, .int o.1), (5, .int k), (0, .ref b), (1, .ref N0), (2, .ref (N0 + 2)), (3, .ref (N0 + 16)), (4, .int (nI (11 * j)))]) hx hb dL_law_835 hl (by decide) rfl (fun ls hl => ?_)
  refine lv_aload_n hx hb dL_law_837 rfl (lv_at hl 4 rfl) ?_
  refine vp_callSi (va_Run.run (va_runV (As := []) (rest := []) ⟨hx, hb, hml, hown, hw⟩ (k_M_thrown l dC dI cL cI (qM N0) o.2 _ rfl) (cwV 0 hw (gV w_491 w_492 w_493 w_2 w_494) rfl rfl rfl (by decide +kernel) ⟨Nat.le_of_ble_eq_true rfl, Nat.le_of_ble_eq_true rfl⟩) ⟨rd_blind, va_recv hK hMd (ci := 2) (q0 := 0) rfl rfl, rd_pre hMd hK2⟩ rfl rfl hl.1 rfl (lv_room (Nat.le_of_ble_eq_true rfl)) dL_law_838 ⟨by show 17 + 4 * j + 4 + 0 ≤ 601024; omega, by show 5092 + 152 * j + 152 + 0 ≤ 7293034; omega⟩)) (fun z hz9 => ?_)
  rw [hz9, hth]; clear hz9
  refine lv_iload hx hb dL_law_841 (lv_at hl 1 rfl) ?_
  refine lv_icmp_eq (tgt := 848) hx hb dL_law_843 (by decide) (fun _ => ?_) (fun z => absurd rfl z)
  refine lv_iload hx hb dL_law_848 (lv_at hl 1 rfl) ?_
  refine lv_if_ne (tgt := 872) hx hb dL_law_850 (by decide) (fun _ => ?_) (fun c1 => ?_)
  · refine lv_goto (tgt := 1532) hx hb dL_law_872 (by decide) ?_
    refine W.widen (k := 17 + 4 * (j + 1)) (n := 5092 + 152 * (j + 1)) (by omega) (by omega) ?_
    exact hnext bs v o.2 fo _ _ ls hR ⟨hSF, hMd, hO⟩ hS (lv_sub hl [2, 3, 4, 5, 6] rfl)
  · refine lv_aload_n hx hb dL_law_853 rfl (lv_at hl 5 rfl) ?_
    refine lv_iconst (v := 0) hx hb dL_law_854 (by decide) ?_
    refine va_lald hx hb hK hO 0 0 rfl rfl in01 dL_law_855 ?_
    rw [show fo (0 : Int32).toNatClampNeg = bl o.1 from hout c1]
    refine lv_iload hx hb dL_law_856 (lv_at hl 0 rfl) ?_
    refine lv_if_eq (tgt := 865) hx hb dL_law_858 (by decide) (fun c2 => ?_) (fun c2 => ?_)
    · rw [show bl o.1 = 0 from if_pos c2]
      refine lv_lconst (v := 0) hx hb dL_law_865 (by decide) ?_
      refine W.lcmp hx hb dL_law_866 ?_
      rw [lg_self]
      refine lv_if_eq (tgt := 872) hx hb dL_law_867 (by decide) (fun _ => ?_) (fun z => absurd rfl z)
      refine lv_goto (tgt := 1532) hx hb dL_law_872 (by decide) ?_
      refine W.widen (k := 17 + 4 * (j + 1)) (n := 5092 + 152 * (j + 1)) (by omega) (by omega) ?_
      exact hnext bs v o.2 fo _ _ ls hR ⟨hSF, hMd, hO⟩ hS (lv_sub hl [2, 3, 4, 5, 6] rfl)
    · rw [show bl o.1 = 1 from if_neg c2]
      refine lv_lconst (v := 1) hx hb dL_law_861 (by decide) ?_
      refine lv_goto (tgt := 866) hx hb dL_law_862 (by decide) ?_
      refine W.lcmp hx hb dL_law_866 ?_
      rw [lg_self]
      refine lv_if_eq (tgt := 872) hx hb dL_law_867 (by decide) (fun _ => ?_) (fun z => absurd rfl z)
      refine lv_goto (tgt := 1532) hx hb dL_law_872 (by decide) ?_
      refine W.widen (k := 17 + 4 * (j + 1)) (n := 5092 + 152 * (j + 1)) (by omega) (by omega) ?_
      exact hnext bs v o.2 fo _ _ ls hR ⟨hSF, hMd, hO⟩ hS (lv_sub hl [2, 3, 4, 5, 6] rfl)
set_option maxHeartbeats 2000000 in
set_option maxRecDepth 100000 in
theorem lh_ring {p : Program} {l : Launch} {e : Env} {s : State} {m : MethodId} {below : List Frame} {meth : Method} {c : Code} {b L : Nat} {xs : Nat → Int32} {N0 : Nat} {dC : Nat → ClassId} {dI : Nat → Nat → Nat} {cL cI cO : ClassId} {R : CV → MV → Prop} {j : Nat} (C : LA p l s m meth c b L xs N0 dC dI cL cI cO) (hj : 11 * j + 11 ≤ L) (hnext : Nxt R p l e s m below meth c b N0 (dC, dI) cL cI cO j) (hSim : Sim_ring R) (bs : Nat → Nat) (v : CV) (mv : MV) (fo : Nat → Int64) (H : Heap) (locs : List Loc) (ls : Array Slot) (hR : R v mv) (hLS : LSt (dC, dI) cL cI cO N0 bs v mv fo H) (hS : va_S (fun q => N0 ≤ q) s.heap H locs) (hl : lv_has ls 8 (lvL b N0 j)) : LW p l e s m below meth c b H locs (17 + 4 * j) (5092 + 152 * j) (F0 m 812 ls []) := by
  have C0 := C
  obtain ⟨⟨hx, hb, hr, hml, hown, hts, hX, hbl, hlocks, hgv⟩, hN, hK, hev, hl0, hL⟩ := C
  have hw : ∀ w ∈ wG, w.before #[Value.ref b] s = true := fun w h => hts w (wG_tbl w h)
  have hown : s.vm.findClass R_L = some m.cls := hown
  have hbA : ¬ (fun q : Nat => N0 ≤ q) b := fun z => by have z : N0 ≤ b := z; omega
  have hK2 := hK.sub (tys' := [(cL, .long), (cI, .int)]) [0, 1] rfl
  have hj512 : j < 512 := by omega
  have hSs : va_S (fun q => N0 ≤ q) s.heap H locs := hS
  refine lv_aload_n hx hb dL_law_812 rfl (lv_at hl 1 rfl) ?_
  refine lv_aload_n hx hb dL_law_813 rfl (lv_at hl 0 rfl) ?_
  refine lv_iload hx hb dL_law_814 (lv_at hl 4 rfl) ?_
  refine lv_iconst (v := 1) hx hb dL_law_816 (by decide) ?_
  refine lv_iadd hx hb dL_law_817 ?_
  refine va_sld hx hb hX hbl hbA hSs (w_in hL hj 1 (by decide)) dL_law_818 ?_
  refine lv_aload_n hx hb dL_law_819 rfl (lv_at hl 3 rfl) ?_
  refine W.eq (g2 := F0 m 820 ls [.ref (N0 + 16), .int (wI xs j 1), .ref N0]) rfl ?_
  obtain ⟨o, hM, hcase⟩ := hSim v mv hR (wI xs j 1)
  obtain ⟨hSF, hMd, hO⟩ := hLS
  have hk0 : ∀ q : Nat, q < s.heap.size → ¬ N0 ≤ q → H[q]? = s.heap[q]? := hS.2.1
  rcases hcase with ⟨r, hF, hth, he, hR2⟩ | ⟨hF, hth, hR2⟩ | ⟨hF, hth, hR2⟩
  · refine al_call (vx_runSW (As := [.ref N0, .int (wI xs j 1), .ref (N0 + 16)]) (rest := []) ⟨hx, hb, hml, hown, hw⟩ (kn_L_ring l N0 H.size dC dI cL cI cO bs v fo (wI xs j 1) r hF) (vx_cwSW 3 hw (gSW w_244 w_245 w_0 wc_246) rfl rfl rfl (by decide +kernel) ⟨Nat.le_of_ble_eq_true rfl, Nat.le_of_ble_eq_true rfl⟩) ⟨hl_blind, hl_pre ⟨⟨hSF, rfl⟩, hO⟩ hK hev hk0⟩ rfl rfl hl.1 rfl (lv_room (Nat.le_of_ble_eq_true rfl)) dL_law_820 ⟨by show 17 + 4 * j + 4 ≤ 601024; omega, by show 5092 + 152 * j + 152 ≤ 7293034; omega⟩) hS (fun q z => by have z : (q = N0 ∨ q = N0 + 1 ∨ N0 + 17 ≤ q) ∨ q = N0 + 16 := z; show N0 ≤ q; omega) (fun H1 locs hG hS hle hk => ?_)
    obtain ⟨⟨bs', hSF⟩, hO⟩ := hG
    exact lt_ring C0 hj hnext 0 o bs' _ mv _ _ _ ls hM hth hR2 (fun _ => by show vp_updL fo 0 _ 0 = _; rw [show ∀ x : Int64, vp_updL fo 0 x 0 = x from fun x => by simp [vp_updL]]; exact he) ⟨hSF, md_keepL hMd hk, hO⟩ hS hl
  · refine al_call (vx_runSW (As := [.ref N0, .int (wI xs j 1), .ref (N0 + 16)]) (rest := []) ⟨hx, hb, hml, hown, hw⟩ (kxIOB_L_ring l hl0 N0 H.size dC dI cL cI cO bs v fo (wI xs j 1) hF) (vx_cwSW 3 hw (gSW w_244 w_245 w_0 wc_246) rfl rfl rfl (by decide +kernel) ⟨Nat.le_of_ble_eq_true rfl, Nat.le_of_ble_eq_true rfl⟩) ⟨hl_blind, hl_pre ⟨⟨hSF, rfl⟩, hO⟩ hK hev hk0⟩ rfl rfl hl.1 rfl (lv_room (Nat.le_of_ble_eq_true rfl)) dL_law_820 ⟨by show 17 + 4 * j + 4 ≤ 601024; omega, by show 5092 + 152 * j + 152 ≤ 7293034; omega⟩) hS (fun q z => by have z : (q = N0 ∨ q = N0 + 1 ∨ N0 + 17 ≤ q) ∨ q = N0 + 16 := z; show N0 ≤ q; omega) (fun H1 locs hG hS hle hk => ?_)
    obtain ⟨⟨bs', hSF⟩, hO⟩ := hG
    exact lt_ring C0 hj hnext 1 o bs' _ mv _ _ _ ls hM hth hR2 (fun z => absurd z (by decide)) ⟨hSF, md_keepL hMd hk, hO⟩ hS hl
  · refine al_call (vx_runSW (As := [.ref N0, .int (wI xs j 1), .ref (N0 + 16)]) (rest := []) ⟨hx, hb, hml, hown, hw⟩ (kxISE_L_ring l hl0 N0 H.size dC dI cL cI cO bs v fo (wI xs j 1) hF) (vx_cwSW 3 hw (gSW w_244 w_245 w_0 wc_246) rfl rfl rfl (by decide +kernel) ⟨Nat.le_of_ble_eq_true rfl, Nat.le_of_ble_eq_true rfl⟩) ⟨hl_blind, hl_pre ⟨⟨hSF, rfl⟩, hO⟩ hK hev hk0⟩ rfl rfl hl.1 rfl (lv_room (Nat.le_of_ble_eq_true rfl)) dL_law_820 ⟨by show 17 + 4 * j + 4 ≤ 601024; omega, by show 5092 + 152 * j + 152 ≤ 7293034; omega⟩) hS (fun q z => by have z : (q = N0 ∨ q = N0 + 1 ∨ N0 + 17 ≤ q) ∨ q = N0 + 16 := z; show N0 ≤ q; omega) (fun H1 locs hG hS hle hk => ?_)
    obtain ⟨⟨bs', hSF⟩, hO⟩ := hG
    exact lt_ring C0 hj hnext 2 o bs' _ mv _ _ _ ls hM hth hR2 (fun z => absurd z (by decide)) ⟨hSF, md_keepL hMd hk, hO⟩ hS hl
def Sim_grow (R : CV → MV → Prop) : Prop := ∀ v mv, R v mv → ∀ (p0 : Int32) (p1 : Int64), ∃ o : Int32 × MV, f_M_grow mv p0 p1 = some o ∧ ((∃ r : Int32 × CV, f_F_grow v p0 p1 = some r ∧ md_thrown o.2 = 0 ∧ r.1.toInt64 = o.1.toInt64 ∧ R r.2 o.2) ∨ (g_F_grow v p0 p1 = some "java/lang/IndexOutOfBoundsException" ∧ md_thrown o.2 = 1 ∧ R v o.2) ∨ (g_F_grow v p0 p1 = some "java/lang/IllegalStateException" ∧ md_thrown o.2 = 2 ∧ R v o.2) ∨ (g_F_grow v p0 p1 = some "java/lang/IllegalArgumentException" ∧ md_thrown o.2 = 3 ∧ R v o.2))
set_option maxHeartbeats 2000000 in
set_option maxRecDepth 100000 in
theorem lt_grow {p : Program} {l : Launch} {e : Env} {s : State} {m : MethodId} {below : List Frame} {meth : Method} {c : Code} {b L : Nat} {xs : Nat → Int32} {N0 : Nat} {dC : Nat → ClassId} {dI : Nat → Nat → Nat} {cL cI cO : ClassId} {R : CV → MV → Prop} {j : Nat} (C : LA p l s m meth c b L xs N0 dC dI cL cI cO) (hj : 11 * j + 11 ≤ L) (hnext : Nxt R p l e s m below meth c b N0 (dC, dI) cL cI cO j) (k : Int32) (o : Int32 × MV) (bs : Nat → Nat) (v : CV) (mv : MV) (fo : Nat → Int64) (H : Heap) (locs : List Loc) (ls : Array Slot) (hM : f_M_grow mv (wI xs j 1) (wJ xs j 2 3) = some o) (hth : md_thrown o.2 = k) (hR : R v o.2) (hout : k = 0 → fo 0 = o.1.toInt64) (hLS : LSt (dC, dI) cL cI cO N0 bs v mv fo H) (hS : va_S (fun q => N0 ≤ q) s.heap H locs) (hl : lv_has ls 8 (lvL b N0 j)) : LW p l e s m below meth c b H locs (17 + 4 * j + 4) (5092 + 152 * j + 152) (F0 m 908 ls [.int k]) := by
  obtain ⟨⟨hx, hb, hr, hml, hown, hts, hX, hbl, hlocks, hgv⟩, hN, hK, hev, hl0, hL⟩ := C
  have hw : ∀ w ∈ wG, w.before #[Value.ref b] s = true := fun w h => hts w (wG_tbl w h)
  have hown : s.vm.findClass R_L = some m.cls := hown
  have hbA : ¬ (fun q : Nat => N0 ≤ q) b := fun z => by have z : N0 ≤ b := z; omega
  have hK2 := hK.sub (tys' := [(cL, .long), (cI, .int)]) [0, 1] rfl
  have hj512 : j < 512 := by omega
  obtain ⟨hSF, hMd, hO⟩ := hLS
  have hSs : va_S (fun q => N0 ≤ q) s.heap H locs := hS
  refine lv_istore (lv' := [(5, .int k), (0, .ref b), (1, .ref N0), (2, .ref (N0 + 2)), (3, .ref (N0 + 16)), (4, .int (nI (11 * j)))]) hx hb dL_law_908 hl (by decide) rfl (fun ls hl => ?_)
  refine lv_aload_n hx hb dL_law_910 rfl (lv_at hl 3 rfl) ?_
  refine lv_aload_n hx hb dL_law_911 rfl (lv_at hl 1 rfl) ?_
  refine lv_iload hx hb dL_law_912 (lv_at hl 5 rfl) ?_
  refine lv_iconst (v := 1) hx hb dL_law_914 (by decide) ?_
  refine lv_iadd hx hb dL_law_915 ?_
  refine va_sld hx hb hX hbl hbA hSs (w_in hL hj 1 (by decide)) dL_law_916 ?_
  refine lv_aload_n hx hb dL_law_917 rfl (lv_at hl 1 rfl) ?_
  refine lv_iload hx hb dL_law_918 (lv_at hl 5 rfl) ?_
  refine lv_iconst (v := 2) hx hb dL_law_920 (by decide) ?_
  refine lv_iadd hx hb dL_law_921 ?_
  refine va_sld hx hb hX hbl hbA hSs (w_in hL hj 2 (by decide)) dL_law_922 ?_
  refine lv_i2l hx hb dL_law_923 rfl ?_
  refine lv_bipush (v := 32) hx hb dL_law_924 (by decide) ?_
  refine lv_lshl hx hb dL_law_926 rfl ?_
  refine lv_aload_n hx hb dL_law_927 rfl (lv_at hl 1 rfl) ?_
  refine lv_iload hx hb dL_law_928 (lv_at hl 5 rfl) ?_
  refine lv_iconst (v := 3) hx hb dL_law_930 (by decide) ?_
  refine lv_iadd hx hb dL_law_931 ?_
  refine va_sld hx hb hX hbl hbA hSs (w_in hL hj 3 (by decide)) dL_law_932 ?_
  refine lv_i2l hx hb dL_law_933 rfl ?_
  refine lv_ldc2 (v := 4294967295) hx hb hown (hw _ w_688) dL_law_934 ?_
  refine lv_land hx hb dL_law_937 ?_
  refine lv_lor hx hb dL_law_938 ?_
  refine W.eq (g2 := F0 m 939 ls [.long (wJ xs j 2 3), .int (wI xs j 1), .ref (N0 + 2)]) rfl ?_
  refine mu_call (va_runV (As := [.int (wI xs j 1), .long (wJ xs j 2 3)]) (rest := []) ⟨hx, hb, hml, hown, hw⟩ (k_M_grow l dC dI cL cI (qM N0) mv (wI xs j 1) (wJ xs j 2 3) o hM) (cwV 2 hw (gV w_644 w_645 w_646 w_2 w_647) rfl rfl rfl (by decide +kernel) ⟨Nat.le_of_ble_eq_true rfl, Nat.le_of_ble_eq_true rfl⟩) ⟨rd_blind, va_recv hK hMd (ci := 2) (q0 := 0) rfl rfl, rd_pre ⟨hMd, md_D0⟩ hK2⟩ rfl rfl hl.1 rfl (lv_room (Nat.le_of_ble_eq_true rfl)) dL_law_939 ⟨by show 17 + 4 * j + 4 + 0 ≤ 601024; omega, by show 5092 + 152 * j + 152 + 0 ≤ 7293034; omega⟩) hS (fun q z => by have := inQ_le z; show N0 ≤ q; omega) (fun H locs hMd hS hle hk => ?_)
  replace hSF := sfs_keepM hSF hle hk
  replace hO := out_keepM hO hk
  refine lv_istore (lv' := [(6, .int o.1), (5, .int k), (0, .ref b), (1, .ref N0), (2, .ref (N0 + 2)), (3, .ref (N0 + 16)), (4, .int (nI (11 * j)))]) hx hb dL_law_942 hl (by decide) rfl (fun ls hl => ?_)
  refine lv_aload_n hx hb dL_law_944 rfl (lv_at hl 4 rfl) ?_
  refine vp_callSi (va_Run.run (va_runV (As := []) (rest := []) ⟨hx, hb, hml, hown, hw⟩ (k_M_thrown l dC dI cL cI (qM N0) o.2 _ rfl) (cwV 0 hw (gV w_491 w_492 w_493 w_2 w_494) rfl rfl rfl (by decide +kernel) ⟨Nat.le_of_ble_eq_true rfl, Nat.le_of_ble_eq_true rfl⟩) ⟨rd_blind, va_recv hK hMd (ci := 2) (q0 := 0) rfl rfl, rd_pre hMd hK2⟩ rfl rfl hl.1 rfl (lv_room (Nat.le_of_ble_eq_true rfl)) dL_law_945 ⟨by show 17 + 4 * j + 4 + 0 ≤ 601024; omega, by show 5092 + 152 * j + 152 + 0 ≤ 7293034; omega⟩)) (fun z hz9 => ?_)
  rw [hz9, hth]; clear hz9
  refine lv_iload hx hb dL_law_948 (lv_at hl 1 rfl) ?_
  refine lv_icmp_eq (tgt := 955) hx hb dL_law_950 (by decide) (fun _ => ?_) (fun z => absurd rfl z)
  refine lv_iload hx hb dL_law_955 (lv_at hl 1 rfl) ?_
  refine lv_if_ne (tgt := 972) hx hb dL_law_957 (by decide) (fun _ => ?_) (fun c1 => ?_)
  · refine lv_goto (tgt := 1532) hx hb dL_law_972 (by decide) ?_
    refine W.widen (k := 17 + 4 * (j + 1)) (n := 5092 + 152 * (j + 1)) (by omega) (by omega) ?_
    exact hnext bs v o.2 fo _ _ ls hR ⟨hSF, hMd, hO⟩ hS (lv_sub hl [2, 3, 4, 5, 6] rfl)
  · refine lv_aload_n hx hb dL_law_960 rfl (lv_at hl 5 rfl) ?_
    refine lv_iconst (v := 0) hx hb dL_law_961 (by decide) ?_
    refine va_lald hx hb hK hO 0 0 rfl rfl in01 dL_law_962 ?_
    rw [show fo (0 : Int32).toNatClampNeg = o.1.toInt64 from hout c1]
    refine lv_iload hx hb dL_law_963 (lv_at hl 0 rfl) ?_
    refine lv_i2l hx hb dL_law_965 rfl ?_
    refine W.lcmp hx hb dL_law_966 ?_
    rw [lg_self]
    refine lv_if_eq (tgt := 972) hx hb dL_law_967 (by decide) (fun _ => ?_) (fun z => absurd rfl z)
    refine lv_goto (tgt := 1532) hx hb dL_law_972 (by decide) ?_
    refine W.widen (k := 17 + 4 * (j + 1)) (n := 5092 + 152 * (j + 1)) (by omega) (by omega) ?_
    exact hnext bs v o.2 fo _ _ ls hR ⟨hSF, hMd, hO⟩ hS (lv_sub hl [2, 3, 4, 5, 6] rfl)
set_option maxHeartbeats 2000000 in
set_option maxRecDepth 100000 in
theorem lh_grow {p : Program} {l : Launch} {e : Env} {s : State} {m : MethodId} {below : List Frame} {meth : Method} {c : Code} {b L : Nat} {xs : Nat → Int32} {N0 : Nat} {dC : Nat → ClassId} {dI : Nat → Nat → Nat} {cL cI cO : ClassId} {R : CV → MV → Prop} {j : Nat} (C : LA p l s m meth c b L xs N0 dC dI cL cI cO) (hj : 11 * j + 11 ≤ L) (hnext : Nxt R p l e s m below meth c b N0 (dC, dI) cL cI cO j) (hSim : Sim_grow R) (bs : Nat → Nat) (v : CV) (mv : MV) (fo : Nat → Int64) (H : Heap) (locs : List Loc) (ls : Array Slot) (hR : R v mv) (hLS : LSt (dC, dI) cL cI cO N0 bs v mv fo H) (hS : va_S (fun q => N0 ≤ q) s.heap H locs) (hl : lv_has ls 8 (lvL b N0 j)) : LW p l e s m below meth c b H locs (17 + 4 * j) (5092 + 152 * j) (F0 m 875 ls []) := by
  have C0 := C
  obtain ⟨⟨hx, hb, hr, hml, hown, hts, hX, hbl, hlocks, hgv⟩, hN, hK, hev, hl0, hL⟩ := C
  have hw : ∀ w ∈ wG, w.before #[Value.ref b] s = true := fun w h => hts w (wG_tbl w h)
  have hown : s.vm.findClass R_L = some m.cls := hown
  have hbA : ¬ (fun q : Nat => N0 ≤ q) b := fun z => by have z : N0 ≤ b := z; omega
  have hK2 := hK.sub (tys' := [(cL, .long), (cI, .int)]) [0, 1] rfl
  have hj512 : j < 512 := by omega
  have hSs : va_S (fun q => N0 ≤ q) s.heap H locs := hS
  refine lv_aload_n hx hb dL_law_875 rfl (lv_at hl 1 rfl) ?_
  refine lv_aload_n hx hb dL_law_876 rfl (lv_at hl 0 rfl) ?_
  refine lv_iload hx hb dL_law_877 (lv_at hl 4 rfl) ?_
  refine lv_iconst (v := 1) hx hb dL_law_879 (by decide) ?_
  refine lv_iadd hx hb dL_law_880 ?_
  refine va_sld hx hb hX hbl hbA hSs (w_in hL hj 1 (by decide)) dL_law_881 ?_
  refine lv_aload_n hx hb dL_law_882 rfl (lv_at hl 0 rfl) ?_
  refine lv_iload hx hb dL_law_883 (lv_at hl 4 rfl) ?_
  refine lv_iconst (v := 2) hx hb dL_law_885 (by decide) ?_
  refine lv_iadd hx hb dL_law_886 ?_
  refine va_sld hx hb hX hbl hbA hSs (w_in hL hj 2 (by decide)) dL_law_887 ?_
  refine lv_i2l hx hb dL_law_888 rfl ?_
  refine lv_bipush (v := 32) hx hb dL_law_889 (by decide) ?_
  refine lv_lshl hx hb dL_law_891 rfl ?_
  refine lv_aload_n hx hb dL_law_892 rfl (lv_at hl 0 rfl) ?_
  refine lv_iload hx hb dL_law_893 (lv_at hl 4 rfl) ?_
  refine lv_iconst (v := 3) hx hb dL_law_895 (by decide) ?_
  refine lv_iadd hx hb dL_law_896 ?_
  refine va_sld hx hb hX hbl hbA hSs (w_in hL hj 3 (by decide)) dL_law_897 ?_
  refine lv_i2l hx hb dL_law_898 rfl ?_
  refine lv_ldc2 (v := 4294967295) hx hb hown (hw _ w_688) dL_law_899 ?_
  refine lv_land hx hb dL_law_902 ?_
  refine lv_lor hx hb dL_law_903 ?_
  refine lv_aload_n hx hb dL_law_904 rfl (lv_at hl 3 rfl) ?_
  refine W.eq (g2 := F0 m 905 ls [.ref (N0 + 16), .long (wJ xs j 2 3), .int (wI xs j 1), .ref N0]) rfl ?_
  obtain ⟨o, hM, hcase⟩ := hSim v mv hR (wI xs j 1) (wJ xs j 2 3)
  obtain ⟨hSF, hMd, hO⟩ := hLS
  have hk0 : ∀ q : Nat, q < s.heap.size → ¬ N0 ≤ q → H[q]? = s.heap[q]? := hS.2.1
  rcases hcase with ⟨r, hF, hth, he, hR2⟩ | ⟨hF, hth, hR2⟩ | ⟨hF, hth, hR2⟩ | ⟨hF, hth, hR2⟩
  · refine al_call (vx_runSW (As := [.ref N0, .int (wI xs j 1), .long (wJ xs j 2 3), .ref (N0 + 16)]) (rest := []) ⟨hx, hb, hml, hown, hw⟩ (kn_L_grow l N0 H.size dC dI cL cI cO bs v fo (wI xs j 1) (wJ xs j 2 3) r hF) (vx_cwSW 4 hw (gSW w_288 w_289 w_0 wc_290) rfl rfl rfl (by decide +kernel) ⟨Nat.le_of_ble_eq_true rfl, Nat.le_of_ble_eq_true rfl⟩) ⟨hl_blind, hl_pre ⟨⟨hSF, rfl⟩, hO⟩ hK hev hk0⟩ rfl rfl hl.1 rfl (lv_room (Nat.le_of_ble_eq_true rfl)) dL_law_905 ⟨by show 17 + 4 * j + 4 ≤ 601024; omega, by show 5092 + 152 * j + 152 ≤ 7293034; omega⟩) hS (fun q z => by have z : (q = N0 ∨ q = N0 + 1 ∨ N0 + 17 ≤ q) ∨ q = N0 + 16 := z; show N0 ≤ q; omega) (fun H1 locs hG hS hle hk => ?_)
    obtain ⟨⟨bs', hSF⟩, hO⟩ := hG
    exact lt_grow C0 hj hnext 0 o bs' _ mv _ _ _ ls hM hth hR2 (fun _ => by show vp_updL fo 0 _ 0 = _; rw [show ∀ x : Int64, vp_updL fo 0 x 0 = x from fun x => by simp [vp_updL]]; exact he) ⟨hSF, md_keepL hMd hk, hO⟩ hS hl
  · refine al_call (vx_runSW (As := [.ref N0, .int (wI xs j 1), .long (wJ xs j 2 3), .ref (N0 + 16)]) (rest := []) ⟨hx, hb, hml, hown, hw⟩ (kxIOB_L_grow l hl0 N0 H.size dC dI cL cI cO bs v fo (wI xs j 1) (wJ xs j 2 3) hF) (vx_cwSW 4 hw (gSW w_288 w_289 w_0 wc_290) rfl rfl rfl (by decide +kernel) ⟨Nat.le_of_ble_eq_true rfl, Nat.le_of_ble_eq_true rfl⟩) ⟨hl_blind, hl_pre ⟨⟨hSF, rfl⟩, hO⟩ hK hev hk0⟩ rfl rfl hl.1 rfl (lv_room (Nat.le_of_ble_eq_true rfl)) dL_law_905 ⟨by show 17 + 4 * j + 4 ≤ 601024; omega, by show 5092 + 152 * j + 152 ≤ 7293034; omega⟩) hS (fun q z => by have z : (q = N0 ∨ q = N0 + 1 ∨ N0 + 17 ≤ q) ∨ q = N0 + 16 := z; show N0 ≤ q; omega) (fun H1 locs hG hS hle hk => ?_)
    obtain ⟨⟨bs', hSF⟩, hO⟩ := hG
    exact lt_grow C0 hj hnext 1 o bs' _ mv _ _ _ ls hM hth hR2 (fun z => absurd z (by decide)) ⟨hSF, md_keepL hMd hk, hO⟩ hS hl
  · refine al_call (vx_runSW (As := [.ref N0, .int (wI xs j 1), .long (wJ xs j 2 3), .ref (N0 + 16)]) (rest := []) ⟨hx, hb, hml, hown, hw⟩ (kxISE_L_grow l hl0 N0 H.size dC dI cL cI cO bs v fo (wI xs j 1) (wJ xs j 2 3) hF) (vx_cwSW 4 hw (gSW w_288 w_289 w_0 wc_290) rfl rfl rfl (by decide +kernel) ⟨Nat.le_of_ble_eq_true rfl, Nat.le_of_ble_eq_true rfl⟩) ⟨hl_blind, hl_pre ⟨⟨hSF, rfl⟩, hO⟩ hK hev hk0⟩ rfl rfl hl.1 rfl (lv_room (Nat.le_of_ble_eq_true rfl)) dL_law_905 ⟨by show 17 + 4 * j + 4 ≤ 601024; omega, by show 5092 + 152 * j + 152 ≤ 7293034; omega⟩) hS (fun q z => by have z : (q = N0 ∨ q = N0 + 1 ∨ N0 + 17 ≤ q) ∨ q = N0 + 16 := z; show N0 ≤ q; omega) (fun H1 locs hG hS hle hk => ?_)
    obtain ⟨⟨bs', hSF⟩, hO⟩ := hG
    exact lt_grow C0 hj hnext 2 o bs' _ mv _ _ _ ls hM hth hR2 (fun z => absurd z (by decide)) ⟨hSF, md_keepL hMd hk, hO⟩ hS hl
  · refine al_call (vx_runSW (As := [.ref N0, .int (wI xs j 1), .long (wJ xs j 2 3), .ref (N0 + 16)]) (rest := []) ⟨hx, hb, hml, hown, hw⟩ (kxIAE_L_grow l hl0 N0 H.size dC dI cL cI cO bs v fo (wI xs j 1) (wJ xs j 2 3) hF) (vx_cwSW 4 hw (gSW w_288 w_289 w_0 wc_290) rfl rfl rfl (by decide +kernel) ⟨Nat.le_of_ble_eq_true rfl, Nat.le_of_ble_eq_true rfl⟩) ⟨hl_blind, hl_pre ⟨⟨hSF, rfl⟩, hO⟩ hK hev hk0⟩ rfl rfl hl.1 rfl (lv_room (Nat.le_of_ble_eq_true rfl)) dL_law_905 ⟨by show 17 + 4 * j + 4 ≤ 601024; omega, by show 5092 + 152 * j + 152 ≤ 7293034; omega⟩) hS (fun q z => by have z : (q = N0 ∨ q = N0 + 1 ∨ N0 + 17 ≤ q) ∨ q = N0 + 16 := z; show N0 ≤ q; omega) (fun H1 locs hG hS hle hk => ?_)
    obtain ⟨⟨bs', hSF⟩, hO⟩ := hG
    exact lt_grow C0 hj hnext 3 o bs' _ mv _ _ _ ls hM hth hR2 (fun z => absurd z (by decide)) ⟨hSF, md_keepL hMd hk, hO⟩ hS hl
def Sim_inside (R : CV → MV → Prop) : Prop := ∀ v mv, R v mv → ∀ (p0 : Int32) (p1 : Int64) (p2 : Int64), ∃ o : Int32 × MV, f_M_inside mv p0 p1 p2 = some o ∧ ((∃ r : Int32, f_F_inside v p0 p1 p2 = some r ∧ md_thrown o.2 = 0 ∧ bl r = bl o.1 ∧ R v o.2) ∨ (g_F_inside v p0 p1 p2 = some "java/lang/IndexOutOfBoundsException" ∧ md_thrown o.2 = 1 ∧ R v o.2) ∨ (g_F_inside v p0 p1 p2 = some "java/lang/IllegalStateException" ∧ md_thrown o.2 = 2 ∧ R v o.2) ∨ (g_F_inside v p0 p1 p2 = some "java/lang/IllegalArgumentException" ∧ md_thrown o.2 = 3 ∧ R v o.2))
set_option maxHeartbeats 2000000 in
set_option maxRecDepth 100000 in
theorem lt_inside {p : Program} {l : Launch} {e : Env} {s : State} {m : MethodId} {below : List Frame} {meth : Method} {c : Code} {b L : Nat} {xs : Nat → Int32} {N0 : Nat} {dC : Nat → ClassId} {dI : Nat → Nat → Nat} {cL cI cO : ClassId} {R : CV → MV → Prop} {j : Nat} (C : LA p l s m meth c b L xs N0 dC dI cL cI cO) (hj : 11 * j + 11 ≤ L) (hnext : Nxt R p l e s m below meth c b N0 (dC, dI) cL cI cO j) (k : Int32) (o : Int32 × MV) (bs : Nat → Nat) (v : CV) (mv : MV) (fo : Nat → Int64) (H : Heap) (locs : List Loc) (ls : Array Slot) (hM : f_M_inside mv (wI xs j 1) (wJ xs j 2 3) (wJ xs j 4 5) = some o) (hth : md_thrown o.2 = k) (hR : R v o.2) (hout : k = 0 → fo 0 = bl o.1) (hLS : LSt (dC, dI) cL cI cO N0 bs v mv fo H) (hS : va_S (fun q => N0 ≤ q) s.heap H locs) (hl : lv_has ls 8 (lvL b N0 j)) : LW p l e s m below meth c b H locs (17 + 4 * j + 4) (5092 + 152 * j + 152) (F0 m 1030 ls [.int k]) := by
  obtain ⟨⟨hx, hb, hr, hml, hown, hts, hX, hbl, hlocks, hgv⟩, hN, hK, hev, hl0, hL⟩ := C
  have hw : ∀ w ∈ wG, w.before #[Value.ref b] s = true := fun w h => hts w (wG_tbl w h)
  have hown : s.vm.findClass R_L = some m.cls := hown
  have hbA : ¬ (fun q : Nat => N0 ≤ q) b := fun z => by have z : N0 ≤ b := z; omega
  have hK2 := hK.sub (tys' := [(cL, .long), (cI, .int)]) [0, 1] rfl
  have hj512 : j < 512 := by omega
  obtain ⟨hSF, hMd, hO⟩ := hLS
  have hSs : va_S (fun q => N0 ≤ q) s.heap H locs := hS
  refine lv_istore (lv' := [(5, .int k), (0, .ref b), (1, .ref N0), (2, .ref (N0 + 2)), (3, .ref (N0 + 16)), (4, .int (nI (11 * j)))]) hx hb dL_law_1030 hl (by decide) rfl (fun ls hl => ?_)
  refine lv_aload_n hx hb dL_law_1032 rfl (lv_at hl 3 rfl) ?_
  refine lv_aload_n hx hb dL_law_1033 rfl (lv_at hl 1 rfl) ?_
  refine lv_iload hx hb dL_law_1034 (lv_at hl 5 rfl) ?_
  refine lv_iconst (v := 1) hx hb dL_law_1036 (by decide) ?_
  refine lv_iadd hx hb dL_law_1037 ?_
  refine va_sld hx hb hX hbl hbA hSs (w_in hL hj 1 (by decide)) dL_law_1038 ?_
  refine lv_aload_n hx hb dL_law_1039 rfl (lv_at hl 1 rfl) ?_
  refine lv_iload hx hb dL_law_1040 (lv_at hl 5 rfl) ?_
  refine lv_iconst (v := 2) hx hb dL_law_1042 (by decide) ?_
  refine lv_iadd hx hb dL_law_1043 ?_
  refine va_sld hx hb hX hbl hbA hSs (w_in hL hj 2 (by decide)) dL_law_1044 ?_
  refine lv_i2l hx hb dL_law_1045 rfl ?_
  refine lv_bipush (v := 32) hx hb dL_law_1046 (by decide) ?_
  refine lv_lshl hx hb dL_law_1048 rfl ?_
  refine lv_aload_n hx hb dL_law_1049 rfl (lv_at hl 1 rfl) ?_
  refine lv_iload hx hb dL_law_1050 (lv_at hl 5 rfl) ?_
  refine lv_iconst (v := 3) hx hb dL_law_1052 (by decide) ?_
  refine lv_iadd hx hb dL_law_1053 ?_
  refine va_sld hx hb hX hbl hbA hSs (w_in hL hj 3 (by decide)) dL_law_1054 ?_
  refine lv_i2l hx hb dL_law_1055 rfl ?_
  refine lv_ldc2 (v := 4294967295) hx hb hown (hw _ w_688) dL_law_1056 ?_
  refine lv_land hx hb dL_law_1059 ?_
  refine lv_lor hx hb dL_law_1060 ?_
  refine lv_aload_n hx hb dL_law_1061 rfl (lv_at hl 1 rfl) ?_
  refine lv_iload hx hb dL_law_1062 (lv_at hl 5 rfl) ?_
  refine lv_iconst (v := 4) hx hb dL_law_1064 (by decide) ?_
  refine lv_iadd hx hb dL_law_1065 ?_
  refine va_sld hx hb hX hbl hbA hSs (w_in hL hj 4 (by decide)) dL_law_1066 ?_
  refine lv_i2l hx hb dL_law_1067 rfl ?_
  refine lv_bipush (v := 32) hx hb dL_law_1068 (by decide) ?_
  refine lv_lshl hx hb dL_law_1070 rfl ?_
  refine lv_aload_n hx hb dL_law_1071 rfl (lv_at hl 1 rfl) ?_
  refine lv_iload hx hb dL_law_1072 (lv_at hl 5 rfl) ?_
  refine lv_iconst (v := 5) hx hb dL_law_1074 (by decide) ?_
  refine lv_iadd hx hb dL_law_1075 ?_
  refine va_sld hx hb hX hbl hbA hSs (w_in hL hj 5 (by decide)) dL_law_1076 ?_
  refine lv_i2l hx hb dL_law_1077 rfl ?_
  refine lv_ldc2 (v := 4294967295) hx hb hown (hw _ w_688) dL_law_1078 ?_
  refine lv_land hx hb dL_law_1081 ?_
  refine lv_lor hx hb dL_law_1082 ?_
  refine W.eq (g2 := F0 m 1083 ls [.long (wJ xs j 4 5), .long (wJ xs j 2 3), .int (wI xs j 1), .ref (N0 + 2)]) rfl ?_
  refine mu_call (va_runV (As := [.int (wI xs j 1), .long (wJ xs j 2 3), .long (wJ xs j 4 5)]) (rest := []) ⟨hx, hb, hml, hown, hw⟩ (k_M_inside l dC dI cL cI (qM N0) mv (wI xs j 1) (wJ xs j 2 3) (wJ xs j 4 5) o hM) (cwV 3 hw (gV w_640 w_641 w_642 w_2 w_643) rfl rfl rfl (by decide +kernel) ⟨Nat.le_of_ble_eq_true rfl, Nat.le_of_ble_eq_true rfl⟩) ⟨rd_blind, va_recv hK hMd (ci := 2) (q0 := 0) rfl rfl, rd_pre ⟨hMd, md_D0⟩ hK2⟩ rfl rfl hl.1 rfl (lv_room (Nat.le_of_ble_eq_true rfl)) dL_law_1083 ⟨by show 17 + 4 * j + 4 + 0 ≤ 601024; omega, by show 5092 + 152 * j + 152 + 0 ≤ 7293034; omega⟩) hS (fun q z => by have := inQ_le z; show N0 ≤ q; omega) (fun H locs hMd hS hle hk => ?_)
  replace hSF := sfs_keepM hSF hle hk
  replace hO := out_keepM hO hk
  refine lv_istore (lv' := [(6, .int o.1), (5, .int k), (0, .ref b), (1, .ref N0), (2, .ref (N0 + 2)), (3, .ref (N0 + 16)), (4, .int (nI (11 * j)))]) hx hb dL_law_1086 hl (by decide) rfl (fun ls hl => ?_)
  refine lv_aload_n hx hb dL_law_1088 rfl (lv_at hl 4 rfl) ?_
  refine vp_callSi (va_Run.run (va_runV (As := []) (rest := []) ⟨hx, hb, hml, hown, hw⟩ (k_M_thrown l dC dI cL cI (qM N0) o.2 _ rfl) (cwV 0 hw (gV w_491 w_492 w_493 w_2 w_494) rfl rfl rfl (by decide +kernel) ⟨Nat.le_of_ble_eq_true rfl, Nat.le_of_ble_eq_true rfl⟩) ⟨rd_blind, va_recv hK hMd (ci := 2) (q0 := 0) rfl rfl, rd_pre hMd hK2⟩ rfl rfl hl.1 rfl (lv_room (Nat.le_of_ble_eq_true rfl)) dL_law_1089 ⟨by show 17 + 4 * j + 4 + 0 ≤ 601024; omega, by show 5092 + 152 * j + 152 + 0 ≤ 7293034; omega⟩)) (fun z hz9 => ?_)
  rw [hz9, hth]; clear hz9
  refine lv_iload hx hb dL_law_1092 (lv_at hl 1 rfl) ?_
  refine lv_icmp_eq (tgt := 1099) hx hb dL_law_1094 (by decide) (fun _ => ?_) (fun z => absurd rfl z)
  refine lv_iload hx hb dL_law_1099 (lv_at hl 1 rfl) ?_
  refine lv_if_ne (tgt := 1123) hx hb dL_law_1101 (by decide) (fun _ => ?_) (fun c1 => ?_)
  · refine lv_goto (tgt := 1532) hx hb dL_law_1123 (by decide) ?_
    refine W.widen (k := 17 + 4 * (j + 1)) (n := 5092 + 152 * (j + 1)) (by omega) (by omega) ?_
    exact hnext bs v o.2 fo _ _ ls hR ⟨hSF, hMd, hO⟩ hS (lv_sub hl [2, 3, 4, 5, 6] rfl)
  · refine lv_aload_n hx hb dL_law_1104 rfl (lv_at hl 5 rfl) ?_
    refine lv_iconst (v := 0) hx hb dL_law_1105 (by decide) ?_
    refine va_lald hx hb hK hO 0 0 rfl rfl in01 dL_law_1106 ?_
    rw [show fo (0 : Int32).toNatClampNeg = bl o.1 from hout c1]
    refine lv_iload hx hb dL_law_1107 (lv_at hl 0 rfl) ?_
    refine lv_if_eq (tgt := 1116) hx hb dL_law_1109 (by decide) (fun c2 => ?_) (fun c2 => ?_)
    · rw [show bl o.1 = 0 from if_pos c2]
      refine lv_lconst (v := 0) hx hb dL_law_1116 (by decide) ?_
      refine W.lcmp hx hb dL_law_1117 ?_
      rw [lg_self]
      refine lv_if_eq (tgt := 1123) hx hb dL_law_1118 (by decide) (fun _ => ?_) (fun z => absurd rfl z)
      refine lv_goto (tgt := 1532) hx hb dL_law_1123 (by decide) ?_
      refine W.widen (k := 17 + 4 * (j + 1)) (n := 5092 + 152 * (j + 1)) (by omega) (by omega) ?_
      exact hnext bs v o.2 fo _ _ ls hR ⟨hSF, hMd, hO⟩ hS (lv_sub hl [2, 3, 4, 5, 6] rfl)
    · rw [show bl o.1 = 1 from if_neg c2]
      refine lv_lconst (v := 1) hx hb dL_law_1112 (by decide) ?_
      refine lv_goto (tgt := 1117) hx hb dL_law_1113 (by decide) ?_
      refine W.lcmp hx hb dL_law_1117 ?_
      rw [lg_self]
      refine lv_if_eq (tgt := 1123) hx hb dL_law_1118 (by decide) (fun _ => ?_) (fun z => absurd rfl z)
      refine lv_goto (tgt := 1532) hx hb dL_law_1123 (by decide) ?_
      refine W.widen (k := 17 + 4 * (j + 1)) (n := 5092 + 152 * (j + 1)) (by omega) (by omega) ?_
      exact hnext bs v o.2 fo _ _ ls hR ⟨hSF, hMd, hO⟩ hS (lv_sub hl [2, 3, 4, 5, 6] rfl)
set_option maxHeartbeats 2000000 in
set_option maxRecDepth 100000 in
theorem lh_inside {p : Program} {l : Launch} {e : Env} {s : State} {m : MethodId} {below : List Frame} {meth : Method} {c : Code} {b L : Nat} {xs : Nat → Int32} {N0 : Nat} {dC : Nat → ClassId} {dI : Nat → Nat → Nat} {cL cI cO : ClassId} {R : CV → MV → Prop} {j : Nat} (C : LA p l s m meth c b L xs N0 dC dI cL cI cO) (hj : 11 * j + 11 ≤ L) (hnext : Nxt R p l e s m below meth c b N0 (dC, dI) cL cI cO j) (hSim : Sim_inside R) (bs : Nat → Nat) (v : CV) (mv : MV) (fo : Nat → Int64) (H : Heap) (locs : List Loc) (ls : Array Slot) (hR : R v mv) (hLS : LSt (dC, dI) cL cI cO N0 bs v mv fo H) (hS : va_S (fun q => N0 ≤ q) s.heap H locs) (hl : lv_has ls 8 (lvL b N0 j)) : LW p l e s m below meth c b H locs (17 + 4 * j) (5092 + 152 * j) (F0 m 975 ls []) := by
  have C0 := C
  obtain ⟨⟨hx, hb, hr, hml, hown, hts, hX, hbl, hlocks, hgv⟩, hN, hK, hev, hl0, hL⟩ := C
  have hw : ∀ w ∈ wG, w.before #[Value.ref b] s = true := fun w h => hts w (wG_tbl w h)
  have hown : s.vm.findClass R_L = some m.cls := hown
  have hbA : ¬ (fun q : Nat => N0 ≤ q) b := fun z => by have z : N0 ≤ b := z; omega
  have hK2 := hK.sub (tys' := [(cL, .long), (cI, .int)]) [0, 1] rfl
  have hj512 : j < 512 := by omega
  have hSs : va_S (fun q => N0 ≤ q) s.heap H locs := hS
  refine lv_aload_n hx hb dL_law_975 rfl (lv_at hl 1 rfl) ?_
  refine lv_aload_n hx hb dL_law_976 rfl (lv_at hl 0 rfl) ?_
  refine lv_iload hx hb dL_law_977 (lv_at hl 4 rfl) ?_
  refine lv_iconst (v := 1) hx hb dL_law_979 (by decide) ?_
  refine lv_iadd hx hb dL_law_980 ?_
  refine va_sld hx hb hX hbl hbA hSs (w_in hL hj 1 (by decide)) dL_law_981 ?_
  refine lv_aload_n hx hb dL_law_982 rfl (lv_at hl 0 rfl) ?_
  refine lv_iload hx hb dL_law_983 (lv_at hl 4 rfl) ?_
  refine lv_iconst (v := 2) hx hb dL_law_985 (by decide) ?_
  refine lv_iadd hx hb dL_law_986 ?_
  refine va_sld hx hb hX hbl hbA hSs (w_in hL hj 2 (by decide)) dL_law_987 ?_
  refine lv_i2l hx hb dL_law_988 rfl ?_
  refine lv_bipush (v := 32) hx hb dL_law_989 (by decide) ?_
  refine lv_lshl hx hb dL_law_991 rfl ?_
  refine lv_aload_n hx hb dL_law_992 rfl (lv_at hl 0 rfl) ?_
  refine lv_iload hx hb dL_law_993 (lv_at hl 4 rfl) ?_
  refine lv_iconst (v := 3) hx hb dL_law_995 (by decide) ?_
  refine lv_iadd hx hb dL_law_996 ?_
  refine va_sld hx hb hX hbl hbA hSs (w_in hL hj 3 (by decide)) dL_law_997 ?_
  refine lv_i2l hx hb dL_law_998 rfl ?_
  refine lv_ldc2 (v := 4294967295) hx hb hown (hw _ w_688) dL_law_999 ?_
  refine lv_land hx hb dL_law_1002 ?_
  refine lv_lor hx hb dL_law_1003 ?_
  refine lv_aload_n hx hb dL_law_1004 rfl (lv_at hl 0 rfl) ?_
  refine lv_iload hx hb dL_law_1005 (lv_at hl 4 rfl) ?_
  refine lv_iconst (v := 4) hx hb dL_law_1007 (by decide) ?_
  refine lv_iadd hx hb dL_law_1008 ?_
  refine va_sld hx hb hX hbl hbA hSs (w_in hL hj 4 (by decide)) dL_law_1009 ?_
  refine lv_i2l hx hb dL_law_1010 rfl ?_
  refine lv_bipush (v := 32) hx hb dL_law_1011 (by decide) ?_
  refine lv_lshl hx hb dL_law_1013 rfl ?_
  refine lv_aload_n hx hb dL_law_1014 rfl (lv_at hl 0 rfl) ?_
  refine lv_iload hx hb dL_law_1015 (lv_at hl 4 rfl) ?_
  refine lv_iconst (v := 5) hx hb dL_law_1017 (by decide) ?_
  refine lv_iadd hx hb dL_law_1018 ?_
  refine va_sld hx hb hX hbl hbA hSs (w_in hL hj 5 (by decide)) dL_law_1019 ?_
  refine lv_i2l hx hb dL_law_1020 rfl ?_
  refine lv_ldc2 (v := 4294967295) hx hb hown (hw _ w_688) dL_law_1021 ?_
  refine lv_land hx hb dL_law_1024 ?_
  refine lv_lor hx hb dL_law_1025 ?_
  refine lv_aload_n hx hb dL_law_1026 rfl (lv_at hl 3 rfl) ?_
  refine W.eq (g2 := F0 m 1027 ls [.ref (N0 + 16), .long (wJ xs j 4 5), .long (wJ xs j 2 3), .int (wI xs j 1), .ref N0]) rfl ?_
  obtain ⟨o, hM, hcase⟩ := hSim v mv hR (wI xs j 1) (wJ xs j 2 3) (wJ xs j 4 5)
  obtain ⟨hSF, hMd, hO⟩ := hLS
  have hk0 : ∀ q : Nat, q < s.heap.size → ¬ N0 ≤ q → H[q]? = s.heap[q]? := hS.2.1
  rcases hcase with ⟨r, hF, hth, he, hR2⟩ | ⟨hF, hth, hR2⟩ | ⟨hF, hth, hR2⟩ | ⟨hF, hth, hR2⟩
  · refine al_call (vx_runSW (As := [.ref N0, .int (wI xs j 1), .long (wJ xs j 2 3), .long (wJ xs j 4 5), .ref (N0 + 16)]) (rest := []) ⟨hx, hb, hml, hown, hw⟩ (kn_L_inside l N0 H.size dC dI cL cI cO bs v fo (wI xs j 1) (wJ xs j 2 3) (wJ xs j 4 5) r hF) (vx_cwSW 5 hw (gSW w_312 w_313 w_0 wc_314) rfl rfl rfl (by decide +kernel) ⟨Nat.le_of_ble_eq_true rfl, Nat.le_of_ble_eq_true rfl⟩) ⟨hl_blind, hl_pre ⟨⟨hSF, rfl⟩, hO⟩ hK hev hk0⟩ rfl rfl hl.1 rfl (lv_room (Nat.le_of_ble_eq_true rfl)) dL_law_1027 ⟨by show 17 + 4 * j + 4 ≤ 601024; omega, by show 5092 + 152 * j + 152 ≤ 7293034; omega⟩) hS (fun q z => by have z : (q = N0 ∨ q = N0 + 1 ∨ N0 + 17 ≤ q) ∨ q = N0 + 16 := z; show N0 ≤ q; omega) (fun H1 locs hG hS hle hk => ?_)
    obtain ⟨⟨bs', hSF⟩, hO⟩ := hG
    exact lt_inside C0 hj hnext 0 o bs' _ mv _ _ _ ls hM hth hR2 (fun _ => by show vp_updL fo 0 _ 0 = _; rw [show ∀ x : Int64, vp_updL fo 0 x 0 = x from fun x => by simp [vp_updL]]; exact he) ⟨hSF, md_keepL hMd hk, hO⟩ hS hl
  · refine al_call (vx_runSW (As := [.ref N0, .int (wI xs j 1), .long (wJ xs j 2 3), .long (wJ xs j 4 5), .ref (N0 + 16)]) (rest := []) ⟨hx, hb, hml, hown, hw⟩ (kxIOB_L_inside l hl0 N0 H.size dC dI cL cI cO bs v fo (wI xs j 1) (wJ xs j 2 3) (wJ xs j 4 5) hF) (vx_cwSW 5 hw (gSW w_312 w_313 w_0 wc_314) rfl rfl rfl (by decide +kernel) ⟨Nat.le_of_ble_eq_true rfl, Nat.le_of_ble_eq_true rfl⟩) ⟨hl_blind, hl_pre ⟨⟨hSF, rfl⟩, hO⟩ hK hev hk0⟩ rfl rfl hl.1 rfl (lv_room (Nat.le_of_ble_eq_true rfl)) dL_law_1027 ⟨by show 17 + 4 * j + 4 ≤ 601024; omega, by show 5092 + 152 * j + 152 ≤ 7293034; omega⟩) hS (fun q z => by have z : (q = N0 ∨ q = N0 + 1 ∨ N0 + 17 ≤ q) ∨ q = N0 + 16 := z; show N0 ≤ q; omega) (fun H1 locs hG hS hle hk => ?_)
    obtain ⟨⟨bs', hSF⟩, hO⟩ := hG
    exact lt_inside C0 hj hnext 1 o bs' _ mv _ _ _ ls hM hth hR2 (fun z => absurd z (by decide)) ⟨hSF, md_keepL hMd hk, hO⟩ hS hl
  · refine al_call (vx_runSW (As := [.ref N0, .int (wI xs j 1), .long (wJ xs j 2 3), .long (wJ xs j 4 5), .ref (N0 + 16)]) (rest := []) ⟨hx, hb, hml, hown, hw⟩ (kxISE_L_inside l hl0 N0 H.size dC dI cL cI cO bs v fo (wI xs j 1) (wJ xs j 2 3) (wJ xs j 4 5) hF) (vx_cwSW 5 hw (gSW w_312 w_313 w_0 wc_314) rfl rfl rfl (by decide +kernel) ⟨Nat.le_of_ble_eq_true rfl, Nat.le_of_ble_eq_true rfl⟩) ⟨hl_blind, hl_pre ⟨⟨hSF, rfl⟩, hO⟩ hK hev hk0⟩ rfl rfl hl.1 rfl (lv_room (Nat.le_of_ble_eq_true rfl)) dL_law_1027 ⟨by show 17 + 4 * j + 4 ≤ 601024; omega, by show 5092 + 152 * j + 152 ≤ 7293034; omega⟩) hS (fun q z => by have z : (q = N0 ∨ q = N0 + 1 ∨ N0 + 17 ≤ q) ∨ q = N0 + 16 := z; show N0 ≤ q; omega) (fun H1 locs hG hS hle hk => ?_)
    obtain ⟨⟨bs', hSF⟩, hO⟩ := hG
    exact lt_inside C0 hj hnext 2 o bs' _ mv _ _ _ ls hM hth hR2 (fun z => absurd z (by decide)) ⟨hSF, md_keepL hMd hk, hO⟩ hS hl
  · refine al_call (vx_runSW (As := [.ref N0, .int (wI xs j 1), .long (wJ xs j 2 3), .long (wJ xs j 4 5), .ref (N0 + 16)]) (rest := []) ⟨hx, hb, hml, hown, hw⟩ (kxIAE_L_inside l hl0 N0 H.size dC dI cL cI cO bs v fo (wI xs j 1) (wJ xs j 2 3) (wJ xs j 4 5) hF) (vx_cwSW 5 hw (gSW w_312 w_313 w_0 wc_314) rfl rfl rfl (by decide +kernel) ⟨Nat.le_of_ble_eq_true rfl, Nat.le_of_ble_eq_true rfl⟩) ⟨hl_blind, hl_pre ⟨⟨hSF, rfl⟩, hO⟩ hK hev hk0⟩ rfl rfl hl.1 rfl (lv_room (Nat.le_of_ble_eq_true rfl)) dL_law_1027 ⟨by show 17 + 4 * j + 4 ≤ 601024; omega, by show 5092 + 152 * j + 152 ≤ 7293034; omega⟩) hS (fun q z => by have z : (q = N0 ∨ q = N0 + 1 ∨ N0 + 17 ≤ q) ∨ q = N0 + 16 := z; show N0 ≤ q; omega) (fun H1 locs hG hS hle hk => ?_)
    obtain ⟨⟨bs', hSF⟩, hO⟩ := hG
    exact lt_inside C0 hj hnext 3 o bs' _ mv _ _ _ ls hM hth hR2 (fun z => absurd z (by decide)) ⟨hSF, md_keepL hMd hk, hO⟩ hS hl
def Sim_nearer (R : CV → MV → Prop) : Prop := ∀ v mv, R v mv → ∀ (p0 : Int32) (p1 : Int32) (p2 : Int64), ∃ o : Int32 × MV, f_M_nearer mv p0 p1 p2 = some o ∧ ((∃ r : Int32, f_F_nearer v p0 p1 p2 = some r ∧ md_thrown o.2 = 0 ∧ r.toInt64 = o.1.toInt64 ∧ R v o.2) ∨ (g_F_nearer v p0 p1 p2 = some "java/lang/IndexOutOfBoundsException" ∧ md_thrown o.2 = 1 ∧ R v o.2) ∨ (g_F_nearer v p0 p1 p2 = some "java/lang/IllegalStateException" ∧ md_thrown o.2 = 2 ∧ R v o.2) ∨ (g_F_nearer v p0 p1 p2 = some "java/lang/IllegalArgumentException" ∧ md_thrown o.2 = 3 ∧ R v o.2))
set_option maxHeartbeats 2000000 in
set_option maxRecDepth 100000 in
theorem lt_nearer {p : Program} {l : Launch} {e : Env} {s : State} {m : MethodId} {below : List Frame} {meth : Method} {c : Code} {b L : Nat} {xs : Nat → Int32} {N0 : Nat} {dC : Nat → ClassId} {dI : Nat → Nat → Nat} {cL cI cO : ClassId} {R : CV → MV → Prop} {j : Nat} (C : LA p l s m meth c b L xs N0 dC dI cL cI cO) (hj : 11 * j + 11 ≤ L) (hnext : Nxt R p l e s m below meth c b N0 (dC, dI) cL cI cO j) (k : Int32) (o : Int32 × MV) (bs : Nat → Nat) (v : CV) (mv : MV) (fo : Nat → Int64) (H : Heap) (locs : List Loc) (ls : Array Slot) (hM : f_M_nearer mv (wI xs j 1) (wI xs j 2) (wJ xs j 3 4) = some o) (hth : md_thrown o.2 = k) (hR : R v o.2) (hout : k = 0 → fo 0 = o.1.toInt64) (hLS : LSt (dC, dI) cL cI cO N0 bs v mv fo H) (hS : va_S (fun q => N0 ≤ q) s.heap H locs) (hl : lv_has ls 8 (lvL b N0 j)) : LW p l e s m below meth c b H locs (17 + 4 * j + 4) (5092 + 152 * j + 152) (F0 m 1165 ls [.int k]) := by
  obtain ⟨⟨hx, hb, hr, hml, hown, hts, hX, hbl, hlocks, hgv⟩, hN, hK, hev, hl0, hL⟩ := C
  have hw : ∀ w ∈ wG, w.before #[Value.ref b] s = true := fun w h => hts w (wG_tbl w h)
  have hown : s.vm.findClass R_L = some m.cls := hown
  have hbA : ¬ (fun q : Nat => N0 ≤ q) b := fun z => by have z : N0 ≤ b := z; omega
  have hK2 := hK.sub (tys' := [(cL, .long), (cI, .int)]) [0, 1] rfl
  have hj512 : j < 512 := by omega
  obtain ⟨hSF, hMd, hO⟩ := hLS
  have hSs : va_S (fun q => N0 ≤ q) s.heap H locs := hS
  refine lv_istore (lv' := [(5, .int k), (0, .ref b), (1, .ref N0), (2, .ref (N0 + 2)), (3, .ref (N0 + 16)), (4, .int (nI (11 * j)))]) hx hb dL_law_1165 hl (by decide) rfl (fun ls hl => ?_)
  refine lv_aload_n hx hb dL_law_1167 rfl (lv_at hl 3 rfl) ?_
  refine lv_aload_n hx hb dL_law_1168 rfl (lv_at hl 1 rfl) ?_
  refine lv_iload hx hb dL_law_1169 (lv_at hl 5 rfl) ?_
  refine lv_iconst (v := 1) hx hb dL_law_1171 (by decide) ?_
  refine lv_iadd hx hb dL_law_1172 ?_
  refine va_sld hx hb hX hbl hbA hSs (w_in hL hj 1 (by decide)) dL_law_1173 ?_
  refine lv_aload_n hx hb dL_law_1174 rfl (lv_at hl 1 rfl) ?_
  refine lv_iload hx hb dL_law_1175 (lv_at hl 5 rfl) ?_
  refine lv_iconst (v := 2) hx hb dL_law_1177 (by decide) ?_
  refine lv_iadd hx hb dL_law_1178 ?_
  refine va_sld hx hb hX hbl hbA hSs (w_in hL hj 2 (by decide)) dL_law_1179 ?_
  refine lv_aload_n hx hb dL_law_1180 rfl (lv_at hl 1 rfl) ?_
  refine lv_iload hx hb dL_law_1181 (lv_at hl 5 rfl) ?_
  refine lv_iconst (v := 3) hx hb dL_law_1183 (by decide) ?_
  refine lv_iadd hx hb dL_law_1184 ?_
  refine va_sld hx hb hX hbl hbA hSs (w_in hL hj 3 (by decide)) dL_law_1185 ?_
  refine lv_i2l hx hb dL_law_1186 rfl ?_
  refine lv_bipush (v := 32) hx hb dL_law_1187 (by decide) ?_
  refine lv_lshl hx hb dL_law_1189 rfl ?_
  refine lv_aload_n hx hb dL_law_1190 rfl (lv_at hl 1 rfl) ?_
  refine lv_iload hx hb dL_law_1191 (lv_at hl 5 rfl) ?_
  refine lv_iconst (v := 4) hx hb dL_law_1193 (by decide) ?_
  refine lv_iadd hx hb dL_law_1194 ?_
  refine va_sld hx hb hX hbl hbA hSs (w_in hL hj 4 (by decide)) dL_law_1195 ?_
  refine lv_i2l hx hb dL_law_1196 rfl ?_
  refine lv_ldc2 (v := 4294967295) hx hb hown (hw _ w_688) dL_law_1197 ?_
  refine lv_land hx hb dL_law_1200 ?_
  refine lv_lor hx hb dL_law_1201 ?_
  refine W.eq (g2 := F0 m 1202 ls [.long (wJ xs j 3 4), .int (wI xs j 2), .int (wI xs j 1), .ref (N0 + 2)]) rfl ?_
  refine mu_call (va_runV (As := [.int (wI xs j 1), .int (wI xs j 2), .long (wJ xs j 3 4)]) (rest := []) ⟨hx, hb, hml, hown, hw⟩ (k_M_nearer l dC dI cL cI (qM N0) mv (wI xs j 1) (wI xs j 2) (wJ xs j 3 4) o hM) (cwV 3 hw (gV w_591 w_592 w_593 w_2 w_594) rfl rfl rfl (by decide +kernel) ⟨Nat.le_of_ble_eq_true rfl, Nat.le_of_ble_eq_true rfl⟩) ⟨rd_blind, va_recv hK hMd (ci := 2) (q0 := 0) rfl rfl, rd_pre ⟨hMd, md_D0⟩ hK2⟩ rfl rfl hl.1 rfl (lv_room (Nat.le_of_ble_eq_true rfl)) dL_law_1202 ⟨by show 17 + 4 * j + 4 + 0 ≤ 601024; omega, by show 5092 + 152 * j + 152 + 0 ≤ 7293034; omega⟩) hS (fun q z => by have := inQ_le z; show N0 ≤ q; omega) (fun H locs hMd hS hle hk => ?_)
  replace hSF := sfs_keepM hSF hle hk
  replace hO := out_keepM hO hk
  refine lv_istore (lv' := [(6, .int o.1), (5, .int k), (0, .ref b), (1, .ref N0), (2, .ref (N0 + 2)), (3, .ref (N0 + 16)), (4, .int (nI (11 * j)))]) hx hb dL_law_1205 hl (by decide) rfl (fun ls hl => ?_)
  refine lv_aload_n hx hb dL_law_1207 rfl (lv_at hl 4 rfl) ?_
  refine vp_callSi (va_Run.run (va_runV (As := []) (rest := []) ⟨hx, hb, hml, hown, hw⟩ (k_M_thrown l dC dI cL cI (qM N0) o.2 _ rfl) (cwV 0 hw (gV w_491 w_492 w_493 w_2 w_494) rfl rfl rfl (by decide +kernel) ⟨Nat.le_of_ble_eq_true rfl, Nat.le_of_ble_eq_true rfl⟩) ⟨rd_blind, va_recv hK hMd (ci := 2) (q0 := 0) rfl rfl, rd_pre hMd hK2⟩ rfl rfl hl.1 rfl (lv_room (Nat.le_of_ble_eq_true rfl)) dL_law_1208 ⟨by show 17 + 4 * j + 4 + 0 ≤ 601024; omega, by show 5092 + 152 * j + 152 + 0 ≤ 7293034; omega⟩)) (fun z hz9 => ?_)
  rw [hz9, hth]; clear hz9
  refine lv_iload hx hb dL_law_1211 (lv_at hl 1 rfl) ?_
  refine lv_icmp_eq (tgt := 1218) hx hb dL_law_1213 (by decide) (fun _ => ?_) (fun z => absurd rfl z)
  refine lv_iload hx hb dL_law_1218 (lv_at hl 1 rfl) ?_
  refine lv_if_ne (tgt := 1235) hx hb dL_law_1220 (by decide) (fun _ => ?_) (fun c1 => ?_)
  · refine lv_goto (tgt := 1532) hx hb dL_law_1235 (by decide) ?_
    refine W.widen (k := 17 + 4 * (j + 1)) (n := 5092 + 152 * (j + 1)) (by omega) (by omega) ?_
    exact hnext bs v o.2 fo _ _ ls hR ⟨hSF, hMd, hO⟩ hS (lv_sub hl [2, 3, 4, 5, 6] rfl)
  · refine lv_aload_n hx hb dL_law_1223 rfl (lv_at hl 5 rfl) ?_
    refine lv_iconst (v := 0) hx hb dL_law_1224 (by decide) ?_
    refine va_lald hx hb hK hO 0 0 rfl rfl in01 dL_law_1225 ?_
    rw [show fo (0 : Int32).toNatClampNeg = o.1.toInt64 from hout c1]
    refine lv_iload hx hb dL_law_1226 (lv_at hl 0 rfl) ?_
    refine lv_i2l hx hb dL_law_1228 rfl ?_
    refine W.lcmp hx hb dL_law_1229 ?_
    rw [lg_self]
    refine lv_if_eq (tgt := 1235) hx hb dL_law_1230 (by decide) (fun _ => ?_) (fun z => absurd rfl z)
    refine lv_goto (tgt := 1532) hx hb dL_law_1235 (by decide) ?_
    refine W.widen (k := 17 + 4 * (j + 1)) (n := 5092 + 152 * (j + 1)) (by omega) (by omega) ?_
    exact hnext bs v o.2 fo _ _ ls hR ⟨hSF, hMd, hO⟩ hS (lv_sub hl [2, 3, 4, 5, 6] rfl)
set_option maxHeartbeats 2000000 in
set_option maxRecDepth 100000 in
theorem lh_nearer {p : Program} {l : Launch} {e : Env} {s : State} {m : MethodId} {below : List Frame} {meth : Method} {c : Code} {b L : Nat} {xs : Nat → Int32} {N0 : Nat} {dC : Nat → ClassId} {dI : Nat → Nat → Nat} {cL cI cO : ClassId} {R : CV → MV → Prop} {j : Nat} (C : LA p l s m meth c b L xs N0 dC dI cL cI cO) (hj : 11 * j + 11 ≤ L) (hnext : Nxt R p l e s m below meth c b N0 (dC, dI) cL cI cO j) (hSim : Sim_nearer R) (bs : Nat → Nat) (v : CV) (mv : MV) (fo : Nat → Int64) (H : Heap) (locs : List Loc) (ls : Array Slot) (hR : R v mv) (hLS : LSt (dC, dI) cL cI cO N0 bs v mv fo H) (hS : va_S (fun q => N0 ≤ q) s.heap H locs) (hl : lv_has ls 8 (lvL b N0 j)) : LW p l e s m below meth c b H locs (17 + 4 * j) (5092 + 152 * j) (F0 m 1126 ls []) := by
  have C0 := C
  obtain ⟨⟨hx, hb, hr, hml, hown, hts, hX, hbl, hlocks, hgv⟩, hN, hK, hev, hl0, hL⟩ := C
  have hw : ∀ w ∈ wG, w.before #[Value.ref b] s = true := fun w h => hts w (wG_tbl w h)
  have hown : s.vm.findClass R_L = some m.cls := hown
  have hbA : ¬ (fun q : Nat => N0 ≤ q) b := fun z => by have z : N0 ≤ b := z; omega
  have hK2 := hK.sub (tys' := [(cL, .long), (cI, .int)]) [0, 1] rfl
  have hj512 : j < 512 := by omega
  have hSs : va_S (fun q => N0 ≤ q) s.heap H locs := hS
  refine lv_aload_n hx hb dL_law_1126 rfl (lv_at hl 1 rfl) ?_
  refine lv_aload_n hx hb dL_law_1127 rfl (lv_at hl 0 rfl) ?_
  refine lv_iload hx hb dL_law_1128 (lv_at hl 4 rfl) ?_
  refine lv_iconst (v := 1) hx hb dL_law_1130 (by decide) ?_
  refine lv_iadd hx hb dL_law_1131 ?_
  refine va_sld hx hb hX hbl hbA hSs (w_in hL hj 1 (by decide)) dL_law_1132 ?_
  refine lv_aload_n hx hb dL_law_1133 rfl (lv_at hl 0 rfl) ?_
  refine lv_iload hx hb dL_law_1134 (lv_at hl 4 rfl) ?_
  refine lv_iconst (v := 2) hx hb dL_law_1136 (by decide) ?_
  refine lv_iadd hx hb dL_law_1137 ?_
  refine va_sld hx hb hX hbl hbA hSs (w_in hL hj 2 (by decide)) dL_law_1138 ?_
  refine lv_aload_n hx hb dL_law_1139 rfl (lv_at hl 0 rfl) ?_
  refine lv_iload hx hb dL_law_1140 (lv_at hl 4 rfl) ?_
  refine lv_iconst (v := 3) hx hb dL_law_1142 (by decide) ?_
  refine lv_iadd hx hb dL_law_1143 ?_
  refine va_sld hx hb hX hbl hbA hSs (w_in hL hj 3 (by decide)) dL_law_1144 ?_
  refine lv_i2l hx hb dL_law_1145 rfl ?_
  refine lv_bipush (v := 32) hx hb dL_law_1146 (by decide) ?_
  refine lv_lshl hx hb dL_law_1148 rfl ?_
  refine lv_aload_n hx hb dL_law_1149 rfl (lv_at hl 0 rfl) ?_
  refine lv_iload hx hb dL_law_1150 (lv_at hl 4 rfl) ?_
  refine lv_iconst (v := 4) hx hb dL_law_1152 (by decide) ?_
  refine lv_iadd hx hb dL_law_1153 ?_
  refine va_sld hx hb hX hbl hbA hSs (w_in hL hj 4 (by decide)) dL_law_1154 ?_
  refine lv_i2l hx hb dL_law_1155 rfl ?_
  refine lv_ldc2 (v := 4294967295) hx hb hown (hw _ w_688) dL_law_1156 ?_
  refine lv_land hx hb dL_law_1159 ?_
  refine lv_lor hx hb dL_law_1160 ?_
  refine lv_aload_n hx hb dL_law_1161 rfl (lv_at hl 3 rfl) ?_
  refine W.eq (g2 := F0 m 1162 ls [.ref (N0 + 16), .long (wJ xs j 3 4), .int (wI xs j 2), .int (wI xs j 1), .ref N0]) rfl ?_
  obtain ⟨o, hM, hcase⟩ := hSim v mv hR (wI xs j 1) (wI xs j 2) (wJ xs j 3 4)
  obtain ⟨hSF, hMd, hO⟩ := hLS
  have hk0 : ∀ q : Nat, q < s.heap.size → ¬ N0 ≤ q → H[q]? = s.heap[q]? := hS.2.1
  rcases hcase with ⟨r, hF, hth, he, hR2⟩ | ⟨hF, hth, hR2⟩ | ⟨hF, hth, hR2⟩ | ⟨hF, hth, hR2⟩
  · refine al_call (vx_runSW (As := [.ref N0, .int (wI xs j 1), .int (wI xs j 2), .long (wJ xs j 3 4), .ref (N0 + 16)]) (rest := []) ⟨hx, hb, hml, hown, hw⟩ (kn_L_nearer l N0 H.size dC dI cL cI cO bs v fo (wI xs j 1) (wI xs j 2) (wJ xs j 3 4) r hF) (vx_cwSW 5 hw (gSW w_353 w_354 w_0 wc_355) rfl rfl rfl (by decide +kernel) ⟨Nat.le_of_ble_eq_true rfl, Nat.le_of_ble_eq_true rfl⟩) ⟨hl_blind, hl_pre ⟨⟨hSF, rfl⟩, hO⟩ hK hev hk0⟩ rfl rfl hl.1 rfl (lv_room (Nat.le_of_ble_eq_true rfl)) dL_law_1162 ⟨by show 17 + 4 * j + 4 ≤ 601024; omega, by show 5092 + 152 * j + 152 ≤ 7293034; omega⟩) hS (fun q z => by have z : (q = N0 ∨ q = N0 + 1 ∨ N0 + 17 ≤ q) ∨ q = N0 + 16 := z; show N0 ≤ q; omega) (fun H1 locs hG hS hle hk => ?_)
    obtain ⟨⟨bs', hSF⟩, hO⟩ := hG
    exact lt_nearer C0 hj hnext 0 o bs' _ mv _ _ _ ls hM hth hR2 (fun _ => by show vp_updL fo 0 _ 0 = _; rw [show ∀ x : Int64, vp_updL fo 0 x 0 = x from fun x => by simp [vp_updL]]; exact he) ⟨hSF, md_keepL hMd hk, hO⟩ hS hl
  · refine al_call (vx_runSW (As := [.ref N0, .int (wI xs j 1), .int (wI xs j 2), .long (wJ xs j 3 4), .ref (N0 + 16)]) (rest := []) ⟨hx, hb, hml, hown, hw⟩ (kxIOB_L_nearer l hl0 N0 H.size dC dI cL cI cO bs v fo (wI xs j 1) (wI xs j 2) (wJ xs j 3 4) hF) (vx_cwSW 5 hw (gSW w_353 w_354 w_0 wc_355) rfl rfl rfl (by decide +kernel) ⟨Nat.le_of_ble_eq_true rfl, Nat.le_of_ble_eq_true rfl⟩) ⟨hl_blind, hl_pre ⟨⟨hSF, rfl⟩, hO⟩ hK hev hk0⟩ rfl rfl hl.1 rfl (lv_room (Nat.le_of_ble_eq_true rfl)) dL_law_1162 ⟨by show 17 + 4 * j + 4 ≤ 601024; omega, by show 5092 + 152 * j + 152 ≤ 7293034; omega⟩) hS (fun q z => by have z : (q = N0 ∨ q = N0 + 1 ∨ N0 + 17 ≤ q) ∨ q = N0 + 16 := z; show N0 ≤ q; omega) (fun H1 locs hG hS hle hk => ?_)
    obtain ⟨⟨bs', hSF⟩, hO⟩ := hG
    exact lt_nearer C0 hj hnext 1 o bs' _ mv _ _ _ ls hM hth hR2 (fun z => absurd z (by decide)) ⟨hSF, md_keepL hMd hk, hO⟩ hS hl
  · refine al_call (vx_runSW (As := [.ref N0, .int (wI xs j 1), .int (wI xs j 2), .long (wJ xs j 3 4), .ref (N0 + 16)]) (rest := []) ⟨hx, hb, hml, hown, hw⟩ (kxISE_L_nearer l hl0 N0 H.size dC dI cL cI cO bs v fo (wI xs j 1) (wI xs j 2) (wJ xs j 3 4) hF) (vx_cwSW 5 hw (gSW w_353 w_354 w_0 wc_355) rfl rfl rfl (by decide +kernel) ⟨Nat.le_of_ble_eq_true rfl, Nat.le_of_ble_eq_true rfl⟩) ⟨hl_blind, hl_pre ⟨⟨hSF, rfl⟩, hO⟩ hK hev hk0⟩ rfl rfl hl.1 rfl (lv_room (Nat.le_of_ble_eq_true rfl)) dL_law_1162 ⟨by show 17 + 4 * j + 4 ≤ 601024; omega, by show 5092 + 152 * j + 152 ≤ 7293034; omega⟩) hS (fun q z => by have z : (q = N0 ∨ q = N0 + 1 ∨ N0 + 17 ≤ q) ∨ q = N0 + 16 := z; show N0 ≤ q; omega) (fun H1 locs hG hS hle hk => ?_)
    obtain ⟨⟨bs', hSF⟩, hO⟩ := hG
    exact lt_nearer C0 hj hnext 2 o bs' _ mv _ _ _ ls hM hth hR2 (fun z => absurd z (by decide)) ⟨hSF, md_keepL hMd hk, hO⟩ hS hl
  · refine al_call (vx_runSW (As := [.ref N0, .int (wI xs j 1), .int (wI xs j 2), .long (wJ xs j 3 4), .ref (N0 + 16)]) (rest := []) ⟨hx, hb, hml, hown, hw⟩ (kxIAE_L_nearer l hl0 N0 H.size dC dI cL cI cO bs v fo (wI xs j 1) (wI xs j 2) (wJ xs j 3 4) hF) (vx_cwSW 5 hw (gSW w_353 w_354 w_0 wc_355) rfl rfl rfl (by decide +kernel) ⟨Nat.le_of_ble_eq_true rfl, Nat.le_of_ble_eq_true rfl⟩) ⟨hl_blind, hl_pre ⟨⟨hSF, rfl⟩, hO⟩ hK hev hk0⟩ rfl rfl hl.1 rfl (lv_room (Nat.le_of_ble_eq_true rfl)) dL_law_1162 ⟨by show 17 + 4 * j + 4 ≤ 601024; omega, by show 5092 + 152 * j + 152 ≤ 7293034; omega⟩) hS (fun q z => by have z : (q = N0 ∨ q = N0 + 1 ∨ N0 + 17 ≤ q) ∨ q = N0 + 16 := z; show N0 ≤ q; omega) (fun H1 locs hG hS hle hk => ?_)
    obtain ⟨⟨bs', hSF⟩, hO⟩ := hG
    exact lt_nearer C0 hj hnext 3 o bs' _ mv _ _ _ ls hM hth hR2 (fun z => absurd z (by decide)) ⟨hSF, md_keepL hMd hk, hO⟩ hS hl
def Sim_boxOf (R : CV → MV → Prop) : Prop := ∀ v mv, R v mv → ∀ (p0 : Int32) (p1 : Int32), ∃ o : Int64 × MV, f_M_boxOf mv p0 p1 = some o ∧ ((∃ r : Int64, f_F_boxOf v p0 p1 = some r ∧ md_thrown o.2 = 0 ∧ r = o.1 ∧ R v o.2) ∨ (g_F_boxOf v p0 p1 = some "java/lang/IndexOutOfBoundsException" ∧ md_thrown o.2 = 1 ∧ R v o.2) ∨ (g_F_boxOf v p0 p1 = some "java/lang/IllegalStateException" ∧ md_thrown o.2 = 2 ∧ R v o.2))
set_option maxHeartbeats 2000000 in
set_option maxRecDepth 100000 in
theorem lt_boxOf {p : Program} {l : Launch} {e : Env} {s : State} {m : MethodId} {below : List Frame} {meth : Method} {c : Code} {b L : Nat} {xs : Nat → Int32} {N0 : Nat} {dC : Nat → ClassId} {dI : Nat → Nat → Nat} {cL cI cO : ClassId} {R : CV → MV → Prop} {j : Nat} (C : LA p l s m meth c b L xs N0 dC dI cL cI cO) (hj : 11 * j + 11 ≤ L) (hnext : Nxt R p l e s m below meth c b N0 (dC, dI) cL cI cO j) (k : Int32) (o : Int64 × MV) (bs : Nat → Nat) (v : CV) (mv : MV) (fo : Nat → Int64) (H : Heap) (locs : List Loc) (ls : Array Slot) (hM : f_M_boxOf mv (wI xs j 1) (wI xs j 2) = some o) (hth : md_thrown o.2 = k) (hR : R v o.2) (hout : k = 0 → fo 0 = o.1) (hLS : LSt (dC, dI) cL cI cO N0 bs v mv fo H) (hS : va_S (fun q => N0 ≤ q) s.heap H locs) (hl : lv_has ls 8 (lvL b N0 j)) : LW p l e s m below meth c b H locs (17 + 4 * j + 4) (5092 + 152 * j + 152) (F0 m 1255 ls [.int k]) := by
  obtain ⟨⟨hx, hb, hr, hml, hown, hts, hX, hbl, hlocks, hgv⟩, hN, hK, hev, hl0, hL⟩ := C
  have hw : ∀ w ∈ wG, w.before #[Value.ref b] s = true := fun w h => hts w (wG_tbl w h)
  have hown : s.vm.findClass R_L = some m.cls := hown
  have hbA : ¬ (fun q : Nat => N0 ≤ q) b := fun z => by have z : N0 ≤ b := z; omega
  have hK2 := hK.sub (tys' := [(cL, .long), (cI, .int)]) [0, 1] rfl
  have hj512 : j < 512 := by omega
  obtain ⟨hSF, hMd, hO⟩ := hLS
  have hSs : va_S (fun q => N0 ≤ q) s.heap H locs := hS
  refine lv_istore (lv' := [(5, .int k), (0, .ref b), (1, .ref N0), (2, .ref (N0 + 2)), (3, .ref (N0 + 16)), (4, .int (nI (11 * j)))]) hx hb dL_law_1255 hl (by decide) rfl (fun ls hl => ?_)
  refine lv_aload_n hx hb dL_law_1257 rfl (lv_at hl 3 rfl) ?_
  refine lv_aload_n hx hb dL_law_1258 rfl (lv_at hl 1 rfl) ?_
  refine lv_iload hx hb dL_law_1259 (lv_at hl 5 rfl) ?_
  refine lv_iconst (v := 1) hx hb dL_law_1261 (by decide) ?_
  refine lv_iadd hx hb dL_law_1262 ?_
  refine va_sld hx hb hX hbl hbA hSs (w_in hL hj 1 (by decide)) dL_law_1263 ?_
  refine lv_aload_n hx hb dL_law_1264 rfl (lv_at hl 1 rfl) ?_
  refine lv_iload hx hb dL_law_1265 (lv_at hl 5 rfl) ?_
  refine lv_iconst (v := 2) hx hb dL_law_1267 (by decide) ?_
  refine lv_iadd hx hb dL_law_1268 ?_
  refine va_sld hx hb hX hbl hbA hSs (w_in hL hj 2 (by decide)) dL_law_1269 ?_
  refine W.eq (g2 := F0 m 1270 ls [.int (wI xs j 2), .int (wI xs j 1), .ref (N0 + 2)]) rfl ?_
  refine mu_call (va_runV (As := [.int (wI xs j 1), .int (wI xs j 2)]) (rest := []) ⟨hx, hb, hml, hown, hw⟩ (k_M_boxOf l dC dI cL cI (qM N0) mv (wI xs j 1) (wI xs j 2) o hM) (cwV 2 hw (gV w_661 w_662 w_663 w_2 w_664) rfl rfl rfl (by decide +kernel) ⟨Nat.le_of_ble_eq_true rfl, Nat.le_of_ble_eq_true rfl⟩) ⟨rd_blind, va_recv hK hMd (ci := 2) (q0 := 0) rfl rfl, rd_pre ⟨hMd, md_D0⟩ hK2⟩ rfl rfl hl.1 rfl (lv_room (Nat.le_of_ble_eq_true rfl)) dL_law_1270 ⟨by show 17 + 4 * j + 4 + 0 ≤ 601024; omega, by show 5092 + 152 * j + 152 + 0 ≤ 7293034; omega⟩) hS (fun q z => by have := inQ_le z; show N0 ≤ q; omega) (fun H locs hMd hS hle hk => ?_)
  replace hSF := sfs_keepM hSF hle hk
  replace hO := out_keepM hO hk
  refine lv_lstore (lv' := [(6, .long o.1), (5, .int k), (0, .ref b), (1, .ref N0), (2, .ref (N0 + 2)), (3, .ref (N0 + 16)), (4, .int (nI (11 * j)))]) hx hb dL_law_1273 hl (by decide) rfl (fun ls hl => ?_)
  refine lv_aload_n hx hb dL_law_1275 rfl (lv_at hl 4 rfl) ?_
  refine vp_callSi (va_Run.run (va_runV (As := []) (rest := []) ⟨hx, hb, hml, hown, hw⟩ (k_M_thrown l dC dI cL cI (qM N0) o.2 _ rfl) (cwV 0 hw (gV w_491 w_492 w_493 w_2 w_494) rfl rfl rfl (by decide +kernel) ⟨Nat.le_of_ble_eq_true rfl, Nat.le_of_ble_eq_true rfl⟩) ⟨rd_blind, va_recv hK hMd (ci := 2) (q0 := 0) rfl rfl, rd_pre hMd hK2⟩ rfl rfl hl.1 rfl (lv_room (Nat.le_of_ble_eq_true rfl)) dL_law_1276 ⟨by show 17 + 4 * j + 4 + 0 ≤ 601024; omega, by show 5092 + 152 * j + 152 + 0 ≤ 7293034; omega⟩)) (fun z hz9 => ?_)
  rw [hz9, hth]; clear hz9
  refine lv_iload hx hb dL_law_1279 (lv_at hl 1 rfl) ?_
  refine lv_icmp_eq (tgt := 1286) hx hb dL_law_1281 (by decide) (fun _ => ?_) (fun z => absurd rfl z)
  refine lv_iload hx hb dL_law_1286 (lv_at hl 1 rfl) ?_
  refine lv_if_ne (tgt := 1302) hx hb dL_law_1288 (by decide) (fun _ => ?_) (fun c1 => ?_)
  · refine lv_goto (tgt := 1532) hx hb dL_law_1302 (by decide) ?_
    refine W.widen (k := 17 + 4 * (j + 1)) (n := 5092 + 152 * (j + 1)) (by omega) (by omega) ?_
    exact hnext bs v o.2 fo _ _ ls hR ⟨hSF, hMd, hO⟩ hS (lv_sub hl [2, 3, 4, 5, 6] rfl)
  · refine lv_aload_n hx hb dL_law_1291 rfl (lv_at hl 5 rfl) ?_
    refine lv_iconst (v := 0) hx hb dL_law_1292 (by decide) ?_
    refine va_lald hx hb hK hO 0 0 rfl rfl in01 dL_law_1293 ?_
    rw [show fo (0 : Int32).toNatClampNeg = o.1 from hout c1]
    refine lv_lload hx hb dL_law_1294 (lv_at hl 0 rfl) ?_
    refine W.lcmp hx hb dL_law_1296 ?_
    rw [lg_self]
    refine lv_if_eq (tgt := 1302) hx hb dL_law_1297 (by decide) (fun _ => ?_) (fun z => absurd rfl z)
    refine lv_goto (tgt := 1532) hx hb dL_law_1302 (by decide) ?_
    refine W.widen (k := 17 + 4 * (j + 1)) (n := 5092 + 152 * (j + 1)) (by omega) (by omega) ?_
    exact hnext bs v o.2 fo _ _ ls hR ⟨hSF, hMd, hO⟩ hS (lv_sub hl [2, 3, 4, 5, 6] rfl)
set_option maxHeartbeats 2000000 in
set_option maxRecDepth 100000 in
theorem lh_boxOf {p : Program} {l : Launch} {e : Env} {s : State} {m : MethodId} {below : List Frame} {meth : Method} {c : Code} {b L : Nat} {xs : Nat → Int32} {N0 : Nat} {dC : Nat → ClassId} {dI : Nat → Nat → Nat} {cL cI cO : ClassId} {R : CV → MV → Prop} {j : Nat} (C : LA p l s m meth c b L xs N0 dC dI cL cI cO) (hj : 11 * j + 11 ≤ L) (hnext : Nxt R p l e s m below meth c b N0 (dC, dI) cL cI cO j) (hSim : Sim_boxOf R) (bs : Nat → Nat) (v : CV) (mv : MV) (fo : Nat → Int64) (H : Heap) (locs : List Loc) (ls : Array Slot) (hR : R v mv) (hLS : LSt (dC, dI) cL cI cO N0 bs v mv fo H) (hS : va_S (fun q => N0 ≤ q) s.heap H locs) (hl : lv_has ls 8 (lvL b N0 j)) : LW p l e s m below meth c b H locs (17 + 4 * j) (5092 + 152 * j) (F0 m 1238 ls []) := by
  have C0 := C
  obtain ⟨⟨hx, hb, hr, hml, hown, hts, hX, hbl, hlocks, hgv⟩, hN, hK, hev, hl0, hL⟩ := C
  have hw : ∀ w ∈ wG, w.before #[Value.ref b] s = true := fun w h => hts w (wG_tbl w h)
  have hown : s.vm.findClass R_L = some m.cls := hown
  have hbA : ¬ (fun q : Nat => N0 ≤ q) b := fun z => by have z : N0 ≤ b := z; omega
  have hK2 := hK.sub (tys' := [(cL, .long), (cI, .int)]) [0, 1] rfl
  have hj512 : j < 512 := by omega
  have hSs : va_S (fun q => N0 ≤ q) s.heap H locs := hS
  refine lv_aload_n hx hb dL_law_1238 rfl (lv_at hl 1 rfl) ?_
  refine lv_aload_n hx hb dL_law_1239 rfl (lv_at hl 0 rfl) ?_
  refine lv_iload hx hb dL_law_1240 (lv_at hl 4 rfl) ?_
  refine lv_iconst (v := 1) hx hb dL_law_1242 (by decide) ?_
  refine lv_iadd hx hb dL_law_1243 ?_
  refine va_sld hx hb hX hbl hbA hSs (w_in hL hj 1 (by decide)) dL_law_1244 ?_
  refine lv_aload_n hx hb dL_law_1245 rfl (lv_at hl 0 rfl) ?_
  refine lv_iload hx hb dL_law_1246 (lv_at hl 4 rfl) ?_
  refine lv_iconst (v := 2) hx hb dL_law_1248 (by decide) ?_
  refine lv_iadd hx hb dL_law_1249 ?_
  refine va_sld hx hb hX hbl hbA hSs (w_in hL hj 2 (by decide)) dL_law_1250 ?_
  refine lv_aload_n hx hb dL_law_1251 rfl (lv_at hl 3 rfl) ?_
  refine W.eq (g2 := F0 m 1252 ls [.ref (N0 + 16), .int (wI xs j 2), .int (wI xs j 1), .ref N0]) rfl ?_
  obtain ⟨o, hM, hcase⟩ := hSim v mv hR (wI xs j 1) (wI xs j 2)
  obtain ⟨hSF, hMd, hO⟩ := hLS
  have hk0 : ∀ q : Nat, q < s.heap.size → ¬ N0 ≤ q → H[q]? = s.heap[q]? := hS.2.1
  rcases hcase with ⟨r, hF, hth, he, hR2⟩ | ⟨hF, hth, hR2⟩ | ⟨hF, hth, hR2⟩
  · refine al_call (vx_runSW (As := [.ref N0, .int (wI xs j 1), .int (wI xs j 2), .ref (N0 + 16)]) (rest := []) ⟨hx, hb, hml, hown, hw⟩ (kn_L_boxOf l N0 H.size dC dI cL cI cO bs v fo (wI xs j 1) (wI xs j 2) r hF) (vx_cwSW 4 hw (gSW w_378 w_379 w_0 wc_380) rfl rfl rfl (by decide +kernel) ⟨Nat.le_of_ble_eq_true rfl, Nat.le_of_ble_eq_true rfl⟩) ⟨hl_blind, hl_pre ⟨⟨hSF, rfl⟩, hO⟩ hK hev hk0⟩ rfl rfl hl.1 rfl (lv_room (Nat.le_of_ble_eq_true rfl)) dL_law_1252 ⟨by show 17 + 4 * j + 4 ≤ 601024; omega, by show 5092 + 152 * j + 152 ≤ 7293034; omega⟩) hS (fun q z => by have z : (q = N0 ∨ q = N0 + 1 ∨ N0 + 17 ≤ q) ∨ q = N0 + 16 := z; show N0 ≤ q; omega) (fun H1 locs hG hS hle hk => ?_)
    obtain ⟨⟨bs', hSF⟩, hO⟩ := hG
    exact lt_boxOf C0 hj hnext 0 o bs' _ mv _ _ _ ls hM hth hR2 (fun _ => by show vp_updL fo 0 _ 0 = _; rw [show ∀ x : Int64, vp_updL fo 0 x 0 = x from fun x => by simp [vp_updL]]; exact he) ⟨hSF, md_keepL hMd hk, hO⟩ hS hl
  · refine al_call (vx_runSW (As := [.ref N0, .int (wI xs j 1), .int (wI xs j 2), .ref (N0 + 16)]) (rest := []) ⟨hx, hb, hml, hown, hw⟩ (kxIOB_L_boxOf l hl0 N0 H.size dC dI cL cI cO bs v fo (wI xs j 1) (wI xs j 2) hF) (vx_cwSW 4 hw (gSW w_378 w_379 w_0 wc_380) rfl rfl rfl (by decide +kernel) ⟨Nat.le_of_ble_eq_true rfl, Nat.le_of_ble_eq_true rfl⟩) ⟨hl_blind, hl_pre ⟨⟨hSF, rfl⟩, hO⟩ hK hev hk0⟩ rfl rfl hl.1 rfl (lv_room (Nat.le_of_ble_eq_true rfl)) dL_law_1252 ⟨by show 17 + 4 * j + 4 ≤ 601024; omega, by show 5092 + 152 * j + 152 ≤ 7293034; omega⟩) hS (fun q z => by have z : (q = N0 ∨ q = N0 + 1 ∨ N0 + 17 ≤ q) ∨ q = N0 + 16 := z; show N0 ≤ q; omega) (fun H1 locs hG hS hle hk => ?_)
    obtain ⟨⟨bs', hSF⟩, hO⟩ := hG
    exact lt_boxOf C0 hj hnext 1 o bs' _ mv _ _ _ ls hM hth hR2 (fun z => absurd z (by decide)) ⟨hSF, md_keepL hMd hk, hO⟩ hS hl
  · refine al_call (vx_runSW (As := [.ref N0, .int (wI xs j 1), .int (wI xs j 2), .ref (N0 + 16)]) (rest := []) ⟨hx, hb, hml, hown, hw⟩ (kxISE_L_boxOf l hl0 N0 H.size dC dI cL cI cO bs v fo (wI xs j 1) (wI xs j 2) hF) (vx_cwSW 4 hw (gSW w_378 w_379 w_0 wc_380) rfl rfl rfl (by decide +kernel) ⟨Nat.le_of_ble_eq_true rfl, Nat.le_of_ble_eq_true rfl⟩) ⟨hl_blind, hl_pre ⟨⟨hSF, rfl⟩, hO⟩ hK hev hk0⟩ rfl rfl hl.1 rfl (lv_room (Nat.le_of_ble_eq_true rfl)) dL_law_1252 ⟨by show 17 + 4 * j + 4 ≤ 601024; omega, by show 5092 + 152 * j + 152 ≤ 7293034; omega⟩) hS (fun q z => by have z : (q = N0 ∨ q = N0 + 1 ∨ N0 + 17 ≤ q) ∨ q = N0 + 16 := z; show N0 ≤ q; omega) (fun H1 locs hG hS hle hk => ?_)
    obtain ⟨⟨bs', hSF⟩, hO⟩ := hG
    exact lt_boxOf C0 hj hnext 2 o bs' _ mv _ _ _ ls hM hth hR2 (fun z => absurd z (by decide)) ⟨hSF, md_keepL hMd hk, hO⟩ hS hl
def Sim_turn (R : CV → MV → Prop) : Prop := ∀ v mv, R v mv → ∀ (p0 : Int32) (p1 : Int32) (p2 : Int32), (p2 = 0 ∨ p2 = 1) → ∃ o : Int32 × MV, f_M_turn mv p0 p1 p2 = some o ∧ ((∃ r : Int32 × CV, f_F_turn v p0 p1 p2 = some r ∧ md_thrown o.2 = 0 ∧ r.1.toInt64 = o.1.toInt64 ∧ R r.2 o.2) ∨ (g_F_turn v p0 p1 p2 = some "java/lang/IndexOutOfBoundsException" ∧ md_thrown o.2 = 1 ∧ R v o.2) ∨ (g_F_turn v p0 p1 p2 = some "java/lang/IllegalStateException" ∧ md_thrown o.2 = 2 ∧ R v o.2))
set_option maxHeartbeats 2000000 in
set_option maxRecDepth 100000 in
theorem lt_turn_0 {p : Program} {l : Launch} {e : Env} {s : State} {m : MethodId} {below : List Frame} {meth : Method} {c : Code} {b L : Nat} {xs : Nat → Int32} {N0 : Nat} {dC : Nat → ClassId} {dI : Nat → Nat → Nat} {cL cI cO : ClassId} {R : CV → MV → Prop} {j : Nat} (C : LA p l s m meth c b L xs N0 dC dI cL cI cO) (hj : 11 * j + 11 ≤ L) (hnext : Nxt R p l e s m below meth c b N0 (dC, dI) cL cI cO j) (hflag : wI xs j 3 = 0) (k : Int32) (o : Int32 × MV) (bs : Nat → Nat) (v : CV) (mv : MV) (fo : Nat → Int64) (H : Heap) (locs : List Loc) (ls : Array Slot) (hM : f_M_turn mv (wI xs j 1) (wI xs j 2) 0 = some o) (hth : md_thrown o.2 = k) (hR : R v o.2) (hout : k = 0 → fo 0 = o.1.toInt64) (hLS : LSt (dC, dI) cL cI cO N0 bs v mv fo H) (hS : va_S (fun q => N0 ≤ q) s.heap H locs) (hl : lv_has ls 8 (lvL b N0 j)) : LW p l e s m below meth c b H locs (17 + 4 * j + 4) (5092 + 152 * j + 152) (F0 m 1336 ls [.int k]) := by
  obtain ⟨⟨hx, hb, hr, hml, hown, hts, hX, hbl, hlocks, hgv⟩, hN, hK, hev, hl0, hL⟩ := C
  have hw : ∀ w ∈ wG, w.before #[Value.ref b] s = true := fun w h => hts w (wG_tbl w h)
  have hown : s.vm.findClass R_L = some m.cls := hown
  have hbA : ¬ (fun q : Nat => N0 ≤ q) b := fun z => by have z : N0 ≤ b := z; omega
  have hK2 := hK.sub (tys' := [(cL, .long), (cI, .int)]) [0, 1] rfl
  have hj512 : j < 512 := by omega
  obtain ⟨hSF, hMd, hO⟩ := hLS
  have hSs : va_S (fun q => N0 ≤ q) s.heap H locs := hS
  refine lv_istore (lv' := [(5, .int k), (0, .ref b), (1, .ref N0), (2, .ref (N0 + 2)), (3, .ref (N0 + 16)), (4, .int (nI (11 * j)))]) hx hb dL_law_1336 hl (by decide) rfl (fun ls hl => ?_)
  refine lv_aload_n hx hb dL_law_1338 rfl (lv_at hl 3 rfl) ?_
  refine lv_aload_n hx hb dL_law_1339 rfl (lv_at hl 1 rfl) ?_
  refine lv_iload hx hb dL_law_1340 (lv_at hl 5 rfl) ?_
  refine lv_iconst (v := 1) hx hb dL_law_1342 (by decide) ?_
  refine lv_iadd hx hb dL_law_1343 ?_
  refine va_sld hx hb hX hbl hbA hSs (w_in hL hj 1 (by decide)) dL_law_1344 ?_
  refine lv_aload_n hx hb dL_law_1345 rfl (lv_at hl 1 rfl) ?_
  refine lv_iload hx hb dL_law_1346 (lv_at hl 5 rfl) ?_
  refine lv_iconst (v := 2) hx hb dL_law_1348 (by decide) ?_
  refine lv_iadd hx hb dL_law_1349 ?_
  refine va_sld hx hb hX hbl hbA hSs (w_in hL hj 2 (by decide)) dL_law_1350 ?_
  refine lv_aload_n hx hb dL_law_1351 rfl (lv_at hl 1 rfl) ?_
  refine lv_iload hx hb dL_law_1352 (lv_at hl 5 rfl) ?_
  refine lv_iconst (v := 3) hx hb dL_law_1354 (by decide) ?_
  refine lv_iadd hx hb dL_law_1355 ?_
  refine va_sld hx hb hX hbl hbA hSs (w_in hL hj 3 (by decide)) dL_law_1356 ?_
  refine lv_if_eq (tgt := 1364) hx hb dL_law_1357 (by decide) (fun _ => ?_) (fun z => absurd hflag z)
  refine lv_iconst (v := 0) hx hb dL_law_1364 (by decide) ?_
  refine W.eq (g2 := F0 m 1365 ls [.int 0, .int (wI xs j 2), .int (wI xs j 1), .ref (N0 + 2)]) rfl ?_
  refine mu_call (va_runV (As := [.int (wI xs j 1), .int (wI xs j 2), .int 0]) (rest := []) ⟨hx, hb, hml, hown, hw⟩ (k_M_turn l dC dI cL cI (qM N0) mv (wI xs j 1) (wI xs j 2) 0 o hM) (cwV 3 hw (gV w_653 w_654 w_655 w_2 w_656) rfl rfl rfl (by decide +kernel) ⟨Nat.le_of_ble_eq_true rfl, Nat.le_of_ble_eq_true rfl⟩) ⟨rd_blind, va_recv hK hMd (ci := 2) (q0 := 0) rfl rfl, rd_pre ⟨hMd, md_D0⟩ hK2⟩ rfl rfl hl.1 rfl (lv_room (Nat.le_of_ble_eq_true rfl)) dL_law_1365 ⟨by show 17 + 4 * j + 4 + 0 ≤ 601024; omega, by show 5092 + 152 * j + 152 + 0 ≤ 7293034; omega⟩) hS (fun q z => by have := inQ_le z; show N0 ≤ q; omega) (fun H locs hMd hS hle hk => ?_)
  replace hSF := sfs_keepM hSF hle hk
  replace hO := out_keepM hO hk
  refine lv_istore (lv' := [(6, .int o.1), (5, .int k), (0, .ref b), (1, .ref N0), (2, .ref (N0 + 2)), (3, .ref (N0 + 16)), (4, .int (nI (11 * j)))]) hx hb dL_law_1368 hl (by decide) rfl (fun ls hl => ?_)
  refine lv_aload_n hx hb dL_law_1370 rfl (lv_at hl 4 rfl) ?_
  refine vp_callSi (va_Run.run (va_runV (As := []) (rest := []) ⟨hx, hb, hml, hown, hw⟩ (k_M_thrown l dC dI cL cI (qM N0) o.2 _ rfl) (cwV 0 hw (gV w_491 w_492 w_493 w_2 w_494) rfl rfl rfl (by decide +kernel) ⟨Nat.le_of_ble_eq_true rfl, Nat.le_of_ble_eq_true rfl⟩) ⟨rd_blind, va_recv hK hMd (ci := 2) (q0 := 0) rfl rfl, rd_pre hMd hK2⟩ rfl rfl hl.1 rfl (lv_room (Nat.le_of_ble_eq_true rfl)) dL_law_1371 ⟨by show 17 + 4 * j + 4 + 0 ≤ 601024; omega, by show 5092 + 152 * j + 152 + 0 ≤ 7293034; omega⟩)) (fun z hz9 => ?_)
  rw [hz9, hth]; clear hz9
  refine lv_iload hx hb dL_law_1374 (lv_at hl 1 rfl) ?_
  refine lv_icmp_eq (tgt := 1381) hx hb dL_law_1376 (by decide) (fun _ => ?_) (fun z => absurd rfl z)
  refine lv_iload hx hb dL_law_1381 (lv_at hl 1 rfl) ?_
  refine lv_if_ne (tgt := 1398) hx hb dL_law_1383 (by decide) (fun _ => ?_) (fun c1 => ?_)
  · refine lv_goto (tgt := 1532) hx hb dL_law_1398 (by decide) ?_
    refine W.widen (k := 17 + 4 * (j + 1)) (n := 5092 + 152 * (j + 1)) (by omega) (by omega) ?_
    exact hnext bs v o.2 fo _ _ ls hR ⟨hSF, hMd, hO⟩ hS (lv_sub hl [2, 3, 4, 5, 6] rfl)
  · refine lv_aload_n hx hb dL_law_1386 rfl (lv_at hl 5 rfl) ?_
    refine lv_iconst (v := 0) hx hb dL_law_1387 (by decide) ?_
    refine va_lald hx hb hK hO 0 0 rfl rfl in01 dL_law_1388 ?_
    rw [show fo (0 : Int32).toNatClampNeg = o.1.toInt64 from hout c1]
    refine lv_iload hx hb dL_law_1389 (lv_at hl 0 rfl) ?_
    refine lv_i2l hx hb dL_law_1391 rfl ?_
    refine W.lcmp hx hb dL_law_1392 ?_
    rw [lg_self]
    refine lv_if_eq (tgt := 1398) hx hb dL_law_1393 (by decide) (fun _ => ?_) (fun z => absurd rfl z)
    refine lv_goto (tgt := 1532) hx hb dL_law_1398 (by decide) ?_
    refine W.widen (k := 17 + 4 * (j + 1)) (n := 5092 + 152 * (j + 1)) (by omega) (by omega) ?_
    exact hnext bs v o.2 fo _ _ ls hR ⟨hSF, hMd, hO⟩ hS (lv_sub hl [2, 3, 4, 5, 6] rfl)
set_option maxHeartbeats 2000000 in
set_option maxRecDepth 100000 in
theorem lh_turn_0 {p : Program} {l : Launch} {e : Env} {s : State} {m : MethodId} {below : List Frame} {meth : Method} {c : Code} {b L : Nat} {xs : Nat → Int32} {N0 : Nat} {dC : Nat → ClassId} {dI : Nat → Nat → Nat} {cL cI cO : ClassId} {R : CV → MV → Prop} {j : Nat} (C : LA p l s m meth c b L xs N0 dC dI cL cI cO) (hj : 11 * j + 11 ≤ L) (hnext : Nxt R p l e s m below meth c b N0 (dC, dI) cL cI cO j) (hflag : wI xs j 3 = 0) (hSim : Sim_turn R) (bs : Nat → Nat) (v : CV) (mv : MV) (fo : Nat → Int64) (H : Heap) (locs : List Loc) (ls : Array Slot) (hR : R v mv) (hLS : LSt (dC, dI) cL cI cO N0 bs v mv fo H) (hS : va_S (fun q => N0 ≤ q) s.heap H locs) (hl : lv_has ls 8 (lvL b N0 j)) : LW p l e s m below meth c b H locs (17 + 4 * j) (5092 + 152 * j) (F0 m 1305 ls []) := by
  have C0 := C
  obtain ⟨⟨hx, hb, hr, hml, hown, hts, hX, hbl, hlocks, hgv⟩, hN, hK, hev, hl0, hL⟩ := C
  have hw : ∀ w ∈ wG, w.before #[Value.ref b] s = true := fun w h => hts w (wG_tbl w h)
  have hown : s.vm.findClass R_L = some m.cls := hown
  have hbA : ¬ (fun q : Nat => N0 ≤ q) b := fun z => by have z : N0 ≤ b := z; omega
  have hK2 := hK.sub (tys' := [(cL, .long), (cI, .int)]) [0, 1] rfl
  have hj512 : j < 512 := by omega
  have hSs : va_S (fun q => N0 ≤ q) s.heap H locs := hS
  refine lv_aload_n hx hb dL_law_1305 rfl (lv_at hl 1 rfl) ?_
  refine lv_aload_n hx hb dL_law_1306 rfl (lv_at hl 0 rfl) ?_
  refine lv_iload hx hb dL_law_1307 (lv_at hl 4 rfl) ?_
  refine lv_iconst (v := 1) hx hb dL_law_1309 (by decide) ?_
  refine lv_iadd hx hb dL_law_1310 ?_
  refine va_sld hx hb hX hbl hbA hSs (w_in hL hj 1 (by decide)) dL_law_1311 ?_
  refine lv_aload_n hx hb dL_law_1312 rfl (lv_at hl 0 rfl) ?_
  refine lv_iload hx hb dL_law_1313 (lv_at hl 4 rfl) ?_
  refine lv_iconst (v := 2) hx hb dL_law_1315 (by decide) ?_
  refine lv_iadd hx hb dL_law_1316 ?_
  refine va_sld hx hb hX hbl hbA hSs (w_in hL hj 2 (by decide)) dL_law_1317 ?_
  refine lv_aload_n hx hb dL_law_1318 rfl (lv_at hl 0 rfl) ?_
  refine lv_iload hx hb dL_law_1319 (lv_at hl 4 rfl) ?_
  refine lv_iconst (v := 3) hx hb dL_law_1321 (by decide) ?_
  refine lv_iadd hx hb dL_law_1322 ?_
  refine va_sld hx hb hX hbl hbA hSs (w_in hL hj 3 (by decide)) dL_law_1323 ?_
  refine lv_if_eq (tgt := 1331) hx hb dL_law_1324 (by decide) (fun _ => ?_) (fun z => absurd hflag z)
  refine lv_iconst (v := 0) hx hb dL_law_1331 (by decide) ?_
  refine lv_aload_n hx hb dL_law_1332 rfl (lv_at hl 3 rfl) ?_
  refine W.eq (g2 := F0 m 1333 ls [.ref (N0 + 16), .int 0, .int (wI xs j 2), .int (wI xs j 1), .ref N0]) rfl ?_
  obtain ⟨o, hM, hcase⟩ := hSim v mv hR (wI xs j 1) (wI xs j 2) 0 (Or.inl rfl)
  obtain ⟨hSF, hMd, hO⟩ := hLS
  have hk0 : ∀ q : Nat, q < s.heap.size → ¬ N0 ≤ q → H[q]? = s.heap[q]? := hS.2.1
  rcases hcase with ⟨r, hF, hth, he, hR2⟩ | ⟨hF, hth, hR2⟩ | ⟨hF, hth, hR2⟩
  · refine al_call (vx_runSW (As := [.ref N0, .int (wI xs j 1), .int (wI xs j 2), .int 0, .ref (N0 + 16)]) (rest := []) ⟨hx, hb, hml, hown, hw⟩ (kn_L_turn l N0 H.size dC dI cL cI cO bs v fo (wI xs j 1) (wI xs j 2) 0 r hF) (vx_cwSW 5 hw (gSW w_392 w_393 w_0 wc_394) rfl rfl rfl (by decide +kernel) ⟨Nat.le_of_ble_eq_true rfl, Nat.le_of_ble_eq_true rfl⟩) ⟨hl_blind, hl_pre ⟨⟨hSF, rfl⟩, hO⟩ hK hev hk0⟩ rfl rfl hl.1 rfl (lv_room (Nat.le_of_ble_eq_true rfl)) dL_law_1333 ⟨by show 17 + 4 * j + 4 ≤ 601024; omega, by show 5092 + 152 * j + 152 ≤ 7293034; omega⟩) hS (fun q z => by have z : (q = N0 ∨ q = N0 + 1 ∨ N0 + 17 ≤ q) ∨ q = N0 + 16 := z; show N0 ≤ q; omega) (fun H1 locs hG hS hle hk => ?_)
    obtain ⟨⟨bs', hSF⟩, hO⟩ := hG
    exact lt_turn_0 C0 hj hnext hflag 0 o bs' _ mv _ _ _ ls hM hth hR2 (fun _ => by show vp_updL fo 0 _ 0 = _; rw [show ∀ x : Int64, vp_updL fo 0 x 0 = x from fun x => by simp [vp_updL]]; exact he) ⟨hSF, md_keepL hMd hk, hO⟩ hS hl
  · refine al_call (vx_runSW (As := [.ref N0, .int (wI xs j 1), .int (wI xs j 2), .int 0, .ref (N0 + 16)]) (rest := []) ⟨hx, hb, hml, hown, hw⟩ (kxIOB_L_turn l hl0 N0 H.size dC dI cL cI cO bs v fo (wI xs j 1) (wI xs j 2) 0 hF) (vx_cwSW 5 hw (gSW w_392 w_393 w_0 wc_394) rfl rfl rfl (by decide +kernel) ⟨Nat.le_of_ble_eq_true rfl, Nat.le_of_ble_eq_true rfl⟩) ⟨hl_blind, hl_pre ⟨⟨hSF, rfl⟩, hO⟩ hK hev hk0⟩ rfl rfl hl.1 rfl (lv_room (Nat.le_of_ble_eq_true rfl)) dL_law_1333 ⟨by show 17 + 4 * j + 4 ≤ 601024; omega, by show 5092 + 152 * j + 152 ≤ 7293034; omega⟩) hS (fun q z => by have z : (q = N0 ∨ q = N0 + 1 ∨ N0 + 17 ≤ q) ∨ q = N0 + 16 := z; show N0 ≤ q; omega) (fun H1 locs hG hS hle hk => ?_)
    obtain ⟨⟨bs', hSF⟩, hO⟩ := hG
    exact lt_turn_0 C0 hj hnext hflag 1 o bs' _ mv _ _ _ ls hM hth hR2 (fun z => absurd z (by decide)) ⟨hSF, md_keepL hMd hk, hO⟩ hS hl
  · refine al_call (vx_runSW (As := [.ref N0, .int (wI xs j 1), .int (wI xs j 2), .int 0, .ref (N0 + 16)]) (rest := []) ⟨hx, hb, hml, hown, hw⟩ (kxISE_L_turn l hl0 N0 H.size dC dI cL cI cO bs v fo (wI xs j 1) (wI xs j 2) 0 hF) (vx_cwSW 5 hw (gSW w_392 w_393 w_0 wc_394) rfl rfl rfl (by decide +kernel) ⟨Nat.le_of_ble_eq_true rfl, Nat.le_of_ble_eq_true rfl⟩) ⟨hl_blind, hl_pre ⟨⟨hSF, rfl⟩, hO⟩ hK hev hk0⟩ rfl rfl hl.1 rfl (lv_room (Nat.le_of_ble_eq_true rfl)) dL_law_1333 ⟨by show 17 + 4 * j + 4 ≤ 601024; omega, by show 5092 + 152 * j + 152 ≤ 7293034; omega⟩) hS (fun q z => by have z : (q = N0 ∨ q = N0 + 1 ∨ N0 + 17 ≤ q) ∨ q = N0 + 16 := z; show N0 ≤ q; omega) (fun H1 locs hG hS hle hk => ?_)
    obtain ⟨⟨bs', hSF⟩, hO⟩ := hG
    exact lt_turn_0 C0 hj hnext hflag 2 o bs' _ mv _ _ _ ls hM hth hR2 (fun z => absurd z (by decide)) ⟨hSF, md_keepL hMd hk, hO⟩ hS hl
set_option maxHeartbeats 2000000 in
set_option maxRecDepth 100000 in
theorem lt_turn_1 {p : Program} {l : Launch} {e : Env} {s : State} {m : MethodId} {below : List Frame} {meth : Method} {c : Code} {b L : Nat} {xs : Nat → Int32} {N0 : Nat} {dC : Nat → ClassId} {dI : Nat → Nat → Nat} {cL cI cO : ClassId} {R : CV → MV → Prop} {j : Nat} (C : LA p l s m meth c b L xs N0 dC dI cL cI cO) (hj : 11 * j + 11 ≤ L) (hnext : Nxt R p l e s m below meth c b N0 (dC, dI) cL cI cO j) (hflag : ¬ wI xs j 3 = 0) (k : Int32) (o : Int32 × MV) (bs : Nat → Nat) (v : CV) (mv : MV) (fo : Nat → Int64) (H : Heap) (locs : List Loc) (ls : Array Slot) (hM : f_M_turn mv (wI xs j 1) (wI xs j 2) 1 = some o) (hth : md_thrown o.2 = k) (hR : R v o.2) (hout : k = 0 → fo 0 = o.1.toInt64) (hLS : LSt (dC, dI) cL cI cO N0 bs v mv fo H) (hS : va_S (fun q => N0 ≤ q) s.heap H locs) (hl : lv_has ls 8 (lvL b N0 j)) : LW p l e s m below meth c b H locs (17 + 4 * j + 4) (5092 + 152 * j + 152) (F0 m 1336 ls [.int k]) := by
  obtain ⟨⟨hx, hb, hr, hml, hown, hts, hX, hbl, hlocks, hgv⟩, hN, hK, hev, hl0, hL⟩ := C
  have hw : ∀ w ∈ wG, w.before #[Value.ref b] s = true := fun w h => hts w (wG_tbl w h)
  have hown : s.vm.findClass R_L = some m.cls := hown
  have hbA : ¬ (fun q : Nat => N0 ≤ q) b := fun z => by have z : N0 ≤ b := z; omega
  have hK2 := hK.sub (tys' := [(cL, .long), (cI, .int)]) [0, 1] rfl
  have hj512 : j < 512 := by omega
  obtain ⟨hSF, hMd, hO⟩ := hLS
  have hSs : va_S (fun q => N0 ≤ q) s.heap H locs := hS
  refine lv_istore (lv' := [(5, .int k), (0, .ref b), (1, .ref N0), (2, .ref (N0 + 2)), (3, .ref (N0 + 16)), (4, .int (nI (11 * j)))]) hx hb dL_law_1336 hl (by decide) rfl (fun ls hl => ?_)
  refine lv_aload_n hx hb dL_law_1338 rfl (lv_at hl 3 rfl) ?_
  refine lv_aload_n hx hb dL_law_1339 rfl (lv_at hl 1 rfl) ?_
  refine lv_iload hx hb dL_law_1340 (lv_at hl 5 rfl) ?_
  refine lv_iconst (v := 1) hx hb dL_law_1342 (by decide) ?_
  refine lv_iadd hx hb dL_law_1343 ?_
  refine va_sld hx hb hX hbl hbA hSs (w_in hL hj 1 (by decide)) dL_law_1344 ?_
  refine lv_aload_n hx hb dL_law_1345 rfl (lv_at hl 1 rfl) ?_
  refine lv_iload hx hb dL_law_1346 (lv_at hl 5 rfl) ?_
  refine lv_iconst (v := 2) hx hb dL_law_1348 (by decide) ?_
  refine lv_iadd hx hb dL_law_1349 ?_
  refine va_sld hx hb hX hbl hbA hSs (w_in hL hj 2 (by decide)) dL_law_1350 ?_
  refine lv_aload_n hx hb dL_law_1351 rfl (lv_at hl 1 rfl) ?_
  refine lv_iload hx hb dL_law_1352 (lv_at hl 5 rfl) ?_
  refine lv_iconst (v := 3) hx hb dL_law_1354 (by decide) ?_
  refine lv_iadd hx hb dL_law_1355 ?_
  refine va_sld hx hb hX hbl hbA hSs (w_in hL hj 3 (by decide)) dL_law_1356 ?_
  refine lv_if_eq (tgt := 1364) hx hb dL_law_1357 (by decide) (fun z => absurd z hflag) (fun _ => ?_)
  refine lv_iconst (v := 1) hx hb dL_law_1360 (by decide) ?_
  refine lv_goto (tgt := 1365) hx hb dL_law_1361 (by decide) ?_
  refine W.eq (g2 := F0 m 1365 ls [.int 1, .int (wI xs j 2), .int (wI xs j 1), .ref (N0 + 2)]) rfl ?_
  refine mu_call (va_runV (As := [.int (wI xs j 1), .int (wI xs j 2), .int 1]) (rest := []) ⟨hx, hb, hml, hown, hw⟩ (k_M_turn l dC dI cL cI (qM N0) mv (wI xs j 1) (wI xs j 2) 1 o hM) (cwV 3 hw (gV w_653 w_654 w_655 w_2 w_656) rfl rfl rfl (by decide +kernel) ⟨Nat.le_of_ble_eq_true rfl, Nat.le_of_ble_eq_true rfl⟩) ⟨rd_blind, va_recv hK hMd (ci := 2) (q0 := 0) rfl rfl, rd_pre ⟨hMd, md_D0⟩ hK2⟩ rfl rfl hl.1 rfl (lv_room (Nat.le_of_ble_eq_true rfl)) dL_law_1365 ⟨by show 17 + 4 * j + 4 + 0 ≤ 601024; omega, by show 5092 + 152 * j + 152 + 0 ≤ 7293034; omega⟩) hS (fun q z => by have := inQ_le z; show N0 ≤ q; omega) (fun H locs hMd hS hle hk => ?_)
  replace hSF := sfs_keepM hSF hle hk
  replace hO := out_keepM hO hk
  refine lv_istore (lv' := [(6, .int o.1), (5, .int k), (0, .ref b), (1, .ref N0), (2, .ref (N0 + 2)), (3, .ref (N0 + 16)), (4, .int (nI (11 * j)))]) hx hb dL_law_1368 hl (by decide) rfl (fun ls hl => ?_)
  refine lv_aload_n hx hb dL_law_1370 rfl (lv_at hl 4 rfl) ?_
  refine vp_callSi (va_Run.run (va_runV (As := []) (rest := []) ⟨hx, hb, hml, hown, hw⟩ (k_M_thrown l dC dI cL cI (qM N0) o.2 _ rfl) (cwV 0 hw (gV w_491 w_492 w_493 w_2 w_494) rfl rfl rfl (by decide +kernel) ⟨Nat.le_of_ble_eq_true rfl, Nat.le_of_ble_eq_true rfl⟩) ⟨rd_blind, va_recv hK hMd (ci := 2) (q0 := 0) rfl rfl, rd_pre hMd hK2⟩ rfl rfl hl.1 rfl (lv_room (Nat.le_of_ble_eq_true rfl)) dL_law_1371 ⟨by show 17 + 4 * j + 4 + 0 ≤ 601024; omega, by show 5092 + 152 * j + 152 + 0 ≤ 7293034; omega⟩)) (fun z hz9 => ?_)
  rw [hz9, hth]; clear hz9
  refine lv_iload hx hb dL_law_1374 (lv_at hl 1 rfl) ?_
  refine lv_icmp_eq (tgt := 1381) hx hb dL_law_1376 (by decide) (fun _ => ?_) (fun z => absurd rfl z)
  refine lv_iload hx hb dL_law_1381 (lv_at hl 1 rfl) ?_
  refine lv_if_ne (tgt := 1398) hx hb dL_law_1383 (by decide) (fun _ => ?_) (fun c1 => ?_)
  · refine lv_goto (tgt := 1532) hx hb dL_law_1398 (by decide) ?_
    refine W.widen (k := 17 + 4 * (j + 1)) (n := 5092 + 152 * (j + 1)) (by omega) (by omega) ?_
    exact hnext bs v o.2 fo _ _ ls hR ⟨hSF, hMd, hO⟩ hS (lv_sub hl [2, 3, 4, 5, 6] rfl)
  · refine lv_aload_n hx hb dL_law_1386 rfl (lv_at hl 5 rfl) ?_
    refine lv_iconst (v := 0) hx hb dL_law_1387 (by decide) ?_
    refine va_lald hx hb hK hO 0 0 rfl rfl in01 dL_law_1388 ?_
    rw [show fo (0 : Int32).toNatClampNeg = o.1.toInt64 from hout c1]
    refine lv_iload hx hb dL_law_1389 (lv_at hl 0 rfl) ?_
    refine lv_i2l hx hb dL_law_1391 rfl ?_
    refine W.lcmp hx hb dL_law_1392 ?_
    rw [lg_self]
    refine lv_if_eq (tgt := 1398) hx hb dL_law_1393 (by decide) (fun _ => ?_) (fun z => absurd rfl z)
    refine lv_goto (tgt := 1532) hx hb dL_law_1398 (by decide) ?_
    refine W.widen (k := 17 + 4 * (j + 1)) (n := 5092 + 152 * (j + 1)) (by omega) (by omega) ?_
    exact hnext bs v o.2 fo _ _ ls hR ⟨hSF, hMd, hO⟩ hS (lv_sub hl [2, 3, 4, 5, 6] rfl)
set_option maxHeartbeats 2000000 in
set_option maxRecDepth 100000 in
theorem lh_turn_1 {p : Program} {l : Launch} {e : Env} {s : State} {m : MethodId} {below : List Frame} {meth : Method} {c : Code} {b L : Nat} {xs : Nat → Int32} {N0 : Nat} {dC : Nat → ClassId} {dI : Nat → Nat → Nat} {cL cI cO : ClassId} {R : CV → MV → Prop} {j : Nat} (C : LA p l s m meth c b L xs N0 dC dI cL cI cO) (hj : 11 * j + 11 ≤ L) (hnext : Nxt R p l e s m below meth c b N0 (dC, dI) cL cI cO j) (hflag : ¬ wI xs j 3 = 0) (hSim : Sim_turn R) (bs : Nat → Nat) (v : CV) (mv : MV) (fo : Nat → Int64) (H : Heap) (locs : List Loc) (ls : Array Slot) (hR : R v mv) (hLS : LSt (dC, dI) cL cI cO N0 bs v mv fo H) (hS : va_S (fun q => N0 ≤ q) s.heap H locs) (hl : lv_has ls 8 (lvL b N0 j)) : LW p l e s m below meth c b H locs (17 + 4 * j) (5092 + 152 * j) (F0 m 1305 ls []) := by
  have C0 := C
  obtain ⟨⟨hx, hb, hr, hml, hown, hts, hX, hbl, hlocks, hgv⟩, hN, hK, hev, hl0, hL⟩ := C
  have hw : ∀ w ∈ wG, w.before #[Value.ref b] s = true := fun w h => hts w (wG_tbl w h)
  have hown : s.vm.findClass R_L = some m.cls := hown
  have hbA : ¬ (fun q : Nat => N0 ≤ q) b := fun z => by have z : N0 ≤ b := z; omega
  have hK2 := hK.sub (tys' := [(cL, .long), (cI, .int)]) [0, 1] rfl
  have hj512 : j < 512 := by omega
  have hSs : va_S (fun q => N0 ≤ q) s.heap H locs := hS
  refine lv_aload_n hx hb dL_law_1305 rfl (lv_at hl 1 rfl) ?_
  refine lv_aload_n hx hb dL_law_1306 rfl (lv_at hl 0 rfl) ?_
  refine lv_iload hx hb dL_law_1307 (lv_at hl 4 rfl) ?_
  refine lv_iconst (v := 1) hx hb dL_law_1309 (by decide) ?_
  refine lv_iadd hx hb dL_law_1310 ?_
  refine va_sld hx hb hX hbl hbA hSs (w_in hL hj 1 (by decide)) dL_law_1311 ?_
  refine lv_aload_n hx hb dL_law_1312 rfl (lv_at hl 0 rfl) ?_
  refine lv_iload hx hb dL_law_1313 (lv_at hl 4 rfl) ?_
  refine lv_iconst (v := 2) hx hb dL_law_1315 (by decide) ?_
  refine lv_iadd hx hb dL_law_1316 ?_
  refine va_sld hx hb hX hbl hbA hSs (w_in hL hj 2 (by decide)) dL_law_1317 ?_
  refine lv_aload_n hx hb dL_law_1318 rfl (lv_at hl 0 rfl) ?_
  refine lv_iload hx hb dL_law_1319 (lv_at hl 4 rfl) ?_
  refine lv_iconst (v := 3) hx hb dL_law_1321 (by decide) ?_
  refine lv_iadd hx hb dL_law_1322 ?_
  refine va_sld hx hb hX hbl hbA hSs (w_in hL hj 3 (by decide)) dL_law_1323 ?_
  refine lv_if_eq (tgt := 1331) hx hb dL_law_1324 (by decide) (fun z => absurd z hflag) (fun _ => ?_)
  refine lv_iconst (v := 1) hx hb dL_law_1327 (by decide) ?_
  refine lv_goto (tgt := 1332) hx hb dL_law_1328 (by decide) ?_
  refine lv_aload_n hx hb dL_law_1332 rfl (lv_at hl 3 rfl) ?_
  refine W.eq (g2 := F0 m 1333 ls [.ref (N0 + 16), .int 1, .int (wI xs j 2), .int (wI xs j 1), .ref N0]) rfl ?_
  obtain ⟨o, hM, hcase⟩ := hSim v mv hR (wI xs j 1) (wI xs j 2) 1 (Or.inr rfl)
  obtain ⟨hSF, hMd, hO⟩ := hLS
  have hk0 : ∀ q : Nat, q < s.heap.size → ¬ N0 ≤ q → H[q]? = s.heap[q]? := hS.2.1
  rcases hcase with ⟨r, hF, hth, he, hR2⟩ | ⟨hF, hth, hR2⟩ | ⟨hF, hth, hR2⟩
  · refine al_call (vx_runSW (As := [.ref N0, .int (wI xs j 1), .int (wI xs j 2), .int 1, .ref (N0 + 16)]) (rest := []) ⟨hx, hb, hml, hown, hw⟩ (kn_L_turn l N0 H.size dC dI cL cI cO bs v fo (wI xs j 1) (wI xs j 2) 1 r hF) (vx_cwSW 5 hw (gSW w_392 w_393 w_0 wc_394) rfl rfl rfl (by decide +kernel) ⟨Nat.le_of_ble_eq_true rfl, Nat.le_of_ble_eq_true rfl⟩) ⟨hl_blind, hl_pre ⟨⟨hSF, rfl⟩, hO⟩ hK hev hk0⟩ rfl rfl hl.1 rfl (lv_room (Nat.le_of_ble_eq_true rfl)) dL_law_1333 ⟨by show 17 + 4 * j + 4 ≤ 601024; omega, by show 5092 + 152 * j + 152 ≤ 7293034; omega⟩) hS (fun q z => by have z : (q = N0 ∨ q = N0 + 1 ∨ N0 + 17 ≤ q) ∨ q = N0 + 16 := z; show N0 ≤ q; omega) (fun H1 locs hG hS hle hk => ?_)
    obtain ⟨⟨bs', hSF⟩, hO⟩ := hG
    exact lt_turn_1 C0 hj hnext hflag 0 o bs' _ mv _ _ _ ls hM hth hR2 (fun _ => by show vp_updL fo 0 _ 0 = _; rw [show ∀ x : Int64, vp_updL fo 0 x 0 = x from fun x => by simp [vp_updL]]; exact he) ⟨hSF, md_keepL hMd hk, hO⟩ hS hl
  · refine al_call (vx_runSW (As := [.ref N0, .int (wI xs j 1), .int (wI xs j 2), .int 1, .ref (N0 + 16)]) (rest := []) ⟨hx, hb, hml, hown, hw⟩ (kxIOB_L_turn l hl0 N0 H.size dC dI cL cI cO bs v fo (wI xs j 1) (wI xs j 2) 1 hF) (vx_cwSW 5 hw (gSW w_392 w_393 w_0 wc_394) rfl rfl rfl (by decide +kernel) ⟨Nat.le_of_ble_eq_true rfl, Nat.le_of_ble_eq_true rfl⟩) ⟨hl_blind, hl_pre ⟨⟨hSF, rfl⟩, hO⟩ hK hev hk0⟩ rfl rfl hl.1 rfl (lv_room (Nat.le_of_ble_eq_true rfl)) dL_law_1333 ⟨by show 17 + 4 * j + 4 ≤ 601024; omega, by show 5092 + 152 * j + 152 ≤ 7293034; omega⟩) hS (fun q z => by have z : (q = N0 ∨ q = N0 + 1 ∨ N0 + 17 ≤ q) ∨ q = N0 + 16 := z; show N0 ≤ q; omega) (fun H1 locs hG hS hle hk => ?_)
    obtain ⟨⟨bs', hSF⟩, hO⟩ := hG
    exact lt_turn_1 C0 hj hnext hflag 1 o bs' _ mv _ _ _ ls hM hth hR2 (fun z => absurd z (by decide)) ⟨hSF, md_keepL hMd hk, hO⟩ hS hl
  · refine al_call (vx_runSW (As := [.ref N0, .int (wI xs j 1), .int (wI xs j 2), .int 1, .ref (N0 + 16)]) (rest := []) ⟨hx, hb, hml, hown, hw⟩ (kxISE_L_turn l hl0 N0 H.size dC dI cL cI cO bs v fo (wI xs j 1) (wI xs j 2) 1 hF) (vx_cwSW 5 hw (gSW w_392 w_393 w_0 wc_394) rfl rfl rfl (by decide +kernel) ⟨Nat.le_of_ble_eq_true rfl, Nat.le_of_ble_eq_true rfl⟩) ⟨hl_blind, hl_pre ⟨⟨hSF, rfl⟩, hO⟩ hK hev hk0⟩ rfl rfl hl.1 rfl (lv_room (Nat.le_of_ble_eq_true rfl)) dL_law_1333 ⟨by show 17 + 4 * j + 4 ≤ 601024; omega, by show 5092 + 152 * j + 152 ≤ 7293034; omega⟩) hS (fun q z => by have z : (q = N0 ∨ q = N0 + 1 ∨ N0 + 17 ≤ q) ∨ q = N0 + 16 := z; show N0 ≤ q; omega) (fun H1 locs hG hS hle hk => ?_)
    obtain ⟨⟨bs', hSF⟩, hO⟩ := hG
    exact lt_turn_1 C0 hj hnext hflag 2 o bs' _ mv _ _ _ ls hM hth hR2 (fun z => absurd z (by decide)) ⟨hSF, md_keepL hMd hk, hO⟩ hS hl
def Sim_kind (R : CV → MV → Prop) : Prop := ∀ v mv, R v mv → ∀ (p0 : Int32), ∃ o : Int32 × MV, f_M_kind mv p0 = some o ∧ ((∃ r : Int32, f_F_kind v p0 = some r ∧ md_thrown o.2 = 0 ∧ r.toInt64 = o.1.toInt64 ∧ R v o.2) ∨ (g_F_kind v p0 = some "java/lang/IndexOutOfBoundsException" ∧ md_thrown o.2 = 1 ∧ R v o.2))
set_option maxHeartbeats 2000000 in
set_option maxRecDepth 100000 in
theorem lt_kind {p : Program} {l : Launch} {e : Env} {s : State} {m : MethodId} {below : List Frame} {meth : Method} {c : Code} {b L : Nat} {xs : Nat → Int32} {N0 : Nat} {dC : Nat → ClassId} {dI : Nat → Nat → Nat} {cL cI cO : ClassId} {R : CV → MV → Prop} {j : Nat} (C : LA p l s m meth c b L xs N0 dC dI cL cI cO) (hj : 11 * j + 11 ≤ L) (hnext : Nxt R p l e s m below meth c b N0 (dC, dI) cL cI cO j) (k : Int32) (o : Int32 × MV) (bs : Nat → Nat) (v : CV) (mv : MV) (fo : Nat → Int64) (H : Heap) (locs : List Loc) (ls : Array Slot) (hM : f_M_kind mv (wI xs j 1) = some o) (hth : md_thrown o.2 = k) (hR : R v o.2) (hout : k = 0 → fo 0 = o.1.toInt64) (hLS : LSt (dC, dI) cL cI cO N0 bs v mv fo H) (hS : va_S (fun q => N0 ≤ q) s.heap H locs) (hl : lv_has ls 8 (lvL b N0 j)) : LW p l e s m below meth c b H locs (17 + 4 * j + 4) (5092 + 152 * j + 152) (F0 m 1412 ls [.int k]) := by
  obtain ⟨⟨hx, hb, hr, hml, hown, hts, hX, hbl, hlocks, hgv⟩, hN, hK, hev, hl0, hL⟩ := C
  have hw : ∀ w ∈ wG, w.before #[Value.ref b] s = true := fun w h => hts w (wG_tbl w h)
  have hown : s.vm.findClass R_L = some m.cls := hown
  have hbA : ¬ (fun q : Nat => N0 ≤ q) b := fun z => by have z : N0 ≤ b := z; omega
  have hK2 := hK.sub (tys' := [(cL, .long), (cI, .int)]) [0, 1] rfl
  have hj512 : j < 512 := by omega
  obtain ⟨hSF, hMd, hO⟩ := hLS
  have hSs : va_S (fun q => N0 ≤ q) s.heap H locs := hS
  refine lv_istore (lv' := [(5, .int k), (0, .ref b), (1, .ref N0), (2, .ref (N0 + 2)), (3, .ref (N0 + 16)), (4, .int (nI (11 * j)))]) hx hb dL_law_1412 hl (by decide) rfl (fun ls hl => ?_)
  refine lv_aload_n hx hb dL_law_1414 rfl (lv_at hl 3 rfl) ?_
  refine lv_aload_n hx hb dL_law_1415 rfl (lv_at hl 1 rfl) ?_
  refine lv_iload hx hb dL_law_1416 (lv_at hl 5 rfl) ?_
  refine lv_iconst (v := 1) hx hb dL_law_1418 (by decide) ?_
  refine lv_iadd hx hb dL_law_1419 ?_
  refine va_sld hx hb hX hbl hbA hSs (w_in hL hj 1 (by decide)) dL_law_1420 ?_
  refine W.eq (g2 := F0 m 1421 ls [.int (wI xs j 1), .ref (N0 + 2)]) rfl ?_
  refine mu_call (va_runV (As := [.int (wI xs j 1)]) (rest := []) ⟨hx, hb, hml, hown, hw⟩ (k_M_kind l dC dI cL cI (qM N0) mv (wI xs j 1) o hM) (cwV 1 hw (gV w_665 w_666 w_667 w_2 w_668) rfl rfl rfl (by decide +kernel) ⟨Nat.le_of_ble_eq_true rfl, Nat.le_of_ble_eq_true rfl⟩) ⟨rd_blind, va_recv hK hMd (ci := 2) (q0 := 0) rfl rfl, rd_pre ⟨hMd, md_D0⟩ hK2⟩ rfl rfl hl.1 rfl (lv_room (Nat.le_of_ble_eq_true rfl)) dL_law_1421 ⟨by show 17 + 4 * j + 4 + 0 ≤ 601024; omega, by show 5092 + 152 * j + 152 + 0 ≤ 7293034; omega⟩) hS (fun q z => by have := inQ_le z; show N0 ≤ q; omega) (fun H locs hMd hS hle hk => ?_)
  replace hSF := sfs_keepM hSF hle hk
  replace hO := out_keepM hO hk
  refine lv_istore (lv' := [(6, .int o.1), (5, .int k), (0, .ref b), (1, .ref N0), (2, .ref (N0 + 2)), (3, .ref (N0 + 16)), (4, .int (nI (11 * j)))]) hx hb dL_law_1424 hl (by decide) rfl (fun ls hl => ?_)
  refine lv_aload_n hx hb dL_law_1426 rfl (lv_at hl 4 rfl) ?_
  refine vp_callSi (va_Run.run (va_runV (As := []) (rest := []) ⟨hx, hb, hml, hown, hw⟩ (k_M_thrown l dC dI cL cI (qM N0) o.2 _ rfl) (cwV 0 hw (gV w_491 w_492 w_493 w_2 w_494) rfl rfl rfl (by decide +kernel) ⟨Nat.le_of_ble_eq_true rfl, Nat.le_of_ble_eq_true rfl⟩) ⟨rd_blind, va_recv hK hMd (ci := 2) (q0 := 0) rfl rfl, rd_pre hMd hK2⟩ rfl rfl hl.1 rfl (lv_room (Nat.le_of_ble_eq_true rfl)) dL_law_1427 ⟨by show 17 + 4 * j + 4 + 0 ≤ 601024; omega, by show 5092 + 152 * j + 152 + 0 ≤ 7293034; omega⟩)) (fun z hz9 => ?_)
  rw [hz9, hth]; clear hz9
  refine lv_iload hx hb dL_law_1430 (lv_at hl 1 rfl) ?_
  refine lv_icmp_eq (tgt := 1437) hx hb dL_law_1432 (by decide) (fun _ => ?_) (fun z => absurd rfl z)
  refine lv_iload hx hb dL_law_1437 (lv_at hl 1 rfl) ?_
  refine lv_if_ne (tgt := 1454) hx hb dL_law_1439 (by decide) (fun _ => ?_) (fun c1 => ?_)
  · refine lv_goto (tgt := 1532) hx hb dL_law_1454 (by decide) ?_
    refine W.widen (k := 17 + 4 * (j + 1)) (n := 5092 + 152 * (j + 1)) (by omega) (by omega) ?_
    exact hnext bs v o.2 fo _ _ ls hR ⟨hSF, hMd, hO⟩ hS (lv_sub hl [2, 3, 4, 5, 6] rfl)
  · refine lv_aload_n hx hb dL_law_1442 rfl (lv_at hl 5 rfl) ?_
    refine lv_iconst (v := 0) hx hb dL_law_1443 (by decide) ?_
    refine va_lald hx hb hK hO 0 0 rfl rfl in01 dL_law_1444 ?_
    rw [show fo (0 : Int32).toNatClampNeg = o.1.toInt64 from hout c1]
    refine lv_iload hx hb dL_law_1445 (lv_at hl 0 rfl) ?_
    refine lv_i2l hx hb dL_law_1447 rfl ?_
    refine W.lcmp hx hb dL_law_1448 ?_
    rw [lg_self]
    refine lv_if_eq (tgt := 1454) hx hb dL_law_1449 (by decide) (fun _ => ?_) (fun z => absurd rfl z)
    refine lv_goto (tgt := 1532) hx hb dL_law_1454 (by decide) ?_
    refine W.widen (k := 17 + 4 * (j + 1)) (n := 5092 + 152 * (j + 1)) (by omega) (by omega) ?_
    exact hnext bs v o.2 fo _ _ ls hR ⟨hSF, hMd, hO⟩ hS (lv_sub hl [2, 3, 4, 5, 6] rfl)
set_option maxHeartbeats 2000000 in
set_option maxRecDepth 100000 in
theorem lh_kind {p : Program} {l : Launch} {e : Env} {s : State} {m : MethodId} {below : List Frame} {meth : Method} {c : Code} {b L : Nat} {xs : Nat → Int32} {N0 : Nat} {dC : Nat → ClassId} {dI : Nat → Nat → Nat} {cL cI cO : ClassId} {R : CV → MV → Prop} {j : Nat} (C : LA p l s m meth c b L xs N0 dC dI cL cI cO) (hj : 11 * j + 11 ≤ L) (hnext : Nxt R p l e s m below meth c b N0 (dC, dI) cL cI cO j) (hSim : Sim_kind R) (bs : Nat → Nat) (v : CV) (mv : MV) (fo : Nat → Int64) (H : Heap) (locs : List Loc) (ls : Array Slot) (hR : R v mv) (hLS : LSt (dC, dI) cL cI cO N0 bs v mv fo H) (hS : va_S (fun q => N0 ≤ q) s.heap H locs) (hl : lv_has ls 8 (lvL b N0 j)) : LW p l e s m below meth c b H locs (17 + 4 * j) (5092 + 152 * j) (F0 m 1401 ls []) := by
  have C0 := C
  obtain ⟨⟨hx, hb, hr, hml, hown, hts, hX, hbl, hlocks, hgv⟩, hN, hK, hev, hl0, hL⟩ := C
  have hw : ∀ w ∈ wG, w.before #[Value.ref b] s = true := fun w h => hts w (wG_tbl w h)
  have hown : s.vm.findClass R_L = some m.cls := hown
  have hbA : ¬ (fun q : Nat => N0 ≤ q) b := fun z => by have z : N0 ≤ b := z; omega
  have hK2 := hK.sub (tys' := [(cL, .long), (cI, .int)]) [0, 1] rfl
  have hj512 : j < 512 := by omega
  have hSs : va_S (fun q => N0 ≤ q) s.heap H locs := hS
  refine lv_aload_n hx hb dL_law_1401 rfl (lv_at hl 1 rfl) ?_
  refine lv_aload_n hx hb dL_law_1402 rfl (lv_at hl 0 rfl) ?_
  refine lv_iload hx hb dL_law_1403 (lv_at hl 4 rfl) ?_
  refine lv_iconst (v := 1) hx hb dL_law_1405 (by decide) ?_
  refine lv_iadd hx hb dL_law_1406 ?_
  refine va_sld hx hb hX hbl hbA hSs (w_in hL hj 1 (by decide)) dL_law_1407 ?_
  refine lv_aload_n hx hb dL_law_1408 rfl (lv_at hl 3 rfl) ?_
  refine W.eq (g2 := F0 m 1409 ls [.ref (N0 + 16), .int (wI xs j 1), .ref N0]) rfl ?_
  obtain ⟨o, hM, hcase⟩ := hSim v mv hR (wI xs j 1)
  obtain ⟨hSF, hMd, hO⟩ := hLS
  have hk0 : ∀ q : Nat, q < s.heap.size → ¬ N0 ≤ q → H[q]? = s.heap[q]? := hS.2.1
  rcases hcase with ⟨r, hF, hth, he, hR2⟩ | ⟨hF, hth, hR2⟩
  · refine al_call (vx_runSW (As := [.ref N0, .int (wI xs j 1), .ref (N0 + 16)]) (rest := []) ⟨hx, hb, hml, hown, hw⟩ (kn_L_kind l N0 H.size dC dI cL cI cO bs v fo (wI xs j 1) r hF) (vx_cwSW 3 hw (gSW w_410 w_411 w_0 wc_412) rfl rfl rfl (by decide +kernel) ⟨Nat.le_of_ble_eq_true rfl, Nat.le_of_ble_eq_true rfl⟩) ⟨hl_blind, hl_pre ⟨⟨hSF, rfl⟩, hO⟩ hK hev hk0⟩ rfl rfl hl.1 rfl (lv_room (Nat.le_of_ble_eq_true rfl)) dL_law_1409 ⟨by show 17 + 4 * j + 4 ≤ 601024; omega, by show 5092 + 152 * j + 152 ≤ 7293034; omega⟩) hS (fun q z => by have z : (q = N0 ∨ q = N0 + 1 ∨ N0 + 17 ≤ q) ∨ q = N0 + 16 := z; show N0 ≤ q; omega) (fun H1 locs hG hS hle hk => ?_)
    obtain ⟨⟨bs', hSF⟩, hO⟩ := hG
    exact lt_kind C0 hj hnext 0 o bs' _ mv _ _ _ ls hM hth hR2 (fun _ => by show vp_updL fo 0 _ 0 = _; rw [show ∀ x : Int64, vp_updL fo 0 x 0 = x from fun x => by simp [vp_updL]]; exact he) ⟨hSF, md_keepL hMd hk, hO⟩ hS hl
  · refine al_call (vx_runSW (As := [.ref N0, .int (wI xs j 1), .ref (N0 + 16)]) (rest := []) ⟨hx, hb, hml, hown, hw⟩ (kxIOB_L_kind l hl0 N0 H.size dC dI cL cI cO bs v fo (wI xs j 1) hF) (vx_cwSW 3 hw (gSW w_410 w_411 w_0 wc_412) rfl rfl rfl (by decide +kernel) ⟨Nat.le_of_ble_eq_true rfl, Nat.le_of_ble_eq_true rfl⟩) ⟨hl_blind, hl_pre ⟨⟨hSF, rfl⟩, hO⟩ hK hev hk0⟩ rfl rfl hl.1 rfl (lv_room (Nat.le_of_ble_eq_true rfl)) dL_law_1409 ⟨by show 17 + 4 * j + 4 ≤ 601024; omega, by show 5092 + 152 * j + 152 ≤ 7293034; omega⟩) hS (fun q z => by have z : (q = N0 ∨ q = N0 + 1 ∨ N0 + 17 ≤ q) ∨ q = N0 + 16 := z; show N0 ≤ q; omega) (fun H1 locs hG hS hle hk => ?_)
    obtain ⟨⟨bs', hSF⟩, hO⟩ := hG
    exact lt_kind C0 hj hnext 1 o bs' _ mv _ _ _ ls hM hth hR2 (fun z => absurd z (by decide)) ⟨hSF, md_keepL hMd hk, hO⟩ hS hl
def Sim_same (R : CV → MV → Prop) : Prop := ∀ v mv, R v mv → ∀ (p0 : Int32) (p1 : Int32), ∃ o : Int32 × MV, f_M_same mv p0 p1 = some o ∧ ((∃ r : Int32, f_F_same v p0 p1 = some r ∧ md_thrown o.2 = 0 ∧ bl r = bl o.1 ∧ R v o.2) ∨ (g_F_same v p0 p1 = some "java/lang/IndexOutOfBoundsException" ∧ md_thrown o.2 = 1 ∧ R v o.2) ∨ (g_F_same v p0 p1 = some "java/lang/IllegalStateException" ∧ md_thrown o.2 = 2 ∧ R v o.2))
set_option maxHeartbeats 2000000 in
set_option maxRecDepth 100000 in
theorem lt_same {p : Program} {l : Launch} {e : Env} {s : State} {m : MethodId} {below : List Frame} {meth : Method} {c : Code} {b L : Nat} {xs : Nat → Int32} {N0 : Nat} {dC : Nat → ClassId} {dI : Nat → Nat → Nat} {cL cI cO : ClassId} {R : CV → MV → Prop} {j : Nat} (C : LA p l s m meth c b L xs N0 dC dI cL cI cO) (hj : 11 * j + 11 ≤ L) (hnext : Nxt R p l e s m below meth c b N0 (dC, dI) cL cI cO j) (k : Int32) (o : Int32 × MV) (bs : Nat → Nat) (v : CV) (mv : MV) (fo : Nat → Int64) (H : Heap) (locs : List Loc) (ls : Array Slot) (hM : f_M_same mv (wI xs j 1) (wI xs j 2) = some o) (hth : md_thrown o.2 = k) (hR : R v o.2) (hout : k = 0 → fo 0 = bl o.1) (hLS : LSt (dC, dI) cL cI cO N0 bs v mv fo H) (hS : va_S (fun q => N0 ≤ q) s.heap H locs) (hl : lv_has ls 8 (lvL b N0 j)) : LW p l e s m below meth c b H locs (17 + 4 * j + 4) (5092 + 152 * j + 152) (F0 m 1474 ls [.int k]) := by
  obtain ⟨⟨hx, hb, hr, hml, hown, hts, hX, hbl, hlocks, hgv⟩, hN, hK, hev, hl0, hL⟩ := C
  have hw : ∀ w ∈ wG, w.before #[Value.ref b] s = true := fun w h => hts w (wG_tbl w h)
  have hown : s.vm.findClass R_L = some m.cls := hown
  have hbA : ¬ (fun q : Nat => N0 ≤ q) b := fun z => by have z : N0 ≤ b := z; omega
  have hK2 := hK.sub (tys' := [(cL, .long), (cI, .int)]) [0, 1] rfl
  have hj512 : j < 512 := by omega
  obtain ⟨hSF, hMd, hO⟩ := hLS
  have hSs : va_S (fun q => N0 ≤ q) s.heap H locs := hS
  refine lv_istore (lv' := [(5, .int k), (0, .ref b), (1, .ref N0), (2, .ref (N0 + 2)), (3, .ref (N0 + 16)), (4, .int (nI (11 * j)))]) hx hb dL_law_1474 hl (by decide) rfl (fun ls hl => ?_)
  refine lv_aload_n hx hb dL_law_1476 rfl (lv_at hl 3 rfl) ?_
  refine lv_aload_n hx hb dL_law_1477 rfl (lv_at hl 1 rfl) ?_
  refine lv_iload hx hb dL_law_1478 (lv_at hl 5 rfl) ?_
  refine lv_iconst (v := 1) hx hb dL_law_1480 (by decide) ?_
  refine lv_iadd hx hb dL_law_1481 ?_
  refine va_sld hx hb hX hbl hbA hSs (w_in hL hj 1 (by decide)) dL_law_1482 ?_
  refine lv_aload_n hx hb dL_law_1483 rfl (lv_at hl 1 rfl) ?_
  refine lv_iload hx hb dL_law_1484 (lv_at hl 5 rfl) ?_
  refine lv_iconst (v := 2) hx hb dL_law_1486 (by decide) ?_
  refine lv_iadd hx hb dL_law_1487 ?_
  refine va_sld hx hb hX hbl hbA hSs (w_in hL hj 2 (by decide)) dL_law_1488 ?_
  refine W.eq (g2 := F0 m 1489 ls [.int (wI xs j 2), .int (wI xs j 1), .ref (N0 + 2)]) rfl ?_
  refine mu_call (va_runV (As := [.int (wI xs j 1), .int (wI xs j 2)]) (rest := []) ⟨hx, hb, hml, hown, hw⟩ (k_M_same l dC dI cL cI (qM N0) mv (wI xs j 1) (wI xs j 2) o hM) (cwV 2 hw (gV w_669 w_670 w_671 w_2 w_672) rfl rfl rfl (by decide +kernel) ⟨Nat.le_of_ble_eq_true rfl, Nat.le_of_ble_eq_true rfl⟩) ⟨rd_blind, va_recv hK hMd (ci := 2) (q0 := 0) rfl rfl, rd_pre ⟨hMd, md_D0⟩ hK2⟩ rfl rfl hl.1 rfl (lv_room (Nat.le_of_ble_eq_true rfl)) dL_law_1489 ⟨by show 17 + 4 * j + 4 + 0 ≤ 601024; omega, by show 5092 + 152 * j + 152 + 0 ≤ 7293034; omega⟩) hS (fun q z => by have := inQ_le z; show N0 ≤ q; omega) (fun H locs hMd hS hle hk => ?_)
  replace hSF := sfs_keepM hSF hle hk
  replace hO := out_keepM hO hk
  refine lv_istore (lv' := [(6, .int o.1), (5, .int k), (0, .ref b), (1, .ref N0), (2, .ref (N0 + 2)), (3, .ref (N0 + 16)), (4, .int (nI (11 * j)))]) hx hb dL_law_1492 hl (by decide) rfl (fun ls hl => ?_)
  refine lv_aload_n hx hb dL_law_1494 rfl (lv_at hl 4 rfl) ?_
  refine vp_callSi (va_Run.run (va_runV (As := []) (rest := []) ⟨hx, hb, hml, hown, hw⟩ (k_M_thrown l dC dI cL cI (qM N0) o.2 _ rfl) (cwV 0 hw (gV w_491 w_492 w_493 w_2 w_494) rfl rfl rfl (by decide +kernel) ⟨Nat.le_of_ble_eq_true rfl, Nat.le_of_ble_eq_true rfl⟩) ⟨rd_blind, va_recv hK hMd (ci := 2) (q0 := 0) rfl rfl, rd_pre hMd hK2⟩ rfl rfl hl.1 rfl (lv_room (Nat.le_of_ble_eq_true rfl)) dL_law_1495 ⟨by show 17 + 4 * j + 4 + 0 ≤ 601024; omega, by show 5092 + 152 * j + 152 + 0 ≤ 7293034; omega⟩)) (fun z hz9 => ?_)
  rw [hz9, hth]; clear hz9
  refine lv_iload hx hb dL_law_1498 (lv_at hl 1 rfl) ?_
  refine lv_icmp_eq (tgt := 1505) hx hb dL_law_1500 (by decide) (fun _ => ?_) (fun z => absurd rfl z)
  refine lv_iload hx hb dL_law_1505 (lv_at hl 1 rfl) ?_
  refine lv_if_ne (tgt := 1529) hx hb dL_law_1507 (by decide) (fun _ => ?_) (fun c1 => ?_)
  · refine lv_goto (tgt := 1532) hx hb dL_law_1529 (by decide) ?_
    refine W.widen (k := 17 + 4 * (j + 1)) (n := 5092 + 152 * (j + 1)) (by omega) (by omega) ?_
    exact hnext bs v o.2 fo _ _ ls hR ⟨hSF, hMd, hO⟩ hS (lv_sub hl [2, 3, 4, 5, 6] rfl)
  · refine lv_aload_n hx hb dL_law_1510 rfl (lv_at hl 5 rfl) ?_
    refine lv_iconst (v := 0) hx hb dL_law_1511 (by decide) ?_
    refine va_lald hx hb hK hO 0 0 rfl rfl in01 dL_law_1512 ?_
    rw [show fo (0 : Int32).toNatClampNeg = bl o.1 from hout c1]
    refine lv_iload hx hb dL_law_1513 (lv_at hl 0 rfl) ?_
    refine lv_if_eq (tgt := 1522) hx hb dL_law_1515 (by decide) (fun c2 => ?_) (fun c2 => ?_)
    · rw [show bl o.1 = 0 from if_pos c2]
      refine lv_lconst (v := 0) hx hb dL_law_1522 (by decide) ?_
      refine W.lcmp hx hb dL_law_1523 ?_
      rw [lg_self]
      refine lv_if_eq (tgt := 1529) hx hb dL_law_1524 (by decide) (fun _ => ?_) (fun z => absurd rfl z)
      refine lv_goto (tgt := 1532) hx hb dL_law_1529 (by decide) ?_
      refine W.widen (k := 17 + 4 * (j + 1)) (n := 5092 + 152 * (j + 1)) (by omega) (by omega) ?_
      exact hnext bs v o.2 fo _ _ ls hR ⟨hSF, hMd, hO⟩ hS (lv_sub hl [2, 3, 4, 5, 6] rfl)
    · rw [show bl o.1 = 1 from if_neg c2]
      refine lv_lconst (v := 1) hx hb dL_law_1518 (by decide) ?_
      refine lv_goto (tgt := 1523) hx hb dL_law_1519 (by decide) ?_
      refine W.lcmp hx hb dL_law_1523 ?_
      rw [lg_self]
      refine lv_if_eq (tgt := 1529) hx hb dL_law_1524 (by decide) (fun _ => ?_) (fun z => absurd rfl z)
      refine lv_goto (tgt := 1532) hx hb dL_law_1529 (by decide) ?_
      refine W.widen (k := 17 + 4 * (j + 1)) (n := 5092 + 152 * (j + 1)) (by omega) (by omega) ?_
      exact hnext bs v o.2 fo _ _ ls hR ⟨hSF, hMd, hO⟩ hS (lv_sub hl [2, 3, 4, 5, 6] rfl)
set_option maxHeartbeats 2000000 in
set_option maxRecDepth 100000 in
theorem lh_same {p : Program} {l : Launch} {e : Env} {s : State} {m : MethodId} {below : List Frame} {meth : Method} {c : Code} {b L : Nat} {xs : Nat → Int32} {N0 : Nat} {dC : Nat → ClassId} {dI : Nat → Nat → Nat} {cL cI cO : ClassId} {R : CV → MV → Prop} {j : Nat} (C : LA p l s m meth c b L xs N0 dC dI cL cI cO) (hj : 11 * j + 11 ≤ L) (hnext : Nxt R p l e s m below meth c b N0 (dC, dI) cL cI cO j) (hSim : Sim_same R) (bs : Nat → Nat) (v : CV) (mv : MV) (fo : Nat → Int64) (H : Heap) (locs : List Loc) (ls : Array Slot) (hR : R v mv) (hLS : LSt (dC, dI) cL cI cO N0 bs v mv fo H) (hS : va_S (fun q => N0 ≤ q) s.heap H locs) (hl : lv_has ls 8 (lvL b N0 j)) : LW p l e s m below meth c b H locs (17 + 4 * j) (5092 + 152 * j) (F0 m 1457 ls []) := by
  have C0 := C
  obtain ⟨⟨hx, hb, hr, hml, hown, hts, hX, hbl, hlocks, hgv⟩, hN, hK, hev, hl0, hL⟩ := C
  have hw : ∀ w ∈ wG, w.before #[Value.ref b] s = true := fun w h => hts w (wG_tbl w h)
  have hown : s.vm.findClass R_L = some m.cls := hown
  have hbA : ¬ (fun q : Nat => N0 ≤ q) b := fun z => by have z : N0 ≤ b := z; omega
  have hK2 := hK.sub (tys' := [(cL, .long), (cI, .int)]) [0, 1] rfl
  have hj512 : j < 512 := by omega
  have hSs : va_S (fun q => N0 ≤ q) s.heap H locs := hS
  refine lv_aload_n hx hb dL_law_1457 rfl (lv_at hl 1 rfl) ?_
  refine lv_aload_n hx hb dL_law_1458 rfl (lv_at hl 0 rfl) ?_
  refine lv_iload hx hb dL_law_1459 (lv_at hl 4 rfl) ?_
  refine lv_iconst (v := 1) hx hb dL_law_1461 (by decide) ?_
  refine lv_iadd hx hb dL_law_1462 ?_
  refine va_sld hx hb hX hbl hbA hSs (w_in hL hj 1 (by decide)) dL_law_1463 ?_
  refine lv_aload_n hx hb dL_law_1464 rfl (lv_at hl 0 rfl) ?_
  refine lv_iload hx hb dL_law_1465 (lv_at hl 4 rfl) ?_
  refine lv_iconst (v := 2) hx hb dL_law_1467 (by decide) ?_
  refine lv_iadd hx hb dL_law_1468 ?_
  refine va_sld hx hb hX hbl hbA hSs (w_in hL hj 2 (by decide)) dL_law_1469 ?_
  refine lv_aload_n hx hb dL_law_1470 rfl (lv_at hl 3 rfl) ?_
  refine W.eq (g2 := F0 m 1471 ls [.ref (N0 + 16), .int (wI xs j 2), .int (wI xs j 1), .ref N0]) rfl ?_
  obtain ⟨o, hM, hcase⟩ := hSim v mv hR (wI xs j 1) (wI xs j 2)
  obtain ⟨hSF, hMd, hO⟩ := hLS
  have hk0 : ∀ q : Nat, q < s.heap.size → ¬ N0 ≤ q → H[q]? = s.heap[q]? := hS.2.1
  rcases hcase with ⟨r, hF, hth, he, hR2⟩ | ⟨hF, hth, hR2⟩ | ⟨hF, hth, hR2⟩
  · refine al_call (vx_runSW (As := [.ref N0, .int (wI xs j 1), .int (wI xs j 2), .ref (N0 + 16)]) (rest := []) ⟨hx, hb, hml, hown, hw⟩ (kn_L_same l N0 H.size dC dI cL cI cO bs v fo (wI xs j 1) (wI xs j 2) r hF) (vx_cwSW 4 hw (gSW w_417 w_418 w_0 wc_419) rfl rfl rfl (by decide +kernel) ⟨Nat.le_of_ble_eq_true rfl, Nat.le_of_ble_eq_true rfl⟩) ⟨hl_blind, hl_pre ⟨⟨hSF, rfl⟩, hO⟩ hK hev hk0⟩ rfl rfl hl.1 rfl (lv_room (Nat.le_of_ble_eq_true rfl)) dL_law_1471 ⟨by show 17 + 4 * j + 4 ≤ 601024; omega, by show 5092 + 152 * j + 152 ≤ 7293034; omega⟩) hS (fun q z => by have z : (q = N0 ∨ q = N0 + 1 ∨ N0 + 17 ≤ q) ∨ q = N0 + 16 := z; show N0 ≤ q; omega) (fun H1 locs hG hS hle hk => ?_)
    obtain ⟨⟨bs', hSF⟩, hO⟩ := hG
    exact lt_same C0 hj hnext 0 o bs' _ mv _ _ _ ls hM hth hR2 (fun _ => by show vp_updL fo 0 _ 0 = _; rw [show ∀ x : Int64, vp_updL fo 0 x 0 = x from fun x => by simp [vp_updL]]; exact he) ⟨hSF, md_keepL hMd hk, hO⟩ hS hl
  · refine al_call (vx_runSW (As := [.ref N0, .int (wI xs j 1), .int (wI xs j 2), .ref (N0 + 16)]) (rest := []) ⟨hx, hb, hml, hown, hw⟩ (kxIOB_L_same l hl0 N0 H.size dC dI cL cI cO bs v fo (wI xs j 1) (wI xs j 2) hF) (vx_cwSW 4 hw (gSW w_417 w_418 w_0 wc_419) rfl rfl rfl (by decide +kernel) ⟨Nat.le_of_ble_eq_true rfl, Nat.le_of_ble_eq_true rfl⟩) ⟨hl_blind, hl_pre ⟨⟨hSF, rfl⟩, hO⟩ hK hev hk0⟩ rfl rfl hl.1 rfl (lv_room (Nat.le_of_ble_eq_true rfl)) dL_law_1471 ⟨by show 17 + 4 * j + 4 ≤ 601024; omega, by show 5092 + 152 * j + 152 ≤ 7293034; omega⟩) hS (fun q z => by have z : (q = N0 ∨ q = N0 + 1 ∨ N0 + 17 ≤ q) ∨ q = N0 + 16 := z; show N0 ≤ q; omega) (fun H1 locs hG hS hle hk => ?_)
    obtain ⟨⟨bs', hSF⟩, hO⟩ := hG
    exact lt_same C0 hj hnext 1 o bs' _ mv _ _ _ ls hM hth hR2 (fun z => absurd z (by decide)) ⟨hSF, md_keepL hMd hk, hO⟩ hS hl
  · refine al_call (vx_runSW (As := [.ref N0, .int (wI xs j 1), .int (wI xs j 2), .ref (N0 + 16)]) (rest := []) ⟨hx, hb, hml, hown, hw⟩ (kxISE_L_same l hl0 N0 H.size dC dI cL cI cO bs v fo (wI xs j 1) (wI xs j 2) hF) (vx_cwSW 4 hw (gSW w_417 w_418 w_0 wc_419) rfl rfl rfl (by decide +kernel) ⟨Nat.le_of_ble_eq_true rfl, Nat.le_of_ble_eq_true rfl⟩) ⟨hl_blind, hl_pre ⟨⟨hSF, rfl⟩, hO⟩ hK hev hk0⟩ rfl rfl hl.1 rfl (lv_room (Nat.le_of_ble_eq_true rfl)) dL_law_1471 ⟨by show 17 + 4 * j + 4 ≤ 601024; omega, by show 5092 + 152 * j + 152 ≤ 7293034; omega⟩) hS (fun q z => by have z : (q = N0 ∨ q = N0 + 1 ∨ N0 + 17 ≤ q) ∨ q = N0 + 16 := z; show N0 ≤ q; omega) (fun H1 locs hG hS hle hk => ?_)
    obtain ⟨⟨bs', hSF⟩, hO⟩ := hG
    exact lt_same C0 hj hnext 2 o bs' _ mv _ _ _ ls hM hth hR2 (fun z => absurd z (by decide)) ⟨hSF, md_keepL hMd hk, hO⟩ hS hl
