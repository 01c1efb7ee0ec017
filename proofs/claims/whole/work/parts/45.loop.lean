/-! the law's loop, over any relation that the steps keep -/
def Sim (R : CV → MV → Prop) : Prop := Sim_circle R ∧ Sim_box R ∧ Sim_polygon R ∧ Sim_trace R ∧ Sim_corner R ∧ Sim_ring R ∧ Sim_grow R ∧ Sim_inside R ∧ Sim_nearer R ∧ Sim_boxOf R ∧ Sim_turn R ∧ Sim_kind R ∧ Sim_same R
theorem lp_cmp {L j : Nat} (hL : L ≤ 5632) (hj : j ≤ 512) : (nI L - 11 < nI (11 * j)) ↔ L < 11 * j + 11 := by
  have e : (nI L - nI 11).toInt = (L : Int) - 11 := pk_sub_toInt (by omega) (by omega)
  have e2 : (nI (11 * j)).toInt = ((11 * j : Nat) : Int) := nI_toInt (by omega)
  rw [show (11 : Int32) = nI 11 from rfl, Int32.lt_iff_toInt_lt, e, e2]
  omega
set_option maxHeartbeats 2000000 in
set_option maxRecDepth 100000 in
theorem law_loop {p : Program} {l : Launch} {e : Env} {s : State} {m : MethodId} {below : List Frame} {meth : Method} {c : Code} {b L : Nat} {xs : Nat → Int32} {N0 : Nat} {dC : Nat → ClassId} {dI : Nat → Nat → Nat} {cL cI cO : ClassId} {R : CV → MV → Prop} (C : LA p l s m meth c b L xs N0 dC dI cL cI cO) (hSim : Sim R) :
    ∀ (n j : Nat), 11 * j ≤ L → L + 11 ≤ 11 * j + 11 * n → ∀ (bs : Nat → Nat) (v : CV) (mv : MV) (fo : Nat → Int64) (H : Heap) (locs : List Loc) (ls : Array Slot), R v mv → LSt (dC, dI) cL cI cO N0 bs v mv fo H → va_S (fun q => N0 ≤ q) s.heap H locs → lv_has ls 8 (lvL b N0 j) → LW p l e s m below meth c b H locs (17 + 4 * j) (5092 + 152 * j) (F0 m 23 ls []) := by
  have C0 := C
  obtain ⟨⟨hx, hb, hr, hml, hown, hts, hX, hbl, hlocks, hgv⟩, hN, hK, hev, hl0, hL⟩ := C
  have hbA : ¬ (fun q : Nat => N0 ≤ q) b := fun z => by have z : N0 ≤ b := z; omega
  intro n
  induction n with
  | zero => intro j h1 h2; exact absurd h2 (by omega)
  | succ n ih =>
    intro j hjL hn bs v mv fo H locs ls hR hLS hS hl
    have hj512 : j ≤ 512 := by omega
    refine lv_iload hx hb dL_law_23 (lv_at hl 4 rfl) ?_
    refine lv_aload_n hx hb dL_law_25 rfl (lv_at hl 0 rfl) ?_
    refine va_slen hx hb hX hbl hbA hS dL_law_26 ?_
    refine lv_bipush (v := 11) hx hb dL_law_27 (by decide) ?_
    refine lv_isub hx hb dL_law_29 ?_
    refine lv_icmp_gt (tgt := 1538) hx hb dL_law_30 (by decide) (fun c1 => ?_) (fun c1 => ?_)
    · refine lv_iconst (v := 1) hx hb dL_law_1538 (by decide) ?_
      refine va_forget (fun q hq => by rw [hN]; exact hS.2.2 q hq) ?_
      refine W.widen (k := 601024) (n := 7293034) (by omega) (by omega) ?_
      exact lw_ret hx hb hr hlocks dL_law_1539
    · have hj : 11 * j + 11 ≤ L := by
        rcases Nat.lt_or_ge L (11 * j + 11) with q | q
        · exact absurd ((lp_cmp hL hj512).mpr q) c1
        · exact q
      have hnext : Nxt R p l e s m below meth c b N0 (dC, dI) cL cI cO j := by
        intro bs v mv fo H locs ls hR hLS hS hl
        refine lv_iinc (v := nI (11 * (j + 1))) (lv' := [(4, .int (nI (11 * (j + 1)))), (0, .ref b), (1, .ref N0), (2, .ref (N0 + 2)), (3, .ref (N0 + 16))]) hx hb dL_law_1532 hl (k := 4) rfl (by show nI (11 * j) + nI 11 = _; rw [nI_add]; rfl) (by decide) rfl (fun ls hl => ?_)
        refine lv_goto (tgt := 23) hx hb dL_law_1535 (by decide) ?_
        exact ih (j + 1) (by omega) (by omega) bs v mv fo H locs ls hR hLS hS (lv_sub hl [1, 2, 3, 4, 0] rfl)
      refine lv_aload_n hx hb dL_law_33 rfl (lv_at hl 0 rfl) ?_
      refine lv_iload hx hb dL_law_34 (lv_at hl 4 rfl) ?_
      refine va_sld hx hb hX hbl hbA hS (vp_in_nI (by omega) (by omega)) dL_law_36 ?_
      refine lv_bipush (v := 15) hx hb dL_law_37 (by decide) ?_
      refine lv_iand hx hb dL_law_39 ?_
      obtain ⟨k, hk, ek⟩ := pk_andE (xs (nI (11 * j)).toNatClampNeg) (m := 15) 4 (by decide)
      rw [ek]
      have hdef : LW p l e s m below meth c b H locs (17 + 4 * j) (5092 + 152 * j) (F0 m 1532 ls []) := W.widen (k := 17 + 4 * (j + 1)) (n := 5092 + 152 * (j + 1)) (by omega) (by omega) (hnext bs v mv fo H locs ls hR hLS hS hl)
      match k, hk with
      | 0, _ =>
        refine lv_tableIn (off := 68) (tgt := 108) hx hb dL_law_40 (by decide) (by decide) (by decide) (by decide) ?_
        exact lh_circle C0 hj hnext (hSim.1) bs v mv fo H locs ls hR hLS hS hl
      | 1, _ =>
        refine lv_tableIn (off := 246) (tgt := 286) hx hb dL_law_40 (by decide) (by decide) (by decide) (by decide) ?_
        exact lh_box C0 hj hnext (hSim.2.1) bs v mv fo H locs ls hR hLS hS hl
      | 2, _ =>
        refine lv_tableIn (off := 520) (tgt := 560) hx hb dL_law_40 (by decide) (by decide) (by decide) (by decide) ?_
        exact lc_polygon C0 hj hnext (hSim.2.2.1) bs v mv fo H locs ls hR hLS hS hl
      | 3, _ =>
        refine lv_tableIn (off := 533) (tgt := 573) hx hb dL_law_40 (by decide) (by decide) (by decide) (by decide) ?_
        exact lh_trace C0 hj hnext (hSim.2.2.2.1) bs v mv fo H locs ls hR hLS hS hl
      | 4, _ =>
        refine lv_tableIn (off := 621) (tgt := 661) hx hb dL_law_40 (by decide) (by decide) (by decide) (by decide) ?_
        exact lh_corner C0 hj hnext (hSim.2.2.2.2.1) bs v mv fo H locs ls hR hLS hS hl
      | 5, _ =>
        refine lv_tableIn (off := 772) (tgt := 812) hx hb dL_law_40 (by decide) (by decide) (by decide) (by decide) ?_
        exact lh_ring C0 hj hnext (hSim.2.2.2.2.2.1) bs v mv fo H locs ls hR hLS hS hl
      | 6, _ =>
        refine lv_tableIn (off := 835) (tgt := 875) hx hb dL_law_40 (by decide) (by decide) (by decide) (by decide) ?_
        exact lh_grow C0 hj hnext (hSim.2.2.2.2.2.2.1) bs v mv fo H locs ls hR hLS hS hl
      | 7, _ =>
        refine lv_tableIn (off := 935) (tgt := 975) hx hb dL_law_40 (by decide) (by decide) (by decide) (by decide) ?_
        exact lh_inside C0 hj hnext (hSim.2.2.2.2.2.2.2.1) bs v mv fo H locs ls hR hLS hS hl
      | 8, _ =>
        refine lv_tableIn (off := 1086) (tgt := 1126) hx hb dL_law_40 (by decide) (by decide) (by decide) (by decide) ?_
        exact lh_nearer C0 hj hnext (hSim.2.2.2.2.2.2.2.2.1) bs v mv fo H locs ls hR hLS hS hl
      | 9, _ =>
        refine lv_tableIn (off := 1198) (tgt := 1238) hx hb dL_law_40 (by decide) (by decide) (by decide) (by decide) ?_
        exact lh_boxOf C0 hj hnext (hSim.2.2.2.2.2.2.2.2.2.1) bs v mv fo H locs ls hR hLS hS hl
      | 10, _ =>
        refine lv_tableIn (off := 1265) (tgt := 1305) hx hb dL_law_40 (by decide) (by decide) (by decide) (by decide) ?_
        by_cases hflag : wI xs j 3 = 0
        · exact lh_turn_0 C0 hj hnext hflag (hSim.2.2.2.2.2.2.2.2.2.2.1) bs v mv fo H locs ls hR hLS hS hl
        · exact lh_turn_1 C0 hj hnext hflag (hSim.2.2.2.2.2.2.2.2.2.2.1) bs v mv fo H locs ls hR hLS hS hl
      | 11, _ =>
        refine lv_tableIn (off := 1361) (tgt := 1401) hx hb dL_law_40 (by decide) (by decide) (by decide) (by decide) ?_
        exact lh_kind C0 hj hnext (hSim.2.2.2.2.2.2.2.2.2.2.2.1) bs v mv fo H locs ls hR hLS hS hl
      | 12, _ =>
        refine lv_tableIn (off := 1417) (tgt := 1457) hx hb dL_law_40 (by decide) (by decide) (by decide) (by decide) ?_
        exact lh_same C0 hj hnext (hSim.2.2.2.2.2.2.2.2.2.2.2.2) bs v mv fo H locs ls hR hLS hS hl
      | 13, _ => exact lv_tableOut (tgt := 1532) hx hb dL_law_40 (Or.inr (by decide)) (by decide) hdef
      | 14, _ => exact lv_tableOut (tgt := 1532) hx hb dL_law_40 (Or.inr (by decide)) (by decide) hdef
      | 15, _ => exact lv_tableOut (tgt := 1532) hx hb dL_law_40 (Or.inr (by decide)) (by decide) hdef
      | k + 16, hk => exact absurd hk (by omega)
