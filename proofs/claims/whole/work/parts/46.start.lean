/-! the law from its entry, over any relation that the steps keep and that knows the two fresh objects -/
def cv0 : CV := (0, fun _ => (0, 0, 0, fun _ => 0, fun _ => 0, fun _ => 0, 0, 0))
def mv0 : MV := (0, 0, fun _ => 0, fun _ => 0, fun _ => 0, fun _ => 0, fun _ => 0, fun _ => 0, fun _ => 0, fun _ => 0, fun _ => 0, fun _ => 0, fun _ => 0, fun _ => 0, fun _ => 0)
theorem ref_exactly {t : Term} {C : String} {args : Array Value} {s : State} (h : (Cond.exactly t C).before args s = true) : ∃ a, t.eval args s none [] s = some (.ref a) := by
  simp only [Cond.before, Cond.holds, Cond.value] at h
  cases he : t.eval args s none [] s with
  | none => simp [he] at h
  | some v =>
    cases v with
    | ref a => exact ⟨a, rfl⟩
    | _ => cases hc : s.vm.findClass C <;> simp [he, hc] at h
theorem exS_ex : ∀ q ∈ exS, Cond.exactly (.string q.1 q.2.1) "java/lang/String" ∈ flatC narrow_1 := by decide +kernel

set_option maxHeartbeats 2000000 in
set_option maxRecDepth 100000 in
theorem evl_start {s : State} {b : Nat} (hts : ∀ w ∈ lw_tbl, w.before #[Value.ref b] s = true) (hgv : (Jvm.Cond.and given_1 narrow_1).before #[Value.ref b] s = true) : EVL s.heap.size s := by
  have hw : ∀ w ∈ wG, w.before #[Value.ref b] s = true := fun w h => hts w (wG_tbl w h)
  have hf := flat_of_before _ hgv
  have hn : ∀ w ∈ flatC narrow_1, w.before #[Value.ref b] s = true := fun w h => hf w (List.mem_append_right _ h)
  refine ⟨⟨fun w h => va_Nw.of (exB_tab w h).2 (hts w (exB_tab w h).1), fun q hq => ?_, va_AO.of (hts _ (List.mem_of_getElem? (i := 55) (by decide +kernel))), ?_, ?_⟩, va_Nc.of (hn _ (by decide +kernel)), va_Nc.of (hn _ (by decide +kernel)), va_Nc.of (hn _ (by decide +kernel))⟩
  · obtain ⟨a, ha⟩ := ref_exactly (hn _ (exS_ex q hq))
    exact ⟨a, vk_R.of (hts _ (exS_tab q hq)) ha⟩
  · exact vx_Zqof (hts _ (List.mem_of_getElem? (i := 153) (by decide +kernel))) (hw _ w_3) (hn _ (by decide +kernel)) (fun a h z => by have z : s.heap.size ≤ a := z; omega)
  · exact vx_Zqof (hts _ (List.mem_of_getElem? (i := 155) (by decide +kernel))) (hw _ w_3) (hn _ (by decide +kernel)) (fun a h z => by have z : s.heap.size ≤ a := z; omega)
set_option maxHeartbeats 2000000 in
set_option maxRecDepth 100000 in
theorem whole_open {R : CV → MV → Prop} (hSim : Sim R) (hR0 : R cv0 mv0) {p : Program} {e : Env} {s : State} {m : MethodId} {below : List Frame} {meth : Method} {c : Code} (l : Launch) (hl0 : l.stackTraces = false) {b L : Nat} {xs : Nat → Int32} (hL : L ≤ 5632) (C0 : lw_At p s m meth c b L xs) : W p l e room_1 s m #[Value.ref b] below meth c s.heap [] 0 0 (lw_Z below #[Value.ref b] s) (entryFrame m ([Value.ref b] : List Value).toArray 8) := by
  obtain ⟨hx, hb, hr, hml, hown, hts, hX, hbl, hlocks, hgv⟩ := id C0
  have hw : ∀ w ∈ wG, w.before #[Value.ref b] s = true := fun w h => hts w (wG_tbl w h)
  have hev := evl_start hts hgv
  obtain ⟨c0, iS0, hKn0⟩ := u_known (C := R_S) (T := T_S) (N := 8) (n := 8) hw in_S (hw _ w_35)
  obtain ⟨c1, iS1, hKn1⟩ := u_known (C := R_F) (T := T_F) (N := 2) (n := 2) hw in_F (hw _ w_15)
  obtain ⟨c2, iS2, hKn2⟩ := u_known (C := R_M) (T := T_M) (N := 15) (n := 15) hw in_M (hw _ w_440)
  obtain ⟨dC, dI, hKc⟩ : ∃ (dC : Nat → ClassId) (dI : Nat → Nat → Nat), ∀ (k : Nat) (q : vw_C), cls3[k]? = some q → u_Kn s q.1 q.2.1 q.2.2 (dC k) (dI k) := by
    refine ⟨fun k => if k = 0 then c0 else if k = 1 then c1 else c2, fun k => if k = 0 then iS0 else if k = 1 then iS1 else iS2, ?_⟩
    intro k q hq
    match k, hq with
    | 0, hq => cases hq; exact hKn0
    | 1, hq => cases hq; exact hKn1
    | 2, hq => cases hq; exact hKn2
    | k + 3, hq => simp [cls3] at hq
  obtain ⟨cL, kL, mL, l1, l2, l3⟩ := Cond.arrayClass_spec (hw _ w_72)
  obtain ⟨cI, kI, mI, i1, i2, i3⟩ := Cond.arrayClass_spec (hw _ w_73)
  obtain ⟨mO, cO, kO, o1, o2, o3, o4, o5⟩ := Cond.arrayOver_spec (n := R_S) hev.1.2.2.1
  have hK : va_K (dC, dI) cls3 (ty3 cL cI cO) s := by
    refine ⟨hKc, fun k q hq => ?_⟩
    match k, hq with
    | 0, hq => cases hq; exact ⟨fun n z => ⟨fun k h => (by cases h), kL, l2, mL, l3⟩, l1⟩
    | 1, hq => cases hq; exact ⟨fun n z => ⟨fun k h => (by cases h), kI, i2, mI, i3⟩, i1⟩
    | 2, hq => cases hq; exact ⟨fun n z => ⟨fun k h => (by cases h), kO, o3, mO, o4⟩, kO, mO, o3, o4, o1, o5⟩
    | k + 3, hq => simp [ty3] at hq
  obtain ⟨N0, hN⟩ : ∃ N0 : Nat, s.heap.size = N0 := ⟨_, rfl⟩
  rw [hN] at hev
  have hLA : LA p l s m meth c b L xs N0 dC dI cL cI cO := ⟨C0, hN, hK, hev, hl0, hL⟩
  have hK2 := hK.sub (tys' := [(cL, .long), (cI, .int)]) [0, 1] rfl
  have hown : s.vm.findClass R_L = some m.cls := hown
  have hS : va_S (fun q : Nat => N0 ≤ q) s.heap s.heap [] := va_S.rf
  have hl := lv_entry ([.ref b] : List Value) (n := 8) (Nat.le_of_ble_eq_true rfl)
  rw [lg_entry_eq]
  generalize (lg_sl ([.ref b] : List Value) ++ List.replicate (8 - (lg_sl ([.ref b] : List Value)).length) Slot.unset).toArray = ls at hl ⊢
  have hl : lv_has ls 8 [(0, .ref b)] := hl
  refine al_new (D := (dC, dI)) (cl := cls3) (ws := []) (A := fun q : Nat => N0 ≤ q) (ci := 1) (fs := [.null, .int 0]) (C := R_F) (T := T_F) (N := 2) (sz := N0) hx hb hw in_F t_F t_F_ok hown (hw _ w_14) (hw _ w_15) (hw _ w_1) hK P_nil D_nil hS hN (Nat.le_refl _) rfl (fun j hj => by rcases (show j = 0 ∨ j = 1 by omega) with rfl | rfl <;> rfl) (Nat.le_of_ble_eq_true rfl) (Nat.le_of_ble_eq_true rfl) dL_law_0 (fun H hP hD hS hz _ => ?_)
  have hP : va_P (dC, dI) cls3 [(N0, .inr (1, [.null, .int 0]))] H := hP
  refine lv_dup hx hb dL_law_3 rfl ?_
  refine al_call (va_runI (As := []) (rest := [.ref N0]) ⟨hx, hb, hml, hown, hw⟩ (k_F_init l dC dI cL cI cO N0 (N0 + 1)) (cwI 0 hw (gC w_18) rfl rfl rfl (hw _ w_1) (hw _ w_16) (hw _ w_17) rfl (by decide +kernel) ⟨Nat.le_of_ble_eq_true rfl, Nat.le_of_ble_eq_true rfl⟩) ⟨fun a U g mk q => by obtain ⟨q0, qP, qK, qA⟩ := q; exact ⟨q0, qP, va_K.moved (u := U) (U := U.calling g mk a) (Vm.Alike.refl U.vm) qK, va_AO.moved (u := U) (U := U.calling g mk a) (Vm.Alike.refl U.vm) qA⟩, fun U hU hW => ⟨rfl, ⟨by rw [hU]; exact hP, by rw [hU]; exact hz, Nat.lt_succ_self _⟩, va_K.moved hW.alike hK, va_AO.moved hW.alike hev.1.2.2.1⟩⟩ rfl rfl hl.1 rfl (lv_room (Nat.le_of_ble_eq_true rfl)) dL_law_4 ⟨Nat.le_of_ble_eq_true rfl, Nat.le_of_ble_eq_true rfl⟩) hS (fun q z => by have z : q = N0 ∨ N0 + 1 ≤ q := z; show N0 ≤ q; omega) (fun H locs hG hS _ _ => ?_)
  obtain ⟨hP, hz⟩ := hG
  refine W.widen (k := 2) (n := 42) (Nat.le_of_ble_eq_true rfl) (Nat.le_of_ble_eq_true rfl) ?_
  refine lv_astore_n (lv' := [(1, .ref N0), (0, .ref b)]) hx hb dL_law_7 rfl hl (by decide) rfl (fun ls hl => ?_)
  refine al_new (D := (dC, dI)) (cl := cls3) (ws := []) (A := fun q : Nat => N0 ≤ q) (ci := 2) (fs := [.int 0, .int 0, .null, .null, .null, .null, .null, .null, .null, .null, .null, .null, .null, .null, .null]) (C := R_M) (T := T_M) (N := 15) (sz := N0 + 2) hx hb hw in_M t_M t_M_ok hown (hw _ w_439) (hw _ w_440) (hw _ w_2) hK P_nil D_nil hS hz (by show N0 ≤ N0 + 2; omega) rfl (fun j hj => by rcases (show j = 0 ∨ j = 1 ∨ j = 2 ∨ j = 3 ∨ j = 4 ∨ j = 5 ∨ j = 6 ∨ j = 7 ∨ j = 8 ∨ j = 9 ∨ j = 10 ∨ j = 11 ∨ j = 12 ∨ j = 13 ∨ j = 14 by omega) with rfl | rfl | rfl | rfl | rfl | rfl | rfl | rfl | rfl | rfl | rfl | rfl | rfl | rfl | rfl <;> rfl) (Nat.le_of_ble_eq_true rfl) (Nat.le_of_ble_eq_true rfl) dL_law_8 (fun H hM hD hS hz hk => ?_)
  have hM : va_P (dC, dI) cls3 [(N0 + 2, .inr (2, [.int 0, .int 0, .null, .null, .null, .null, .null, .null, .null, .null, .null, .null, .null, .null, .null]))] H := hM
  replace hP := hP.kept (H1 := H) (fun k q hq => hk q.1 (by have := (hP k q hq).lt; omega))
  refine lv_dup hx hb dL_law_11 rfl ?_
  refine al_call (va_runI (As := []) (rest := [.ref (N0 + 2)]) ⟨hx, hb, hml, hown, hw⟩ (k_M_init l dC dI cL cI (N0 + 2) (N0 + 2 + 1)) (cwI 0 hw (gC w_443) rfl rfl rfl (hw _ w_2) (hw _ w_441) (hw _ w_442) rfl (by decide +kernel) ⟨Nat.le_of_ble_eq_true rfl, Nat.le_of_ble_eq_true rfl⟩) ⟨rd_blind (F := (fun H => va_P (dC, dI) cls3 [(N0 + 2, .inr (2, [.int 0, .int 0, .null, .null, .null, .null, .null, .null, .null, .null, .null, .null, .null, .null, .null]))] H ∧ H.size = N0 + 2 + 1 ∧ N0 + 2 < N0 + 2 + 1)), rd_pre (F := (fun H => va_P (dC, dI) cls3 [(N0 + 2, .inr (2, [.int 0, .int 0, .null, .null, .null, .null, .null, .null, .null, .null, .null, .null, .null, .null, .null]))] H ∧ H.size = N0 + 2 + 1 ∧ N0 + 2 < N0 + 2 + 1)) ⟨hM, hz, Nat.lt_succ_self _⟩ hK2⟩ rfl rfl hl.1 rfl (lv_room (Nat.le_of_ble_eq_true rfl)) dL_law_12 ⟨Nat.le_of_ble_eq_true rfl, Nat.le_of_ble_eq_true rfl⟩) hS (fun q z => by have z : q = N0 + 2 ∨ N0 + 2 + 1 ≤ q := z; show N0 ≤ q; omega) (fun H locs hG hS _ hk => ?_)
  obtain ⟨hM, hz⟩ := hG
  have hq : (fun k => if k = 0 then N0 + 2 else N0 + 2 + 1 + (k - 1)) = qM N0 := by
    funext k
    show (if k = 0 then N0 + 2 else N0 + 2 + 1 + (k - 1)) = N0 + 2 + k
    by_cases h : k = 0
    · rw [if_pos h, h]
    · rw [if_neg h]; omega
  rw [hq] at hM
  have hPa : ∀ (k : Nat) (q : Nat × va_E), (sfW cO N0 (N0 + 1) (fun _ _ => 0) (0, fun _ => (0, 0, 0, fun _ => 0, fun _ => 0, fun _ => 0, 0, 0)))[k]? = some q → q.1 = N0 ∨ q.1 = N0 + 1 := fun k q hq => by
    have h3 : q.1 ∈ ([N0, N0 + 1] : List Nat) := List.mem_map_of_mem (f := Prod.fst) (List.mem_of_getElem? hq)
    simpa using h3
  replace hP := hP.kept (H1 := H) (fun k q hq => hk q.1 ((hP k q hq).lt) (fun z => by have := hPa k q hq; have z : q.1 = N0 + 2 ∨ N0 + 2 + 1 ≤ q.1 := z; omega))
  refine W.widen (k := 16) (n := 5091) (Nat.le_of_ble_eq_true rfl) (Nat.le_of_ble_eq_true rfl) ?_
  refine lv_astore_n (lv' := [(2, .ref (N0 + 2)), (1, .ref N0), (0, .ref b)]) hx hb dL_law_15 rfl hl (by decide) rfl (fun ls hl => ?_)
  refine lv_iconst (v := 1) hx hb dL_law_16 (by decide) ?_
  refine al_newa (tys := []) (D := (dC, dI)) (cl := cls3) (ws := []) (A := fun q : Nat => N0 ≤ q) (atype := .long) (cA := cL) (a0 := (1, .inr (.inl (fun _ => 0)))) (sz := N0 + 16) (N' := 1) hx hb (hw _ w_72) l1 P_nil D_nil hS hz (by show N0 ≤ N0 + 16; omega) rfl (by decide) (by decide) (by decide) (Nat.le_of_ble_eq_true rfl) (Nat.le_of_ble_eq_true rfl) dL_law_17 (fun H hO hD hS hz hk => ?_)
  have hO : va_P (dC, dI) cls3 (outW cL N0 (fun _ => 0)) H := hO
  replace hP := hP.kept (H1 := H) (fun k q hq => hk q.1 (by have := hPa k q hq; omega))
  replace hM := hM.kept (H1 := H) (fun k q hq => hk q.1 (by have := md_adr hq; omega))
  refine lv_astore_n (lv' := [(3, .ref (N0 + 16)), (2, .ref (N0 + 2)), (1, .ref N0), (0, .ref b)]) hx hb dL_law_19 rfl hl (by decide) rfl (fun ls hl => ?_)
  refine lv_iconst (v := 0) hx hb dL_law_20 (by decide) ?_
  refine lv_istore (lv' := [(4, .int 0), (3, .ref (N0 + 16)), (2, .ref (N0 + 2)), (1, .ref N0), (0, .ref b)]) hx hb dL_law_21 hl (by decide) rfl (fun ls hl => ?_)
  refine W.widen (k := 17 + 4 * 0) (n := 5092 + 152 * 0) (Nat.le_of_ble_eq_true rfl) (Nat.le_of_ble_eq_true rfl) ?_
  have hSF : SFS (dC, dI) cL cI cO N0 (fun _ => 0) cv0 H := by
    refine ⟨⟨?_, fun i hi => absurd hi (Nat.not_lt_zero i), Nat.zero_le _⟩, fun i hi => absurd hi (Nat.not_lt_zero i), fun i j _ hj => absurd hj (Nat.not_lt_zero j), by omega⟩
    have e : sfW cO N0 (N0 + 1) (adB (fun _ => 0)) cv0 = sfW cO N0 (N0 + 1) (fun _ _ => 0) (0, fun _ => (0, 0, 0, fun _ => 0, fun _ => 0, fun _ => 0, 0, 0)) := by
      simp [sfW, cv0]
    rw [e]; exact hP
  exact law_loop hLA hSim (L + 1) 0 (Nat.zero_le _) (by omega) (fun _ => 0) cv0 mv0 (fun _ => 0) H locs ls hR0 ⟨hSF, hM, hO⟩ hS (lv_sub hl [4, 3, 2, 1, 0] rfl)
