/-! stores that tell the heap's size; constructors -/
section AP
variable {p : Program} {l : Launch} {e : Env} {R : Room} {s : State} {m : MethodId} {args : Array Value} {below : List Frame} {meth : Method} {c : Code} {H : Heap} {locs : List Loc} {cells slots : Nat} {Q : State → Prop}
variable {D : va_G} {cl : List vw_C} {tys : List (ClassId × FieldType)} {ws : va_W} {A : Nat → Prop} {H0 : Heap} {cc : ByteArray} {pc a : Nat} {ls : Array Slot} {rest : List Value}
theorem al_put (hexec : p.tables.exec = Jvm.exec) (hb : c.code = cc) {own ref C : String} {T : u_T} {N ci index : Nat} {Ts : List Cond} (hts : ∀ w ∈ Ts, w.before args s = true) (hin : ∀ w ∈ u_ws C T N, w ∈ Ts) (ty0 : Nat → FieldType) (hty : ∀ k, k < N → parseFieldDescriptor (T k).2.2.1 = some (ty0 k)) (hnm : ∀ a, a < N → ∀ b, b < N → a ≠ b → (T a).2.1 ≠ (T b).2.1) (hown : s.vm.findClass own = some m.cls) (hK : va_K D cl tys s) (hP : va_P D cl ws H) (hD : va_D A ws) (hS0 : va_S A H0 H locs) (q0 : Nat) {fs : List Value} (he : ws[q0]? = some (a, .inr (ci, fs))) (hc : cl[ci]? = some (C, T, N)) (k : Nat) (hk : k < N) (hlink : (Cond.fieldLink own index ref (T k).2.1 (T k).2.2.1).before args s = true) (hsame : ∀ x, s.fieldFound? (T k).1 (T k).2.1 (T k).2.2.1 = some x → s.fieldFound? ref (T k).2.1 (T k).2.2.1 = some x) (hfin : (T k).2.2.2 = false) {ty : FieldType} {v : Value} (hd : parseFieldDescriptor (T k).2.2.1 = some ty) (hn : narrow ty v = v) (hfit : fits ty v = true) (hl : k < fs.length)
    (hdg : decode cc pc = .ok (.putfield index, 3)) (kk : ∀ (H1 : Heap) (locs1 : List Loc), va_P D cl (ws.set q0 (a, .inr (ci, fs.set k v))) H1 → va_D A (ws.set q0 (a, .inr (ci, fs.set k v))) → va_S A H0 H1 locs1 → H1.size = H.size → W p l e R s m args below meth c H1 locs1 cells slots Q (F0 m (pc + 3) ls rest)) : W p l e R s m args below meth c H locs cells slots Q (F0 m pc ls (v :: .ref a :: rest)) := by
  have hap := va_apart (own := own) hts hin ty0 hty hnm hK hc
  obtain ⟨r, h1, cell, q1, q2, q3, q4⟩ := hP q0 _ he
  have hr : r = (C, T, N) := Option.some.inj (h1.symm.trans hc)
  subst hr
  obtain ⟨hS, hfc, kC, hkC, hkind⟩ := hK.1 ci _ hc
  obtain ⟨cf, kf, fi, f, hi, hsl⟩ := hS k hk
  have hlay := hts _ (hin _ (u_in_lay hk))
  unfold u_lay at hlay
  rw [if_neg (by rw [hfin]; decide)] at hlay
  have hst := (u_facts hfc hkC (u_lays hts hin hk) hi).1
  have h6 := u_store hfc hkC hkind hlay hi hd hn hfit
  refine W.putK hexec hb (f := f) ⟨hown, hlink, ⟨_, _, _, hsame _ hi⟩, hst⟩ (by rw [q2]; exact h6) q1 q3 (by rw [hsl]; exact k2_hasslot (q4 k hk)) rfl rfl hdg fun H' e1 e2 e3 => ?_
  rw [hsl] at e1 ⊢
  exact kk H' _ (hP.set hD he ⟨_, hc, t_OB.to (V := updV (vp_V fs) k v) ⟨_, e1, q2, q3, t_set q4 hap hk v⟩ (fun j _ => vp_updV_set hl v j)⟩ e3) (hD.set he) (hS0.put e2 e3 (hD.2 q0 _ he)) e2
theorem al_putF (hexec : p.tables.exec = Jvm.exec) (hb : c.code = cc) {own ref C : String} {T : u_T} {N ci index : Nat} {Ts : List Cond} (hts : ∀ w ∈ Ts, w.before args s = true) (hin : ∀ w ∈ u_ws C T N, w ∈ Ts) (ty0 : Nat → FieldType) (hty : ∀ k, k < N → parseFieldDescriptor (T k).2.2.1 = some (ty0 k)) (hnm : ∀ a, a < N → ∀ b, b < N → a ≠ b → (T a).2.1 ≠ (T b).2.1) (hown : s.vm.findClass own = some m.cls) (hK : va_K D cl tys s) (hP : va_P D cl ws H) (hD : va_D A ws) (hS0 : va_S A H0 H locs) (q0 : Nat) {fs : List Value} (he : ws[q0]? = some (a, .inr (ci, fs))) (hc : cl[ci]? = some (C, T, N)) (k : Nat) (hk : k < N) (hlink : (Cond.fieldLink own index ref (T k).2.1 (T k).2.2.1).before args s = true) (hsame : ∀ x, s.fieldFound? (T k).1 (T k).2.1 (T k).2.2.1 = some x → s.fieldFound? ref (T k).2.1 (T k).2.2.1 = some x) (hfin : (T k).2.2.2 = true) (hin2 : meth.name = "<init>") (hdecl : (T k).1 = own) {ty : FieldType} {v : Value} (hd : parseFieldDescriptor (T k).2.2.1 = some ty) (hn : narrow ty v = v) (hfit : fits ty v = true) (hl : k < fs.length)
    (hdg : decode cc pc = .ok (.putfield index, 3)) (kk : ∀ (H1 : Heap) (locs1 : List Loc), va_P D cl (ws.set q0 (a, .inr (ci, fs.set k v))) H1 → va_D A (ws.set q0 (a, .inr (ci, fs.set k v))) → va_S A H0 H1 locs1 → H1.size = H.size → W p l e R s m args below meth c H1 locs1 cells slots Q (F0 m (pc + 3) ls rest)) : W p l e R s m args below meth c H locs cells slots Q (F0 m pc ls (v :: .ref a :: rest)) := by
  have hap := va_apart (own := own) hts hin ty0 hty hnm hK hc
  obtain ⟨r, h1, cell, q1, q2, q3, q4⟩ := hP q0 _ he
  have hr : r = (C, T, N) := Option.some.inj (h1.symm.trans hc)
  subst hr
  obtain ⟨hS, hfc, kC, hkC, hkind⟩ := hK.1 ci _ hc
  obtain ⟨cf, kf, fi, f, hi, hsl⟩ := hS k hk
  have hlay := hts _ (hin _ (u_in_lay hk))
  unfold u_lay at hlay
  rw [if_pos hfin] at hlay
  have hst := (u_facts hfc hkC (u_lays hts hin hk) hi).1
  have hcf : m.cls = cf := by
    obtain ⟨_, _, c', _, _, _, -, -, hf', -, -, -, hown2, -⟩ := Cond.laysFinal_spec hlay
    have e1 : c' = cf := by have := hi.symm.trans hf'; simp at this; exact this.1.symm
    rw [hdecl] at hown2
    rw [← e1]; exact Option.some.inj (hown.symm.trans hown2)
  have h6 := u_fits hfc hkC hkind (Or.inr hlay) hi hd hn hfit
  refine W.putFinK hexec hb hown hlink (hsame _ hi) hst hcf hin2 (by rw [q2]; exact h6) q1 q3 (by rw [hsl]; exact k2_hasslot (q4 k hk)) rfl rfl hdg fun H' e1 e2 e3 => ?_
  rw [hsl] at e1 ⊢
  exact kk H' _ (hP.set hD he ⟨_, hc, t_OB.to (V := updV (vp_V fs) k v) ⟨_, e1, q2, q3, t_set q4 hap hk v⟩ (fun j _ => vp_updV_set hl v j)⟩ e3) (hD.set he) (hS0.put e2 e3 (hD.2 q0 _ he)) e2
end AP
theorem bool_nf {x : Int32} (h : x = 0 ∨ x = 1) : narrow .boolean (.int x) = .int x ∧ fits .boolean (.int x) = true := by
  rcases h with h | h <;> rw [h] <;> decide
theorem tyO {D : va_G} {cl : List vw_C} {tys : List (ClassId × FieldType)} {U : State} (h : va_K D cl tys U) {i : Nat} {c : ClassId} {C : String} (hi : tys[i]? = some (c, .object C)) : U.vm.findClass ("[" ++ (FieldType.object C).toString) = some c := by
  obtain ⟨kA, comp, -, -, -, h4⟩ := (h.2 i _ hi).2
  exact h4
theorem al_newq {p : Program} {l : Launch} {e : Env} {R : Room} {s : State} {m : MethodId} {args : Array Value} {below : List Frame} {meth : Method} {c : Code} {H : Heap} {locs : List Loc} {cells slots : Nat} {Q : State → Prop} {D : va_G} {cl : List vw_C} {ws : va_W} {A : Nat → Prop} {H0 : Heap} {cc : ByteArray} {pc : Nat} {ls : Array Slot} {rest : List Value} (hexec : p.tables.exec = Jvm.exec) (hb : c.code = cc) {own C : String} {index : Nat} (hown : s.vm.findClass own = some m.cls) (hclink : (Cond.classLink own index C).before args s = true) (hover : va_AO C s) {cA : ClassId} (hcA : s.vm.findClass ("[" ++ (FieldType.object C).toString) = some cA) (hP : va_P D cl ws H) (hD : va_D A ws) (hS : va_S A H0 H locs) {sz : Nat} (hz : H.size = sz) (hA : A sz)
    {n : Int32} {N' : Nat} (hn : ¬ n < 0) (hN : n.toNatClampNeg = N') (hbytes : N' * 4 ≤ 536870912) (hcells : cells + 1 ≤ R.cells) (hslots : slots + N' ≤ R.slots) (hdg : decode cc pc = .ok (.anewarray index, 3))
    (kk : ∀ (H1 : Heap), va_P D cl (ws ++ [(sz, .inl (cA, N', .inr (.inr (.inr (.inr (fun _ => none))))))]) H1 → va_D A (ws ++ [(sz, .inl (cA, N', .inr (.inr (.inr (.inr (fun _ => none))))))]) → va_S A H0 H1 locs → H1.size = sz + 1 → (∀ q : Nat, q < sz → H1[q]? = H[q]?) →
      W p l e R s m args below meth c H1 locs (cells + 1) (slots + N') Q (F0 m (pc + 3) ls (.ref sz :: rest))) : W p l e R s m args below meth c H locs cells slots Q (F0 m pc ls (.int n :: rest)) := by
  subst hN
  subst hz
  refine W.anew hexec hb hown hclink (va_AO.use hover) rfl hdg rfl hn hbytes hcells hslots fun cA' kA comp f1 f2 f3 f4 => ?_
  have hc : cA' = cA := Option.some.inj (f1.symm.trans hcA)
  subst hc
  generalize hH1 : H.push ({ cls := cA', slots := Array.replicate n.toNatClampNeg .null, vm := .none } : Cell) = H1
  have z1 : H1.size = H.size + 1 := by rw [← hH1, Array.size_push]
  have e1 : H1[H.size]? = some (arrV cA' n.toNatClampNeg (fun _ => .null)) := by rw [← hH1, Array.getElem?_push_size, ← arrV_new]
  have o1 : ∀ q : Nat, q < H.size → H1[q]? = H[q]? := fun q hq => by rw [← hH1, Array.getElem?_push, if_neg (Nat.ne_of_lt hq)]
  have hk : ∀ (k : Nat) (x : Nat × va_E), ws[k]? = some x → H1[x.1]? = H[x.1]? := fun k x hx => o1 x.1 ((hP k x hx).lt)
  refine kk H1 ((hP.kept hk).app (fun k x hx => ?_)) (hD.push hP rfl hA) ⟨Nat.le_trans hS.1 (by omega), fun x h1 h2 => (o1 x (Nat.lt_of_lt_of_le h1 hS.1)).trans (hS.2.1 x h1 h2), hS.2.2⟩ z1 o1
  have hz : k < 1 := (List.getElem?_eq_some_iff.mp hx).1
  rw [show k = 0 by omega] at hx
  cases hx
  show H1[H.size]? = some (vp_cell _ _)
  exact e1
theorem dS_init_0 : decode cS_init 0 = .ok (.aload_n 0, 1) := by decide +kernel
theorem dS_init_1 : decode cS_init 1 = .ok (.invokespecial 3, 3) := by decide +kernel
theorem dS_init_4 : decode cS_init 4 = .ok (.aload_n 0, 1) := by decide +kernel
theorem dS_init_5 : decode cS_init 5 = .ok (.iload_n 1, 1) := by decide +kernel
theorem dS_init_6 : decode cS_init 6 = .ok (.putfield 9, 3) := by decide +kernel
theorem dS_init_9 : decode cS_init 9 = .ok (.aload_n 0, 1) := by decide +kernel
theorem dS_init_10 : decode cS_init 10 = .ok (.iload_n 2, 1) := by decide +kernel
theorem dS_init_11 : decode cS_init 11 = .ok (.putfield 15, 3) := by decide +kernel
theorem dS_init_14 : decode cS_init 14 = .ok (.aload_n 0, 1) := by decide +kernel
theorem dS_init_15 : decode cS_init 15 = .ok (.lload_n 3, 1) := by decide +kernel
theorem dS_init_16 : decode cS_init 16 = .ok (.putfield 19, 3) := by decide +kernel
theorem dS_init_19 : decode cS_init 19 = .ok (.aload_n 0, 1) := by decide +kernel
theorem dS_init_20 : decode cS_init 20 = .ok (.bipush 48, 2) := by decide +kernel
theorem dS_init_22 : decode cS_init 22 = .ok (.newarray .long, 2) := by decide +kernel
theorem dS_init_24 : decode cS_init 24 = .ok (.putfield 23, 3) := by decide +kernel
theorem dS_init_27 : decode cS_init 27 = .ok (.aload_n 0, 1) := by decide +kernel
theorem dS_init_28 : decode cS_init 28 = .ok (.bipush 48, 2) := by decide +kernel
theorem dS_init_30 : decode cS_init 30 = .ok (.newarray .long, 2) := by decide +kernel
theorem dS_init_32 : decode cS_init 32 = .ok (.putfield 27, 3) := by decide +kernel
theorem dS_init_35 : decode cS_init 35 = .ok (.aload_n 0, 1) := by decide +kernel
theorem dS_init_36 : decode cS_init 36 = .ok (.bipush 48, 2) := by decide +kernel
theorem dS_init_38 : decode cS_init 38 = .ok (.newarray .int, 2) := by decide +kernel
theorem dS_init_40 : decode cS_init 40 = .ok (.putfield 30, 3) := by decide +kernel
theorem dS_init_43 : decode cS_init 43 = .ok (.aload_n 0, 1) := by decide +kernel
theorem dS_init_44 : decode cS_init 44 = .ok (.iconst 0, 1) := by decide +kernel
theorem dS_init_45 : decode cS_init 45 = .ok (.putfield 34, 3) := by decide +kernel
theorem dS_init_48 : decode cS_init 48 = .ok (.aload_n 0, 1) := by decide +kernel
theorem dS_init_49 : decode cS_init 49 = .ok (.iconst 0, 1) := by decide +kernel
theorem dS_init_50 : decode cS_init 50 = .ok (.putfield 37, 3) := by decide +kernel
theorem dS_init_53 : decode cS_init 53 = .ok (.return_, 1) := by decide +kernel
set_option maxHeartbeats 1000000 in
set_option maxRecDepth 100000 in
theorem k_S_init (l : Launch) (dC : Nat → ClassId) (dI : Nat → Nat → Nat) (cL cI : ClassId) (a sz : Nat) (x1 x2 : Int32) (x3 : Int64) (hB : x2 = 0 ∨ x2 = 1) : Met l yS_init wsS_init ({ frames := 1, cells := 3, slots := 144, locals := 20 }) (va_Pc [.ref a, .int x1, .int x2, .long x3] (fun U => (va_P (dC, dI) cls3 [(a, .inr (0, [.int 0, .int 0, .long 0, .null, .null, .null, .int 0, .int 0]))] U.heap ∧ U.heap.size = sz ∧ a < sz) ∧ va_K (dC, dI) cls3 [(cL, .long), (cI, .int)] U)) (al_Q none (fun H => va_P (dC, dI) cls3 (shW cL cI a sz (sz + 1) (sz + 2) (x1, x2, x3, fun _ => 0, fun _ => 0, fun _ => 0, 0, 0)) H ∧ H.size = sz + 3) (fun x => x = a ∨ sz ≤ x)) 3 144 (fun x => x = a ∨ sz ≤ x) := by
  refine Met.ofW (cc := cS_init) (maxL := 5) (ret := none) (by decide) rfl ?_
  intro p e s m args below meth c s₁ B hml hv
  obtain ⟨rfl, ⟨hP, hz, haz⟩, hK⟩ := hv
  have hx := B.exec
  have hb := B.bytes
  have hr := B.returns
  have hw : ∀ w ∈ wG, w.before ([.ref a, .int x1, .int x2, .long x3] : List Value).toArray s = true := fun w hq => atoms_spec (ws := wsS_init) B.pre w (List.mem_cons_of_mem _ hq)
  have hown : s.vm.findClass R_S = some m.cls := findClass_of_methodNamed B.named
  have hlocks := B.notSynchronized
  have hin : meth.name = "<init>" := (name_of_methodNamed B.named B.method).1
  have hD : va_D (fun x => x = a ∨ sz ≤ x) [(a, .inr (0, [.int 0, .int 0, .long 0, .null, .null, .null, .int 0, .int 0]))] := ⟨fun i j p q hi hj _ => by have h1 := (List.getElem?_eq_some_iff.mp hi).1; have h2 := (List.getElem?_eq_some_iff.mp hj).1; simp at h1 h2; omega, fun k q hk => by have h1 := (List.getElem?_eq_some_iff.mp hk).1; simp at h1; subst h1; cases hk; exact Or.inl rfl⟩
  have hS : va_S (fun x => x = a ∨ sz ≤ x) s.heap s.heap [] := va_S.rf
  have hl := lv_entry ([.ref a, .int x1, .int x2, .long x3] : List Value) (n := 5) (Nat.le_of_ble_eq_true rfl)
  rw [lg_entry_eq]
  generalize (lg_sl ([.ref a, .int x1, .int x2, .long x3] : List Value) ++ List.replicate (5 - (lg_sl ([.ref a, .int x1, .int x2, .long x3] : List Value)).length) Slot.unset).toArray = ls at hl ⊢
  have hl : lv_has ls 5 [(0, .ref a), (1, .int x1), (2, .int x2), (3, .long x3)] := hl
  refine lv_aload_n hx hb dS_init_0 rfl (lv_at hl 0 rfl) ?_
  refine W.objInit hx hb hown (hw _ w_39) (hw _ w_20) (hw _ w_21) rfl (by rw [hml]; exact hl.1) rfl dS_init_1 (Nat.le_of_ble_eq_true rfl) (Nat.le_of_ble_eq_true rfl) ?_
  refine W.eq (g2 := F0 m 4 ls []) rfl ?_
  refine lv_aload_n hx hb dS_init_4 rfl (lv_at hl 0 rfl) ?_
  refine lv_iload_n hx hb dS_init_5 rfl (lv_at hl 1 rfl) ?_
  refine al_putF (D := (dC, dI)) (ci := 0) (v := .int x1) (ty := .int) (C := R_S) (T := T_S) (N := 8) hx hb hw in_S t_S t_S_ok nm_S hown hK hP hD hS 0 rfl rfl 0 (by decide) (hw _ w_40) (fun _ h9 => h9) rfl hin rfl (by decide +kernel) rfl rfl (Nat.le_of_ble_eq_true rfl) dS_init_6 (fun H locs hP hD hS hz9 => ?_)
  have hP : va_P (dC, dI) cls3 [(a, .inr (0, [.int x1, .int 0, .long 0, .null, .null, .null, .int 0, .int 0]))] H := hP
  have hD : va_D (fun x => x = a ∨ sz ≤ x) [(a, .inr (0, [.int x1, .int 0, .long 0, .null, .null, .null, .int 0, .int 0]))] := hD
  replace hz := hz9.trans hz
  refine lv_aload_n hx hb dS_init_9 rfl (lv_at hl 0 rfl) ?_
  refine lv_iload_n hx hb dS_init_10 rfl (lv_at hl 2 rfl) ?_
  refine al_putF (D := (dC, dI)) (ci := 0) (v := .int x2) (ty := .boolean) (C := R_S) (T := T_S) (N := 8) hx hb hw in_S t_S t_S_ok nm_S hown hK hP hD hS 0 rfl rfl 1 (by decide) (hw _ w_42) (fun _ h9 => h9) rfl hin rfl (by decide +kernel) (bool_nf hB).1 (bool_nf hB).2 (Nat.le_of_ble_eq_true rfl) dS_init_11 (fun H locs hP hD hS hz9 => ?_)
  have hP : va_P (dC, dI) cls3 [(a, .inr (0, [.int x1, .int x2, .long 0, .null, .null, .null, .int 0, .int 0]))] H := hP
  have hD : va_D (fun x => x = a ∨ sz ≤ x) [(a, .inr (0, [.int x1, .int x2, .long 0, .null, .null, .null, .int 0, .int 0]))] := hD
  replace hz := hz9.trans hz
  refine lv_aload_n hx hb dS_init_14 rfl (lv_at hl 0 rfl) ?_
  refine lv_lload_n hx hb dS_init_15 rfl (lv_at hl 3 rfl) ?_
  refine al_putF (D := (dC, dI)) (ci := 0) (v := .long x3) (ty := .long) (C := R_S) (T := T_S) (N := 8) hx hb hw in_S t_S t_S_ok nm_S hown hK hP hD hS 0 rfl rfl 2 (by decide) (hw _ w_44) (fun _ h9 => h9) rfl hin rfl (by decide +kernel) rfl rfl (Nat.le_of_ble_eq_true rfl) dS_init_16 (fun H locs hP hD hS hz9 => ?_)
  have hP : va_P (dC, dI) cls3 [(a, .inr (0, [.int x1, .int x2, .long x3, .null, .null, .null, .int 0, .int 0]))] H := hP
  have hD : va_D (fun x => x = a ∨ sz ≤ x) [(a, .inr (0, [.int x1, .int x2, .long x3, .null, .null, .null, .int 0, .int 0]))] := hD
  replace hz := hz9.trans hz
  refine lv_aload_n hx hb dS_init_19 rfl (lv_at hl 0 rfl) ?_
  refine lv_bipush (v := 48) hx hb dS_init_20 (by decide) ?_
  refine al_newa (tys := []) (atype := .long) (cA := cL) (a0 := (48, .inr (.inl (fun _ => 0)))) (sz := sz) (N' := 48) hx hb (hw _ w_72) (tyL hK (i := 0) rfl) hP hD hS hz (Or.inr (by omega)) rfl (by decide) (by decide) (by decide) (Nat.le_of_ble_eq_true rfl) (Nat.le_of_ble_eq_true rfl) dS_init_22 (fun H hP hD hS hz _ => ?_)
  have hP : va_P (dC, dI) cls3 [(a, .inr (0, [.int x1, .int x2, .long x3, .null, .null, .null, .int 0, .int 0])), (sz, .inl (cL, 48, .inr (.inl (fun _ => 0))))] H := hP
  have hD : va_D (fun x => x = a ∨ sz ≤ x) [(a, .inr (0, [.int x1, .int x2, .long x3, .null, .null, .null, .int 0, .int 0])), (sz, .inl (cL, 48, .inr (.inl (fun _ => 0))))] := hD
  refine al_putF (D := (dC, dI)) (ci := 0) (v := .ref sz) (ty := .array .long) (C := R_S) (T := T_S) (N := 8) hx hb hw in_S t_S t_S_ok nm_S hown hK hP hD hS 0 rfl rfl 3 (by decide) (hw _ w_46) (fun _ h9 => h9) rfl hin rfl (by decide +kernel) rfl rfl (Nat.le_of_ble_eq_true rfl) dS_init_24 (fun H locs hP hD hS hz9 => ?_)
  have hP : va_P (dC, dI) cls3 [(a, .inr (0, [.int x1, .int x2, .long x3, .ref sz, .null, .null, .int 0, .int 0])), (sz, .inl (cL, 48, .inr (.inl (fun _ => 0))))] H := hP
  have hD : va_D (fun x => x = a ∨ sz ≤ x) [(a, .inr (0, [.int x1, .int x2, .long x3, .ref sz, .null, .null, .int 0, .int 0])), (sz, .inl (cL, 48, .inr (.inl (fun _ => 0))))] := hD
  replace hz := hz9.trans hz
  refine lv_aload_n hx hb dS_init_27 rfl (lv_at hl 0 rfl) ?_
  refine lv_bipush (v := 48) hx hb dS_init_28 (by decide) ?_
  refine al_newa (tys := []) (atype := .long) (cA := cL) (a0 := (48, .inr (.inl (fun _ => 0)))) (sz := (sz + 1)) (N' := 48) hx hb (hw _ w_72) (tyL hK (i := 0) rfl) hP hD hS hz (Or.inr (by omega)) rfl (by decide) (by decide) (by decide) (Nat.le_of_ble_eq_true rfl) (Nat.le_of_ble_eq_true rfl) dS_init_30 (fun H hP hD hS hz _ => ?_)
  have hP : va_P (dC, dI) cls3 [(a, .inr (0, [.int x1, .int x2, .long x3, .ref sz, .null, .null, .int 0, .int 0])), (sz, .inl (cL, 48, .inr (.inl (fun _ => 0)))), ((sz + 1), .inl (cL, 48, .inr (.inl (fun _ => 0))))] H := hP
  have hD : va_D (fun x => x = a ∨ sz ≤ x) [(a, .inr (0, [.int x1, .int x2, .long x3, .ref sz, .null, .null, .int 0, .int 0])), (sz, .inl (cL, 48, .inr (.inl (fun _ => 0)))), ((sz + 1), .inl (cL, 48, .inr (.inl (fun _ => 0))))] := hD
  refine al_putF (D := (dC, dI)) (ci := 0) (v := .ref (sz + 1)) (ty := .array .long) (C := R_S) (T := T_S) (N := 8) hx hb hw in_S t_S t_S_ok nm_S hown hK hP hD hS 0 rfl rfl 4 (by decide) (hw _ w_48) (fun _ h9 => h9) rfl hin rfl (by decide +kernel) rfl rfl (Nat.le_of_ble_eq_true rfl) dS_init_32 (fun H locs hP hD hS hz9 => ?_)
  have hP : va_P (dC, dI) cls3 [(a, .inr (0, [.int x1, .int x2, .long x3, .ref sz, .ref (sz + 1), .null, .int 0, .int 0])), (sz, .inl (cL, 48, .inr (.inl (fun _ => 0)))), ((sz + 1), .inl (cL, 48, .inr (.inl (fun _ => 0))))] H := hP
  have hD : va_D (fun x => x = a ∨ sz ≤ x) [(a, .inr (0, [.int x1, .int x2, .long x3, .ref sz, .ref (sz + 1), .null, .int 0, .int 0])), (sz, .inl (cL, 48, .inr (.inl (fun _ => 0)))), ((sz + 1), .inl (cL, 48, .inr (.inl (fun _ => 0))))] := hD
  replace hz := hz9.trans hz
  refine lv_aload_n hx hb dS_init_35 rfl (lv_at hl 0 rfl) ?_
  refine lv_bipush (v := 48) hx hb dS_init_36 (by decide) ?_
  refine al_newa (tys := []) (atype := .int) (cA := cI) (a0 := (48, .inl (fun _ => 0))) (sz := (sz + 2)) (N' := 48) hx hb (hw _ w_73) (tyI hK (i := 1) rfl) hP hD hS hz (Or.inr (by omega)) rfl (by decide) (by decide) (by decide) (Nat.le_of_ble_eq_true rfl) (Nat.le_of_ble_eq_true rfl) dS_init_38 (fun H hP hD hS hz _ => ?_)
  have hP : va_P (dC, dI) cls3 [(a, .inr (0, [.int x1, .int x2, .long x3, .ref sz, .ref (sz + 1), .null, .int 0, .int 0])), (sz, .inl (cL, 48, .inr (.inl (fun _ => 0)))), ((sz + 1), .inl (cL, 48, .inr (.inl (fun _ => 0)))), ((sz + 2), .inl (cI, 48, .inl (fun _ => 0)))] H := hP
  have hD : va_D (fun x => x = a ∨ sz ≤ x) [(a, .inr (0, [.int x1, .int x2, .long x3, .ref sz, .ref (sz + 1), .null, .int 0, .int 0])), (sz, .inl (cL, 48, .inr (.inl (fun _ => 0)))), ((sz + 1), .inl (cL, 48, .inr (.inl (fun _ => 0)))), ((sz + 2), .inl (cI, 48, .inl (fun _ => 0)))] := hD
  refine al_putF (D := (dC, dI)) (ci := 0) (v := .ref (sz + 2)) (ty := .array .int) (C := R_S) (T := T_S) (N := 8) hx hb hw in_S t_S t_S_ok nm_S hown hK hP hD hS 0 rfl rfl 5 (by decide) (hw _ w_50) (fun _ h9 => h9) rfl hin rfl (by decide +kernel) rfl rfl (Nat.le_of_ble_eq_true rfl) dS_init_40 (fun H locs hP hD hS hz9 => ?_)
  have hP : va_P (dC, dI) cls3 [(a, .inr (0, [.int x1, .int x2, .long x3, .ref sz, .ref (sz + 1), .ref (sz + 2), .int 0, .int 0])), (sz, .inl (cL, 48, .inr (.inl (fun _ => 0)))), ((sz + 1), .inl (cL, 48, .inr (.inl (fun _ => 0)))), ((sz + 2), .inl (cI, 48, .inl (fun _ => 0)))] H := hP
  have hD : va_D (fun x => x = a ∨ sz ≤ x) [(a, .inr (0, [.int x1, .int x2, .long x3, .ref sz, .ref (sz + 1), .ref (sz + 2), .int 0, .int 0])), (sz, .inl (cL, 48, .inr (.inl (fun _ => 0)))), ((sz + 1), .inl (cL, 48, .inr (.inl (fun _ => 0)))), ((sz + 2), .inl (cI, 48, .inl (fun _ => 0)))] := hD
  replace hz := hz9.trans hz
  refine lv_aload_n hx hb dS_init_43 rfl (lv_at hl 0 rfl) ?_
  refine lv_iconst (v := 0) hx hb dS_init_44 (by decide) ?_
  refine al_put (D := (dC, dI)) (ci := 0) (v := .int 0) (ty := .int) (C := R_S) (T := T_S) (N := 8) hx hb hw in_S t_S t_S_ok nm_S hown hK hP hD hS 0 rfl rfl 6 (by decide) (hw _ w_52) (fun _ h9 => h9) rfl (by decide +kernel) rfl rfl (Nat.le_of_ble_eq_true rfl) dS_init_45 (fun H locs hP hD hS hz9 => ?_)
  have hP : va_P (dC, dI) cls3 [(a, .inr (0, [.int x1, .int x2, .long x3, .ref sz, .ref (sz + 1), .ref (sz + 2), .int 0, .int 0])), (sz, .inl (cL, 48, .inr (.inl (fun _ => 0)))), ((sz + 1), .inl (cL, 48, .inr (.inl (fun _ => 0)))), ((sz + 2), .inl (cI, 48, .inl (fun _ => 0)))] H := hP
  have hD : va_D (fun x => x = a ∨ sz ≤ x) [(a, .inr (0, [.int x1, .int x2, .long x3, .ref sz, .ref (sz + 1), .ref (sz + 2), .int 0, .int 0])), (sz, .inl (cL, 48, .inr (.inl (fun _ => 0)))), ((sz + 1), .inl (cL, 48, .inr (.inl (fun _ => 0)))), ((sz + 2), .inl (cI, 48, .inl (fun _ => 0)))] := hD
  replace hz := hz9.trans hz
  refine lv_aload_n hx hb dS_init_48 rfl (lv_at hl 0 rfl) ?_
  refine lv_iconst (v := 0) hx hb dS_init_49 (by decide) ?_
  refine al_put (D := (dC, dI)) (ci := 0) (v := .int 0) (ty := .int) (C := R_S) (T := T_S) (N := 8) hx hb hw in_S t_S t_S_ok nm_S hown hK hP hD hS 0 rfl rfl 7 (by decide) (hw _ w_54) (fun _ h9 => h9) rfl (by decide +kernel) rfl rfl (Nat.le_of_ble_eq_true rfl) dS_init_50 (fun H locs hP hD hS hz9 => ?_)
  have hP : va_P (dC, dI) cls3 [(a, .inr (0, [.int x1, .int x2, .long x3, .ref sz, .ref (sz + 1), .ref (sz + 2), .int 0, .int 0])), (sz, .inl (cL, 48, .inr (.inl (fun _ => 0)))), ((sz + 1), .inl (cL, 48, .inr (.inl (fun _ => 0)))), ((sz + 2), .inl (cI, 48, .inl (fun _ => 0)))] H := hP
  have hD : va_D (fun x => x = a ∨ sz ≤ x) [(a, .inr (0, [.int x1, .int x2, .long x3, .ref sz, .ref (sz + 1), .ref (sz + 2), .int 0, .int 0])), (sz, .inl (cL, 48, .inr (.inl (fun _ => 0)))), ((sz + 1), .inl (cL, 48, .inr (.inl (fun _ => 0)))), ((sz + 2), .inl (cI, 48, .inl (fun _ => 0)))] := hD
  replace hz := hz9.trans hz
  refine W.widen (k := 3) (n := 144) (Nat.le_of_ble_eq_true rfl) (Nat.le_of_ble_eq_true rfl) ?_
  exact W.vret hx hb hr (fun t ht hW => ⟨rfl, ⟨by rw [ht]; exact hP, by rw [ht]; exact hz⟩, hS.F ht⟩) hS.2.2 dS_init_53
theorem dF_init_0 : decode cF_init 0 = .ok (.aload_n 0, 1) := by decide +kernel
theorem dF_init_1 : decode cF_init 1 = .ok (.invokespecial 1, 3) := by decide +kernel
theorem dF_init_4 : decode cF_init 4 = .ok (.aload_n 0, 1) := by decide +kernel
theorem dF_init_5 : decode cF_init 5 = .ok (.bipush 40, 2) := by decide +kernel
theorem dF_init_7 : decode cF_init 7 = .ok (.anewarray 9, 3) := by decide +kernel
theorem dF_init_10 : decode cF_init 10 = .ok (.putfield 11, 3) := by decide +kernel
theorem dF_init_13 : decode cF_init 13 = .ok (.aload_n 0, 1) := by decide +kernel
theorem dF_init_14 : decode cF_init 14 = .ok (.iconst 0, 1) := by decide +kernel
theorem dF_init_15 : decode cF_init 15 = .ok (.putfield 15, 3) := by decide +kernel
theorem dF_init_18 : decode cF_init 18 = .ok (.return_, 1) := by decide +kernel
set_option maxHeartbeats 1000000 in
set_option maxRecDepth 100000 in
theorem k_F_init (l : Launch) (dC : Nat → ClassId) (dI : Nat → Nat → Nat) (cL cI cO : ClassId) (a sz : Nat)  : Met l yF_init wsF_init ({ frames := 1, cells := 1, slots := 40, locals := 20 }) (va_Pc [.ref a] (fun U => (va_P (dC, dI) cls3 [(a, .inr (1, [.null, .int 0]))] U.heap ∧ U.heap.size = sz ∧ a < sz) ∧ va_K (dC, dI) cls3 (ty3 cL cI cO) U ∧ va_AO R_S U)) (al_Q none (fun H => va_P (dC, dI) cls3 (sfW cO a sz (fun _ _ => 0) (0, fun _ => (0, 0, 0, fun _ => 0, fun _ => 0, fun _ => 0, 0, 0))) H ∧ H.size = sz + 1) (fun x => x = a ∨ sz ≤ x)) 1 40 (fun x => x = a ∨ sz ≤ x) := by
  refine Met.ofW (cc := cF_init) (maxL := 1) (ret := none) (by decide) rfl ?_
  intro p e s m args below meth c s₁ B hml hv
  obtain ⟨rfl, ⟨hP, hz, haz⟩, hK, hAO⟩ := hv
  have hx := B.exec
  have hb := B.bytes
  have hr := B.returns
  have hw : ∀ w ∈ wG, w.before ([.ref a] : List Value).toArray s = true := fun w hq => atoms_spec (ws := wsF_init) B.pre w (List.mem_cons_of_mem _ hq)
  have hown : s.vm.findClass R_F = some m.cls := findClass_of_methodNamed B.named
  have hlocks := B.notSynchronized
  have hin : meth.name = "<init>" := (name_of_methodNamed B.named B.method).1
  have hD : va_D (fun x => x = a ∨ sz ≤ x) [(a, .inr (1, [.null, .int 0]))] := ⟨fun i j p q hi hj _ => by have h1 := (List.getElem?_eq_some_iff.mp hi).1; have h2 := (List.getElem?_eq_some_iff.mp hj).1; simp at h1 h2; omega, fun k q hk => by have h1 := (List.getElem?_eq_some_iff.mp hk).1; simp at h1; subst h1; cases hk; exact Or.inl rfl⟩
  have hS : va_S (fun x => x = a ∨ sz ≤ x) s.heap s.heap [] := va_S.rf
  have hl := lv_entry ([.ref a] : List Value) (n := 1) (Nat.le_of_ble_eq_true rfl)
  rw [lg_entry_eq]
  generalize (lg_sl ([.ref a] : List Value) ++ List.replicate (1 - (lg_sl ([.ref a] : List Value)).length) Slot.unset).toArray = ls at hl ⊢
  have hl : lv_has ls 1 [(0, .ref a)] := hl
  refine lv_aload_n hx hb dF_init_0 rfl (lv_at hl 0 rfl) ?_
  refine W.objInit hx hb hown (hw _ w_19) (hw _ w_20) (hw _ w_21) rfl (by rw [hml]; exact hl.1) rfl dF_init_1 (Nat.le_of_ble_eq_true rfl) (Nat.le_of_ble_eq_true rfl) ?_
  refine W.eq (g2 := F0 m 4 ls []) rfl ?_
  refine lv_aload_n hx hb dF_init_4 rfl (lv_at hl 0 rfl) ?_
  refine lv_bipush (v := 40) hx hb dF_init_5 (by decide) ?_
  refine al_newq (cA := cO) (sz := sz) (N' := 40) hx hb hown (hw _ w_22) hAO (tyO hK (i := 2) rfl) hP hD hS hz (Or.inr (by omega)) (by decide) (by decide) (by decide) (Nat.le_of_ble_eq_true rfl) (Nat.le_of_ble_eq_true rfl) dF_init_7 (fun H hP hD hS hz _ => ?_)
  have hP : va_P (dC, dI) cls3 [(a, .inr (1, [.null, .int 0])), (sz, .inl (cO, 40, .inr (.inr (.inr (.inr (fun _ => none))))))] H := hP
  have hD : va_D (fun x => x = a ∨ sz ≤ x) [(a, .inr (1, [.null, .int 0])), (sz, .inl (cO, 40, .inr (.inr (.inr (.inr (fun _ => none))))))] := hD
  refine al_putF (D := (dC, dI)) (ci := 1) (v := .ref sz) (ty := .array (.object "ShapeForms$Shape")) (C := R_F) (T := T_F) (N := 2) hx hb hw in_F t_F t_F_ok nm_F hown hK hP hD hS 0 rfl rfl 0 (by decide) (hw _ w_24) (fun _ h9 => h9) rfl hin rfl (by decide +kernel) rfl rfl (Nat.le_of_ble_eq_true rfl) dF_init_10 (fun H locs hP hD hS hz9 => ?_)
  have hP : va_P (dC, dI) cls3 [(a, .inr (1, [.ref sz, .int 0])), (sz, .inl (cO, 40, .inr (.inr (.inr (.inr (fun _ => none))))))] H := hP
  have hD : va_D (fun x => x = a ∨ sz ≤ x) [(a, .inr (1, [.ref sz, .int 0])), (sz, .inl (cO, 40, .inr (.inr (.inr (.inr (fun _ => none))))))] := hD
  replace hz := hz9.trans hz
  refine lv_aload_n hx hb dF_init_13 rfl (lv_at hl 0 rfl) ?_
  refine lv_iconst (v := 0) hx hb dF_init_14 (by decide) ?_
  refine al_put (D := (dC, dI)) (ci := 1) (v := .int 0) (ty := .int) (C := R_F) (T := T_F) (N := 2) hx hb hw in_F t_F t_F_ok nm_F hown hK hP hD hS 0 rfl rfl 1 (by decide) (hw _ w_25) (fun _ h9 => h9) rfl (by decide +kernel) rfl rfl (Nat.le_of_ble_eq_true rfl) dF_init_15 (fun H locs hP hD hS hz9 => ?_)
  have hP : va_P (dC, dI) cls3 [(a, .inr (1, [.ref sz, .int 0])), (sz, .inl (cO, 40, .inr (.inr (.inr (.inr (fun _ => none))))))] H := hP
  have hD : va_D (fun x => x = a ∨ sz ≤ x) [(a, .inr (1, [.ref sz, .int 0])), (sz, .inl (cO, 40, .inr (.inr (.inr (.inr (fun _ => none))))))] := hD
  replace hz := hz9.trans hz
  refine W.widen (k := 1) (n := 40) (Nat.le_of_ble_eq_true rfl) (Nat.le_of_ble_eq_true rfl) ?_
  exact W.vret hx hb hr (fun t ht hW => ⟨rfl, ⟨by rw [ht]; exact hP, by rw [ht]; exact hz⟩, hS.F ht⟩) hS.2.2 dF_init_18
theorem dM_init_0 : decode cM_init 0 = .ok (.aload_n 0, 1) := by decide +kernel
theorem dM_init_1 : decode cM_init 1 = .ok (.invokespecial 1, 3) := by decide +kernel
theorem dM_init_4 : decode cM_init 4 = .ok (.aload_n 0, 1) := by decide +kernel
theorem dM_init_5 : decode cM_init 5 = .ok (.bipush 40, 2) := by decide +kernel
theorem dM_init_7 : decode cM_init 7 = .ok (.newarray .int, 2) := by decide +kernel
theorem dM_init_9 : decode cM_init 9 = .ok (.putfield 7, 3) := by decide +kernel
theorem dM_init_12 : decode cM_init 12 = .ok (.aload_n 0, 1) := by decide +kernel
theorem dM_init_13 : decode cM_init 13 = .ok (.bipush 40, 2) := by decide +kernel
theorem dM_init_15 : decode cM_init 15 = .ok (.newarray .long, 2) := by decide +kernel
theorem dM_init_17 : decode cM_init 17 = .ok (.putfield 13, 3) := by decide +kernel
theorem dM_init_20 : decode cM_init 20 = .ok (.aload_n 0, 1) := by decide +kernel
theorem dM_init_21 : decode cM_init 21 = .ok (.sipush 1920, 3) := by decide +kernel
theorem dM_init_24 : decode cM_init 24 = .ok (.newarray .long, 2) := by decide +kernel
theorem dM_init_26 : decode cM_init 26 = .ok (.putfield 17, 3) := by decide +kernel
theorem dM_init_29 : decode cM_init 29 = .ok (.aload_n 0, 1) := by decide +kernel
theorem dM_init_30 : decode cM_init 30 = .ok (.sipush 1920, 3) := by decide +kernel
theorem dM_init_33 : decode cM_init 33 = .ok (.newarray .long, 2) := by decide +kernel
theorem dM_init_35 : decode cM_init 35 = .ok (.putfield 20, 3) := by decide +kernel
theorem dM_init_38 : decode cM_init 38 = .ok (.aload_n 0, 1) := by decide +kernel
theorem dM_init_39 : decode cM_init 39 = .ok (.bipush 40, 2) := by decide +kernel
theorem dM_init_41 : decode cM_init 41 = .ok (.newarray .int, 2) := by decide +kernel
theorem dM_init_43 : decode cM_init 43 = .ok (.putfield 23, 3) := by decide +kernel
theorem dM_init_46 : decode cM_init 46 = .ok (.aload_n 0, 1) := by decide +kernel
theorem dM_init_47 : decode cM_init 47 = .ok (.sipush 640, 3) := by decide +kernel
theorem dM_init_50 : decode cM_init 50 = .ok (.newarray .int, 2) := by decide +kernel
theorem dM_init_52 : decode cM_init 52 = .ok (.putfield 26, 3) := by decide +kernel
theorem dM_init_55 : decode cM_init 55 = .ok (.aload_n 0, 1) := by decide +kernel
theorem dM_init_56 : decode cM_init 56 = .ok (.bipush 40, 2) := by decide +kernel
theorem dM_init_58 : decode cM_init 58 = .ok (.newarray .int, 2) := by decide +kernel
theorem dM_init_60 : decode cM_init 60 = .ok (.putfield 29, 3) := by decide +kernel
theorem dM_init_63 : decode cM_init 63 = .ok (.aload_n 0, 1) := by decide +kernel
theorem dM_init_64 : decode cM_init 64 = .ok (.bipush 96, 2) := by decide +kernel
theorem dM_init_66 : decode cM_init 66 = .ok (.newarray .long, 2) := by decide +kernel
theorem dM_init_68 : decode cM_init 68 = .ok (.putfield 32, 3) := by decide +kernel
theorem dM_init_71 : decode cM_init 71 = .ok (.aload_n 0, 1) := by decide +kernel
theorem dM_init_72 : decode cM_init 72 = .ok (.bipush 96, 2) := by decide +kernel
theorem dM_init_74 : decode cM_init 74 = .ok (.newarray .long, 2) := by decide +kernel
theorem dM_init_76 : decode cM_init 76 = .ok (.putfield 35, 3) := by decide +kernel
theorem dM_init_79 : decode cM_init 79 = .ok (.aload_n 0, 1) := by decide +kernel
theorem dM_init_80 : decode cM_init 80 = .ok (.bipush 96, 2) := by decide +kernel
theorem dM_init_82 : decode cM_init 82 = .ok (.newarray .long, 2) := by decide +kernel
theorem dM_init_84 : decode cM_init 84 = .ok (.putfield 38, 3) := by decide +kernel
theorem dM_init_87 : decode cM_init 87 = .ok (.aload_n 0, 1) := by decide +kernel
theorem dM_init_88 : decode cM_init 88 = .ok (.bipush 96, 2) := by decide +kernel
theorem dM_init_90 : decode cM_init 90 = .ok (.newarray .long, 2) := by decide +kernel
theorem dM_init_92 : decode cM_init 92 = .ok (.putfield 41, 3) := by decide +kernel
theorem dM_init_95 : decode cM_init 95 = .ok (.aload_n 0, 1) := by decide +kernel
theorem dM_init_96 : decode cM_init 96 = .ok (.iconst 2, 1) := by decide +kernel
theorem dM_init_97 : decode cM_init 97 = .ok (.newarray .int, 2) := by decide +kernel
theorem dM_init_99 : decode cM_init 99 = .ok (.putfield 44, 3) := by decide +kernel
theorem dM_init_102 : decode cM_init 102 = .ok (.aload_n 0, 1) := by decide +kernel
theorem dM_init_103 : decode cM_init 103 = .ok (.bipush 8, 2) := by decide +kernel
theorem dM_init_105 : decode cM_init 105 = .ok (.newarray .long, 2) := by decide +kernel
theorem dM_init_107 : decode cM_init 107 = .ok (.putfield 47, 3) := by decide +kernel
theorem dM_init_110 : decode cM_init 110 = .ok (.return_, 1) := by decide +kernel
set_option maxHeartbeats 1000000 in
set_option maxRecDepth 100000 in
theorem k_M_init (l : Launch) (dC : Nat → ClassId) (dI : Nat → Nat → Nat) (cL cI : ClassId) (a sz : Nat)  : Met l yM_init wsM_init ({ frames := 1, cells := 13, slots := 5034, locals := 20 }) (va_Pc [.ref a] (fun U => (va_P (dC, dI) cls3 [(a, .inr (2, [.int 0, .int 0, .null, .null, .null, .null, .null, .null, .null, .null, .null, .null, .null, .null, .null]))] U.heap ∧ U.heap.size = sz ∧ a < sz) ∧ va_K (dC, dI) cls3 [(cL, .long), (cI, .int)] U)) (al_Q none (fun H => va_P (dC, dI) cls3 (mdW cL cI (fun k => if k = 0 then a else sz + (k - 1)) (0, 0, fun _ => 0, fun _ => 0, fun _ => 0, fun _ => 0, fun _ => 0, fun _ => 0, fun _ => 0, fun _ => 0, fun _ => 0, fun _ => 0, fun _ => 0, fun _ => 0, fun _ => 0)) H ∧ H.size = sz + 13) (fun x => x = a ∨ sz ≤ x)) 13 5034 (fun x => x = a ∨ sz ≤ x) := by
  refine Met.ofW (cc := cM_init) (maxL := 1) (ret := none) (by decide) rfl ?_
  intro p e s m args below meth c s₁ B hml hv
  obtain ⟨rfl, ⟨hP, hz, haz⟩, hK⟩ := hv
  have hx := B.exec
  have hb := B.bytes
  have hr := B.returns
  have hw : ∀ w ∈ wG, w.before ([.ref a] : List Value).toArray s = true := fun w hq => atoms_spec (ws := wsM_init) B.pre w (List.mem_cons_of_mem _ hq)
  have hown : s.vm.findClass R_M = some m.cls := findClass_of_methodNamed B.named
  have hlocks := B.notSynchronized
  have hin : meth.name = "<init>" := (name_of_methodNamed B.named B.method).1
  have hD : va_D (fun x => x = a ∨ sz ≤ x) [(a, .inr (2, [.int 0, .int 0, .null, .null, .null, .null, .null, .null, .null, .null, .null, .null, .null, .null, .null]))] := ⟨fun i j p q hi hj _ => by have h1 := (List.getElem?_eq_some_iff.mp hi).1; have h2 := (List.getElem?_eq_some_iff.mp hj).1; simp at h1 h2; omega, fun k q hk => by have h1 := (List.getElem?_eq_some_iff.mp hk).1; simp at h1; subst h1; cases hk; exact Or.inl rfl⟩
  have hS : va_S (fun x => x = a ∨ sz ≤ x) s.heap s.heap [] := va_S.rf
  have hl := lv_entry ([.ref a] : List Value) (n := 1) (Nat.le_of_ble_eq_true rfl)
  rw [lg_entry_eq]
  generalize (lg_sl ([.ref a] : List Value) ++ List.replicate (1 - (lg_sl ([.ref a] : List Value)).length) Slot.unset).toArray = ls at hl ⊢
  have hl : lv_has ls 1 [(0, .ref a)] := hl
  refine lv_aload_n hx hb dM_init_0 rfl (lv_at hl 0 rfl) ?_
  refine W.objInit hx hb hown (hw _ w_444) (hw _ w_20) (hw _ w_21) rfl (by rw [hml]; exact hl.1) rfl dM_init_1 (Nat.le_of_ble_eq_true rfl) (Nat.le_of_ble_eq_true rfl) ?_
  refine W.eq (g2 := F0 m 4 ls []) rfl ?_
  refine lv_aload_n hx hb dM_init_4 rfl (lv_at hl 0 rfl) ?_
  refine lv_bipush (v := 40) hx hb dM_init_5 (by decide) ?_
  refine al_newa (tys := []) (atype := .int) (cA := cI) (a0 := (40, .inl (fun _ => 0))) (sz := sz) (N' := 40) hx hb (hw _ w_73) (tyI hK (i := 1) rfl) hP hD hS hz (Or.inr (by omega)) rfl (by decide) (by decide) (by decide) (Nat.le_of_ble_eq_true rfl) (Nat.le_of_ble_eq_true rfl) dM_init_7 (fun H hP hD hS hz _ => ?_)
  have hP : va_P (dC, dI) cls3 [(a, .inr (2, [.int 0, .int 0, .null, .null, .null, .null, .null, .null, .null, .null, .null, .null, .null, .null, .null])), (sz, .inl (cI, 40, .inl (fun _ => 0)))] H := hP
  have hD : va_D (fun x => x = a ∨ sz ≤ x) [(a, .inr (2, [.int 0, .int 0, .null, .null, .null, .null, .null, .null, .null, .null, .null, .null, .null, .null, .null])), (sz, .inl (cI, 40, .inl (fun _ => 0)))] := hD
  refine al_putF (D := (dC, dI)) (ci := 2) (v := .ref sz) (ty := .array .int) (C := R_M) (T := T_M) (N := 15) hx hb hw in_M t_M t_M_ok nm_M hown hK hP hD hS 0 rfl rfl 2 (by decide) (hw _ w_447) (fun _ h9 => h9) rfl hin rfl (by decide +kernel) rfl rfl (Nat.le_of_ble_eq_true rfl) dM_init_9 (fun H locs hP hD hS hz9 => ?_)
  have hP : va_P (dC, dI) cls3 [(a, .inr (2, [.int 0, .int 0, .ref sz, .null, .null, .null, .null, .null, .null, .null, .null, .null, .null, .null, .null])), (sz, .inl (cI, 40, .inl (fun _ => 0)))] H := hP
  have hD : va_D (fun x => x = a ∨ sz ≤ x) [(a, .inr (2, [.int 0, .int 0, .ref sz, .null, .null, .null, .null, .null, .null, .null, .null, .null, .null, .null, .null])), (sz, .inl (cI, 40, .inl (fun _ => 0)))] := hD
  replace hz := hz9.trans hz
  refine lv_aload_n hx hb dM_init_12 rfl (lv_at hl 0 rfl) ?_
  refine lv_bipush (v := 40) hx hb dM_init_13 (by decide) ?_
  refine al_newa (tys := []) (atype := .long) (cA := cL) (a0 := (40, .inr (.inl (fun _ => 0)))) (sz := (sz + 1)) (N' := 40) hx hb (hw _ w_72) (tyL hK (i := 0) rfl) hP hD hS hz (Or.inr (by omega)) rfl (by decide) (by decide) (by decide) (Nat.le_of_ble_eq_true rfl) (Nat.le_of_ble_eq_true rfl) dM_init_15 (fun H hP hD hS hz _ => ?_)
  have hP : va_P (dC, dI) cls3 [(a, .inr (2, [.int 0, .int 0, .ref sz, .null, .null, .null, .null, .null, .null, .null, .null, .null, .null, .null, .null])), (sz, .inl (cI, 40, .inl (fun _ => 0))), ((sz + 1), .inl (cL, 40, .inr (.inl (fun _ => 0))))] H := hP
  have hD : va_D (fun x => x = a ∨ sz ≤ x) [(a, .inr (2, [.int 0, .int 0, .ref sz, .null, .null, .null, .null, .null, .null, .null, .null, .null, .null, .null, .null])), (sz, .inl (cI, 40, .inl (fun _ => 0))), ((sz + 1), .inl (cL, 40, .inr (.inl (fun _ => 0))))] := hD
  refine al_putF (D := (dC, dI)) (ci := 2) (v := .ref (sz + 1)) (ty := .array .long) (C := R_M) (T := T_M) (N := 15) hx hb hw in_M t_M t_M_ok nm_M hown hK hP hD hS 0 rfl rfl 3 (by decide) (hw _ w_448) (fun _ h9 => h9) rfl hin rfl (by decide +kernel) rfl rfl (Nat.le_of_ble_eq_true rfl) dM_init_17 (fun H locs hP hD hS hz9 => ?_)
  have hP : va_P (dC, dI) cls3 [(a, .inr (2, [.int 0, .int 0, .ref sz, .ref (sz + 1), .null, .null, .null, .null, .null, .null, .null, .null, .null, .null, .null])), (sz, .inl (cI, 40, .inl (fun _ => 0))), ((sz + 1), .inl (cL, 40, .inr (.inl (fun _ => 0))))] H := hP
  have hD : va_D (fun x => x = a ∨ sz ≤ x) [(a, .inr (2, [.int 0, .int 0, .ref sz, .ref (sz + 1), .null, .null, .null, .null, .null, .null, .null, .null, .null, .null, .null])), (sz, .inl (cI, 40, .inl (fun _ => 0))), ((sz + 1), .inl (cL, 40, .inr (.inl (fun _ => 0))))] := hD
  replace hz := hz9.trans hz
  refine lv_aload_n hx hb dM_init_20 rfl (lv_at hl 0 rfl) ?_
  refine lv_sipush (v := 1920) hx hb dM_init_21 (by decide) ?_
  refine al_newa (tys := []) (atype := .long) (cA := cL) (a0 := (1920, .inr (.inl (fun _ => 0)))) (sz := (sz + 2)) (N' := 1920) hx hb (hw _ w_72) (tyL hK (i := 0) rfl) hP hD hS hz (Or.inr (by omega)) rfl (by decide) (by decide) (by decide) (Nat.le_of_ble_eq_true rfl) (Nat.le_of_ble_eq_true rfl) dM_init_24 (fun H hP hD hS hz _ => ?_)
  have hP : va_P (dC, dI) cls3 [(a, .inr (2, [.int 0, .int 0, .ref sz, .ref (sz + 1), .null, .null, .null, .null, .null, .null, .null, .null, .null, .null, .null])), (sz, .inl (cI, 40, .inl (fun _ => 0))), ((sz + 1), .inl (cL, 40, .inr (.inl (fun _ => 0)))), ((sz + 2), .inl (cL, 1920, .inr (.inl (fun _ => 0))))] H := hP
  have hD : va_D (fun x => x = a ∨ sz ≤ x) [(a, .inr (2, [.int 0, .int 0, .ref sz, .ref (sz + 1), .null, .null, .null, .null, .null, .null, .null, .null, .null, .null, .null])), (sz, .inl (cI, 40, .inl (fun _ => 0))), ((sz + 1), .inl (cL, 40, .inr (.inl (fun _ => 0)))), ((sz + 2), .inl (cL, 1920, .inr (.inl (fun _ => 0))))] := hD
  refine al_putF (D := (dC, dI)) (ci := 2) (v := .ref (sz + 2)) (ty := .array .long) (C := R_M) (T := T_M) (N := 15) hx hb hw in_M t_M t_M_ok nm_M hown hK hP hD hS 0 rfl rfl 4 (by decide) (hw _ w_449) (fun _ h9 => h9) rfl hin rfl (by decide +kernel) rfl rfl (Nat.le_of_ble_eq_true rfl) dM_init_26 (fun H locs hP hD hS hz9 => ?_)
  have hP : va_P (dC, dI) cls3 [(a, .inr (2, [.int 0, .int 0, .ref sz, .ref (sz + 1), .ref (sz + 2), .null, .null, .null, .null, .null, .null, .null, .null, .null, .null])), (sz, .inl (cI, 40, .inl (fun _ => 0))), ((sz + 1), .inl (cL, 40, .inr (.inl (fun _ => 0)))), ((sz + 2), .inl (cL, 1920, .inr (.inl (fun _ => 0))))] H := hP
  have hD : va_D (fun x => x = a ∨ sz ≤ x) [(a, .inr (2, [.int 0, .int 0, .ref sz, .ref (sz + 1), .ref (sz + 2), .null, .null, .null, .null, .null, .null, .null, .null, .null, .null])), (sz, .inl (cI, 40, .inl (fun _ => 0))), ((sz + 1), .inl (cL, 40, .inr (.inl (fun _ => 0)))), ((sz + 2), .inl (cL, 1920, .inr (.inl (fun _ => 0))))] := hD
  replace hz := hz9.trans hz
  refine lv_aload_n hx hb dM_init_29 rfl (lv_at hl 0 rfl) ?_
  refine lv_sipush (v := 1920) hx hb dM_init_30 (by decide) ?_
  refine al_newa (tys := []) (atype := .long) (cA := cL) (a0 := (1920, .inr (.inl (fun _ => 0)))) (sz := (sz + 3)) (N' := 1920) hx hb (hw _ w_72) (tyL hK (i := 0) rfl) hP hD hS hz (Or.inr (by omega)) rfl (by decide) (by decide) (by decide) (Nat.le_of_ble_eq_true rfl) (Nat.le_of_ble_eq_true rfl) dM_init_33 (fun H hP hD hS hz _ => ?_)
  have hP : va_P (dC, dI) cls3 [(a, .inr (2, [.int 0, .int 0, .ref sz, .ref (sz + 1), .ref (sz + 2), .null, .null, .null, .null, .null, .null, .null, .null, .null, .null])), (sz, .inl (cI, 40, .inl (fun _ => 0))), ((sz + 1), .inl (cL, 40, .inr (.inl (fun _ => 0)))), ((sz + 2), .inl (cL, 1920, .inr (.inl (fun _ => 0)))), ((sz + 3), .inl (cL, 1920, .inr (.inl (fun _ => 0))))] H := hP
  have hD : va_D (fun x => x = a ∨ sz ≤ x) [(a, .inr (2, [.int 0, .int 0, .ref sz, .ref (sz + 1), .ref (sz + 2), .null, .null, .null, .null, .null, .null, .null, .null, .null, .null])), (sz, .inl (cI, 40, .inl (fun _ => 0))), ((sz + 1), .inl (cL, 40, .inr (.inl (fun _ => 0)))), ((sz + 2), .inl (cL, 1920, .inr (.inl (fun _ => 0)))), ((sz + 3), .inl (cL, 1920, .inr (.inl (fun _ => 0))))] := hD
  refine al_putF (D := (dC, dI)) (ci := 2) (v := .ref (sz + 3)) (ty := .array .long) (C := R_M) (T := T_M) (N := 15) hx hb hw in_M t_M t_M_ok nm_M hown hK hP hD hS 0 rfl rfl 5 (by decide) (hw _ w_450) (fun _ h9 => h9) rfl hin rfl (by decide +kernel) rfl rfl (Nat.le_of_ble_eq_true rfl) dM_init_35 (fun H locs hP hD hS hz9 => ?_)
  have hP : va_P (dC, dI) cls3 [(a, .inr (2, [.int 0, .int 0, .ref sz, .ref (sz + 1), .ref (sz + 2), .ref (sz + 3), .null, .null, .null, .null, .null, .null, .null, .null, .null])), (sz, .inl (cI, 40, .inl (fun _ => 0))), ((sz + 1), .inl (cL, 40, .inr (.inl (fun _ => 0)))), ((sz + 2), .inl (cL, 1920, .inr (.inl (fun _ => 0)))), ((sz + 3), .inl (cL, 1920, .inr (.inl (fun _ => 0))))] H := hP
  have hD : va_D (fun x => x = a ∨ sz ≤ x) [(a, .inr (2, [.int 0, .int 0, .ref sz, .ref (sz + 1), .ref (sz + 2), .ref (sz + 3), .null, .null, .null, .null, .null, .null, .null, .null, .null])), (sz, .inl (cI, 40, .inl (fun _ => 0))), ((sz + 1), .inl (cL, 40, .inr (.inl (fun _ => 0)))), ((sz + 2), .inl (cL, 1920, .inr (.inl (fun _ => 0)))), ((sz + 3), .inl (cL, 1920, .inr (.inl (fun _ => 0))))] := hD
  replace hz := hz9.trans hz
  refine lv_aload_n hx hb dM_init_38 rfl (lv_at hl 0 rfl) ?_
  refine lv_bipush (v := 40) hx hb dM_init_39 (by decide) ?_
  refine al_newa (tys := []) (atype := .int) (cA := cI) (a0 := (40, .inl (fun _ => 0))) (sz := (sz + 4)) (N' := 40) hx hb (hw _ w_73) (tyI hK (i := 1) rfl) hP hD hS hz (Or.inr (by omega)) rfl (by decide) (by decide) (by decide) (Nat.le_of_ble_eq_true rfl) (Nat.le_of_ble_eq_true rfl) dM_init_41 (fun H hP hD hS hz _ => ?_)
  have hP : va_P (dC, dI) cls3 [(a, .inr (2, [.int 0, .int 0, .ref sz, .ref (sz + 1), .ref (sz + 2), .ref (sz + 3), .null, .null, .null, .null, .null, .null, .null, .null, .null])), (sz, .inl (cI, 40, .inl (fun _ => 0))), ((sz + 1), .inl (cL, 40, .inr (.inl (fun _ => 0)))), ((sz + 2), .inl (cL, 1920, .inr (.inl (fun _ => 0)))), ((sz + 3), .inl (cL, 1920, .inr (.inl (fun _ => 0)))), ((sz + 4), .inl (cI, 40, .inl (fun _ => 0)))] H := hP
  have hD : va_D (fun x => x = a ∨ sz ≤ x) [(a, .inr (2, [.int 0, .int 0, .ref sz, .ref (sz + 1), .ref (sz + 2), .ref (sz + 3), .null, .null, .null, .null, .null, .null, .null, .null, .null])), (sz, .inl (cI, 40, .inl (fun _ => 0))), ((sz + 1), .inl (cL, 40, .inr (.inl (fun _ => 0)))), ((sz + 2), .inl (cL, 1920, .inr (.inl (fun _ => 0)))), ((sz + 3), .inl (cL, 1920, .inr (.inl (fun _ => 0)))), ((sz + 4), .inl (cI, 40, .inl (fun _ => 0)))] := hD
  refine al_putF (D := (dC, dI)) (ci := 2) (v := .ref (sz + 4)) (ty := .array .int) (C := R_M) (T := T_M) (N := 15) hx hb hw in_M t_M t_M_ok nm_M hown hK hP hD hS 0 rfl rfl 6 (by decide) (hw _ w_451) (fun _ h9 => h9) rfl hin rfl (by decide +kernel) rfl rfl (Nat.le_of_ble_eq_true rfl) dM_init_43 (fun H locs hP hD hS hz9 => ?_)
  have hP : va_P (dC, dI) cls3 [(a, .inr (2, [.int 0, .int 0, .ref sz, .ref (sz + 1), .ref (sz + 2), .ref (sz + 3), .ref (sz + 4), .null, .null, .null, .null, .null, .null, .null, .null])), (sz, .inl (cI, 40, .inl (fun _ => 0))), ((sz + 1), .inl (cL, 40, .inr (.inl (fun _ => 0)))), ((sz + 2), .inl (cL, 1920, .inr (.inl (fun _ => 0)))), ((sz + 3), .inl (cL, 1920, .inr (.inl (fun _ => 0)))), ((sz + 4), .inl (cI, 40, .inl (fun _ => 0)))] H := hP
  have hD : va_D (fun x => x = a ∨ sz ≤ x) [(a, .inr (2, [.int 0, .int 0, .ref sz, .ref (sz + 1), .ref (sz + 2), .ref (sz + 3), .ref (sz + 4), .null, .null, .null, .null, .null, .null, .null, .null])), (sz, .inl (cI, 40, .inl (fun _ => 0))), ((sz + 1), .inl (cL, 40, .inr (.inl (fun _ => 0)))), ((sz + 2), .inl (cL, 1920, .inr (.inl (fun _ => 0)))), ((sz + 3), .inl (cL, 1920, .inr (.inl (fun _ => 0)))), ((sz + 4), .inl (cI, 40, .inl (fun _ => 0)))] := hD
  replace hz := hz9.trans hz
  refine lv_aload_n hx hb dM_init_46 rfl (lv_at hl 0 rfl) ?_
  refine lv_sipush (v := 640) hx hb dM_init_47 (by decide) ?_
  refine al_newa (tys := []) (atype := .int) (cA := cI) (a0 := (640, .inl (fun _ => 0))) (sz := (sz + 5)) (N' := 640) hx hb (hw _ w_73) (tyI hK (i := 1) rfl) hP hD hS hz (Or.inr (by omega)) rfl (by decide) (by decide) (by decide) (Nat.le_of_ble_eq_true rfl) (Nat.le_of_ble_eq_true rfl) dM_init_50 (fun H hP hD hS hz _ => ?_)
  have hP : va_P (dC, dI) cls3 [(a, .inr (2, [.int 0, .int 0, .ref sz, .ref (sz + 1), .ref (sz + 2), .ref (sz + 3), .ref (sz + 4), .null, .null, .null, .null, .null, .null, .null, .null])), (sz, .inl (cI, 40, .inl (fun _ => 0))), ((sz + 1), .inl (cL, 40, .inr (.inl (fun _ => 0)))), ((sz + 2), .inl (cL, 1920, .inr (.inl (fun _ => 0)))), ((sz + 3), .inl (cL, 1920, .inr (.inl (fun _ => 0)))), ((sz + 4), .inl (cI, 40, .inl (fun _ => 0))), ((sz + 5), .inl (cI, 640, .inl (fun _ => 0)))] H := hP
  have hD : va_D (fun x => x = a ∨ sz ≤ x) [(a, .inr (2, [.int 0, .int 0, .ref sz, .ref (sz + 1), .ref (sz + 2), .ref (sz + 3), .ref (sz + 4), .null, .null, .null, .null, .null, .null, .null, .null])), (sz, .inl (cI, 40, .inl (fun _ => 0))), ((sz + 1), .inl (cL, 40, .inr (.inl (fun _ => 0)))), ((sz + 2), .inl (cL, 1920, .inr (.inl (fun _ => 0)))), ((sz + 3), .inl (cL, 1920, .inr (.inl (fun _ => 0)))), ((sz + 4), .inl (cI, 40, .inl (fun _ => 0))), ((sz + 5), .inl (cI, 640, .inl (fun _ => 0)))] := hD
  refine al_putF (D := (dC, dI)) (ci := 2) (v := .ref (sz + 5)) (ty := .array .int) (C := R_M) (T := T_M) (N := 15) hx hb hw in_M t_M t_M_ok nm_M hown hK hP hD hS 0 rfl rfl 7 (by decide) (hw _ w_452) (fun _ h9 => h9) rfl hin rfl (by decide +kernel) rfl rfl (Nat.le_of_ble_eq_true rfl) dM_init_52 (fun H locs hP hD hS hz9 => ?_)
  have hP : va_P (dC, dI) cls3 [(a, .inr (2, [.int 0, .int 0, .ref sz, .ref (sz + 1), .ref (sz + 2), .ref (sz + 3), .ref (sz + 4), .ref (sz + 5), .null, .null, .null, .null, .null, .null, .null])), (sz, .inl (cI, 40, .inl (fun _ => 0))), ((sz + 1), .inl (cL, 40, .inr (.inl (fun _ => 0)))), ((sz + 2), .inl (cL, 1920, .inr (.inl (fun _ => 0)))), ((sz + 3), .inl (cL, 1920, .inr (.inl (fun _ => 0)))), ((sz + 4), .inl (cI, 40, .inl (fun _ => 0))), ((sz + 5), .inl (cI, 640, .inl (fun _ => 0)))] H := hP
  have hD : va_D (fun x => x = a ∨ sz ≤ x) [(a, .inr (2, [.int 0, .int 0, .ref sz, .ref (sz + 1), .ref (sz + 2), .ref (sz + 3), .ref (sz + 4), .ref (sz + 5), .null, .null, .null, .null, .null, .null, .null])), (sz, .inl (cI, 40, .inl (fun _ => 0))), ((sz + 1), .inl (cL, 40, .inr (.inl (fun _ => 0)))), ((sz + 2), .inl (cL, 1920, .inr (.inl (fun _ => 0)))), ((sz + 3), .inl (cL, 1920, .inr (.inl (fun _ => 0)))), ((sz + 4), .inl (cI, 40, .inl (fun _ => 0))), ((sz + 5), .inl (cI, 640, .inl (fun _ => 0)))] := hD
  replace hz := hz9.trans hz
  refine lv_aload_n hx hb dM_init_55 rfl (lv_at hl 0 rfl) ?_
  refine lv_bipush (v := 40) hx hb dM_init_56 (by decide) ?_
  refine al_newa (tys := []) (atype := .int) (cA := cI) (a0 := (40, .inl (fun _ => 0))) (sz := (sz + 6)) (N' := 40) hx hb (hw _ w_73) (tyI hK (i := 1) rfl) hP hD hS hz (Or.inr (by omega)) rfl (by decide) (by decide) (by decide) (Nat.le_of_ble_eq_true rfl) (Nat.le_of_ble_eq_true rfl) dM_init_58 (fun H hP hD hS hz _ => ?_)
  have hP : va_P (dC, dI) cls3 [(a, .inr (2, [.int 0, .int 0, .ref sz, .ref (sz + 1), .ref (sz + 2), .ref (sz + 3), .ref (sz + 4), .ref (sz + 5), .null, .null, .null, .null, .null, .null, .null])), (sz, .inl (cI, 40, .inl (fun _ => 0))), ((sz + 1), .inl (cL, 40, .inr (.inl (fun _ => 0)))), ((sz + 2), .inl (cL, 1920, .inr (.inl (fun _ => 0)))), ((sz + 3), .inl (cL, 1920, .inr (.inl (fun _ => 0)))), ((sz + 4), .inl (cI, 40, .inl (fun _ => 0))), ((sz + 5), .inl (cI, 640, .inl (fun _ => 0))), ((sz + 6), .inl (cI, 40, .inl (fun _ => 0)))] H := hP
  have hD : va_D (fun x => x = a ∨ sz ≤ x) [(a, .inr (2, [.int 0, .int 0, .ref sz, .ref (sz + 1), .ref (sz + 2), .ref (sz + 3), .ref (sz + 4), .ref (sz + 5), .null, .null, .null, .null, .null, .null, .null])), (sz, .inl (cI, 40, .inl (fun _ => 0))), ((sz + 1), .inl (cL, 40, .inr (.inl (fun _ => 0)))), ((sz + 2), .inl (cL, 1920, .inr (.inl (fun _ => 0)))), ((sz + 3), .inl (cL, 1920, .inr (.inl (fun _ => 0)))), ((sz + 4), .inl (cI, 40, .inl (fun _ => 0))), ((sz + 5), .inl (cI, 640, .inl (fun _ => 0))), ((sz + 6), .inl (cI, 40, .inl (fun _ => 0)))] := hD
  refine al_putF (D := (dC, dI)) (ci := 2) (v := .ref (sz + 6)) (ty := .array .int) (C := R_M) (T := T_M) (N := 15) hx hb hw in_M t_M t_M_ok nm_M hown hK hP hD hS 0 rfl rfl 8 (by decide) (hw _ w_453) (fun _ h9 => h9) rfl hin rfl (by decide +kernel) rfl rfl (Nat.le_of_ble_eq_true rfl) dM_init_60 (fun H locs hP hD hS hz9 => ?_)
  have hP : va_P (dC, dI) cls3 [(a, .inr (2, [.int 0, .int 0, .ref sz, .ref (sz + 1), .ref (sz + 2), .ref (sz + 3), .ref (sz + 4), .ref (sz + 5), .ref (sz + 6), .null, .null, .null, .null, .null, .null])), (sz, .inl (cI, 40, .inl (fun _ => 0))), ((sz + 1), .inl (cL, 40, .inr (.inl (fun _ => 0)))), ((sz + 2), .inl (cL, 1920, .inr (.inl (fun _ => 0)))), ((sz + 3), .inl (cL, 1920, .inr (.inl (fun _ => 0)))), ((sz + 4), .inl (cI, 40, .inl (fun _ => 0))), ((sz + 5), .inl (cI, 640, .inl (fun _ => 0))), ((sz + 6), .inl (cI, 40, .inl (fun _ => 0)))] H := hP
  have hD : va_D (fun x => x = a ∨ sz ≤ x) [(a, .inr (2, [.int 0, .int 0, .ref sz, .ref (sz + 1), .ref (sz + 2), .ref (sz + 3), .ref (sz + 4), .ref (sz + 5), .ref (sz + 6), .null, .null, .null, .null, .null, .null])), (sz, .inl (cI, 40, .inl (fun _ => 0))), ((sz + 1), .inl (cL, 40, .inr (.inl (fun _ => 0)))), ((sz + 2), .inl (cL, 1920, .inr (.inl (fun _ => 0)))), ((sz + 3), .inl (cL, 1920, .inr (.inl (fun _ => 0)))), ((sz + 4), .inl (cI, 40, .inl (fun _ => 0))), ((sz + 5), .inl (cI, 640, .inl (fun _ => 0))), ((sz + 6), .inl (cI, 40, .inl (fun _ => 0)))] := hD
  replace hz := hz9.trans hz
  refine lv_aload_n hx hb dM_init_63 rfl (lv_at hl 0 rfl) ?_
  refine lv_bipush (v := 96) hx hb dM_init_64 (by decide) ?_
  refine al_newa (tys := []) (atype := .long) (cA := cL) (a0 := (96, .inr (.inl (fun _ => 0)))) (sz := (sz + 7)) (N' := 96) hx hb (hw _ w_72) (tyL hK (i := 0) rfl) hP hD hS hz (Or.inr (by omega)) rfl (by decide) (by decide) (by decide) (Nat.le_of_ble_eq_true rfl) (Nat.le_of_ble_eq_true rfl) dM_init_66 (fun H hP hD hS hz _ => ?_)
  have hP : va_P (dC, dI) cls3 [(a, .inr (2, [.int 0, .int 0, .ref sz, .ref (sz + 1), .ref (sz + 2), .ref (sz + 3), .ref (sz + 4), .ref (sz + 5), .ref (sz + 6), .null, .null, .null, .null, .null, .null])), (sz, .inl (cI, 40, .inl (fun _ => 0))), ((sz + 1), .inl (cL, 40, .inr (.inl (fun _ => 0)))), ((sz + 2), .inl (cL, 1920, .inr (.inl (fun _ => 0)))), ((sz + 3), .inl (cL, 1920, .inr (.inl (fun _ => 0)))), ((sz + 4), .inl (cI, 40, .inl (fun _ => 0))), ((sz + 5), .inl (cI, 640, .inl (fun _ => 0))), ((sz + 6), .inl (cI, 40, .inl (fun _ => 0))), ((sz + 7), .inl (cL, 96, .inr (.inl (fun _ => 0))))] H := hP
  have hD : va_D (fun x => x = a ∨ sz ≤ x) [(a, .inr (2, [.int 0, .int 0, .ref sz, .ref (sz + 1), .ref (sz + 2), .ref (sz + 3), .ref (sz + 4), .ref (sz + 5), .ref (sz + 6), .null, .null, .null, .null, .null, .null])), (sz, .inl (cI, 40, .inl (fun _ => 0))), ((sz + 1), .inl (cL, 40, .inr (.inl (fun _ => 0)))), ((sz + 2), .inl (cL, 1920, .inr (.inl (fun _ => 0)))), ((sz + 3), .inl (cL, 1920, .inr (.inl (fun _ => 0)))), ((sz + 4), .inl (cI, 40, .inl (fun _ => 0))), ((sz + 5), .inl (cI, 640, .inl (fun _ => 0))), ((sz + 6), .inl (cI, 40, .inl (fun _ => 0))), ((sz + 7), .inl (cL, 96, .inr (.inl (fun _ => 0))))] := hD
  refine al_putF (D := (dC, dI)) (ci := 2) (v := .ref (sz + 7)) (ty := .array .long) (C := R_M) (T := T_M) (N := 15) hx hb hw in_M t_M t_M_ok nm_M hown hK hP hD hS 0 rfl rfl 9 (by decide) (hw _ w_454) (fun _ h9 => h9) rfl hin rfl (by decide +kernel) rfl rfl (Nat.le_of_ble_eq_true rfl) dM_init_68 (fun H locs hP hD hS hz9 => ?_)
  have hP : va_P (dC, dI) cls3 [(a, .inr (2, [.int 0, .int 0, .ref sz, .ref (sz + 1), .ref (sz + 2), .ref (sz + 3), .ref (sz + 4), .ref (sz + 5), .ref (sz + 6), .ref (sz + 7), .null, .null, .null, .null, .null])), (sz, .inl (cI, 40, .inl (fun _ => 0))), ((sz + 1), .inl (cL, 40, .inr (.inl (fun _ => 0)))), ((sz + 2), .inl (cL, 1920, .inr (.inl (fun _ => 0)))), ((sz + 3), .inl (cL, 1920, .inr (.inl (fun _ => 0)))), ((sz + 4), .inl (cI, 40, .inl (fun _ => 0))), ((sz + 5), .inl (cI, 640, .inl (fun _ => 0))), ((sz + 6), .inl (cI, 40, .inl (fun _ => 0))), ((sz + 7), .inl (cL, 96, .inr (.inl (fun _ => 0))))] H := hP
  have hD : va_D (fun x => x = a ∨ sz ≤ x) [(a, .inr (2, [.int 0, .int 0, .ref sz, .ref (sz + 1), .ref (sz + 2), .ref (sz + 3), .ref (sz + 4), .ref (sz + 5), .ref (sz + 6), .ref (sz + 7), .null, .null, .null, .null, .null])), (sz, .inl (cI, 40, .inl (fun _ => 0))), ((sz + 1), .inl (cL, 40, .inr (.inl (fun _ => 0)))), ((sz + 2), .inl (cL, 1920, .inr (.inl (fun _ => 0)))), ((sz + 3), .inl (cL, 1920, .inr (.inl (fun _ => 0)))), ((sz + 4), .inl (cI, 40, .inl (fun _ => 0))), ((sz + 5), .inl (cI, 640, .inl (fun _ => 0))), ((sz + 6), .inl (cI, 40, .inl (fun _ => 0))), ((sz + 7), .inl (cL, 96, .inr (.inl (fun _ => 0))))] := hD
  replace hz := hz9.trans hz
  refine lv_aload_n hx hb dM_init_71 rfl (lv_at hl 0 rfl) ?_
  refine lv_bipush (v := 96) hx hb dM_init_72 (by decide) ?_
  refine al_newa (tys := []) (atype := .long) (cA := cL) (a0 := (96, .inr (.inl (fun _ => 0)))) (sz := (sz + 8)) (N' := 96) hx hb (hw _ w_72) (tyL hK (i := 0) rfl) hP hD hS hz (Or.inr (by omega)) rfl (by decide) (by decide) (by decide) (Nat.le_of_ble_eq_true rfl) (Nat.le_of_ble_eq_true rfl) dM_init_74 (fun H hP hD hS hz _ => ?_)
  have hP : va_P (dC, dI) cls3 [(a, .inr (2, [.int 0, .int 0, .ref sz, .ref (sz + 1), .ref (sz + 2), .ref (sz + 3), .ref (sz + 4), .ref (sz + 5), .ref (sz + 6), .ref (sz + 7), .null, .null, .null, .null, .null])), (sz, .inl (cI, 40, .inl (fun _ => 0))), ((sz + 1), .inl (cL, 40, .inr (.inl (fun _ => 0)))), ((sz + 2), .inl (cL, 1920, .inr (.inl (fun _ => 0)))), ((sz + 3), .inl (cL, 1920, .inr (.inl (fun _ => 0)))), ((sz + 4), .inl (cI, 40, .inl (fun _ => 0))), ((sz + 5), .inl (cI, 640, .inl (fun _ => 0))), ((sz + 6), .inl (cI, 40, .inl (fun _ => 0))), ((sz + 7), .inl (cL, 96, .inr (.inl (fun _ => 0)))), ((sz + 8), .inl (cL, 96, .inr (.inl (fun _ => 0))))] H := hP
  have hD : va_D (fun x => x = a ∨ sz ≤ x) [(a, .inr (2, [.int 0, .int 0, .ref sz, .ref (sz + 1), .ref (sz + 2), .ref (sz + 3), .ref (sz + 4), .ref (sz + 5), .ref (sz + 6), .ref (sz + 7), .null, .null, .null, .null, .null])), (sz, .inl (cI, 40, .inl (fun _ => 0))), ((sz + 1), .inl (cL, 40, .inr (.inl (fun _ => 0)))), ((sz + 2), .inl (cL, 1920, .inr (.inl (fun _ => 0)))), ((sz + 3), .inl (cL, 1920, .inr (.inl (fun _ => 0)))), ((sz + 4), .inl (cI, 40, .inl (fun _ => 0))), ((sz + 5), .inl (cI, 640, .inl (fun _ => 0))), ((sz + 6), .inl (cI, 40, .inl (fun _ => 0))), ((sz + 7), .inl (cL, 96, .inr (.inl (fun _ => 0)))), ((sz + 8), .inl (cL, 96, .inr (.inl (fun _ => 0))))] := hD
  refine al_putF (D := (dC, dI)) (ci := 2) (v := .ref (sz + 8)) (ty := .array .long) (C := R_M) (T := T_M) (N := 15) hx hb hw in_M t_M t_M_ok nm_M hown hK hP hD hS 0 rfl rfl 10 (by decide) (hw _ w_455) (fun _ h9 => h9) rfl hin rfl (by decide +kernel) rfl rfl (Nat.le_of_ble_eq_true rfl) dM_init_76 (fun H locs hP hD hS hz9 => ?_)
  have hP : va_P (dC, dI) cls3 [(a, .inr (2, [.int 0, .int 0, .ref sz, .ref (sz + 1), .ref (sz + 2), .ref (sz + 3), .ref (sz + 4), .ref (sz + 5), .ref (sz + 6), .ref (sz + 7), .ref (sz + 8), .null, .null, .null, .null])), (sz, .inl (cI, 40, .inl (fun _ => 0))), ((sz + 1), .inl (cL, 40, .inr (.inl (fun _ => 0)))), ((sz + 2), .inl (cL, 1920, .inr (.inl (fun _ => 0)))), ((sz + 3), .inl (cL, 1920, .inr (.inl (fun _ => 0)))), ((sz + 4), .inl (cI, 40, .inl (fun _ => 0))), ((sz + 5), .inl (cI, 640, .inl (fun _ => 0))), ((sz + 6), .inl (cI, 40, .inl (fun _ => 0))), ((sz + 7), .inl (cL, 96, .inr (.inl (fun _ => 0)))), ((sz + 8), .inl (cL, 96, .inr (.inl (fun _ => 0))))] H := hP
  have hD : va_D (fun x => x = a ∨ sz ≤ x) [(a, .inr (2, [.int 0, .int 0, .ref sz, .ref (sz + 1), .ref (sz + 2), .ref (sz + 3), .ref (sz + 4), .ref (sz + 5), .ref (sz + 6), .ref (sz + 7), .ref (sz + 8), .null, .null, .null, .null])), (sz, .inl (cI, 40, .inl (fun _ => 0))), ((sz + 1), .inl (cL, 40, .inr (.inl (fun _ => 0)))), ((sz + 2), .inl (cL, 1920, .inr (.inl (fun _ => 0)))), ((sz + 3), .inl (cL, 1920, .inr (.inl (fun _ => 0)))), ((sz + 4), .inl (cI, 40, .inl (fun _ => 0))), ((sz + 5), .inl (cI, 640, .inl (fun _ => 0))), ((sz + 6), .inl (cI, 40, .inl (fun _ => 0))), ((sz + 7), .inl (cL, 96, .inr (.inl (fun _ => 0)))), ((sz + 8), .inl (cL, 96, .inr (.inl (fun _ => 0))))] := hD
  replace hz := hz9.trans hz
  refine lv_aload_n hx hb dM_init_79 rfl (lv_at hl 0 rfl) ?_
  refine lv_bipush (v := 96) hx hb dM_init_80 (by decide) ?_
  refine al_newa (tys := []) (atype := .long) (cA := cL) (a0 := (96, .inr (.inl (fun _ => 0)))) (sz := (sz + 9)) (N' := 96) hx hb (hw _ w_72) (tyL hK (i := 0) rfl) hP hD hS hz (Or.inr (by omega)) rfl (by decide) (by decide) (by decide) (Nat.le_of_ble_eq_true rfl) (Nat.le_of_ble_eq_true rfl) dM_init_82 (fun H hP hD hS hz _ => ?_)
  have hP : va_P (dC, dI) cls3 [(a, .inr (2, [.int 0, .int 0, .ref sz, .ref (sz + 1), .ref (sz + 2), .ref (sz + 3), .ref (sz + 4), .ref (sz + 5), .ref (sz + 6), .ref (sz + 7), .ref (sz + 8), .null, .null, .null, .null])), (sz, .inl (cI, 40, .inl (fun _ => 0))), ((sz + 1), .inl (cL, 40, .inr (.inl (fun _ => 0)))), ((sz + 2), .inl (cL, 1920, .inr (.inl (fun _ => 0)))), ((sz + 3), .inl (cL, 1920, .inr (.inl (fun _ => 0)))), ((sz + 4), .inl (cI, 40, .inl (fun _ => 0))), ((sz + 5), .inl (cI, 640, .inl (fun _ => 0))), ((sz + 6), .inl (cI, 40, .inl (fun _ => 0))), ((sz + 7), .inl (cL, 96, .inr (.inl (fun _ => 0)))), ((sz + 8), .inl (cL, 96, .inr (.inl (fun _ => 0)))), ((sz + 9), .inl (cL, 96, .inr (.inl (fun _ => 0))))] H := hP
  have hD : va_D (fun x => x = a ∨ sz ≤ x) [(a, .inr (2, [.int 0, .int 0, .ref sz, .ref (sz + 1), .ref (sz + 2), .ref (sz + 3), .ref (sz + 4), .ref (sz + 5), .ref (sz + 6), .ref (sz + 7), .ref (sz + 8), .null, .null, .null, .null])), (sz, .inl (cI, 40, .inl (fun _ => 0))), ((sz + 1), .inl (cL, 40, .inr (.inl (fun _ => 0)))), ((sz + 2), .inl (cL, 1920, .inr (.inl (fun _ => 0)))), ((sz + 3), .inl (cL, 1920, .inr (.inl (fun _ => 0)))), ((sz + 4), .inl (cI, 40, .inl (fun _ => 0))), ((sz + 5), .inl (cI, 640, .inl (fun _ => 0))), ((sz + 6), .inl (cI, 40, .inl (fun _ => 0))), ((sz + 7), .inl (cL, 96, .inr (.inl (fun _ => 0)))), ((sz + 8), .inl (cL, 96, .inr (.inl (fun _ => 0)))), ((sz + 9), .inl (cL, 96, .inr (.inl (fun _ => 0))))] := hD
  refine al_putF (D := (dC, dI)) (ci := 2) (v := .ref (sz + 9)) (ty := .array .long) (C := R_M) (T := T_M) (N := 15) hx hb hw in_M t_M t_M_ok nm_M hown hK hP hD hS 0 rfl rfl 11 (by decide) (hw _ w_456) (fun _ h9 => h9) rfl hin rfl (by decide +kernel) rfl rfl (Nat.le_of_ble_eq_true rfl) dM_init_84 (fun H locs hP hD hS hz9 => ?_)
  have hP : va_P (dC, dI) cls3 [(a, .inr (2, [.int 0, .int 0, .ref sz, .ref (sz + 1), .ref (sz + 2), .ref (sz + 3), .ref (sz + 4), .ref (sz + 5), .ref (sz + 6), .ref (sz + 7), .ref (sz + 8), .ref (sz + 9), .null, .null, .null])), (sz, .inl (cI, 40, .inl (fun _ => 0))), ((sz + 1), .inl (cL, 40, .inr (.inl (fun _ => 0)))), ((sz + 2), .inl (cL, 1920, .inr (.inl (fun _ => 0)))), ((sz + 3), .inl (cL, 1920, .inr (.inl (fun _ => 0)))), ((sz + 4), .inl (cI, 40, .inl (fun _ => 0))), ((sz + 5), .inl (cI, 640, .inl (fun _ => 0))), ((sz + 6), .inl (cI, 40, .inl (fun _ => 0))), ((sz + 7), .inl (cL, 96, .inr (.inl (fun _ => 0)))), ((sz + 8), .inl (cL, 96, .inr (.inl (fun _ => 0)))), ((sz + 9), .inl (cL, 96, .inr (.inl (fun _ => 0))))] H := hP
  have hD : va_D (fun x => x = a ∨ sz ≤ x) [(a, .inr (2, [.int 0, .int 0, .ref sz, .ref (sz + 1), .ref (sz + 2), .ref (sz + 3), .ref (sz + 4), .ref (sz + 5), .ref (sz + 6), .ref (sz + 7), .ref (sz + 8), .ref (sz + 9), .null, .null, .null])), (sz, .inl (cI, 40, .inl (fun _ => 0))), ((sz + 1), .inl (cL, 40, .inr (.inl (fun _ => 0)))), ((sz + 2), .inl (cL, 1920, .inr (.inl (fun _ => 0)))), ((sz + 3), .inl (cL, 1920, .inr (.inl (fun _ => 0)))), ((sz + 4), .inl (cI, 40, .inl (fun _ => 0))), ((sz + 5), .inl (cI, 640, .inl (fun _ => 0))), ((sz + 6), .inl (cI, 40, .inl (fun _ => 0))), ((sz + 7), .inl (cL, 96, .inr (.inl (fun _ => 0)))), ((sz + 8), .inl (cL, 96, .inr (.inl (fun _ => 0)))), ((sz + 9), .inl (cL, 96, .inr (.inl (fun _ => 0))))] := hD
  replace hz := hz9.trans hz
  refine lv_aload_n hx hb dM_init_87 rfl (lv_at hl 0 rfl) ?_
  refine lv_bipush (v := 96) hx hb dM_init_88 (by decide) ?_
  refine al_newa (tys := []) (atype := .long) (cA := cL) (a0 := (96, .inr (.inl (fun _ => 0)))) (sz := (sz + 10)) (N' := 96) hx hb (hw _ w_72) (tyL hK (i := 0) rfl) hP hD hS hz (Or.inr (by omega)) rfl (by decide) (by decide) (by decide) (Nat.le_of_ble_eq_true rfl) (Nat.le_of_ble_eq_true rfl) dM_init_90 (fun H hP hD hS hz _ => ?_)
  have hP : va_P (dC, dI) cls3 [(a, .inr (2, [.int 0, .int 0, .ref sz, .ref (sz + 1), .ref (sz + 2), .ref (sz + 3), .ref (sz + 4), .ref (sz + 5), .ref (sz + 6), .ref (sz + 7), .ref (sz + 8), .ref (sz + 9), .null, .null, .null])), (sz, .inl (cI, 40, .inl (fun _ => 0))), ((sz + 1), .inl (cL, 40, .inr (.inl (fun _ => 0)))), ((sz + 2), .inl (cL, 1920, .inr (.inl (fun _ => 0)))), ((sz + 3), .inl (cL, 1920, .inr (.inl (fun _ => 0)))), ((sz + 4), .inl (cI, 40, .inl (fun _ => 0))), ((sz + 5), .inl (cI, 640, .inl (fun _ => 0))), ((sz + 6), .inl (cI, 40, .inl (fun _ => 0))), ((sz + 7), .inl (cL, 96, .inr (.inl (fun _ => 0)))), ((sz + 8), .inl (cL, 96, .inr (.inl (fun _ => 0)))), ((sz + 9), .inl (cL, 96, .inr (.inl (fun _ => 0)))), ((sz + 10), .inl (cL, 96, .inr (.inl (fun _ => 0))))] H := hP
  have hD : va_D (fun x => x = a ∨ sz ≤ x) [(a, .inr (2, [.int 0, .int 0, .ref sz, .ref (sz + 1), .ref (sz + 2), .ref (sz + 3), .ref (sz + 4), .ref (sz + 5), .ref (sz + 6), .ref (sz + 7), .ref (sz + 8), .ref (sz + 9), .null, .null, .null])), (sz, .inl (cI, 40, .inl (fun _ => 0))), ((sz + 1), .inl (cL, 40, .inr (.inl (fun _ => 0)))), ((sz + 2), .inl (cL, 1920, .inr (.inl (fun _ => 0)))), ((sz + 3), .inl (cL, 1920, .inr (.inl (fun _ => 0)))), ((sz + 4), .inl (cI, 40, .inl (fun _ => 0))), ((sz + 5), .inl (cI, 640, .inl (fun _ => 0))), ((sz + 6), .inl (cI, 40, .inl (fun _ => 0))), ((sz + 7), .inl (cL, 96, .inr (.inl (fun _ => 0)))), ((sz + 8), .inl (cL, 96, .inr (.inl (fun _ => 0)))), ((sz + 9), .inl (cL, 96, .inr (.inl (fun _ => 0)))), ((sz + 10), .inl (cL, 96, .inr (.inl (fun _ => 0))))] := hD
  refine al_putF (D := (dC, dI)) (ci := 2) (v := .ref (sz + 10)) (ty := .array .long) (C := R_M) (T := T_M) (N := 15) hx hb hw in_M t_M t_M_ok nm_M hown hK hP hD hS 0 rfl rfl 12 (by decide) (hw _ w_457) (fun _ h9 => h9) rfl hin rfl (by decide +kernel) rfl rfl (Nat.le_of_ble_eq_true rfl) dM_init_92 (fun H locs hP hD hS hz9 => ?_)
  have hP : va_P (dC, dI) cls3 [(a, .inr (2, [.int 0, .int 0, .ref sz, .ref (sz + 1), .ref (sz + 2), .ref (sz + 3), .ref (sz + 4), .ref (sz + 5), .ref (sz + 6), .ref (sz + 7), .ref (sz + 8), .ref (sz + 9), .ref (sz + 10), .null, .null])), (sz, .inl (cI, 40, .inl (fun _ => 0))), ((sz + 1), .inl (cL, 40, .inr (.inl (fun _ => 0)))), ((sz + 2), .inl (cL, 1920, .inr (.inl (fun _ => 0)))), ((sz + 3), .inl (cL, 1920, .inr (.inl (fun _ => 0)))), ((sz + 4), .inl (cI, 40, .inl (fun _ => 0))), ((sz + 5), .inl (cI, 640, .inl (fun _ => 0))), ((sz + 6), .inl (cI, 40, .inl (fun _ => 0))), ((sz + 7), .inl (cL, 96, .inr (.inl (fun _ => 0)))), ((sz + 8), .inl (cL, 96, .inr (.inl (fun _ => 0)))), ((sz + 9), .inl (cL, 96, .inr (.inl (fun _ => 0)))), ((sz + 10), .inl (cL, 96, .inr (.inl (fun _ => 0))))] H := hP
  have hD : va_D (fun x => x = a ∨ sz ≤ x) [(a, .inr (2, [.int 0, .int 0, .ref sz, .ref (sz + 1), .ref (sz + 2), .ref (sz + 3), .ref (sz + 4), .ref (sz + 5), .ref (sz + 6), .ref (sz + 7), .ref (sz + 8), .ref (sz + 9), .ref (sz + 10), .null, .null])), (sz, .inl (cI, 40, .inl (fun _ => 0))), ((sz + 1), .inl (cL, 40, .inr (.inl (fun _ => 0)))), ((sz + 2), .inl (cL, 1920, .inr (.inl (fun _ => 0)))), ((sz + 3), .inl (cL, 1920, .inr (.inl (fun _ => 0)))), ((sz + 4), .inl (cI, 40, .inl (fun _ => 0))), ((sz + 5), .inl (cI, 640, .inl (fun _ => 0))), ((sz + 6), .inl (cI, 40, .inl (fun _ => 0))), ((sz + 7), .inl (cL, 96, .inr (.inl (fun _ => 0)))), ((sz + 8), .inl (cL, 96, .inr (.inl (fun _ => 0)))), ((sz + 9), .inl (cL, 96, .inr (.inl (fun _ => 0)))), ((sz + 10), .inl (cL, 96, .inr (.inl (fun _ => 0))))] := hD
  replace hz := hz9.trans hz
  refine lv_aload_n hx hb dM_init_95 rfl (lv_at hl 0 rfl) ?_
  refine lv_iconst (v := 2) hx hb dM_init_96 (by decide) ?_
  refine al_newa (tys := []) (atype := .int) (cA := cI) (a0 := (2, .inl (fun _ => 0))) (sz := (sz + 11)) (N' := 2) hx hb (hw _ w_73) (tyI hK (i := 1) rfl) hP hD hS hz (Or.inr (by omega)) rfl (by decide) (by decide) (by decide) (Nat.le_of_ble_eq_true rfl) (Nat.le_of_ble_eq_true rfl) dM_init_97 (fun H hP hD hS hz _ => ?_)
  have hP : va_P (dC, dI) cls3 [(a, .inr (2, [.int 0, .int 0, .ref sz, .ref (sz + 1), .ref (sz + 2), .ref (sz + 3), .ref (sz + 4), .ref (sz + 5), .ref (sz + 6), .ref (sz + 7), .ref (sz + 8), .ref (sz + 9), .ref (sz + 10), .null, .null])), (sz, .inl (cI, 40, .inl (fun _ => 0))), ((sz + 1), .inl (cL, 40, .inr (.inl (fun _ => 0)))), ((sz + 2), .inl (cL, 1920, .inr (.inl (fun _ => 0)))), ((sz + 3), .inl (cL, 1920, .inr (.inl (fun _ => 0)))), ((sz + 4), .inl (cI, 40, .inl (fun _ => 0))), ((sz + 5), .inl (cI, 640, .inl (fun _ => 0))), ((sz + 6), .inl (cI, 40, .inl (fun _ => 0))), ((sz + 7), .inl (cL, 96, .inr (.inl (fun _ => 0)))), ((sz + 8), .inl (cL, 96, .inr (.inl (fun _ => 0)))), ((sz + 9), .inl (cL, 96, .inr (.inl (fun _ => 0)))), ((sz + 10), .inl (cL, 96, .inr (.inl (fun _ => 0)))), ((sz + 11), .inl (cI, 2, .inl (fun _ => 0)))] H := hP
  have hD : va_D (fun x => x = a ∨ sz ≤ x) [(a, .inr (2, [.int 0, .int 0, .ref sz, .ref (sz + 1), .ref (sz + 2), .ref (sz + 3), .ref (sz + 4), .ref (sz + 5), .ref (sz + 6), .ref (sz + 7), .ref (sz + 8), .ref (sz + 9), .ref (sz + 10), .null, .null])), (sz, .inl (cI, 40, .inl (fun _ => 0))), ((sz + 1), .inl (cL, 40, .inr (.inl (fun _ => 0)))), ((sz + 2), .inl (cL, 1920, .inr (.inl (fun _ => 0)))), ((sz + 3), .inl (cL, 1920, .inr (.inl (fun _ => 0)))), ((sz + 4), .inl (cI, 40, .inl (fun _ => 0))), ((sz + 5), .inl (cI, 640, .inl (fun _ => 0))), ((sz + 6), .inl (cI, 40, .inl (fun _ => 0))), ((sz + 7), .inl (cL, 96, .inr (.inl (fun _ => 0)))), ((sz + 8), .inl (cL, 96, .inr (.inl (fun _ => 0)))), ((sz + 9), .inl (cL, 96, .inr (.inl (fun _ => 0)))), ((sz + 10), .inl (cL, 96, .inr (.inl (fun _ => 0)))), ((sz + 11), .inl (cI, 2, .inl (fun _ => 0)))] := hD
  refine al_putF (D := (dC, dI)) (ci := 2) (v := .ref (sz + 11)) (ty := .array .int) (C := R_M) (T := T_M) (N := 15) hx hb hw in_M t_M t_M_ok nm_M hown hK hP hD hS 0 rfl rfl 13 (by decide) (hw _ w_458) (fun _ h9 => h9) rfl hin rfl (by decide +kernel) rfl rfl (Nat.le_of_ble_eq_true rfl) dM_init_99 (fun H locs hP hD hS hz9 => ?_)
  have hP : va_P (dC, dI) cls3 [(a, .inr (2, [.int 0, .int 0, .ref sz, .ref (sz + 1), .ref (sz + 2), .ref (sz + 3), .ref (sz + 4), .ref (sz + 5), .ref (sz + 6), .ref (sz + 7), .ref (sz + 8), .ref (sz + 9), .ref (sz + 10), .ref (sz + 11), .null])), (sz, .inl (cI, 40, .inl (fun _ => 0))), ((sz + 1), .inl (cL, 40, .inr (.inl (fun _ => 0)))), ((sz + 2), .inl (cL, 1920, .inr (.inl (fun _ => 0)))), ((sz + 3), .inl (cL, 1920, .inr (.inl (fun _ => 0)))), ((sz + 4), .inl (cI, 40, .inl (fun _ => 0))), ((sz + 5), .inl (cI, 640, .inl (fun _ => 0))), ((sz + 6), .inl (cI, 40, .inl (fun _ => 0))), ((sz + 7), .inl (cL, 96, .inr (.inl (fun _ => 0)))), ((sz + 8), .inl (cL, 96, .inr (.inl (fun _ => 0)))), ((sz + 9), .inl (cL, 96, .inr (.inl (fun _ => 0)))), ((sz + 10), .inl (cL, 96, .inr (.inl (fun _ => 0)))), ((sz + 11), .inl (cI, 2, .inl (fun _ => 0)))] H := hP
  have hD : va_D (fun x => x = a ∨ sz ≤ x) [(a, .inr (2, [.int 0, .int 0, .ref sz, .ref (sz + 1), .ref (sz + 2), .ref (sz + 3), .ref (sz + 4), .ref (sz + 5), .ref (sz + 6), .ref (sz + 7), .ref (sz + 8), .ref (sz + 9), .ref (sz + 10), .ref (sz + 11), .null])), (sz, .inl (cI, 40, .inl (fun _ => 0))), ((sz + 1), .inl (cL, 40, .inr (.inl (fun _ => 0)))), ((sz + 2), .inl (cL, 1920, .inr (.inl (fun _ => 0)))), ((sz + 3), .inl (cL, 1920, .inr (.inl (fun _ => 0)))), ((sz + 4), .inl (cI, 40, .inl (fun _ => 0))), ((sz + 5), .inl (cI, 640, .inl (fun _ => 0))), ((sz + 6), .inl (cI, 40, .inl (fun _ => 0))), ((sz + 7), .inl (cL, 96, .inr (.inl (fun _ => 0)))), ((sz + 8), .inl (cL, 96, .inr (.inl (fun _ => 0)))), ((sz + 9), .inl (cL, 96, .inr (.inl (fun _ => 0)))), ((sz + 10), .inl (cL, 96, .inr (.inl (fun _ => 0)))), ((sz + 11), .inl (cI, 2, .inl (fun _ => 0)))] := hD
  replace hz := hz9.trans hz
  refine lv_aload_n hx hb dM_init_102 rfl (lv_at hl 0 rfl) ?_
  refine lv_bipush (v := 8) hx hb dM_init_103 (by decide) ?_
  refine al_newa (tys := []) (atype := .long) (cA := cL) (a0 := (8, .inr (.inl (fun _ => 0)))) (sz := (sz + 12)) (N' := 8) hx hb (hw _ w_72) (tyL hK (i := 0) rfl) hP hD hS hz (Or.inr (by omega)) rfl (by decide) (by decide) (by decide) (Nat.le_of_ble_eq_true rfl) (Nat.le_of_ble_eq_true rfl) dM_init_105 (fun H hP hD hS hz _ => ?_)
  have hP : va_P (dC, dI) cls3 [(a, .inr (2, [.int 0, .int 0, .ref sz, .ref (sz + 1), .ref (sz + 2), .ref (sz + 3), .ref (sz + 4), .ref (sz + 5), .ref (sz + 6), .ref (sz + 7), .ref (sz + 8), .ref (sz + 9), .ref (sz + 10), .ref (sz + 11), .null])), (sz, .inl (cI, 40, .inl (fun _ => 0))), ((sz + 1), .inl (cL, 40, .inr (.inl (fun _ => 0)))), ((sz + 2), .inl (cL, 1920, .inr (.inl (fun _ => 0)))), ((sz + 3), .inl (cL, 1920, .inr (.inl (fun _ => 0)))), ((sz + 4), .inl (cI, 40, .inl (fun _ => 0))), ((sz + 5), .inl (cI, 640, .inl (fun _ => 0))), ((sz + 6), .inl (cI, 40, .inl (fun _ => 0))), ((sz + 7), .inl (cL, 96, .inr (.inl (fun _ => 0)))), ((sz + 8), .inl (cL, 96, .inr (.inl (fun _ => 0)))), ((sz + 9), .inl (cL, 96, .inr (.inl (fun _ => 0)))), ((sz + 10), .inl (cL, 96, .inr (.inl (fun _ => 0)))), ((sz + 11), .inl (cI, 2, .inl (fun _ => 0))), ((sz + 12), .inl (cL, 8, .inr (.inl (fun _ => 0))))] H := hP
  have hD : va_D (fun x => x = a ∨ sz ≤ x) [(a, .inr (2, [.int 0, .int 0, .ref sz, .ref (sz + 1), .ref (sz + 2), .ref (sz + 3), .ref (sz + 4), .ref (sz + 5), .ref (sz + 6), .ref (sz + 7), .ref (sz + 8), .ref (sz + 9), .ref (sz + 10), .ref (sz + 11), .null])), (sz, .inl (cI, 40, .inl (fun _ => 0))), ((sz + 1), .inl (cL, 40, .inr (.inl (fun _ => 0)))), ((sz + 2), .inl (cL, 1920, .inr (.inl (fun _ => 0)))), ((sz + 3), .inl (cL, 1920, .inr (.inl (fun _ => 0)))), ((sz + 4), .inl (cI, 40, .inl (fun _ => 0))), ((sz + 5), .inl (cI, 640, .inl (fun _ => 0))), ((sz + 6), .inl (cI, 40, .inl (fun _ => 0))), ((sz + 7), .inl (cL, 96, .inr (.inl (fun _ => 0)))), ((sz + 8), .inl (cL, 96, .inr (.inl (fun _ => 0)))), ((sz + 9), .inl (cL, 96, .inr (.inl (fun _ => 0)))), ((sz + 10), .inl (cL, 96, .inr (.inl (fun _ => 0)))), ((sz + 11), .inl (cI, 2, .inl (fun _ => 0))), ((sz + 12), .inl (cL, 8, .inr (.inl (fun _ => 0))))] := hD
  refine al_putF (D := (dC, dI)) (ci := 2) (v := .ref (sz + 12)) (ty := .array .long) (C := R_M) (T := T_M) (N := 15) hx hb hw in_M t_M t_M_ok nm_M hown hK hP hD hS 0 rfl rfl 14 (by decide) (hw _ w_459) (fun _ h9 => h9) rfl hin rfl (by decide +kernel) rfl rfl (Nat.le_of_ble_eq_true rfl) dM_init_107 (fun H locs hP hD hS hz9 => ?_)
  have hP : va_P (dC, dI) cls3 [(a, .inr (2, [.int 0, .int 0, .ref sz, .ref (sz + 1), .ref (sz + 2), .ref (sz + 3), .ref (sz + 4), .ref (sz + 5), .ref (sz + 6), .ref (sz + 7), .ref (sz + 8), .ref (sz + 9), .ref (sz + 10), .ref (sz + 11), .ref (sz + 12)])), (sz, .inl (cI, 40, .inl (fun _ => 0))), ((sz + 1), .inl (cL, 40, .inr (.inl (fun _ => 0)))), ((sz + 2), .inl (cL, 1920, .inr (.inl (fun _ => 0)))), ((sz + 3), .inl (cL, 1920, .inr (.inl (fun _ => 0)))), ((sz + 4), .inl (cI, 40, .inl (fun _ => 0))), ((sz + 5), .inl (cI, 640, .inl (fun _ => 0))), ((sz + 6), .inl (cI, 40, .inl (fun _ => 0))), ((sz + 7), .inl (cL, 96, .inr (.inl (fun _ => 0)))), ((sz + 8), .inl (cL, 96, .inr (.inl (fun _ => 0)))), ((sz + 9), .inl (cL, 96, .inr (.inl (fun _ => 0)))), ((sz + 10), .inl (cL, 96, .inr (.inl (fun _ => 0)))), ((sz + 11), .inl (cI, 2, .inl (fun _ => 0))), ((sz + 12), .inl (cL, 8, .inr (.inl (fun _ => 0))))] H := hP
  have hD : va_D (fun x => x = a ∨ sz ≤ x) [(a, .inr (2, [.int 0, .int 0, .ref sz, .ref (sz + 1), .ref (sz + 2), .ref (sz + 3), .ref (sz + 4), .ref (sz + 5), .ref (sz + 6), .ref (sz + 7), .ref (sz + 8), .ref (sz + 9), .ref (sz + 10), .ref (sz + 11), .ref (sz + 12)])), (sz, .inl (cI, 40, .inl (fun _ => 0))), ((sz + 1), .inl (cL, 40, .inr (.inl (fun _ => 0)))), ((sz + 2), .inl (cL, 1920, .inr (.inl (fun _ => 0)))), ((sz + 3), .inl (cL, 1920, .inr (.inl (fun _ => 0)))), ((sz + 4), .inl (cI, 40, .inl (fun _ => 0))), ((sz + 5), .inl (cI, 640, .inl (fun _ => 0))), ((sz + 6), .inl (cI, 40, .inl (fun _ => 0))), ((sz + 7), .inl (cL, 96, .inr (.inl (fun _ => 0)))), ((sz + 8), .inl (cL, 96, .inr (.inl (fun _ => 0)))), ((sz + 9), .inl (cL, 96, .inr (.inl (fun _ => 0)))), ((sz + 10), .inl (cL, 96, .inr (.inl (fun _ => 0)))), ((sz + 11), .inl (cI, 2, .inl (fun _ => 0))), ((sz + 12), .inl (cL, 8, .inr (.inl (fun _ => 0))))] := hD
  replace hz := hz9.trans hz
  refine W.widen (k := 13) (n := 5034) (Nat.le_of_ble_eq_true rfl) (Nat.le_of_ble_eq_true rfl) ?_
  exact W.vret hx hb hr (fun t ht hW => ⟨rfl, ⟨by rw [ht]; exact hP, by rw [ht]; exact hz⟩, hS.F ht⟩) hS.2.2 dM_init_110
