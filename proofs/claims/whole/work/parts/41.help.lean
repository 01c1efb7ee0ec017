/-! the law's helpers: they call the class and catch what it throws -/
def EVL (N0 : Nat) (U : State) : Prop := EV N0 U ∧ va_Nc "java/lang/IllegalStateException" "java/lang/IndexOutOfBoundsException" U ∧ va_Nc "java/lang/IllegalArgumentException" "java/lang/IndexOutOfBoundsException" U ∧ va_Nc "java/lang/IllegalArgumentException" "java/lang/IllegalStateException" U
theorem EVL.go {N0 : Nat} {s U : State} {H : Heap} (h : EVL N0 s) (hW : s.WarmedH U.vm) (hU : U.heap = H) (hk : ∀ q : Nat, q < s.heap.size → ¬ N0 ≤ q → H[q]? = s.heap[q]?) : EVL N0 U := ⟨h.1.go hW hU hk, va_Nc.moved hW.alike h.2.1, va_Nc.moved hW.alike h.2.2.1, va_Nc.moved hW.alike h.2.2.2⟩
abbrev hl_Pc (N0 : Nat) (av : List Value) (F : Heap → Prop) (D : va_G) (cl : List vw_C) (tys : List (ClassId × FieldType)) : Array Value → State → Prop := va_Pc av (fun U => F U.heap ∧ va_K D cl tys U ∧ EVL N0 U)
theorem hl_blind {N0 : Nat} {av : List Value} {F : Heap → Prop} {D : va_G} {cl : List vw_C} {tys : List (ClassId × FieldType)} : FrameBlind (hl_Pc N0 av F D cl tys) := fun a U g mk q => by
  obtain ⟨q0, qP, qK, qE⟩ := q
  exact ⟨q0, qP, va_K.moved (u := U) (U := U.calling g mk a) (Vm.Alike.refl U.vm) qK, qE.1.blind, va_Nc.moved (u := U) (U := U.calling g mk a) (Vm.Alike.refl U.vm) qE.2.1, va_Nc.moved (u := U) (U := U.calling g mk a) (Vm.Alike.refl U.vm) qE.2.2.1, va_Nc.moved (u := U) (U := U.calling g mk a) (Vm.Alike.refl U.vm) qE.2.2.2⟩
theorem hl_pre {N0 : Nat} {av : List Value} {F : Heap → Prop} {D : va_G} {cl : List vw_C} {tys : List (ClassId × FieldType)} {s : State} {H : Heap} (hF : F H) (hK : va_K D cl tys s) (hev : EVL N0 s) (hk : ∀ q : Nat, q < s.heap.size → ¬ N0 ≤ q → H[q]? = s.heap[q]?) : ∀ U : State, U.heap = H → s.WarmedH U.vm → hl_Pc N0 av F D cl tys av.toArray U := fun U hU hW => ⟨rfl, by rw [hU]; exact hF, va_K.moved hW.alike hK, hev.go hW hU hk⟩
theorem met_ofWH {l : Launch} {y : MethodName} {ws ws' : List Cond} {rm : Room} {Pc : Array Value → State → Prop} {Qc : Array Value → State → Outcome → State → Prop} {mc ms : Nat} {free : Addr → Prop} {cc : ByteArray} {maxL : Nat} {ret : Option FieldType} {hh : List (Nat × Nat × Nat × Nat)}
    (hy : plainName y.cls = true) (hw : ws = Cond.codeWith y cc maxL ret hh :: ws')
    (body : ∀ p e s m args below meth c s₁, BodyLoose p l y (headSpec ws rm) cc maxL ret e s m args below meth c s₁ → c.maxLocals = maxL → c.exceptionTable.toList = tableOf hh → Pc args s →
      W p l e (headSpec ws rm).room s m args below meth c s.heap [] 0 0 (MQ below Qc args s mc ms free) (entryFrame m args maxL)) : Met l y ws rm Pc Qc mc ms free := by
  refine MetFree.of_bodyS (code := cc) (maxLocals := maxL) (ret := ret) hy ?_ ?_
  · intro args s m h hn
    obtain ⟨m9, meth, c, hn9, h1, h2, h3, h4, -, h5, h6, -⟩ := Cond.codeWith_spec (atoms_spec (ws := ws) h _ (by rw [hw]; exact List.mem_cons_self))
    cases hn.symm.trans hn9
    exact ⟨meth, c, h1, h2, h3, h4, h5, h6⟩
  · intro p e s m args below meth c s₁ B hml hP _
    have hh0 : s₁.heap = s.heap := by rw [B.state]; rfl
    have ht : c.exceptionTable.toList = tableOf hh := vx_table (x := y) B (atoms_spec (ws := ws) B.pre _ (by rw [hw]; exact List.mem_cons_self))
    obtain ⟨t, a1, o, b1, b2, b3⟩ := body p e s m args below meth c s₁ B hml ht hP s₁ hh0 (Stand.of_body B)
    exact ⟨t, o, a1, b1, b2, b3⟩
def inL (N0 : Nat) : Nat → Prop := fun x => inC N0 x ∨ x = N0 + 16
def bl (x : Int32) : Int64 := if x = 0 then 0 else 1
abbrev outW (cL : ClassId) (N0 : Nat) (fo : Nat → Int64) : va_W := [(N0 + 16, .inl (cL, 1, .inr (.inl fo)))]
theorem out_D {cL : ClassId} {N0 : Nat} {fo : Nat → Int64} : va_D (inL N0) (outW cL N0 fo) := va_D_of (by show ([N0 + 16] : List Nat).Pairwise (· < ·); simp) (by intro a ha; have ha : a ∈ ([N0 + 16] : List Nat) := ha; simp at ha; exact Or.inr ha)
theorem out_keep {D : va_G} {cL : ClassId} {N0 : Nat} {fo : Nat → Int64} {H H1 : Heap} (h : va_P D cls3 (outW cL N0 fo) H) (hk : ∀ q : Nat, q < H.size → ¬ inC N0 q → H1[q]? = H[q]?) : va_P D cls3 (outW cL N0 fo) H1 := h.kept (fun k q hq => hk q.1 ((h k q hq).lt) (fun z => by
  have h3 : q.1 ∈ ([N0 + 16] : List Nat) := List.mem_map_of_mem (f := Prod.fst) (List.mem_of_getElem? hq)
  simp at h3
  have z : q.1 = N0 ∨ q.1 = N0 + 1 ∨ N0 + 17 ≤ q.1 := z
  omega))
theorem sfs_out {D : va_G} {cL cI cO : ClassId} {N0 : Nat} {bs : Nat → Nat} {v : CV} {H H1 : Heap} (h : SFS D cL cI cO N0 bs v H) (hz : H.size ≤ H1.size) (hk : ∀ q : Nat, q < H.size → q ≠ N0 + 16 → H1[q]? = H[q]?) : SFS D cL cI cO N0 bs v H1 := by
  refine ⟨⟨h.1.1.kept (fun k q hq => hk q.1 ((h.1.1 k q hq).lt) (fun z => ?_)), fun i hi => (h.1.2.1 i hi).kept (fun k q hq => hk q.1 ((h.1.2.1 i hi k q hq).lt) (fun z => ?_)), h.1.2.2⟩, h.2.1, h.2.2.1, Nat.le_trans h.2.2.2 hz⟩
  · have h3 : q.1 ∈ ([N0, N0 + 1] : List Nat) := List.mem_map_of_mem (f := Prod.fst) (List.mem_of_getElem? hq)
    simp at h3; omega
  · have h3 : q.1 ∈ ([bs i + 0, bs i + 1, bs i + 2, bs i + 3] : List Nat) := List.mem_map_of_mem (f := Prod.fst) (List.mem_of_getElem? hq)
    have := h.2.1 i hi
    simp at h3; omega
section HL
variable {p : Program} {l : Launch} {e : Env} {R : Room} {s : State} {m : MethodId} {args : Array Value} {below : List Frame} {meth : Method} {c : Code} {H : Heap} {locs : List Loc} {cells slots : Nat} {Q : State → Prop}
theorem al_last {D : va_G} {cl : List vw_C} {tys : List (ClassId × FieldType)} {ws : va_W} {A : Nat → Prop} {H0 : Heap} {cc : ByteArray} {pc a : Nat} {ls : Array Slot} {rest : List Value} (hexec : p.tables.exec = Jvm.exec) (hb : c.code = cc) (hK : va_K D cl tys s) (hP : va_P D cl ws H) (hD : va_D A ws) (hS : va_S A H0 H locs) (q0 t0 : Nat) {cA : ClassId} {n : Nat} {f : Nat → Int64} (ha : ws[q0]? = some (a, .inl (cA, n, .inr (.inl f)))) (ht : tys[t0]? = some (cA, .long)) {i : Int32} {x : Int64} (hin : vp_in i n) (hdg : decode cc pc = .ok (.lastore, 1))
    (kk : ∀ (H1 : Heap) (locs1 : List Loc), va_P D cl (ws.set q0 (a, .inl (cA, n, .inr (.inl (vp_updL f i.toNatClampNeg x))))) H1 → va_S A H0 H1 locs1 → H1.size = H.size → (∀ q : Nat, q ≠ a → H1[q]? = H[q]?) → W p l e R s m args below meth c H1 locs1 cells slots Q (F0 m (pc + 1) ls rest)) : W p l e R s m args below meth c H locs cells slots Q (F0 m pc ls (.long x :: .int i :: .ref a :: rest)) := by
  refine W.last hexec hb (hP q0 _ ha) ((hK.2 t0 _ ht).1 n (fun j => .long (f j))) (fun q => by cases q) (by show ¬ (i < 0 ∨ (arrV _ _ _).slots.size ≤ _); rw [arrV_size]; exact hin) rfl rfl hdg fun H1 e1 z1 o1 => ?_
  refine kk H1 _ (hP.set hD ha ?_ o1) (hS.put z1 o1 (hD.2 q0 _ ha)) z1 o1
  show H1[a]? = some (vp_cell _ _)
  rw [e1, vp_cell_l, vp_cell_l, arrV_store]
  congr 2
  funext j
  by_cases hj : j = i.toNatClampNeg
  · rw [hj]; simp [updV, vp_updL]
  · simp [updV, vp_updL, hj]
/-- a callee has thrown, and this method catches it -/
theorem thr_catch {cc : ByteArray} {pc : Nat} {E own name : String} {ls : Array Slot} {st0 rest : List Value} {a : Array Value} (hr : vx_Run p l e R s m args below meth c s.heap [] 0 0 1 6 (F0 m pc ls st0) rest (NoQ a) (XE E) (fun _ => False)) (hown : s.vm.findClass own = some m.cls) (pre : List ExceptionTableEntry) (x : ExceptionTableEntry) (suf : List ExceptionTableEntry) (hsplit : c.exceptionTable.toList = pre ++ x :: suf)
    (hpass : ∀ z ∈ pre, covers z pc = false ∨ (z.catchType ≠ 0 ∧ ∃ nm : String, (Cond.classLink own z.catchType nm).before args s = true ∧ va_Nc E nm s)) (hx : covers x pc = true) (h0 : x.catchType ≠ 0) (hlink : (Cond.classLink own x.catchType name).before args s = true) (hcast : (Cond.castable E name).before args s = true)
    (kk : ∀ (q : Nat) (H1 : Heap) (locs1 : List Loc), va_S (fun _ => False) s.heap H1 locs1 → W p l e R s m args below meth c H1 locs1 1 6 Q (F0 m x.handlerPc ls [.ref q])) : W p l e R s m args below meth c s.heap [] 0 0 Q (F0 m pc ls st0) := by
  intro T hT X
  rcases hr T hT X with ⟨v, st₀, t, T', L, h9, X', hL, e1, e2, hq, st⟩ | ⟨q, st₀, t, T', L, E', ce, h9, X', hL, e1, e2, ⟨hE, hF⟩, hce, hcv, hcl, st⟩
  · exact hq.elim
  · subst hE
    have hc : T'.heap[q]? = some ce := by rw [e1]; exact hce
    obtain ⟨z1, z2⟩ := hF
    rw [h9] at z1 z2
    obtain ⟨t2, a1, b1⟩ := vx_catch (pc := pc) (ls := ls) (rest := rest) (E := E') (ce := ce) (q := q) (H := T'.heap) (locs := [] ++ L) hown pre x suf hsplit hpass hx h0 hlink hcast hc hcv hcl
      (kk q T'.heap ([] ++ L) ⟨by rw [e1]; exact z1, fun q hq hn => by rw [e1]; exact z2 q hq hn, fun z hz => hL z (by simpa using hz)⟩) T' rfl X'
    exact ⟨t2, st.trans a1, b1⟩
end HL
theorem wc_80 : (Jvm.Cond.codeWith ({ cls := "ShapeFormsLaw", name := "circle", desc := "(LShapeForms;JJJ[J)I" } : Jvm.MethodName) method_3_code (9 : Nat) (Option.some Jvm.ClassFile.FieldType.int) [((0 : Nat), (13 : Nat), (16 : Nat), (13 : Nat))]) ∈ wG := mG 112 (by decide +kernel) (by decide +kernel)
theorem wc_176 : (Jvm.Cond.codeWith ({ cls := "ShapeFormsLaw", name := "box", desc := "(LShapeForms;JJJJJ[J)I" } : Jvm.MethodName) method_4_code (13 : Nat) (Option.some Jvm.ClassFile.FieldType.int) [((0 : Nat), (17 : Nat), (20 : Nat), (13 : Nat))]) ∈ wG := mG 208 (by decide +kernel) (by decide +kernel)
theorem wc_188 : (Jvm.Cond.codeWith ({ cls := "ShapeFormsLaw", name := "trace", desc := "(LShapeForms;J[J)I" } : Jvm.MethodName) method_5_code (5 : Nat) (Option.some Jvm.ClassFile.FieldType.int) [((0 : Nat), (9 : Nat), (12 : Nat), (13 : Nat))]) ∈ wG := mG 220 (by decide +kernel) (by decide +kernel)
theorem wc_197 : (Jvm.Cond.codeWith ({ cls := "ShapeFormsLaw", name := "corner", desc := "(LShapeForms;IJJ[J)I" } : Jvm.MethodName) method_6_code (8 : Nat) (Option.some Jvm.ClassFile.FieldType.int) [((0 : Nat), (20 : Nat), (23 : Nat), (27 : Nat)), ((0 : Nat), (20 : Nat), (27 : Nat), (29 : Nat)), ((0 : Nat), (20 : Nat), (31 : Nat), (13 : Nat))]) ∈ wG := mG 229 (by decide +kernel) (by decide +kernel)
theorem wc_246 : (Jvm.Cond.codeWith ({ cls := "ShapeFormsLaw", name := "ring", desc := "(LShapeForms;I[J)I" } : Jvm.MethodName) method_7_code (4 : Nat) (Option.some Jvm.ClassFile.FieldType.int) [((0 : Nat), (16 : Nat), (19 : Nat), (27 : Nat)), ((0 : Nat), (16 : Nat), (22 : Nat), (29 : Nat))]) ∈ wG := mG 278 (by decide +kernel) (by decide +kernel)
theorem wc_290 : (Jvm.Cond.codeWith ({ cls := "ShapeFormsLaw", name := "grow", desc := "(LShapeForms;IJ[J)I" } : Jvm.MethodName) method_8_code (6 : Nat) (Option.some Jvm.ClassFile.FieldType.int) [((0 : Nat), (11 : Nat), (14 : Nat), (27 : Nat)), ((0 : Nat), (11 : Nat), (18 : Nat), (29 : Nat)), ((0 : Nat), (11 : Nat), (22 : Nat), (13 : Nat))]) ∈ wG := mG 322 (by decide +kernel) (by decide +kernel)
theorem wc_314 : (Jvm.Cond.codeWith ({ cls := "ShapeFormsLaw", name := "inside", desc := "(LShapeForms;IJJ[J)I" } : Jvm.MethodName) method_9_code (8 : Nat) (Option.some Jvm.ClassFile.FieldType.int) [((0 : Nat), (20 : Nat), (23 : Nat), (27 : Nat)), ((0 : Nat), (20 : Nat), (27 : Nat), (29 : Nat)), ((0 : Nat), (20 : Nat), (31 : Nat), (13 : Nat))]) ∈ wG := mG 346 (by decide +kernel) (by decide +kernel)
theorem wc_355 : (Jvm.Cond.codeWith ({ cls := "ShapeFormsLaw", name := "nearer", desc := "(LShapeForms;IIJ[J)I" } : Jvm.MethodName) method_10_code (7 : Nat) (Option.some Jvm.ClassFile.FieldType.int) [((0 : Nat), (12 : Nat), (15 : Nat), (27 : Nat)), ((0 : Nat), (12 : Nat), (19 : Nat), (29 : Nat)), ((0 : Nat), (12 : Nat), (23 : Nat), (13 : Nat))]) ∈ wG := mG 387 (by decide +kernel) (by decide +kernel)
theorem wc_380 : (Jvm.Cond.codeWith ({ cls := "ShapeFormsLaw", name := "boxOf", desc := "(LShapeForms;II[J)I" } : Jvm.MethodName) method_11_code (5 : Nat) (Option.some Jvm.ClassFile.FieldType.int) [((0 : Nat), (9 : Nat), (12 : Nat), (27 : Nat)), ((0 : Nat), (9 : Nat), (16 : Nat), (29 : Nat))]) ∈ wG := mG 412 (by decide +kernel) (by decide +kernel)
theorem wc_394 : (Jvm.Cond.codeWith ({ cls := "ShapeFormsLaw", name := "turn", desc := "(LShapeForms;IIZ[J)I" } : Jvm.MethodName) method_12_code (6 : Nat) (Option.some Jvm.ClassFile.FieldType.int) [((0 : Nat), (12 : Nat), (15 : Nat), (27 : Nat)), ((0 : Nat), (12 : Nat), (19 : Nat), (29 : Nat))]) ∈ wG := mG 426 (by decide +kernel) (by decide +kernel)
theorem wc_412 : (Jvm.Cond.codeWith ({ cls := "ShapeFormsLaw", name := "kind", desc := "(LShapeForms;I[J)I" } : Jvm.MethodName) method_13_code (4 : Nat) (Option.some Jvm.ClassFile.FieldType.int) [((0 : Nat), (9 : Nat), (12 : Nat), (27 : Nat))]) ∈ wG := mG 444 (by decide +kernel) (by decide +kernel)
theorem wc_419 : (Jvm.Cond.codeWith ({ cls := "ShapeFormsLaw", name := "same", desc := "(LShapeForms;II[J)I" } : Jvm.MethodName) method_14_code (5 : Nat) (Option.some Jvm.ClassFile.FieldType.int) [((0 : Nat), (17 : Nat), (20 : Nat), (27 : Nat)), ((0 : Nat), (17 : Nat), (24 : Nat), (29 : Nat))]) ∈ wG := mG 451 (by decide +kernel) (by decide +kernel)
theorem in01 : vp_in 0 1 := by unfold vp_in; decide
theorem dL_circle_0 : decode cL_circle 0 = .ok (.aload 7, 2) := by decide +kernel
theorem dL_circle_2 : decode cL_circle 2 = .ok (.iconst 0, 1) := by decide +kernel
theorem dL_circle_3 : decode cL_circle 3 = .ok (.aload_n 0, 1) := by decide +kernel
theorem dL_circle_4 : decode cL_circle 4 = .ok (.lload_n 1, 1) := by decide +kernel
theorem dL_circle_5 : decode cL_circle 5 = .ok (.lload_n 3, 1) := by decide +kernel
theorem dL_circle_6 : decode cL_circle 6 = .ok (.lload 5, 2) := by decide +kernel
theorem dL_circle_8 : decode cL_circle 8 = .ok (.invokevirtual 7, 3) := by decide +kernel
theorem dL_circle_11 : decode cL_circle 11 = .ok (.i2l, 1) := by decide +kernel
theorem dL_circle_12 : decode cL_circle 12 = .ok (.lastore, 1) := by decide +kernel
theorem dL_circle_13 : decode cL_circle 13 = .ok (.goto 7, 3) := by decide +kernel
theorem dL_circle_16 : decode cL_circle 16 = .ok (.astore 8, 2) := by decide +kernel
theorem dL_circle_18 : decode cL_circle 18 = .ok (.iconst 1, 1) := by decide +kernel
theorem dL_circle_19 : decode cL_circle 19 = .ok (.ireturn, 1) := by decide +kernel
theorem dL_circle_20 : decode cL_circle 20 = .ok (.iconst 0, 1) := by decide +kernel
theorem dL_circle_21 : decode cL_circle 21 = .ok (.ireturn, 1) := by decide +kernel
abbrev wsL_circle : List Cond := .codeWith yL_circle cL_circle 9 (some .int) [(0, 13, 16, 13)] :: wG
set_option maxHeartbeats 1000000 in
set_option maxRecDepth 100000 in
theorem kn_L_circle (l : Launch) (N0 sz : Nat) (dC : Nat → ClassId) (dI : Nat → Nat → Nat) (cL cI cO : ClassId) (bs : Nat → Nat) (v : CV) (fo : Nat → Int64) (x1 : Int64) (x3 : Int64) (x5 : Int64) (r : Int32 × CV) (h : f_F_circle v x1 x3 x5 = some r) : Met l yL_circle wsL_circle ({ frames := 8, cells := 4, slots := 152, locals := 140 }) (hl_Pc N0 [.ref N0, .long x1, .long x3, .long x5, .ref (N0 + 16)] (fun H => (SFS (dC, dI) cL cI cO N0 bs v H ∧ H.size = sz) ∧ va_P (dC, dI) cls3 (outW cL N0 fo) H) (dC, dI) cls3 (ty3 cL cI cO)) (al_Q (some (.int 0)) (fun H => (∃ bs', SFS (dC, dI) cL cI cO N0 bs' r.2 H) ∧ va_P (dC, dI) cls3 (outW cL N0 (vp_updL fo 0 r.1.toInt64)) H) (inL N0)) 4 152 (inL N0) := by
  refine met_ofWH (cc := cL_circle) (maxL := 9) (ret := (some .int)) (hh := [(0, 13, 16, 13)]) (by decide) rfl ?_
  intro p e s m args below meth c s₁ B hml htab hv
  obtain ⟨rfl, ⟨⟨hPx, hz0⟩, hO⟩, hK, hev⟩ := hv
  have hx := B.exec
  have hb := B.bytes
  have hr := B.returns
  have hw : ∀ w ∈ wG, w.before ([.ref N0, .long x1, .long x3, .long x5, .ref (N0 + 16)] : List Value).toArray s = true := fun w hq => atoms_spec (ws := wsL_circle) B.pre w (List.mem_cons_of_mem _ hq)
  have hown : s.vm.findClass R_L = some m.cls := findClass_of_methodNamed B.named
  have hlocks := B.notSynchronized
  have hl := lv_entry ([.ref N0, .long x1, .long x3, .long x5, .ref (N0 + 16)] : List Value) (n := 9) (Nat.le_of_ble_eq_true rfl)
  rw [lg_entry_eq]
  generalize (lg_sl ([.ref N0, .long x1, .long x3, .long x5, .ref (N0 + 16)] : List Value) ++ List.replicate (9 - (lg_sl ([.ref N0, .long x1, .long x3, .long x5, .ref (N0 + 16)] : List Value)).length) Slot.unset).toArray = ls at hl ⊢
  have hl : lv_has ls 9 [(0, .ref N0), (1, .long x1), (3, .long x3), (5, .long x5), (7, .ref (N0 + 16))] := hl
  refine lv_aload hx hb dL_circle_0 (lv_at hl 4 rfl) ?_
  refine lv_iconst (v := 0) hx hb dL_circle_2 (by decide) ?_
  refine lv_aload_n hx hb dL_circle_3 rfl (lv_at hl 0 rfl) ?_
  refine lv_lload_n hx hb dL_circle_4 rfl (lv_at hl 1 rfl) ?_
  refine lv_lload_n hx hb dL_circle_5 rfl (lv_at hl 2 rfl) ?_
  refine lv_lload hx hb dL_circle_6 (lv_at hl 3 rfl) ?_
  refine al_call (va_runV (As := [.long x1, .long x3, .long x5]) (rest := [.int 0, .ref (N0 + 16)]) ⟨hx, hb, hml, hown, hw⟩ (k_F_circle l dC dI cL cI cO N0 sz bs v x1 x3 x5 r h) (cwV 3 hw (gV w_82 w_83 w_84 w_1 w_85) rfl rfl rfl (by decide +kernel) ⟨Nat.le_of_ble_eq_true rfl, Nat.le_of_ble_eq_true rfl⟩) ⟨rd_blind, va_recv hK hPx.1.1 (ci := 1) (q0 := 0) rfl rfl, rd_pre ⟨hPx, hz0⟩ hK⟩ rfl rfl hl.1 rfl (lv_room (Nat.le_of_ble_eq_true rfl)) dL_circle_8 ⟨Nat.le_of_ble_eq_true rfl, Nat.le_of_ble_eq_true rfl⟩) (A0 := inL N0) va_S.rf (fun _ z => Or.inl z) (fun H locs hG hS hle hk => ?_)
  obtain ⟨bs', hG⟩ := hG
  replace hO := out_keep hO hk
  refine lv_i2l hx hb dL_circle_11 rfl ?_
  refine al_last hx hb hK hO out_D hS 0 0 rfl rfl (x := r.1.toInt64) in01 dL_circle_12 (fun H1 locs hO1 hS hz1 hk1 => ?_)
  refine lv_goto (tgt := 20) hx hb dL_circle_13 (by decide) ?_
  refine lv_iconst (v := 0) hx hb dL_circle_20 (by decide) ?_
  have hG1 := sfs_out hG (Nat.le_of_eq hz1.symm) (fun q _ hq => hk1 q hq)
  refine W.widen (k := 4) (n := 152) (Nat.le_of_ble_eq_true rfl) (Nat.le_of_ble_eq_true rfl) ?_
  exact W.iret hx hb hr (fun t ht hW => ⟨rfl, ⟨⟨_, by rw [ht]; exact hG1⟩, by rw [ht]; exact hO1⟩, hS.F ht⟩) hS.2.2 dL_circle_21
set_option maxHeartbeats 1000000 in
set_option maxRecDepth 100000 in
theorem kxIAE_L_circle (l : Launch) (hl0 : l.stackTraces = false) (N0 sz : Nat) (dC : Nat → ClassId) (dI : Nat → Nat → Nat) (cL cI cO : ClassId) (bs : Nat → Nat) (v : CV) (fo : Nat → Int64) (x1 : Int64) (x3 : Int64) (x5 : Int64) (h : g_F_circle v x1 x3 x5 = some "java/lang/IllegalArgumentException") : Met l yL_circle wsL_circle ({ frames := 8, cells := 4, slots := 152, locals := 140 }) (hl_Pc N0 [.ref N0, .long x1, .long x3, .long x5, .ref (N0 + 16)] (fun H => (SFS (dC, dI) cL cI cO N0 bs v H ∧ H.size = sz) ∧ va_P (dC, dI) cls3 (outW cL N0 fo) H) (dC, dI) cls3 (ty3 cL cI cO)) (al_Q (some (.int 1)) (fun H => (∃ bs', SFS (dC, dI) cL cI cO N0 bs' v H) ∧ va_P (dC, dI) cls3 (outW cL N0 fo) H) (inL N0)) 4 152 (inL N0) := by
  refine met_ofWH (cc := cL_circle) (maxL := 9) (ret := (some .int)) (hh := [(0, 13, 16, 13)]) (by decide) rfl ?_
  intro p e s m args below meth c s₁ B hml htab hv
  obtain ⟨rfl, ⟨⟨hPx, hz0⟩, hO⟩, hK, hev⟩ := hv
  have hx := B.exec
  have hb := B.bytes
  have hr := B.returns
  have hw : ∀ w ∈ wG, w.before ([.ref N0, .long x1, .long x3, .long x5, .ref (N0 + 16)] : List Value).toArray s = true := fun w hq => atoms_spec (ws := wsL_circle) B.pre w (List.mem_cons_of_mem _ hq)
  have hown : s.vm.findClass R_L = some m.cls := findClass_of_methodNamed B.named
  have hlocks := B.notSynchronized
  have hl := lv_entry ([.ref N0, .long x1, .long x3, .long x5, .ref (N0 + 16)] : List Value) (n := 9) (Nat.le_of_ble_eq_true rfl)
  rw [lg_entry_eq]
  generalize (lg_sl ([.ref N0, .long x1, .long x3, .long x5, .ref (N0 + 16)] : List Value) ++ List.replicate (9 - (lg_sl ([.ref N0, .long x1, .long x3, .long x5, .ref (N0 + 16)] : List Value)).length) Slot.unset).toArray = ls at hl ⊢
  have hl : lv_has ls 9 [(0, .ref N0), (1, .long x1), (3, .long x3), (5, .long x5), (7, .ref (N0 + 16))] := hl
  refine lv_aload hx hb dL_circle_0 (lv_at hl 4 rfl) ?_
  refine lv_iconst (v := 0) hx hb dL_circle_2 (by decide) ?_
  refine lv_aload_n hx hb dL_circle_3 rfl (lv_at hl 0 rfl) ?_
  refine lv_lload_n hx hb dL_circle_4 rfl (lv_at hl 1 rfl) ?_
  refine lv_lload_n hx hb dL_circle_5 rfl (lv_at hl 2 rfl) ?_
  refine lv_lload hx hb dL_circle_6 (lv_at hl 3 rfl) ?_
  refine thr_catch (cc := cL_circle) (E := "java/lang/IllegalArgumentException") (name := "java/lang/IllegalArgumentException") (vx_runV (As := [.long x1, .long x3, .long x5]) (rest := [.int 0, .ref (N0 + 16)]) ⟨hx, hb, hml, hown, hw⟩ (kt_F_circle l hl0 N0 dC dI cL cI cO N0 (N0 + 1) (adB bs) v x1 x3 x5 _ h) (cwV 3 hw (gV w_82 w_83 w_84 w_1 w_85) rfl rfl rfl (by decide +kernel) ⟨Nat.le_of_ble_eq_true rfl, Nat.le_of_ble_eq_true rfl⟩) ⟨ev_blind, va_recv hK hPx.1.1 (ci := 1) (q0 := 0) rfl rfl, ev_pre hPx.1 hK hev.1⟩ rfl rfl hl.1 rfl (lv_room (Nat.le_of_ble_eq_true rfl)) dL_circle_8 ⟨Nat.le_of_ble_eq_true rfl, Nat.le_of_ble_eq_true rfl⟩) hown [] ⟨0, 13, 16, 13⟩ [] htab (fun z hz => by cases hz) (by decide) (by decide) (hw _ w_81) (va_Nw.use (w := .castable "java/lang/IllegalArgumentException" "java/lang/IllegalArgumentException") rfl (hev.1.1 _ (by decide +kernel))) (fun q H1 locs hS => ?_)
  refine lv_astore (lv' := [(8, .ref q), (0, .ref N0), (1, .long x1), (3, .long x3), (5, .long x5), (7, .ref (N0 + 16))]) hx hb dL_circle_16 hl (by decide) rfl (fun ls hl => ?_)
  refine lv_iconst (v := 1) hx hb dL_circle_18 (by decide) ?_
  refine W.widen (k := 4) (n := 152) (Nat.le_of_ble_eq_true rfl) (Nat.le_of_ble_eq_true rfl) ?_
  have hk : ∀ q : Nat, q < s.heap.size → H1[q]? = s.heap[q]? := fun q hq => hS.2.1 q hq (fun z => z)
  exact W.iret hx hb hr (fun t ht hW => ⟨rfl, ⟨⟨bs, by rw [ht]; exact sfs_out hPx hS.1 (fun q hq _ => hk q hq)⟩, by rw [ht]; exact out_keep hO (fun q hq _ => hk q hq)⟩, (hS.F ht).mono (fun _ z => z.elim)⟩) (fun q hq => (hS.2.2 q hq).elim) dL_circle_19
theorem dL_box_0 : decode cL_box 0 = .ok (.aload 11, 2) := by decide +kernel
theorem dL_box_2 : decode cL_box 2 = .ok (.iconst 0, 1) := by decide +kernel
theorem dL_box_3 : decode cL_box 3 = .ok (.aload_n 0, 1) := by decide +kernel
theorem dL_box_4 : decode cL_box 4 = .ok (.lload_n 1, 1) := by decide +kernel
theorem dL_box_5 : decode cL_box 5 = .ok (.lload_n 3, 1) := by decide +kernel
theorem dL_box_6 : decode cL_box 6 = .ok (.lload 5, 2) := by decide +kernel
theorem dL_box_8 : decode cL_box 8 = .ok (.lload 7, 2) := by decide +kernel
theorem dL_box_10 : decode cL_box 10 = .ok (.lload 9, 2) := by decide +kernel
theorem dL_box_12 : decode cL_box 12 = .ok (.invokevirtual 15, 3) := by decide +kernel
theorem dL_box_15 : decode cL_box 15 = .ok (.i2l, 1) := by decide +kernel
theorem dL_box_16 : decode cL_box 16 = .ok (.lastore, 1) := by decide +kernel
theorem dL_box_17 : decode cL_box 17 = .ok (.goto 7, 3) := by decide +kernel
theorem dL_box_20 : decode cL_box 20 = .ok (.astore 12, 2) := by decide +kernel
theorem dL_box_22 : decode cL_box 22 = .ok (.iconst 1, 1) := by decide +kernel
theorem dL_box_23 : decode cL_box 23 = .ok (.ireturn, 1) := by decide +kernel
theorem dL_box_24 : decode cL_box 24 = .ok (.iconst 0, 1) := by decide +kernel
theorem dL_box_25 : decode cL_box 25 = .ok (.ireturn, 1) := by decide +kernel
abbrev wsL_box : List Cond := .codeWith yL_box cL_box 13 (some .int) [(0, 17, 20, 13)] :: wG
set_option maxHeartbeats 1000000 in
set_option maxRecDepth 100000 in
theorem kn_L_box (l : Launch) (N0 sz : Nat) (dC : Nat → ClassId) (dI : Nat → Nat → Nat) (cL cI cO : ClassId) (bs : Nat → Nat) (v : CV) (fo : Nat → Int64) (x1 : Int64) (x3 : Int64) (x5 : Int64) (x7 : Int64) (x9 : Int64) (r : Int32 × CV) (h : f_F_box v x1 x3 x5 x7 x9 = some r) : Met l yL_box wsL_box ({ frames := 8, cells := 4, slots := 152, locals := 143 }) (hl_Pc N0 [.ref N0, .long x1, .long x3, .long x5, .long x7, .long x9, .ref (N0 + 16)] (fun H => (SFS (dC, dI) cL cI cO N0 bs v H ∧ H.size = sz) ∧ va_P (dC, dI) cls3 (outW cL N0 fo) H) (dC, dI) cls3 (ty3 cL cI cO)) (al_Q (some (.int 0)) (fun H => (∃ bs', SFS (dC, dI) cL cI cO N0 bs' r.2 H) ∧ va_P (dC, dI) cls3 (outW cL N0 (vp_updL fo 0 r.1.toInt64)) H) (inL N0)) 4 152 (inL N0) := by
  refine met_ofWH (cc := cL_box) (maxL := 13) (ret := (some .int)) (hh := [(0, 17, 20, 13)]) (by decide) rfl ?_
  intro p e s m args below meth c s₁ B hml htab hv
  obtain ⟨rfl, ⟨⟨hPx, hz0⟩, hO⟩, hK, hev⟩ := hv
  have hx := B.exec
  have hb := B.bytes
  have hr := B.returns
  have hw : ∀ w ∈ wG, w.before ([.ref N0, .long x1, .long x3, .long x5, .long x7, .long x9, .ref (N0 + 16)] : List Value).toArray s = true := fun w hq => atoms_spec (ws := wsL_box) B.pre w (List.mem_cons_of_mem _ hq)
  have hown : s.vm.findClass R_L = some m.cls := findClass_of_methodNamed B.named
  have hlocks := B.notSynchronized
  have hl := lv_entry ([.ref N0, .long x1, .long x3, .long x5, .long x7, .long x9, .ref (N0 + 16)] : List Value) (n := 13) (Nat.le_of_ble_eq_true rfl)
  rw [lg_entry_eq]
  generalize (lg_sl ([.ref N0, .long x1, .long x3, .long x5, .long x7, .long x9, .ref (N0 + 16)] : List Value) ++ List.replicate (13 - (lg_sl ([.ref N0, .long x1, .long x3, .long x5, .long x7, .long x9, .ref (N0 + 16)] : List Value)).length) Slot.unset).toArray = ls at hl ⊢
  have hl : lv_has ls 13 [(0, .ref N0), (1, .long x1), (3, .long x3), (5, .long x5), (7, .long x7), (9, .long x9), (11, .ref (N0 + 16))] := hl
  refine lv_aload hx hb dL_box_0 (lv_at hl 6 rfl) ?_
  refine lv_iconst (v := 0) hx hb dL_box_2 (by decide) ?_
  refine lv_aload_n hx hb dL_box_3 rfl (lv_at hl 0 rfl) ?_
  refine lv_lload_n hx hb dL_box_4 rfl (lv_at hl 1 rfl) ?_
  refine lv_lload_n hx hb dL_box_5 rfl (lv_at hl 2 rfl) ?_
  refine lv_lload hx hb dL_box_6 (lv_at hl 3 rfl) ?_
  refine lv_lload hx hb dL_box_8 (lv_at hl 4 rfl) ?_
  refine lv_lload hx hb dL_box_10 (lv_at hl 5 rfl) ?_
  refine al_call (va_runV (As := [.long x1, .long x3, .long x5, .long x7, .long x9]) (rest := [.int 0, .ref (N0 + 16)]) ⟨hx, hb, hml, hown, hw⟩ (k_F_box l dC dI cL cI cO N0 sz bs v x1 x3 x5 x7 x9 r h) (cwV 5 hw (gV w_177 w_178 w_179 w_1 w_180) rfl rfl rfl (by decide +kernel) ⟨Nat.le_of_ble_eq_true rfl, Nat.le_of_ble_eq_true rfl⟩) ⟨rd_blind, va_recv hK hPx.1.1 (ci := 1) (q0 := 0) rfl rfl, rd_pre ⟨hPx, hz0⟩ hK⟩ rfl rfl hl.1 rfl (lv_room (Nat.le_of_ble_eq_true rfl)) dL_box_12 ⟨Nat.le_of_ble_eq_true rfl, Nat.le_of_ble_eq_true rfl⟩) (A0 := inL N0) va_S.rf (fun _ z => Or.inl z) (fun H locs hG hS hle hk => ?_)
  obtain ⟨bs', hG⟩ := hG
  replace hO := out_keep hO hk
  refine lv_i2l hx hb dL_box_15 rfl ?_
  refine al_last hx hb hK hO out_D hS 0 0 rfl rfl (x := r.1.toInt64) in01 dL_box_16 (fun H1 locs hO1 hS hz1 hk1 => ?_)
  refine lv_goto (tgt := 24) hx hb dL_box_17 (by decide) ?_
  refine lv_iconst (v := 0) hx hb dL_box_24 (by decide) ?_
  have hG1 := sfs_out hG (Nat.le_of_eq hz1.symm) (fun q _ hq => hk1 q hq)
  refine W.widen (k := 4) (n := 152) (Nat.le_of_ble_eq_true rfl) (Nat.le_of_ble_eq_true rfl) ?_
  exact W.iret hx hb hr (fun t ht hW => ⟨rfl, ⟨⟨_, by rw [ht]; exact hG1⟩, by rw [ht]; exact hO1⟩, hS.F ht⟩) hS.2.2 dL_box_25
set_option maxHeartbeats 1000000 in
set_option maxRecDepth 100000 in
theorem kxIAE_L_box (l : Launch) (hl0 : l.stackTraces = false) (N0 sz : Nat) (dC : Nat → ClassId) (dI : Nat → Nat → Nat) (cL cI cO : ClassId) (bs : Nat → Nat) (v : CV) (fo : Nat → Int64) (x1 : Int64) (x3 : Int64) (x5 : Int64) (x7 : Int64) (x9 : Int64) (h : g_F_box v x1 x3 x5 x7 x9 = some "java/lang/IllegalArgumentException") : Met l yL_box wsL_box ({ frames := 8, cells := 4, slots := 152, locals := 143 }) (hl_Pc N0 [.ref N0, .long x1, .long x3, .long x5, .long x7, .long x9, .ref (N0 + 16)] (fun H => (SFS (dC, dI) cL cI cO N0 bs v H ∧ H.size = sz) ∧ va_P (dC, dI) cls3 (outW cL N0 fo) H) (dC, dI) cls3 (ty3 cL cI cO)) (al_Q (some (.int 1)) (fun H => (∃ bs', SFS (dC, dI) cL cI cO N0 bs' v H) ∧ va_P (dC, dI) cls3 (outW cL N0 fo) H) (inL N0)) 4 152 (inL N0) := by
  refine met_ofWH (cc := cL_box) (maxL := 13) (ret := (some .int)) (hh := [(0, 17, 20, 13)]) (by decide) rfl ?_
  intro p e s m args below meth c s₁ B hml htab hv
  obtain ⟨rfl, ⟨⟨hPx, hz0⟩, hO⟩, hK, hev⟩ := hv
  have hx := B.exec
  have hb := B.bytes
  have hr := B.returns
  have hw : ∀ w ∈ wG, w.before ([.ref N0, .long x1, .long x3, .long x5, .long x7, .long x9, .ref (N0 + 16)] : List Value).toArray s = true := fun w hq => atoms_spec (ws := wsL_box) B.pre w (List.mem_cons_of_mem _ hq)
  have hown : s.vm.findClass R_L = some m.cls := findClass_of_methodNamed B.named
  have hlocks := B.notSynchronized
  have hl := lv_entry ([.ref N0, .long x1, .long x3, .long x5, .long x7, .long x9, .ref (N0 + 16)] : List Value) (n := 13) (Nat.le_of_ble_eq_true rfl)
  rw [lg_entry_eq]
  generalize (lg_sl ([.ref N0, .long x1, .long x3, .long x5, .long x7, .long x9, .ref (N0 + 16)] : List Value) ++ List.replicate (13 - (lg_sl ([.ref N0, .long x1, .long x3, .long x5, .long x7, .long x9, .ref (N0 + 16)] : List Value)).length) Slot.unset).toArray = ls at hl ⊢
  have hl : lv_has ls 13 [(0, .ref N0), (1, .long x1), (3, .long x3), (5, .long x5), (7, .long x7), (9, .long x9), (11, .ref (N0 + 16))] := hl
  refine lv_aload hx hb dL_box_0 (lv_at hl 6 rfl) ?_
  refine lv_iconst (v := 0) hx hb dL_box_2 (by decide) ?_
  refine lv_aload_n hx hb dL_box_3 rfl (lv_at hl 0 rfl) ?_
  refine lv_lload_n hx hb dL_box_4 rfl (lv_at hl 1 rfl) ?_
  refine lv_lload_n hx hb dL_box_5 rfl (lv_at hl 2 rfl) ?_
  refine lv_lload hx hb dL_box_6 (lv_at hl 3 rfl) ?_
  refine lv_lload hx hb dL_box_8 (lv_at hl 4 rfl) ?_
  refine lv_lload hx hb dL_box_10 (lv_at hl 5 rfl) ?_
  refine thr_catch (cc := cL_box) (E := "java/lang/IllegalArgumentException") (name := "java/lang/IllegalArgumentException") (vx_runV (As := [.long x1, .long x3, .long x5, .long x7, .long x9]) (rest := [.int 0, .ref (N0 + 16)]) ⟨hx, hb, hml, hown, hw⟩ (kt_F_box l hl0 N0 dC dI cL cI cO N0 (N0 + 1) (adB bs) v x1 x3 x5 x7 x9 _ h) (cwV 5 hw (gV w_177 w_178 w_179 w_1 w_180) rfl rfl rfl (by decide +kernel) ⟨Nat.le_of_ble_eq_true rfl, Nat.le_of_ble_eq_true rfl⟩) ⟨ev_blind, va_recv hK hPx.1.1 (ci := 1) (q0 := 0) rfl rfl, ev_pre hPx.1 hK hev.1⟩ rfl rfl hl.1 rfl (lv_room (Nat.le_of_ble_eq_true rfl)) dL_box_12 ⟨Nat.le_of_ble_eq_true rfl, Nat.le_of_ble_eq_true rfl⟩) hown [] ⟨0, 17, 20, 13⟩ [] htab (fun z hz => by cases hz) (by decide) (by decide) (hw _ w_81) (va_Nw.use (w := .castable "java/lang/IllegalArgumentException" "java/lang/IllegalArgumentException") rfl (hev.1.1 _ (by decide +kernel))) (fun q H1 locs hS => ?_)
  refine lv_astore (lv' := [(12, .ref q), (0, .ref N0), (1, .long x1), (3, .long x3), (5, .long x5), (7, .long x7), (9, .long x9), (11, .ref (N0 + 16))]) hx hb dL_box_20 hl (by decide) rfl (fun ls hl => ?_)
  refine lv_iconst (v := 1) hx hb dL_box_22 (by decide) ?_
  refine W.widen (k := 4) (n := 152) (Nat.le_of_ble_eq_true rfl) (Nat.le_of_ble_eq_true rfl) ?_
  have hk : ∀ q : Nat, q < s.heap.size → H1[q]? = s.heap[q]? := fun q hq => hS.2.1 q hq (fun z => z)
  exact W.iret hx hb hr (fun t ht hW => ⟨rfl, ⟨⟨bs, by rw [ht]; exact sfs_out hPx hS.1 (fun q hq _ => hk q hq)⟩, by rw [ht]; exact out_keep hO (fun q hq _ => hk q hq)⟩, (hS.F ht).mono (fun _ z => z.elim)⟩) (fun q hq => (hS.2.2 q hq).elim) dL_box_23
theorem dL_trace_0 : decode cL_trace 0 = .ok (.aload_n 3, 1) := by decide +kernel
theorem dL_trace_1 : decode cL_trace 1 = .ok (.iconst 0, 1) := by decide +kernel
theorem dL_trace_2 : decode cL_trace 2 = .ok (.aload_n 0, 1) := by decide +kernel
theorem dL_trace_3 : decode cL_trace 3 = .ok (.lload_n 1, 1) := by decide +kernel
theorem dL_trace_4 : decode cL_trace 4 = .ok (.invokevirtual 19, 3) := by decide +kernel
theorem dL_trace_7 : decode cL_trace 7 = .ok (.i2l, 1) := by decide +kernel
theorem dL_trace_8 : decode cL_trace 8 = .ok (.lastore, 1) := by decide +kernel
theorem dL_trace_9 : decode cL_trace 9 = .ok (.goto 7, 3) := by decide +kernel
theorem dL_trace_12 : decode cL_trace 12 = .ok (.astore 4, 2) := by decide +kernel
theorem dL_trace_14 : decode cL_trace 14 = .ok (.iconst 1, 1) := by decide +kernel
theorem dL_trace_15 : decode cL_trace 15 = .ok (.ireturn, 1) := by decide +kernel
theorem dL_trace_16 : decode cL_trace 16 = .ok (.iconst 0, 1) := by decide +kernel
theorem dL_trace_17 : decode cL_trace 17 = .ok (.ireturn, 1) := by decide +kernel
abbrev wsL_trace : List Cond := .codeWith yL_trace cL_trace 5 (some .int) [(0, 9, 12, 13)] :: wG
set_option maxHeartbeats 1000000 in
set_option maxRecDepth 100000 in
theorem kn_L_trace (l : Launch) (N0 sz : Nat) (dC : Nat → ClassId) (dI : Nat → Nat → Nat) (cL cI cO : ClassId) (bs : Nat → Nat) (v : CV) (fo : Nat → Int64) (x1 : Int64) (r : Int32 × CV) (h : f_F_trace v x1 = some r) : Met l yL_trace wsL_trace ({ frames := 7, cells := 4, slots := 152, locals := 112 }) (hl_Pc N0 [.ref N0, .long x1, .ref (N0 + 16)] (fun H => (SFS (dC, dI) cL cI cO N0 bs v H ∧ H.size = sz) ∧ va_P (dC, dI) cls3 (outW cL N0 fo) H) (dC, dI) cls3 (ty3 cL cI cO)) (al_Q (some (.int 0)) (fun H => (∃ bs', SFS (dC, dI) cL cI cO N0 bs' r.2 H) ∧ va_P (dC, dI) cls3 (outW cL N0 (vp_updL fo 0 r.1.toInt64)) H) (inL N0)) 4 152 (inL N0) := by
  refine met_ofWH (cc := cL_trace) (maxL := 5) (ret := (some .int)) (hh := [(0, 9, 12, 13)]) (by decide) rfl ?_
  intro p e s m args below meth c s₁ B hml htab hv
  obtain ⟨rfl, ⟨⟨hPx, hz0⟩, hO⟩, hK, hev⟩ := hv
  have hx := B.exec
  have hb := B.bytes
  have hr := B.returns
  have hw : ∀ w ∈ wG, w.before ([.ref N0, .long x1, .ref (N0 + 16)] : List Value).toArray s = true := fun w hq => atoms_spec (ws := wsL_trace) B.pre w (List.mem_cons_of_mem _ hq)
  have hown : s.vm.findClass R_L = some m.cls := findClass_of_methodNamed B.named
  have hlocks := B.notSynchronized
  have hl := lv_entry ([.ref N0, .long x1, .ref (N0 + 16)] : List Value) (n := 5) (Nat.le_of_ble_eq_true rfl)
  rw [lg_entry_eq]
  generalize (lg_sl ([.ref N0, .long x1, .ref (N0 + 16)] : List Value) ++ List.replicate (5 - (lg_sl ([.ref N0, .long x1, .ref (N0 + 16)] : List Value)).length) Slot.unset).toArray = ls at hl ⊢
  have hl : lv_has ls 5 [(0, .ref N0), (1, .long x1), (3, .ref (N0 + 16))] := hl
  refine lv_aload_n hx hb dL_trace_0 rfl (lv_at hl 2 rfl) ?_
  refine lv_iconst (v := 0) hx hb dL_trace_1 (by decide) ?_
  refine lv_aload_n hx hb dL_trace_2 rfl (lv_at hl 0 rfl) ?_
  refine lv_lload_n hx hb dL_trace_3 rfl (lv_at hl 1 rfl) ?_
  refine al_call (va_runV (As := [.long x1]) (rest := [.int 0, .ref (N0 + 16)]) ⟨hx, hb, hml, hown, hw⟩ (k_F_trace l dC dI cL cI cO N0 sz bs v x1 r h) (cwV 1 hw (gV w_189 w_190 w_191 w_1 w_192) rfl rfl rfl (by decide +kernel) ⟨Nat.le_of_ble_eq_true rfl, Nat.le_of_ble_eq_true rfl⟩) ⟨rd_blind, va_recv hK hPx.1.1 (ci := 1) (q0 := 0) rfl rfl, rd_pre ⟨hPx, hz0⟩ hK⟩ rfl rfl hl.1 rfl (lv_room (Nat.le_of_ble_eq_true rfl)) dL_trace_4 ⟨Nat.le_of_ble_eq_true rfl, Nat.le_of_ble_eq_true rfl⟩) (A0 := inL N0) va_S.rf (fun _ z => Or.inl z) (fun H locs hG hS hle hk => ?_)
  obtain ⟨bs', hG⟩ := hG
  replace hO := out_keep hO hk
  refine lv_i2l hx hb dL_trace_7 rfl ?_
  refine al_last hx hb hK hO out_D hS 0 0 rfl rfl (x := r.1.toInt64) in01 dL_trace_8 (fun H1 locs hO1 hS hz1 hk1 => ?_)
  refine lv_goto (tgt := 16) hx hb dL_trace_9 (by decide) ?_
  refine lv_iconst (v := 0) hx hb dL_trace_16 (by decide) ?_
  have hG1 := sfs_out hG (Nat.le_of_eq hz1.symm) (fun q _ hq => hk1 q hq)
  refine W.widen (k := 4) (n := 152) (Nat.le_of_ble_eq_true rfl) (Nat.le_of_ble_eq_true rfl) ?_
  exact W.iret hx hb hr (fun t ht hW => ⟨rfl, ⟨⟨_, by rw [ht]; exact hG1⟩, by rw [ht]; exact hO1⟩, hS.F ht⟩) hS.2.2 dL_trace_17
set_option maxHeartbeats 1000000 in
set_option maxRecDepth 100000 in
theorem kxIAE_L_trace (l : Launch) (hl0 : l.stackTraces = false) (N0 sz : Nat) (dC : Nat → ClassId) (dI : Nat → Nat → Nat) (cL cI cO : ClassId) (bs : Nat → Nat) (v : CV) (fo : Nat → Int64) (x1 : Int64) (h : g_F_trace v x1 = some "java/lang/IllegalArgumentException") : Met l yL_trace wsL_trace ({ frames := 7, cells := 4, slots := 152, locals := 112 }) (hl_Pc N0 [.ref N0, .long x1, .ref (N0 + 16)] (fun H => (SFS (dC, dI) cL cI cO N0 bs v H ∧ H.size = sz) ∧ va_P (dC, dI) cls3 (outW cL N0 fo) H) (dC, dI) cls3 (ty3 cL cI cO)) (al_Q (some (.int 1)) (fun H => (∃ bs', SFS (dC, dI) cL cI cO N0 bs' v H) ∧ va_P (dC, dI) cls3 (outW cL N0 fo) H) (inL N0)) 4 152 (inL N0) := by
  refine met_ofWH (cc := cL_trace) (maxL := 5) (ret := (some .int)) (hh := [(0, 9, 12, 13)]) (by decide) rfl ?_
  intro p e s m args below meth c s₁ B hml htab hv
  obtain ⟨rfl, ⟨⟨hPx, hz0⟩, hO⟩, hK, hev⟩ := hv
  have hx := B.exec
  have hb := B.bytes
  have hr := B.returns
  have hw : ∀ w ∈ wG, w.before ([.ref N0, .long x1, .ref (N0 + 16)] : List Value).toArray s = true := fun w hq => atoms_spec (ws := wsL_trace) B.pre w (List.mem_cons_of_mem _ hq)
  have hown : s.vm.findClass R_L = some m.cls := findClass_of_methodNamed B.named
  have hlocks := B.notSynchronized
  have hl := lv_entry ([.ref N0, .long x1, .ref (N0 + 16)] : List Value) (n := 5) (Nat.le_of_ble_eq_true rfl)
  rw [lg_entry_eq]
  generalize (lg_sl ([.ref N0, .long x1, .ref (N0 + 16)] : List Value) ++ List.replicate (5 - (lg_sl ([.ref N0, .long x1, .ref (N0 + 16)] : List Value)).length) Slot.unset).toArray = ls at hl ⊢
  have hl : lv_has ls 5 [(0, .ref N0), (1, .long x1), (3, .ref (N0 + 16))] := hl
  refine lv_aload_n hx hb dL_trace_0 rfl (lv_at hl 2 rfl) ?_
  refine lv_iconst (v := 0) hx hb dL_trace_1 (by decide) ?_
  refine lv_aload_n hx hb dL_trace_2 rfl (lv_at hl 0 rfl) ?_
  refine lv_lload_n hx hb dL_trace_3 rfl (lv_at hl 1 rfl) ?_
  refine thr_catch (cc := cL_trace) (E := "java/lang/IllegalArgumentException") (name := "java/lang/IllegalArgumentException") (vx_runV (As := [.long x1]) (rest := [.int 0, .ref (N0 + 16)]) ⟨hx, hb, hml, hown, hw⟩ (kt_F_trace l hl0 N0 dC dI cL cI cO N0 (N0 + 1) (adB bs) v x1 _ h) (cwV 1 hw (gV w_189 w_190 w_191 w_1 w_192) rfl rfl rfl (by decide +kernel) ⟨Nat.le_of_ble_eq_true rfl, Nat.le_of_ble_eq_true rfl⟩) ⟨ev_blind, va_recv hK hPx.1.1 (ci := 1) (q0 := 0) rfl rfl, ev_pre hPx.1 hK hev.1⟩ rfl rfl hl.1 rfl (lv_room (Nat.le_of_ble_eq_true rfl)) dL_trace_4 ⟨Nat.le_of_ble_eq_true rfl, Nat.le_of_ble_eq_true rfl⟩) hown [] ⟨0, 9, 12, 13⟩ [] htab (fun z hz => by cases hz) (by decide) (by decide) (hw _ w_81) (va_Nw.use (w := .castable "java/lang/IllegalArgumentException" "java/lang/IllegalArgumentException") rfl (hev.1.1 _ (by decide +kernel))) (fun q H1 locs hS => ?_)
  refine lv_astore (lv' := [(4, .ref q), (0, .ref N0), (1, .long x1), (3, .ref (N0 + 16))]) hx hb dL_trace_12 hl (by decide) rfl (fun ls hl => ?_)
  refine lv_iconst (v := 1) hx hb dL_trace_14 (by decide) ?_
  refine W.widen (k := 4) (n := 152) (Nat.le_of_ble_eq_true rfl) (Nat.le_of_ble_eq_true rfl) ?_
  have hk : ∀ q : Nat, q < s.heap.size → H1[q]? = s.heap[q]? := fun q hq => hS.2.1 q hq (fun z => z)
  exact W.iret hx hb hr (fun t ht hW => ⟨rfl, ⟨⟨bs, by rw [ht]; exact sfs_out hPx hS.1 (fun q hq _ => hk q hq)⟩, by rw [ht]; exact out_keep hO (fun q hq _ => hk q hq)⟩, (hS.F ht).mono (fun _ z => z.elim)⟩) (fun q hq => (hS.2.2 q hq).elim) dL_trace_15
theorem dL_corner_0 : decode cL_corner 0 = .ok (.aload 6, 2) := by decide +kernel
theorem dL_corner_2 : decode cL_corner 2 = .ok (.iconst 0, 1) := by decide +kernel
theorem dL_corner_3 : decode cL_corner 3 = .ok (.aload_n 0, 1) := by decide +kernel
theorem dL_corner_4 : decode cL_corner 4 = .ok (.iload_n 1, 1) := by decide +kernel
theorem dL_corner_5 : decode cL_corner 5 = .ok (.lload_n 2, 1) := by decide +kernel
theorem dL_corner_6 : decode cL_corner 6 = .ok (.lload 4, 2) := by decide +kernel
theorem dL_corner_8 : decode cL_corner 8 = .ok (.invokevirtual 23, 3) := by decide +kernel
theorem dL_corner_11 : decode cL_corner 11 = .ok (.ifCond .eq 7, 3) := by decide +kernel
theorem dL_corner_14 : decode cL_corner 14 = .ok (.lconst 1, 1) := by decide +kernel
theorem dL_corner_15 : decode cL_corner 15 = .ok (.goto 4, 3) := by decide +kernel
theorem dL_corner_18 : decode cL_corner 18 = .ok (.lconst 0, 1) := by decide +kernel
theorem dL_corner_19 : decode cL_corner 19 = .ok (.lastore, 1) := by decide +kernel
theorem dL_corner_20 : decode cL_corner 20 = .ok (.goto 15, 3) := by decide +kernel
theorem dL_corner_23 : decode cL_corner 23 = .ok (.astore 7, 2) := by decide +kernel
theorem dL_corner_25 : decode cL_corner 25 = .ok (.iconst 1, 1) := by decide +kernel
theorem dL_corner_26 : decode cL_corner 26 = .ok (.ireturn, 1) := by decide +kernel
theorem dL_corner_27 : decode cL_corner 27 = .ok (.astore 7, 2) := by decide +kernel
theorem dL_corner_29 : decode cL_corner 29 = .ok (.iconst 2, 1) := by decide +kernel
theorem dL_corner_30 : decode cL_corner 30 = .ok (.ireturn, 1) := by decide +kernel
theorem dL_corner_31 : decode cL_corner 31 = .ok (.astore 7, 2) := by decide +kernel
theorem dL_corner_33 : decode cL_corner 33 = .ok (.iconst 3, 1) := by decide +kernel
theorem dL_corner_34 : decode cL_corner 34 = .ok (.ireturn, 1) := by decide +kernel
theorem dL_corner_35 : decode cL_corner 35 = .ok (.iconst 0, 1) := by decide +kernel
theorem dL_corner_36 : decode cL_corner 36 = .ok (.ireturn, 1) := by decide +kernel
abbrev wsL_corner : List Cond := .codeWith yL_corner cL_corner 8 (some .int) [(0, 20, 23, 27), (0, 20, 27, 29), (0, 20, 31, 13)] :: wG
set_option maxHeartbeats 1000000 in
set_option maxRecDepth 100000 in
theorem kn_L_corner (l : Launch) (N0 sz : Nat) (dC : Nat → ClassId) (dI : Nat → Nat → Nat) (cL cI cO : ClassId) (bs : Nat → Nat) (v : CV) (fo : Nat → Int64) (x1 : Int32) (x2 : Int64) (x4 : Int64) (r : Int32 × CV) (h : f_F_corner v x1 x2 x4 = some r) : Met l yL_corner wsL_corner ({ frames := 8, cells := 4, slots := 152, locals := 139 }) (hl_Pc N0 [.ref N0, .int x1, .long x2, .long x4, .ref (N0 + 16)] (fun H => (SFS (dC, dI) cL cI cO N0 bs v H ∧ H.size = sz) ∧ va_P (dC, dI) cls3 (outW cL N0 fo) H) (dC, dI) cls3 (ty3 cL cI cO)) (al_Q (some (.int 0)) (fun H => (∃ bs', SFS (dC, dI) cL cI cO N0 bs' r.2 H) ∧ va_P (dC, dI) cls3 (outW cL N0 (vp_updL fo 0 (bl r.1))) H) (inL N0)) 4 152 (inL N0) := by
  refine met_ofWH (cc := cL_corner) (maxL := 8) (ret := (some .int)) (hh := [(0, 20, 23, 27), (0, 20, 27, 29), (0, 20, 31, 13)]) (by decide) rfl ?_
  intro p e s m args below meth c s₁ B hml htab hv
  obtain ⟨rfl, ⟨⟨hPx, hz0⟩, hO⟩, hK, hev⟩ := hv
  have hx := B.exec
  have hb := B.bytes
  have hr := B.returns
  have hw : ∀ w ∈ wG, w.before ([.ref N0, .int x1, .long x2, .long x4, .ref (N0 + 16)] : List Value).toArray s = true := fun w hq => atoms_spec (ws := wsL_corner) B.pre w (List.mem_cons_of_mem _ hq)
  have hown : s.vm.findClass R_L = some m.cls := findClass_of_methodNamed B.named
  have hlocks := B.notSynchronized
  have hl := lv_entry ([.ref N0, .int x1, .long x2, .long x4, .ref (N0 + 16)] : List Value) (n := 8) (Nat.le_of_ble_eq_true rfl)
  rw [lg_entry_eq]
  generalize (lg_sl ([.ref N0, .int x1, .long x2, .long x4, .ref (N0 + 16)] : List Value) ++ List.replicate (8 - (lg_sl ([.ref N0, .int x1, .long x2, .long x4, .ref (N0 + 16)] : List Value)).length) Slot.unset).toArray = ls at hl ⊢
  have hl : lv_has ls 8 [(0, .ref N0), (1, .int x1), (2, .long x2), (4, .long x4), (6, .ref (N0 + 16))] := hl
  refine lv_aload hx hb dL_corner_0 (lv_at hl 4 rfl) ?_
  refine lv_iconst (v := 0) hx hb dL_corner_2 (by decide) ?_
  refine lv_aload_n hx hb dL_corner_3 rfl (lv_at hl 0 rfl) ?_
  refine lv_iload_n hx hb dL_corner_4 rfl (lv_at hl 1 rfl) ?_
  refine lv_lload_n hx hb dL_corner_5 rfl (lv_at hl 2 rfl) ?_
  refine lv_lload hx hb dL_corner_6 (lv_at hl 3 rfl) ?_
  refine al_call (va_runV (As := [.int x1, .long x2, .long x4]) (rest := [.int 0, .ref (N0 + 16)]) ⟨hx, hb, hml, hown, hw⟩ (k_F_corner l dC dI cL cI cO N0 sz bs v x1 x2 x4 r h) (cwV 3 hw (gV w_200 w_201 w_202 w_1 w_203) rfl rfl rfl (by decide +kernel) ⟨Nat.le_of_ble_eq_true rfl, Nat.le_of_ble_eq_true rfl⟩) ⟨rd_blind, va_recv hK hPx.1.1 (ci := 1) (q0 := 0) rfl rfl, rd_pre ⟨hPx, hz0⟩ hK⟩ rfl rfl hl.1 rfl (lv_room (Nat.le_of_ble_eq_true rfl)) dL_corner_8 ⟨Nat.le_of_ble_eq_true rfl, Nat.le_of_ble_eq_true rfl⟩) (A0 := inL N0) va_S.rf (fun _ z => Or.inl z) (fun H locs hG hS hle hk => ?_)
  obtain ⟨bs', hG⟩ := hG
  replace hO := out_keep hO hk
  refine lv_if_eq (tgt := 18) hx hb dL_corner_11 (by decide) (fun c1 => ?_) (fun c1 => ?_)
  · rw [show bl r.1 = 0 from if_pos c1]
    refine lv_lconst (v := 0) hx hb dL_corner_18 (by decide) ?_
    refine al_last hx hb hK hO out_D hS 0 0 rfl rfl (x := 0) in01 dL_corner_19 (fun H1 locs hO1 hS hz1 hk1 => ?_)
    refine lv_goto (tgt := 35) hx hb dL_corner_20 (by decide) ?_
    refine lv_iconst (v := 0) hx hb dL_corner_35 (by decide) ?_
    have hG1 := sfs_out hG (Nat.le_of_eq hz1.symm) (fun q _ hq => hk1 q hq)
    refine W.widen (k := 4) (n := 152) (Nat.le_of_ble_eq_true rfl) (Nat.le_of_ble_eq_true rfl) ?_
    exact W.iret hx hb hr (fun t ht hW => ⟨rfl, ⟨⟨_, by rw [ht]; exact hG1⟩, by rw [ht]; exact hO1⟩, hS.F ht⟩) hS.2.2 dL_corner_36
  · rw [show bl r.1 = 1 from if_neg c1]
    refine lv_lconst (v := 1) hx hb dL_corner_14 (by decide) ?_
    refine lv_goto (tgt := 19) hx hb dL_corner_15 (by decide) ?_
    refine al_last hx hb hK hO out_D hS 0 0 rfl rfl (x := 1) in01 dL_corner_19 (fun H1 locs hO1 hS hz1 hk1 => ?_)
    refine lv_goto (tgt := 35) hx hb dL_corner_20 (by decide) ?_
    refine lv_iconst (v := 0) hx hb dL_corner_35 (by decide) ?_
    have hG1 := sfs_out hG (Nat.le_of_eq hz1.symm) (fun q _ hq => hk1 q hq)
    refine W.widen (k := 4) (n := 152) (Nat.le_of_ble_eq_true rfl) (Nat.le_of_ble_eq_true rfl) ?_
    exact W.iret hx hb hr (fun t ht hW => ⟨rfl, ⟨⟨_, by rw [ht]; exact hG1⟩, by rw [ht]; exact hO1⟩, hS.F ht⟩) hS.2.2 dL_corner_36
set_option maxHeartbeats 1000000 in
set_option maxRecDepth 100000 in
theorem kxIOB_L_corner (l : Launch) (hl0 : l.stackTraces = false) (N0 sz : Nat) (dC : Nat → ClassId) (dI : Nat → Nat → Nat) (cL cI cO : ClassId) (bs : Nat → Nat) (v : CV) (fo : Nat → Int64) (x1 : Int32) (x2 : Int64) (x4 : Int64) (h : g_F_corner v x1 x2 x4 = some "java/lang/IndexOutOfBoundsException") : Met l yL_corner wsL_corner ({ frames := 8, cells := 4, slots := 152, locals := 139 }) (hl_Pc N0 [.ref N0, .int x1, .long x2, .long x4, .ref (N0 + 16)] (fun H => (SFS (dC, dI) cL cI cO N0 bs v H ∧ H.size = sz) ∧ va_P (dC, dI) cls3 (outW cL N0 fo) H) (dC, dI) cls3 (ty3 cL cI cO)) (al_Q (some (.int 1)) (fun H => (∃ bs', SFS (dC, dI) cL cI cO N0 bs' v H) ∧ va_P (dC, dI) cls3 (outW cL N0 fo) H) (inL N0)) 4 152 (inL N0) := by
  refine met_ofWH (cc := cL_corner) (maxL := 8) (ret := (some .int)) (hh := [(0, 20, 23, 27), (0, 20, 27, 29), (0, 20, 31, 13)]) (by decide) rfl ?_
  intro p e s m args below meth c s₁ B hml htab hv
  obtain ⟨rfl, ⟨⟨hPx, hz0⟩, hO⟩, hK, hev⟩ := hv
  have hx := B.exec
  have hb := B.bytes
  have hr := B.returns
  have hw : ∀ w ∈ wG, w.before ([.ref N0, .int x1, .long x2, .long x4, .ref (N0 + 16)] : List Value).toArray s = true := fun w hq => atoms_spec (ws := wsL_corner) B.pre w (List.mem_cons_of_mem _ hq)
  have hown : s.vm.findClass R_L = some m.cls := findClass_of_methodNamed B.named
  have hlocks := B.notSynchronized
  have hl := lv_entry ([.ref N0, .int x1, .long x2, .long x4, .ref (N0 + 16)] : List Value) (n := 8) (Nat.le_of_ble_eq_true rfl)
  rw [lg_entry_eq]
  generalize (lg_sl ([.ref N0, .int x1, .long x2, .long x4, .ref (N0 + 16)] : List Value) ++ List.replicate (8 - (lg_sl ([.ref N0, .int x1, .long x2, .long x4, .ref (N0 + 16)] : List Value)).length) Slot.unset).toArray = ls at hl ⊢
  have hl : lv_has ls 8 [(0, .ref N0), (1, .int x1), (2, .long x2), (4, .long x4), (6, .ref (N0 + 16))] := hl
  refine lv_aload hx hb dL_corner_0 (lv_at hl 4 rfl) ?_
  refine lv_iconst (v := 0) hx hb dL_corner_2 (by decide) ?_
  refine lv_aload_n hx hb dL_corner_3 rfl (lv_at hl 0 rfl) ?_
  refine lv_iload_n hx hb dL_corner_4 rfl (lv_at hl 1 rfl) ?_
  refine lv_lload_n hx hb dL_corner_5 rfl (lv_at hl 2 rfl) ?_
  refine lv_lload hx hb dL_corner_6 (lv_at hl 3 rfl) ?_
  refine thr_catch (cc := cL_corner) (E := "java/lang/IndexOutOfBoundsException") (name := "java/lang/IndexOutOfBoundsException") (vx_runV (As := [.int x1, .long x2, .long x4]) (rest := [.int 0, .ref (N0 + 16)]) ⟨hx, hb, hml, hown, hw⟩ (kt_F_corner l hl0 N0 dC dI cL cI cO N0 (N0 + 1) (adB bs) v x1 x2 x4 _ h) (cwV 3 hw (gV w_200 w_201 w_202 w_1 w_203) rfl rfl rfl (by decide +kernel) ⟨Nat.le_of_ble_eq_true rfl, Nat.le_of_ble_eq_true rfl⟩) ⟨ev_blind, va_recv hK hPx.1.1 (ci := 1) (q0 := 0) rfl rfl, ev_pre hPx.1 hK hev.1⟩ rfl rfl hl.1 rfl (lv_room (Nat.le_of_ble_eq_true rfl)) dL_corner_8 ⟨Nat.le_of_ble_eq_true rfl, Nat.le_of_ble_eq_true rfl⟩) hown [] ⟨0, 20, 23, 27⟩ [⟨0, 20, 27, 29⟩, ⟨0, 20, 31, 13⟩] htab (fun z hz => by cases hz) (by decide) (by decide) (hw _ w_198) (va_Nw.use (w := .castable "java/lang/IndexOutOfBoundsException" "java/lang/IndexOutOfBoundsException") rfl (hev.1.1 _ (by decide +kernel))) (fun q H1 locs hS => ?_)
  refine lv_astore (lv' := [(7, .ref q), (0, .ref N0), (1, .int x1), (2, .long x2), (4, .long x4), (6, .ref (N0 + 16))]) hx hb dL_corner_23 hl (by decide) rfl (fun ls hl => ?_)
  refine lv_iconst (v := 1) hx hb dL_corner_25 (by decide) ?_
  refine W.widen (k := 4) (n := 152) (Nat.le_of_ble_eq_true rfl) (Nat.le_of_ble_eq_true rfl) ?_
  have hk : ∀ q : Nat, q < s.heap.size → H1[q]? = s.heap[q]? := fun q hq => hS.2.1 q hq (fun z => z)
  exact W.iret hx hb hr (fun t ht hW => ⟨rfl, ⟨⟨bs, by rw [ht]; exact sfs_out hPx hS.1 (fun q hq _ => hk q hq)⟩, by rw [ht]; exact out_keep hO (fun q hq _ => hk q hq)⟩, (hS.F ht).mono (fun _ z => z.elim)⟩) (fun q hq => (hS.2.2 q hq).elim) dL_corner_26
set_option maxHeartbeats 1000000 in
set_option maxRecDepth 100000 in
theorem kxISE_L_corner (l : Launch) (hl0 : l.stackTraces = false) (N0 sz : Nat) (dC : Nat → ClassId) (dI : Nat → Nat → Nat) (cL cI cO : ClassId) (bs : Nat → Nat) (v : CV) (fo : Nat → Int64) (x1 : Int32) (x2 : Int64) (x4 : Int64) (h : g_F_corner v x1 x2 x4 = some "java/lang/IllegalStateException") : Met l yL_corner wsL_corner ({ frames := 8, cells := 4, slots := 152, locals := 139 }) (hl_Pc N0 [.ref N0, .int x1, .long x2, .long x4, .ref (N0 + 16)] (fun H => (SFS (dC, dI) cL cI cO N0 bs v H ∧ H.size = sz) ∧ va_P (dC, dI) cls3 (outW cL N0 fo) H) (dC, dI) cls3 (ty3 cL cI cO)) (al_Q (some (.int 2)) (fun H => (∃ bs', SFS (dC, dI) cL cI cO N0 bs' v H) ∧ va_P (dC, dI) cls3 (outW cL N0 fo) H) (inL N0)) 4 152 (inL N0) := by
  refine met_ofWH (cc := cL_corner) (maxL := 8) (ret := (some .int)) (hh := [(0, 20, 23, 27), (0, 20, 27, 29), (0, 20, 31, 13)]) (by decide) rfl ?_
  intro p e s m args below meth c s₁ B hml htab hv
  obtain ⟨rfl, ⟨⟨hPx, hz0⟩, hO⟩, hK, hev⟩ := hv
  have hx := B.exec
  have hb := B.bytes
  have hr := B.returns
  have hw : ∀ w ∈ wG, w.before ([.ref N0, .int x1, .long x2, .long x4, .ref (N0 + 16)] : List Value).toArray s = true := fun w hq => atoms_spec (ws := wsL_corner) B.pre w (List.mem_cons_of_mem _ hq)
  have hown : s.vm.findClass R_L = some m.cls := findClass_of_methodNamed B.named
  have hlocks := B.notSynchronized
  have hl := lv_entry ([.ref N0, .int x1, .long x2, .long x4, .ref (N0 + 16)] : List Value) (n := 8) (Nat.le_of_ble_eq_true rfl)
  rw [lg_entry_eq]
  generalize (lg_sl ([.ref N0, .int x1, .long x2, .long x4, .ref (N0 + 16)] : List Value) ++ List.replicate (8 - (lg_sl ([.ref N0, .int x1, .long x2, .long x4, .ref (N0 + 16)] : List Value)).length) Slot.unset).toArray = ls at hl ⊢
  have hl : lv_has ls 8 [(0, .ref N0), (1, .int x1), (2, .long x2), (4, .long x4), (6, .ref (N0 + 16))] := hl
  refine lv_aload hx hb dL_corner_0 (lv_at hl 4 rfl) ?_
  refine lv_iconst (v := 0) hx hb dL_corner_2 (by decide) ?_
  refine lv_aload_n hx hb dL_corner_3 rfl (lv_at hl 0 rfl) ?_
  refine lv_iload_n hx hb dL_corner_4 rfl (lv_at hl 1 rfl) ?_
  refine lv_lload_n hx hb dL_corner_5 rfl (lv_at hl 2 rfl) ?_
  refine lv_lload hx hb dL_corner_6 (lv_at hl 3 rfl) ?_
  refine thr_catch (cc := cL_corner) (E := "java/lang/IllegalStateException") (name := "java/lang/IllegalStateException") (vx_runV (As := [.int x1, .long x2, .long x4]) (rest := [.int 0, .ref (N0 + 16)]) ⟨hx, hb, hml, hown, hw⟩ (kt_F_corner l hl0 N0 dC dI cL cI cO N0 (N0 + 1) (adB bs) v x1 x2 x4 _ h) (cwV 3 hw (gV w_200 w_201 w_202 w_1 w_203) rfl rfl rfl (by decide +kernel) ⟨Nat.le_of_ble_eq_true rfl, Nat.le_of_ble_eq_true rfl⟩) ⟨ev_blind, va_recv hK hPx.1.1 (ci := 1) (q0 := 0) rfl rfl, ev_pre hPx.1 hK hev.1⟩ rfl rfl hl.1 rfl (lv_room (Nat.le_of_ble_eq_true rfl)) dL_corner_8 ⟨Nat.le_of_ble_eq_true rfl, Nat.le_of_ble_eq_true rfl⟩) hown [⟨0, 20, 23, 27⟩] ⟨0, 20, 27, 29⟩ [⟨0, 20, 31, 13⟩] htab (fun z hz => by have e := List.mem_singleton.mp hz; exact (by rw [e]; exact Or.inr ⟨by decide, _, hw _ w_198, hev.2.1⟩)) (by decide) (by decide) (hw _ w_199) (va_Nw.use (w := .castable "java/lang/IllegalStateException" "java/lang/IllegalStateException") rfl (hev.1.1 _ (by decide +kernel))) (fun q H1 locs hS => ?_)
  refine lv_astore (lv' := [(7, .ref q), (0, .ref N0), (1, .int x1), (2, .long x2), (4, .long x4), (6, .ref (N0 + 16))]) hx hb dL_corner_27 hl (by decide) rfl (fun ls hl => ?_)
  refine lv_iconst (v := 2) hx hb dL_corner_29 (by decide) ?_
  refine W.widen (k := 4) (n := 152) (Nat.le_of_ble_eq_true rfl) (Nat.le_of_ble_eq_true rfl) ?_
  have hk : ∀ q : Nat, q < s.heap.size → H1[q]? = s.heap[q]? := fun q hq => hS.2.1 q hq (fun z => z)
  exact W.iret hx hb hr (fun t ht hW => ⟨rfl, ⟨⟨bs, by rw [ht]; exact sfs_out hPx hS.1 (fun q hq _ => hk q hq)⟩, by rw [ht]; exact out_keep hO (fun q hq _ => hk q hq)⟩, (hS.F ht).mono (fun _ z => z.elim)⟩) (fun q hq => (hS.2.2 q hq).elim) dL_corner_30
set_option maxHeartbeats 1000000 in
set_option maxRecDepth 100000 in
theorem kxIAE_L_corner (l : Launch) (hl0 : l.stackTraces = false) (N0 sz : Nat) (dC : Nat → ClassId) (dI : Nat → Nat → Nat) (cL cI cO : ClassId) (bs : Nat → Nat) (v : CV) (fo : Nat → Int64) (x1 : Int32) (x2 : Int64) (x4 : Int64) (h : g_F_corner v x1 x2 x4 = some "java/lang/IllegalArgumentException") : Met l yL_corner wsL_corner ({ frames := 8, cells := 4, slots := 152, locals := 139 }) (hl_Pc N0 [.ref N0, .int x1, .long x2, .long x4, .ref (N0 + 16)] (fun H => (SFS (dC, dI) cL cI cO N0 bs v H ∧ H.size = sz) ∧ va_P (dC, dI) cls3 (outW cL N0 fo) H) (dC, dI) cls3 (ty3 cL cI cO)) (al_Q (some (.int 3)) (fun H => (∃ bs', SFS (dC, dI) cL cI cO N0 bs' v H) ∧ va_P (dC, dI) cls3 (outW cL N0 fo) H) (inL N0)) 4 152 (inL N0) := by
  refine met_ofWH (cc := cL_corner) (maxL := 8) (ret := (some .int)) (hh := [(0, 20, 23, 27), (0, 20, 27, 29), (0, 20, 31, 13)]) (by decide) rfl ?_
  intro p e s m args below meth c s₁ B hml htab hv
  obtain ⟨rfl, ⟨⟨hPx, hz0⟩, hO⟩, hK, hev⟩ := hv
  have hx := B.exec
  have hb := B.bytes
  have hr := B.returns
  have hw : ∀ w ∈ wG, w.before ([.ref N0, .int x1, .long x2, .long x4, .ref (N0 + 16)] : List Value).toArray s = true := fun w hq => atoms_spec (ws := wsL_corner) B.pre w (List.mem_cons_of_mem _ hq)
  have hown : s.vm.findClass R_L = some m.cls := findClass_of_methodNamed B.named
  have hlocks := B.notSynchronized
  have hl := lv_entry ([.ref N0, .int x1, .long x2, .long x4, .ref (N0 + 16)] : List Value) (n := 8) (Nat.le_of_ble_eq_true rfl)
  rw [lg_entry_eq]
  generalize (lg_sl ([.ref N0, .int x1, .long x2, .long x4, .ref (N0 + 16)] : List Value) ++ List.replicate (8 - (lg_sl ([.ref N0, .int x1, .long x2, .long x4, .ref (N0 + 16)] : List Value)).length) Slot.unset).toArray = ls at hl ⊢
  have hl : lv_has ls 8 [(0, .ref N0), (1, .int x1), (2, .long x2), (4, .long x4), (6, .ref (N0 + 16))] := hl
  refine lv_aload hx hb dL_corner_0 (lv_at hl 4 rfl) ?_
  refine lv_iconst (v := 0) hx hb dL_corner_2 (by decide) ?_
  refine lv_aload_n hx hb dL_corner_3 rfl (lv_at hl 0 rfl) ?_
  refine lv_iload_n hx hb dL_corner_4 rfl (lv_at hl 1 rfl) ?_
  refine lv_lload_n hx hb dL_corner_5 rfl (lv_at hl 2 rfl) ?_
  refine lv_lload hx hb dL_corner_6 (lv_at hl 3 rfl) ?_
  refine thr_catch (cc := cL_corner) (E := "java/lang/IllegalArgumentException") (name := "java/lang/IllegalArgumentException") (vx_runV (As := [.int x1, .long x2, .long x4]) (rest := [.int 0, .ref (N0 + 16)]) ⟨hx, hb, hml, hown, hw⟩ (kt_F_corner l hl0 N0 dC dI cL cI cO N0 (N0 + 1) (adB bs) v x1 x2 x4 _ h) (cwV 3 hw (gV w_200 w_201 w_202 w_1 w_203) rfl rfl rfl (by decide +kernel) ⟨Nat.le_of_ble_eq_true rfl, Nat.le_of_ble_eq_true rfl⟩) ⟨ev_blind, va_recv hK hPx.1.1 (ci := 1) (q0 := 0) rfl rfl, ev_pre hPx.1 hK hev.1⟩ rfl rfl hl.1 rfl (lv_room (Nat.le_of_ble_eq_true rfl)) dL_corner_8 ⟨Nat.le_of_ble_eq_true rfl, Nat.le_of_ble_eq_true rfl⟩) hown [⟨0, 20, 23, 27⟩, ⟨0, 20, 27, 29⟩] ⟨0, 20, 31, 13⟩ [] htab (fun z hz => by rcases List.mem_cons.mp hz with e | hz; exact (by rw [e]; exact Or.inr ⟨by decide, _, hw _ w_198, hev.2.2.1⟩); have e := List.mem_singleton.mp hz; exact (by rw [e]; exact Or.inr ⟨by decide, _, hw _ w_199, hev.2.2.2⟩)) (by decide) (by decide) (hw _ w_81) (va_Nw.use (w := .castable "java/lang/IllegalArgumentException" "java/lang/IllegalArgumentException") rfl (hev.1.1 _ (by decide +kernel))) (fun q H1 locs hS => ?_)
  refine lv_astore (lv' := [(7, .ref q), (0, .ref N0), (1, .int x1), (2, .long x2), (4, .long x4), (6, .ref (N0 + 16))]) hx hb dL_corner_31 hl (by decide) rfl (fun ls hl => ?_)
  refine lv_iconst (v := 3) hx hb dL_corner_33 (by decide) ?_
  refine W.widen (k := 4) (n := 152) (Nat.le_of_ble_eq_true rfl) (Nat.le_of_ble_eq_true rfl) ?_
  have hk : ∀ q : Nat, q < s.heap.size → H1[q]? = s.heap[q]? := fun q hq => hS.2.1 q hq (fun z => z)
  exact W.iret hx hb hr (fun t ht hW => ⟨rfl, ⟨⟨bs, by rw [ht]; exact sfs_out hPx hS.1 (fun q hq _ => hk q hq)⟩, by rw [ht]; exact out_keep hO (fun q hq _ => hk q hq)⟩, (hS.F ht).mono (fun _ z => z.elim)⟩) (fun q hq => (hS.2.2 q hq).elim) dL_corner_34
theorem dL_ring_0 : decode cL_ring 0 = .ok (.aload_n 2, 1) := by decide +kernel
theorem dL_ring_1 : decode cL_ring 1 = .ok (.iconst 0, 1) := by decide +kernel
theorem dL_ring_2 : decode cL_ring 2 = .ok (.aload_n 0, 1) := by decide +kernel
theorem dL_ring_3 : decode cL_ring 3 = .ok (.iload_n 1, 1) := by decide +kernel
theorem dL_ring_4 : decode cL_ring 4 = .ok (.invokevirtual 31, 3) := by decide +kernel
theorem dL_ring_7 : decode cL_ring 7 = .ok (.ifCond .eq 7, 3) := by decide +kernel
theorem dL_ring_10 : decode cL_ring 10 = .ok (.lconst 1, 1) := by decide +kernel
theorem dL_ring_11 : decode cL_ring 11 = .ok (.goto 4, 3) := by decide +kernel
theorem dL_ring_14 : decode cL_ring 14 = .ok (.lconst 0, 1) := by decide +kernel
theorem dL_ring_15 : decode cL_ring 15 = .ok (.lastore, 1) := by decide +kernel
theorem dL_ring_16 : decode cL_ring 16 = .ok (.goto 9, 3) := by decide +kernel
theorem dL_ring_19 : decode cL_ring 19 = .ok (.astore_n 3, 1) := by decide +kernel
theorem dL_ring_20 : decode cL_ring 20 = .ok (.iconst 1, 1) := by decide +kernel
theorem dL_ring_21 : decode cL_ring 21 = .ok (.ireturn, 1) := by decide +kernel
theorem dL_ring_22 : decode cL_ring 22 = .ok (.astore_n 3, 1) := by decide +kernel
theorem dL_ring_23 : decode cL_ring 23 = .ok (.iconst 2, 1) := by decide +kernel
theorem dL_ring_24 : decode cL_ring 24 = .ok (.ireturn, 1) := by decide +kernel
theorem dL_ring_25 : decode cL_ring 25 = .ok (.iconst 0, 1) := by decide +kernel
theorem dL_ring_26 : decode cL_ring 26 = .ok (.ireturn, 1) := by decide +kernel
abbrev wsL_ring : List Cond := .codeWith yL_ring cL_ring 4 (some .int) [(0, 16, 19, 27), (0, 16, 22, 29)] :: wG
set_option maxHeartbeats 1000000 in
set_option maxRecDepth 100000 in
theorem kn_L_ring (l : Launch) (N0 sz : Nat) (dC : Nat → ClassId) (dI : Nat → Nat → Nat) (cL cI cO : ClassId) (bs : Nat → Nat) (v : CV) (fo : Nat → Int64) (x1 : Int32) (r : Int32 × CV) (h : f_F_ring v x1 = some r) : Met l yL_ring wsL_ring ({ frames := 8, cells := 4, slots := 152, locals := 144 }) (hl_Pc N0 [.ref N0, .int x1, .ref (N0 + 16)] (fun H => (SFS (dC, dI) cL cI cO N0 bs v H ∧ H.size = sz) ∧ va_P (dC, dI) cls3 (outW cL N0 fo) H) (dC, dI) cls3 (ty3 cL cI cO)) (al_Q (some (.int 0)) (fun H => (∃ bs', SFS (dC, dI) cL cI cO N0 bs' r.2 H) ∧ va_P (dC, dI) cls3 (outW cL N0 (vp_updL fo 0 (bl r.1))) H) (inL N0)) 4 152 (inL N0) := by
  refine met_ofWH (cc := cL_ring) (maxL := 4) (ret := (some .int)) (hh := [(0, 16, 19, 27), (0, 16, 22, 29)]) (by decide) rfl ?_
  intro p e s m args below meth c s₁ B hml htab hv
  obtain ⟨rfl, ⟨⟨hPx, hz0⟩, hO⟩, hK, hev⟩ := hv
  have hx := B.exec
  have hb := B.bytes
  have hr := B.returns
  have hw : ∀ w ∈ wG, w.before ([.ref N0, .int x1, .ref (N0 + 16)] : List Value).toArray s = true := fun w hq => atoms_spec (ws := wsL_ring) B.pre w (List.mem_cons_of_mem _ hq)
  have hown : s.vm.findClass R_L = some m.cls := findClass_of_methodNamed B.named
  have hlocks := B.notSynchronized
  have hl := lv_entry ([.ref N0, .int x1, .ref (N0 + 16)] : List Value) (n := 4) (Nat.le_of_ble_eq_true rfl)
  rw [lg_entry_eq]
  generalize (lg_sl ([.ref N0, .int x1, .ref (N0 + 16)] : List Value) ++ List.replicate (4 - (lg_sl ([.ref N0, .int x1, .ref (N0 + 16)] : List Value)).length) Slot.unset).toArray = ls at hl ⊢
  have hl : lv_has ls 4 [(0, .ref N0), (1, .int x1), (2, .ref (N0 + 16))] := hl
  refine lv_aload_n hx hb dL_ring_0 rfl (lv_at hl 2 rfl) ?_
  refine lv_iconst (v := 0) hx hb dL_ring_1 (by decide) ?_
  refine lv_aload_n hx hb dL_ring_2 rfl (lv_at hl 0 rfl) ?_
  refine lv_iload_n hx hb dL_ring_3 rfl (lv_at hl 1 rfl) ?_
  refine al_call (va_runV (As := [.int x1]) (rest := [.int 0, .ref (N0 + 16)]) ⟨hx, hb, hml, hown, hw⟩ (k_F_ring l dC dI cL cI cO N0 sz bs v x1 r h) (cwV 1 hw (gV w_247 w_248 w_249 w_1 w_250) rfl rfl rfl (by decide +kernel) ⟨Nat.le_of_ble_eq_true rfl, Nat.le_of_ble_eq_true rfl⟩) ⟨rd_blind, va_recv hK hPx.1.1 (ci := 1) (q0 := 0) rfl rfl, rd_pre ⟨hPx, hz0⟩ hK⟩ rfl rfl hl.1 rfl (lv_room (Nat.le_of_ble_eq_true rfl)) dL_ring_4 ⟨Nat.le_of_ble_eq_true rfl, Nat.le_of_ble_eq_true rfl⟩) (A0 := inL N0) va_S.rf (fun _ z => Or.inl z) (fun H locs hG hS hle hk => ?_)
  obtain ⟨bs', hG⟩ := hG
  replace hO := out_keep hO hk
  refine lv_if_eq (tgt := 14) hx hb dL_ring_7 (by decide) (fun c1 => ?_) (fun c1 => ?_)
  · rw [show bl r.1 = 0 from if_pos c1]
    refine lv_lconst (v := 0) hx hb dL_ring_14 (by decide) ?_
    refine al_last hx hb hK hO out_D hS 0 0 rfl rfl (x := 0) in01 dL_ring_15 (fun H1 locs hO1 hS hz1 hk1 => ?_)
    refine lv_goto (tgt := 25) hx hb dL_ring_16 (by decide) ?_
    refine lv_iconst (v := 0) hx hb dL_ring_25 (by decide) ?_
    have hG1 := sfs_out hG (Nat.le_of_eq hz1.symm) (fun q _ hq => hk1 q hq)
    refine W.widen (k := 4) (n := 152) (Nat.le_of_ble_eq_true rfl) (Nat.le_of_ble_eq_true rfl) ?_
    exact W.iret hx hb hr (fun t ht hW => ⟨rfl, ⟨⟨_, by rw [ht]; exact hG1⟩, by rw [ht]; exact hO1⟩, hS.F ht⟩) hS.2.2 dL_ring_26
  · rw [show bl r.1 = 1 from if_neg c1]
    refine lv_lconst (v := 1) hx hb dL_ring_10 (by decide) ?_
    refine lv_goto (tgt := 15) hx hb dL_ring_11 (by decide) ?_
    refine al_last hx hb hK hO out_D hS 0 0 rfl rfl (x := 1) in01 dL_ring_15 (fun H1 locs hO1 hS hz1 hk1 => ?_)
    refine lv_goto (tgt := 25) hx hb dL_ring_16 (by decide) ?_
    refine lv_iconst (v := 0) hx hb dL_ring_25 (by decide) ?_
    have hG1 := sfs_out hG (Nat.le_of_eq hz1.symm) (fun q _ hq => hk1 q hq)
    refine W.widen (k := 4) (n := 152) (Nat.le_of_ble_eq_true rfl) (Nat.le_of_ble_eq_true rfl) ?_
    exact W.iret hx hb hr (fun t ht hW => ⟨rfl, ⟨⟨_, by rw [ht]; exact hG1⟩, by rw [ht]; exact hO1⟩, hS.F ht⟩) hS.2.2 dL_ring_26
set_option maxHeartbeats 1000000 in
set_option maxRecDepth 100000 in
theorem kxIOB_L_ring (l : Launch) (hl0 : l.stackTraces = false) (N0 sz : Nat) (dC : Nat → ClassId) (dI : Nat → Nat → Nat) (cL cI cO : ClassId) (bs : Nat → Nat) (v : CV) (fo : Nat → Int64) (x1 : Int32) (h : g_F_ring v x1 = some "java/lang/IndexOutOfBoundsException") : Met l yL_ring wsL_ring ({ frames := 8, cells := 4, slots := 152, locals := 144 }) (hl_Pc N0 [.ref N0, .int x1, .ref (N0 + 16)] (fun H => (SFS (dC, dI) cL cI cO N0 bs v H ∧ H.size = sz) ∧ va_P (dC, dI) cls3 (outW cL N0 fo) H) (dC, dI) cls3 (ty3 cL cI cO)) (al_Q (some (.int 1)) (fun H => (∃ bs', SFS (dC, dI) cL cI cO N0 bs' v H) ∧ va_P (dC, dI) cls3 (outW cL N0 fo) H) (inL N0)) 4 152 (inL N0) := by
  refine met_ofWH (cc := cL_ring) (maxL := 4) (ret := (some .int)) (hh := [(0, 16, 19, 27), (0, 16, 22, 29)]) (by decide) rfl ?_
  intro p e s m args below meth c s₁ B hml htab hv
  obtain ⟨rfl, ⟨⟨hPx, hz0⟩, hO⟩, hK, hev⟩ := hv
  have hx := B.exec
  have hb := B.bytes
  have hr := B.returns
  have hw : ∀ w ∈ wG, w.before ([.ref N0, .int x1, .ref (N0 + 16)] : List Value).toArray s = true := fun w hq => atoms_spec (ws := wsL_ring) B.pre w (List.mem_cons_of_mem _ hq)
  have hown : s.vm.findClass R_L = some m.cls := findClass_of_methodNamed B.named
  have hlocks := B.notSynchronized
  have hl := lv_entry ([.ref N0, .int x1, .ref (N0 + 16)] : List Value) (n := 4) (Nat.le_of_ble_eq_true rfl)
  rw [lg_entry_eq]
  generalize (lg_sl ([.ref N0, .int x1, .ref (N0 + 16)] : List Value) ++ List.replicate (4 - (lg_sl ([.ref N0, .int x1, .ref (N0 + 16)] : List Value)).length) Slot.unset).toArray = ls at hl ⊢
  have hl : lv_has ls 4 [(0, .ref N0), (1, .int x1), (2, .ref (N0 + 16))] := hl
  refine lv_aload_n hx hb dL_ring_0 rfl (lv_at hl 2 rfl) ?_
  refine lv_iconst (v := 0) hx hb dL_ring_1 (by decide) ?_
  refine lv_aload_n hx hb dL_ring_2 rfl (lv_at hl 0 rfl) ?_
  refine lv_iload_n hx hb dL_ring_3 rfl (lv_at hl 1 rfl) ?_
  refine thr_catch (cc := cL_ring) (E := "java/lang/IndexOutOfBoundsException") (name := "java/lang/IndexOutOfBoundsException") (vx_runV (As := [.int x1]) (rest := [.int 0, .ref (N0 + 16)]) ⟨hx, hb, hml, hown, hw⟩ (kt_F_ring l hl0 N0 dC dI cL cI cO N0 (N0 + 1) (adB bs) v x1 _ h) (cwV 1 hw (gV w_247 w_248 w_249 w_1 w_250) rfl rfl rfl (by decide +kernel) ⟨Nat.le_of_ble_eq_true rfl, Nat.le_of_ble_eq_true rfl⟩) ⟨ev_blind, va_recv hK hPx.1.1 (ci := 1) (q0 := 0) rfl rfl, ev_pre hPx.1 hK hev.1⟩ rfl rfl hl.1 rfl (lv_room (Nat.le_of_ble_eq_true rfl)) dL_ring_4 ⟨Nat.le_of_ble_eq_true rfl, Nat.le_of_ble_eq_true rfl⟩) hown [] ⟨0, 16, 19, 27⟩ [⟨0, 16, 22, 29⟩] htab (fun z hz => by cases hz) (by decide) (by decide) (hw _ w_198) (va_Nw.use (w := .castable "java/lang/IndexOutOfBoundsException" "java/lang/IndexOutOfBoundsException") rfl (hev.1.1 _ (by decide +kernel))) (fun q H1 locs hS => ?_)
  refine lv_astore_n (lv' := [(3, .ref q), (0, .ref N0), (1, .int x1), (2, .ref (N0 + 16))]) hx hb dL_ring_19 rfl hl (by decide) rfl (fun ls hl => ?_)
  refine lv_iconst (v := 1) hx hb dL_ring_20 (by decide) ?_
  refine W.widen (k := 4) (n := 152) (Nat.le_of_ble_eq_true rfl) (Nat.le_of_ble_eq_true rfl) ?_
  have hk : ∀ q : Nat, q < s.heap.size → H1[q]? = s.heap[q]? := fun q hq => hS.2.1 q hq (fun z => z)
  exact W.iret hx hb hr (fun t ht hW => ⟨rfl, ⟨⟨bs, by rw [ht]; exact sfs_out hPx hS.1 (fun q hq _ => hk q hq)⟩, by rw [ht]; exact out_keep hO (fun q hq _ => hk q hq)⟩, (hS.F ht).mono (fun _ z => z.elim)⟩) (fun q hq => (hS.2.2 q hq).elim) dL_ring_21
set_option maxHeartbeats 1000000 in
set_option maxRecDepth 100000 in
theorem kxISE_L_ring (l : Launch) (hl0 : l.stackTraces = false) (N0 sz : Nat) (dC : Nat → ClassId) (dI : Nat → Nat → Nat) (cL cI cO : ClassId) (bs : Nat → Nat) (v : CV) (fo : Nat → Int64) (x1 : Int32) (h : g_F_ring v x1 = some "java/lang/IllegalStateException") : Met l yL_ring wsL_ring ({ frames := 8, cells := 4, slots := 152, locals := 144 }) (hl_Pc N0 [.ref N0, .int x1, .ref (N0 + 16)] (fun H => (SFS (dC, dI) cL cI cO N0 bs v H ∧ H.size = sz) ∧ va_P (dC, dI) cls3 (outW cL N0 fo) H) (dC, dI) cls3 (ty3 cL cI cO)) (al_Q (some (.int 2)) (fun H => (∃ bs', SFS (dC, dI) cL cI cO N0 bs' v H) ∧ va_P (dC, dI) cls3 (outW cL N0 fo) H) (inL N0)) 4 152 (inL N0) := by
  refine met_ofWH (cc := cL_ring) (maxL := 4) (ret := (some .int)) (hh := [(0, 16, 19, 27), (0, 16, 22, 29)]) (by decide) rfl ?_
  intro p e s m args below meth c s₁ B hml htab hv
  obtain ⟨rfl, ⟨⟨hPx, hz0⟩, hO⟩, hK, hev⟩ := hv
  have hx := B.exec
  have hb := B.bytes
  have hr := B.returns
  have hw : ∀ w ∈ wG, w.before ([.ref N0, .int x1, .ref (N0 + 16)] : List Value).toArray s = true := fun w hq => atoms_spec (ws := wsL_ring) B.pre w (List.mem_cons_of_mem _ hq)
  have hown : s.vm.findClass R_L = some m.cls := findClass_of_methodNamed B.named
  have hlocks := B.notSynchronized
  have hl := lv_entry ([.ref N0, .int x1, .ref (N0 + 16)] : List Value) (n := 4) (Nat.le_of_ble_eq_true rfl)
  rw [lg_entry_eq]
  generalize (lg_sl ([.ref N0, .int x1, .ref (N0 + 16)] : List Value) ++ List.replicate (4 - (lg_sl ([.ref N0, .int x1, .ref (N0 + 16)] : List Value)).length) Slot.unset).toArray = ls at hl ⊢
  have hl : lv_has ls 4 [(0, .ref N0), (1, .int x1), (2, .ref (N0 + 16))] := hl
  refine lv_aload_n hx hb dL_ring_0 rfl (lv_at hl 2 rfl) ?_
  refine lv_iconst (v := 0) hx hb dL_ring_1 (by decide) ?_
  refine lv_aload_n hx hb dL_ring_2 rfl (lv_at hl 0 rfl) ?_
  refine lv_iload_n hx hb dL_ring_3 rfl (lv_at hl 1 rfl) ?_
  refine thr_catch (cc := cL_ring) (E := "java/lang/IllegalStateException") (name := "java/lang/IllegalStateException") (vx_runV (As := [.int x1]) (rest := [.int 0, .ref (N0 + 16)]) ⟨hx, hb, hml, hown, hw⟩ (kt_F_ring l hl0 N0 dC dI cL cI cO N0 (N0 + 1) (adB bs) v x1 _ h) (cwV 1 hw (gV w_247 w_248 w_249 w_1 w_250) rfl rfl rfl (by decide +kernel) ⟨Nat.le_of_ble_eq_true rfl, Nat.le_of_ble_eq_true rfl⟩) ⟨ev_blind, va_recv hK hPx.1.1 (ci := 1) (q0 := 0) rfl rfl, ev_pre hPx.1 hK hev.1⟩ rfl rfl hl.1 rfl (lv_room (Nat.le_of_ble_eq_true rfl)) dL_ring_4 ⟨Nat.le_of_ble_eq_true rfl, Nat.le_of_ble_eq_true rfl⟩) hown [⟨0, 16, 19, 27⟩] ⟨0, 16, 22, 29⟩ [] htab (fun z hz => by have e := List.mem_singleton.mp hz; exact (by rw [e]; exact Or.inr ⟨by decide, _, hw _ w_198, hev.2.1⟩)) (by decide) (by decide) (hw _ w_199) (va_Nw.use (w := .castable "java/lang/IllegalStateException" "java/lang/IllegalStateException") rfl (hev.1.1 _ (by decide +kernel))) (fun q H1 locs hS => ?_)
  refine lv_astore_n (lv' := [(3, .ref q), (0, .ref N0), (1, .int x1), (2, .ref (N0 + 16))]) hx hb dL_ring_22 rfl hl (by decide) rfl (fun ls hl => ?_)
  refine lv_iconst (v := 2) hx hb dL_ring_23 (by decide) ?_
  refine W.widen (k := 4) (n := 152) (Nat.le_of_ble_eq_true rfl) (Nat.le_of_ble_eq_true rfl) ?_
  have hk : ∀ q : Nat, q < s.heap.size → H1[q]? = s.heap[q]? := fun q hq => hS.2.1 q hq (fun z => z)
  exact W.iret hx hb hr (fun t ht hW => ⟨rfl, ⟨⟨bs, by rw [ht]; exact sfs_out hPx hS.1 (fun q hq _ => hk q hq)⟩, by rw [ht]; exact out_keep hO (fun q hq _ => hk q hq)⟩, (hS.F ht).mono (fun _ z => z.elim)⟩) (fun q hq => (hS.2.2 q hq).elim) dL_ring_24
theorem dL_grow_0 : decode cL_grow 0 = .ok (.aload 4, 2) := by decide +kernel
theorem dL_grow_2 : decode cL_grow 2 = .ok (.iconst 0, 1) := by decide +kernel
theorem dL_grow_3 : decode cL_grow 3 = .ok (.aload_n 0, 1) := by decide +kernel
theorem dL_grow_4 : decode cL_grow 4 = .ok (.iload_n 1, 1) := by decide +kernel
theorem dL_grow_5 : decode cL_grow 5 = .ok (.lload_n 2, 1) := by decide +kernel
theorem dL_grow_6 : decode cL_grow 6 = .ok (.invokevirtual 35, 3) := by decide +kernel
theorem dL_grow_9 : decode cL_grow 9 = .ok (.i2l, 1) := by decide +kernel
theorem dL_grow_10 : decode cL_grow 10 = .ok (.lastore, 1) := by decide +kernel
theorem dL_grow_11 : decode cL_grow 11 = .ok (.goto 15, 3) := by decide +kernel
theorem dL_grow_14 : decode cL_grow 14 = .ok (.astore 5, 2) := by decide +kernel
theorem dL_grow_16 : decode cL_grow 16 = .ok (.iconst 1, 1) := by decide +kernel
theorem dL_grow_17 : decode cL_grow 17 = .ok (.ireturn, 1) := by decide +kernel
theorem dL_grow_18 : decode cL_grow 18 = .ok (.astore 5, 2) := by decide +kernel
theorem dL_grow_20 : decode cL_grow 20 = .ok (.iconst 2, 1) := by decide +kernel
theorem dL_grow_21 : decode cL_grow 21 = .ok (.ireturn, 1) := by decide +kernel
theorem dL_grow_22 : decode cL_grow 22 = .ok (.astore 5, 2) := by decide +kernel
theorem dL_grow_24 : decode cL_grow 24 = .ok (.iconst 3, 1) := by decide +kernel
theorem dL_grow_25 : decode cL_grow 25 = .ok (.ireturn, 1) := by decide +kernel
theorem dL_grow_26 : decode cL_grow 26 = .ok (.iconst 0, 1) := by decide +kernel
theorem dL_grow_27 : decode cL_grow 27 = .ok (.ireturn, 1) := by decide +kernel
abbrev wsL_grow : List Cond := .codeWith yL_grow cL_grow 6 (some .int) [(0, 11, 14, 27), (0, 11, 18, 29), (0, 11, 22, 13)] :: wG
set_option maxHeartbeats 1000000 in
set_option maxRecDepth 100000 in
theorem kn_L_grow (l : Launch) (N0 sz : Nat) (dC : Nat → ClassId) (dI : Nat → Nat → Nat) (cL cI cO : ClassId) (bs : Nat → Nat) (v : CV) (fo : Nat → Int64) (x1 : Int32) (x2 : Int64) (r : Int32 × CV) (h : f_F_grow v x1 x2 = some r) : Met l yL_grow wsL_grow ({ frames := 8, cells := 4, slots := 152, locals := 138 }) (hl_Pc N0 [.ref N0, .int x1, .long x2, .ref (N0 + 16)] (fun H => (SFS (dC, dI) cL cI cO N0 bs v H ∧ H.size = sz) ∧ va_P (dC, dI) cls3 (outW cL N0 fo) H) (dC, dI) cls3 (ty3 cL cI cO)) (al_Q (some (.int 0)) (fun H => (∃ bs', SFS (dC, dI) cL cI cO N0 bs' r.2 H) ∧ va_P (dC, dI) cls3 (outW cL N0 (vp_updL fo 0 r.1.toInt64)) H) (inL N0)) 4 152 (inL N0) := by
  refine met_ofWH (cc := cL_grow) (maxL := 6) (ret := (some .int)) (hh := [(0, 11, 14, 27), (0, 11, 18, 29), (0, 11, 22, 13)]) (by decide) rfl ?_
  intro p e s m args below meth c s₁ B hml htab hv
  obtain ⟨rfl, ⟨⟨hPx, hz0⟩, hO⟩, hK, hev⟩ := hv
  have hx := B.exec
  have hb := B.bytes
  have hr := B.returns
  have hw : ∀ w ∈ wG, w.before ([.ref N0, .int x1, .long x2, .ref (N0 + 16)] : List Value).toArray s = true := fun w hq => atoms_spec (ws := wsL_grow) B.pre w (List.mem_cons_of_mem _ hq)
  have hown : s.vm.findClass R_L = some m.cls := findClass_of_methodNamed B.named
  have hlocks := B.notSynchronized
  have hl := lv_entry ([.ref N0, .int x1, .long x2, .ref (N0 + 16)] : List Value) (n := 6) (Nat.le_of_ble_eq_true rfl)
  rw [lg_entry_eq]
  generalize (lg_sl ([.ref N0, .int x1, .long x2, .ref (N0 + 16)] : List Value) ++ List.replicate (6 - (lg_sl ([.ref N0, .int x1, .long x2, .ref (N0 + 16)] : List Value)).length) Slot.unset).toArray = ls at hl ⊢
  have hl : lv_has ls 6 [(0, .ref N0), (1, .int x1), (2, .long x2), (4, .ref (N0 + 16))] := hl
  refine lv_aload hx hb dL_grow_0 (lv_at hl 3 rfl) ?_
  refine lv_iconst (v := 0) hx hb dL_grow_2 (by decide) ?_
  refine lv_aload_n hx hb dL_grow_3 rfl (lv_at hl 0 rfl) ?_
  refine lv_iload_n hx hb dL_grow_4 rfl (lv_at hl 1 rfl) ?_
  refine lv_lload_n hx hb dL_grow_5 rfl (lv_at hl 2 rfl) ?_
  refine al_call (va_runV (As := [.int x1, .long x2]) (rest := [.int 0, .ref (N0 + 16)]) ⟨hx, hb, hml, hown, hw⟩ (k_F_grow l dC dI cL cI cO N0 sz bs v x1 x2 r h) (cwV 2 hw (gV w_291 w_292 w_293 w_1 w_294) rfl rfl rfl (by decide +kernel) ⟨Nat.le_of_ble_eq_true rfl, Nat.le_of_ble_eq_true rfl⟩) ⟨rd_blind, va_recv hK hPx.1.1 (ci := 1) (q0 := 0) rfl rfl, rd_pre ⟨hPx, hz0⟩ hK⟩ rfl rfl hl.1 rfl (lv_room (Nat.le_of_ble_eq_true rfl)) dL_grow_6 ⟨Nat.le_of_ble_eq_true rfl, Nat.le_of_ble_eq_true rfl⟩) (A0 := inL N0) va_S.rf (fun _ z => Or.inl z) (fun H locs hG hS hle hk => ?_)
  obtain ⟨bs', hG⟩ := hG
  replace hO := out_keep hO hk
  refine lv_i2l hx hb dL_grow_9 rfl ?_
  refine al_last hx hb hK hO out_D hS 0 0 rfl rfl (x := r.1.toInt64) in01 dL_grow_10 (fun H1 locs hO1 hS hz1 hk1 => ?_)
  refine lv_goto (tgt := 26) hx hb dL_grow_11 (by decide) ?_
  refine lv_iconst (v := 0) hx hb dL_grow_26 (by decide) ?_
  have hG1 := sfs_out hG (Nat.le_of_eq hz1.symm) (fun q _ hq => hk1 q hq)
  refine W.widen (k := 4) (n := 152) (Nat.le_of_ble_eq_true rfl) (Nat.le_of_ble_eq_true rfl) ?_
  exact W.iret hx hb hr (fun t ht hW => ⟨rfl, ⟨⟨_, by rw [ht]; exact hG1⟩, by rw [ht]; exact hO1⟩, hS.F ht⟩) hS.2.2 dL_grow_27
set_option maxHeartbeats 1000000 in
set_option maxRecDepth 100000 in
theorem kxIOB_L_grow (l : Launch) (hl0 : l.stackTraces = false) (N0 sz : Nat) (dC : Nat → ClassId) (dI : Nat → Nat → Nat) (cL cI cO : ClassId) (bs : Nat → Nat) (v : CV) (fo : Nat → Int64) (x1 : Int32) (x2 : Int64) (h : g_F_grow v x1 x2 = some "java/lang/IndexOutOfBoundsException") : Met l yL_grow wsL_grow ({ frames := 8, cells := 4, slots := 152, locals := 138 }) (hl_Pc N0 [.ref N0, .int x1, .long x2, .ref (N0 + 16)] (fun H => (SFS (dC, dI) cL cI cO N0 bs v H ∧ H.size = sz) ∧ va_P (dC, dI) cls3 (outW cL N0 fo) H) (dC, dI) cls3 (ty3 cL cI cO)) (al_Q (some (.int 1)) (fun H => (∃ bs', SFS (dC, dI) cL cI cO N0 bs' v H) ∧ va_P (dC, dI) cls3 (outW cL N0 fo) H) (inL N0)) 4 152 (inL N0) := by
  refine met_ofWH (cc := cL_grow) (maxL := 6) (ret := (some .int)) (hh := [(0, 11, 14, 27), (0, 11, 18, 29), (0, 11, 22, 13)]) (by decide) rfl ?_
  intro p e s m args below meth c s₁ B hml htab hv
  obtain ⟨rfl, ⟨⟨hPx, hz0⟩, hO⟩, hK, hev⟩ := hv
  have hx := B.exec
  have hb := B.bytes
  have hr := B.returns
  have hw : ∀ w ∈ wG, w.before ([.ref N0, .int x1, .long x2, .ref (N0 + 16)] : List Value).toArray s = true := fun w hq => atoms_spec (ws := wsL_grow) B.pre w (List.mem_cons_of_mem _ hq)
  have hown : s.vm.findClass R_L = some m.cls := findClass_of_methodNamed B.named
  have hlocks := B.notSynchronized
  have hl := lv_entry ([.ref N0, .int x1, .long x2, .ref (N0 + 16)] : List Value) (n := 6) (Nat.le_of_ble_eq_true rfl)
  rw [lg_entry_eq]
  generalize (lg_sl ([.ref N0, .int x1, .long x2, .ref (N0 + 16)] : List Value) ++ List.replicate (6 - (lg_sl ([.ref N0, .int x1, .long x2, .ref (N0 + 16)] : List Value)).length) Slot.unset).toArray = ls at hl ⊢
  have hl : lv_has ls 6 [(0, .ref N0), (1, .int x1), (2, .long x2), (4, .ref (N0 + 16))] := hl
  refine lv_aload hx hb dL_grow_0 (lv_at hl 3 rfl) ?_
  refine lv_iconst (v := 0) hx hb dL_grow_2 (by decide) ?_
  refine lv_aload_n hx hb dL_grow_3 rfl (lv_at hl 0 rfl) ?_
  refine lv_iload_n hx hb dL_grow_4 rfl (lv_at hl 1 rfl) ?_
  refine lv_lload_n hx hb dL_grow_5 rfl (lv_at hl 2 rfl) ?_
  refine thr_catch (cc := cL_grow) (E := "java/lang/IndexOutOfBoundsException") (name := "java/lang/IndexOutOfBoundsException") (vx_runV (As := [.int x1, .long x2]) (rest := [.int 0, .ref (N0 + 16)]) ⟨hx, hb, hml, hown, hw⟩ (kt_F_grow l hl0 N0 dC dI cL cI cO N0 (N0 + 1) (adB bs) v x1 x2 _ h) (cwV 2 hw (gV w_291 w_292 w_293 w_1 w_294) rfl rfl rfl (by decide +kernel) ⟨Nat.le_of_ble_eq_true rfl, Nat.le_of_ble_eq_true rfl⟩) ⟨ev_blind, va_recv hK hPx.1.1 (ci := 1) (q0 := 0) rfl rfl, ev_pre hPx.1 hK hev.1⟩ rfl rfl hl.1 rfl (lv_room (Nat.le_of_ble_eq_true rfl)) dL_grow_6 ⟨Nat.le_of_ble_eq_true rfl, Nat.le_of_ble_eq_true rfl⟩) hown [] ⟨0, 11, 14, 27⟩ [⟨0, 11, 18, 29⟩, ⟨0, 11, 22, 13⟩] htab (fun z hz => by cases hz) (by decide) (by decide) (hw _ w_198) (va_Nw.use (w := .castable "java/lang/IndexOutOfBoundsException" "java/lang/IndexOutOfBoundsException") rfl (hev.1.1 _ (by decide +kernel))) (fun q H1 locs hS => ?_)
  refine lv_astore (lv' := [(5, .ref q), (0, .ref N0), (1, .int x1), (2, .long x2), (4, .ref (N0 + 16))]) hx hb dL_grow_14 hl (by decide) rfl (fun ls hl => ?_)
  refine lv_iconst (v := 1) hx hb dL_grow_16 (by decide) ?_
  refine W.widen (k := 4) (n := 152) (Nat.le_of_ble_eq_true rfl) (Nat.le_of_ble_eq_true rfl) ?_
  have hk : ∀ q : Nat, q < s.heap.size → H1[q]? = s.heap[q]? := fun q hq => hS.2.1 q hq (fun z => z)
  exact W.iret hx hb hr (fun t ht hW => ⟨rfl, ⟨⟨bs, by rw [ht]; exact sfs_out hPx hS.1 (fun q hq _ => hk q hq)⟩, by rw [ht]; exact out_keep hO (fun q hq _ => hk q hq)⟩, (hS.F ht).mono (fun _ z => z.elim)⟩) (fun q hq => (hS.2.2 q hq).elim) dL_grow_17
set_option maxHeartbeats 1000000 in
set_option maxRecDepth 100000 in
theorem kxISE_L_grow (l : Launch) (hl0 : l.stackTraces = false) (N0 sz : Nat) (dC : Nat → ClassId) (dI : Nat → Nat → Nat) (cL cI cO : ClassId) (bs : Nat → Nat) (v : CV) (fo : Nat → Int64) (x1 : Int32) (x2 : Int64) (h : g_F_grow v x1 x2 = some "java/lang/IllegalStateException") : Met l yL_grow wsL_grow ({ frames := 8, cells := 4, slots := 152, locals := 138 }) (hl_Pc N0 [.ref N0, .int x1, .long x2, .ref (N0 + 16)] (fun H => (SFS (dC, dI) cL cI cO N0 bs v H ∧ H.size = sz) ∧ va_P (dC, dI) cls3 (outW cL N0 fo) H) (dC, dI) cls3 (ty3 cL cI cO)) (al_Q (some (.int 2)) (fun H => (∃ bs', SFS (dC, dI) cL cI cO N0 bs' v H) ∧ va_P (dC, dI) cls3 (outW cL N0 fo) H) (inL N0)) 4 152 (inL N0) := by
  refine met_ofWH (cc := cL_grow) (maxL := 6) (ret := (some .int)) (hh := [(0, 11, 14, 27), (0, 11, 18, 29), (0, 11, 22, 13)]) (by decide) rfl ?_
  intro p e s m args below meth c s₁ B hml htab hv
  obtain ⟨rfl, ⟨⟨hPx, hz0⟩, hO⟩, hK, hev⟩ := hv
  have hx := B.exec
  have hb := B.bytes
  have hr := B.returns
  have hw : ∀ w ∈ wG, w.before ([.ref N0, .int x1, .long x2, .ref (N0 + 16)] : List Value).toArray s = true := fun w hq => atoms_spec (ws := wsL_grow) B.pre w (List.mem_cons_of_mem _ hq)
  have hown : s.vm.findClass R_L = some m.cls := findClass_of_methodNamed B.named
  have hlocks := B.notSynchronized
  have hl := lv_entry ([.ref N0, .int x1, .long x2, .ref (N0 + 16)] : List Value) (n := 6) (Nat.le_of_ble_eq_true rfl)
  rw [lg_entry_eq]
  generalize (lg_sl ([.ref N0, .int x1, .long x2, .ref (N0 + 16)] : List Value) ++ List.replicate (6 - (lg_sl ([.ref N0, .int x1, .long x2, .ref (N0 + 16)] : List Value)).length) Slot.unset).toArray = ls at hl ⊢
  have hl : lv_has ls 6 [(0, .ref N0), (1, .int x1), (2, .long x2), (4, .ref (N0 + 16))] := hl
  refine lv_aload hx hb dL_grow_0 (lv_at hl 3 rfl) ?_
  refine lv_iconst (v := 0) hx hb dL_grow_2 (by decide) ?_
  refine lv_aload_n hx hb dL_grow_3 rfl (lv_at hl 0 rfl) ?_
  refine lv_iload_n hx hb dL_grow_4 rfl (lv_at hl 1 rfl) ?_
  refine lv_lload_n hx hb dL_grow_5 rfl (lv_at hl 2 rfl) ?_
  refine thr_catch (cc := cL_grow) (E := "java/lang/IllegalStateException") (name := "java/lang/IllegalStateException") (vx_runV (As := [.int x1, .long x2]) (rest := [.int 0, .ref (N0 + 16)]) ⟨hx, hb, hml, hown, hw⟩ (kt_F_grow l hl0 N0 dC dI cL cI cO N0 (N0 + 1) (adB bs) v x1 x2 _ h) (cwV 2 hw (gV w_291 w_292 w_293 w_1 w_294) rfl rfl rfl (by decide +kernel) ⟨Nat.le_of_ble_eq_true rfl, Nat.le_of_ble_eq_true rfl⟩) ⟨ev_blind, va_recv hK hPx.1.1 (ci := 1) (q0 := 0) rfl rfl, ev_pre hPx.1 hK hev.1⟩ rfl rfl hl.1 rfl (lv_room (Nat.le_of_ble_eq_true rfl)) dL_grow_6 ⟨Nat.le_of_ble_eq_true rfl, Nat.le_of_ble_eq_true rfl⟩) hown [⟨0, 11, 14, 27⟩] ⟨0, 11, 18, 29⟩ [⟨0, 11, 22, 13⟩] htab (fun z hz => by have e := List.mem_singleton.mp hz; exact (by rw [e]; exact Or.inr ⟨by decide, _, hw _ w_198, hev.2.1⟩)) (by decide) (by decide) (hw _ w_199) (va_Nw.use (w := .castable "java/lang/IllegalStateException" "java/lang/IllegalStateException") rfl (hev.1.1 _ (by decide +kernel))) (fun q H1 locs hS => ?_)
  refine lv_astore (lv' := [(5, .ref q), (0, .ref N0), (1, .int x1), (2, .long x2), (4, .ref (N0 + 16))]) hx hb dL_grow_18 hl (by decide) rfl (fun ls hl => ?_)
  refine lv_iconst (v := 2) hx hb dL_grow_20 (by decide) ?_
  refine W.widen (k := 4) (n := 152) (Nat.le_of_ble_eq_true rfl) (Nat.le_of_ble_eq_true rfl) ?_
  have hk : ∀ q : Nat, q < s.heap.size → H1[q]? = s.heap[q]? := fun q hq => hS.2.1 q hq (fun z => z)
  exact W.iret hx hb hr (fun t ht hW => ⟨rfl, ⟨⟨bs, by rw [ht]; exact sfs_out hPx hS.1 (fun q hq _ => hk q hq)⟩, by rw [ht]; exact out_keep hO (fun q hq _ => hk q hq)⟩, (hS.F ht).mono (fun _ z => z.elim)⟩) (fun q hq => (hS.2.2 q hq).elim) dL_grow_21
set_option maxHeartbeats 1000000 in
set_option maxRecDepth 100000 in
theorem kxIAE_L_grow (l : Launch) (hl0 : l.stackTraces = false) (N0 sz : Nat) (dC : Nat → ClassId) (dI : Nat → Nat → Nat) (cL cI cO : ClassId) (bs : Nat → Nat) (v : CV) (fo : Nat → Int64) (x1 : Int32) (x2 : Int64) (h : g_F_grow v x1 x2 = some "java/lang/IllegalArgumentException") : Met l yL_grow wsL_grow ({ frames := 8, cells := 4, slots := 152, locals := 138 }) (hl_Pc N0 [.ref N0, .int x1, .long x2, .ref (N0 + 16)] (fun H => (SFS (dC, dI) cL cI cO N0 bs v H ∧ H.size = sz) ∧ va_P (dC, dI) cls3 (outW cL N0 fo) H) (dC, dI) cls3 (ty3 cL cI cO)) (al_Q (some (.int 3)) (fun H => (∃ bs', SFS (dC, dI) cL cI cO N0 bs' v H) ∧ va_P (dC, dI) cls3 (outW cL N0 fo) H) (inL N0)) 4 152 (inL N0) := by
  refine met_ofWH (cc := cL_grow) (maxL := 6) (ret := (some .int)) (hh := [(0, 11, 14, 27), (0, 11, 18, 29), (0, 11, 22, 13)]) (by decide) rfl ?_
  intro p e s m args below meth c s₁ B hml htab hv
  obtain ⟨rfl, ⟨⟨hPx, hz0⟩, hO⟩, hK, hev⟩ := hv
  have hx := B.exec
  have hb := B.bytes
  have hr := B.returns
  have hw : ∀ w ∈ wG, w.before ([.ref N0, .int x1, .long x2, .ref (N0 + 16)] : List Value).toArray s = true := fun w hq => atoms_spec (ws := wsL_grow) B.pre w (List.mem_cons_of_mem _ hq)
  have hown : s.vm.findClass R_L = some m.cls := findClass_of_methodNamed B.named
  have hlocks := B.notSynchronized
  have hl := lv_entry ([.ref N0, .int x1, .long x2, .ref (N0 + 16)] : List Value) (n := 6) (Nat.le_of_ble_eq_true rfl)
  rw [lg_entry_eq]
  generalize (lg_sl ([.ref N0, .int x1, .long x2, .ref (N0 + 16)] : List Value) ++ List.replicate (6 - (lg_sl ([.ref N0, .int x1, .long x2, .ref (N0 + 16)] : List Value)).length) Slot.unset).toArray = ls at hl ⊢
  have hl : lv_has ls 6 [(0, .ref N0), (1, .int x1), (2, .long x2), (4, .ref (N0 + 16))] := hl
  refine lv_aload hx hb dL_grow_0 (lv_at hl 3 rfl) ?_
  refine lv_iconst (v := 0) hx hb dL_grow_2 (by decide) ?_
  refine lv_aload_n hx hb dL_grow_3 rfl (lv_at hl 0 rfl) ?_
  refine lv_iload_n hx hb dL_grow_4 rfl (lv_at hl 1 rfl) ?_
  refine lv_lload_n hx hb dL_grow_5 rfl (lv_at hl 2 rfl) ?_
  refine thr_catch (cc := cL_grow) (E := "java/lang/IllegalArgumentException") (name := "java/lang/IllegalArgumentException") (vx_runV (As := [.int x1, .long x2]) (rest := [.int 0, .ref (N0 + 16)]) ⟨hx, hb, hml, hown, hw⟩ (kt_F_grow l hl0 N0 dC dI cL cI cO N0 (N0 + 1) (adB bs) v x1 x2 _ h) (cwV 2 hw (gV w_291 w_292 w_293 w_1 w_294) rfl rfl rfl (by decide +kernel) ⟨Nat.le_of_ble_eq_true rfl, Nat.le_of_ble_eq_true rfl⟩) ⟨ev_blind, va_recv hK hPx.1.1 (ci := 1) (q0 := 0) rfl rfl, ev_pre hPx.1 hK hev.1⟩ rfl rfl hl.1 rfl (lv_room (Nat.le_of_ble_eq_true rfl)) dL_grow_6 ⟨Nat.le_of_ble_eq_true rfl, Nat.le_of_ble_eq_true rfl⟩) hown [⟨0, 11, 14, 27⟩, ⟨0, 11, 18, 29⟩] ⟨0, 11, 22, 13⟩ [] htab (fun z hz => by rcases List.mem_cons.mp hz with e | hz; exact (by rw [e]; exact Or.inr ⟨by decide, _, hw _ w_198, hev.2.2.1⟩); have e := List.mem_singleton.mp hz; exact (by rw [e]; exact Or.inr ⟨by decide, _, hw _ w_199, hev.2.2.2⟩)) (by decide) (by decide) (hw _ w_81) (va_Nw.use (w := .castable "java/lang/IllegalArgumentException" "java/lang/IllegalArgumentException") rfl (hev.1.1 _ (by decide +kernel))) (fun q H1 locs hS => ?_)
  refine lv_astore (lv' := [(5, .ref q), (0, .ref N0), (1, .int x1), (2, .long x2), (4, .ref (N0 + 16))]) hx hb dL_grow_22 hl (by decide) rfl (fun ls hl => ?_)
  refine lv_iconst (v := 3) hx hb dL_grow_24 (by decide) ?_
  refine W.widen (k := 4) (n := 152) (Nat.le_of_ble_eq_true rfl) (Nat.le_of_ble_eq_true rfl) ?_
  have hk : ∀ q : Nat, q < s.heap.size → H1[q]? = s.heap[q]? := fun q hq => hS.2.1 q hq (fun z => z)
  exact W.iret hx hb hr (fun t ht hW => ⟨rfl, ⟨⟨bs, by rw [ht]; exact sfs_out hPx hS.1 (fun q hq _ => hk q hq)⟩, by rw [ht]; exact out_keep hO (fun q hq _ => hk q hq)⟩, (hS.F ht).mono (fun _ z => z.elim)⟩) (fun q hq => (hS.2.2 q hq).elim) dL_grow_25
theorem dL_inside_0 : decode cL_inside 0 = .ok (.aload 6, 2) := by decide +kernel
theorem dL_inside_2 : decode cL_inside 2 = .ok (.iconst 0, 1) := by decide +kernel
theorem dL_inside_3 : decode cL_inside 3 = .ok (.aload_n 0, 1) := by decide +kernel
theorem dL_inside_4 : decode cL_inside 4 = .ok (.iload_n 1, 1) := by decide +kernel
theorem dL_inside_5 : decode cL_inside 5 = .ok (.lload_n 2, 1) := by decide +kernel
theorem dL_inside_6 : decode cL_inside 6 = .ok (.lload 4, 2) := by decide +kernel
theorem dL_inside_8 : decode cL_inside 8 = .ok (.invokevirtual 39, 3) := by decide +kernel
theorem dL_inside_11 : decode cL_inside 11 = .ok (.ifCond .eq 7, 3) := by decide +kernel
theorem dL_inside_14 : decode cL_inside 14 = .ok (.lconst 1, 1) := by decide +kernel
theorem dL_inside_15 : decode cL_inside 15 = .ok (.goto 4, 3) := by decide +kernel
theorem dL_inside_18 : decode cL_inside 18 = .ok (.lconst 0, 1) := by decide +kernel
theorem dL_inside_19 : decode cL_inside 19 = .ok (.lastore, 1) := by decide +kernel
theorem dL_inside_20 : decode cL_inside 20 = .ok (.goto 15, 3) := by decide +kernel
theorem dL_inside_23 : decode cL_inside 23 = .ok (.astore 7, 2) := by decide +kernel
theorem dL_inside_25 : decode cL_inside 25 = .ok (.iconst 1, 1) := by decide +kernel
theorem dL_inside_26 : decode cL_inside 26 = .ok (.ireturn, 1) := by decide +kernel
theorem dL_inside_27 : decode cL_inside 27 = .ok (.astore 7, 2) := by decide +kernel
theorem dL_inside_29 : decode cL_inside 29 = .ok (.iconst 2, 1) := by decide +kernel
theorem dL_inside_30 : decode cL_inside 30 = .ok (.ireturn, 1) := by decide +kernel
theorem dL_inside_31 : decode cL_inside 31 = .ok (.astore 7, 2) := by decide +kernel
theorem dL_inside_33 : decode cL_inside 33 = .ok (.iconst 3, 1) := by decide +kernel
theorem dL_inside_34 : decode cL_inside 34 = .ok (.ireturn, 1) := by decide +kernel
theorem dL_inside_35 : decode cL_inside 35 = .ok (.iconst 0, 1) := by decide +kernel
theorem dL_inside_36 : decode cL_inside 36 = .ok (.ireturn, 1) := by decide +kernel
abbrev wsL_inside : List Cond := .codeWith yL_inside cL_inside 8 (some .int) [(0, 20, 23, 27), (0, 20, 27, 29), (0, 20, 31, 13)] :: wG
set_option maxHeartbeats 1000000 in
set_option maxRecDepth 100000 in
theorem kn_L_inside (l : Launch) (N0 sz : Nat) (dC : Nat → ClassId) (dI : Nat → Nat → Nat) (cL cI cO : ClassId) (bs : Nat → Nat) (v : CV) (fo : Nat → Int64) (x1 : Int32) (x2 : Int64) (x4 : Int64) (r : Int32) (h : f_F_inside v x1 x2 x4 = some r) : Met l yL_inside wsL_inside ({ frames := 8, cells := 4, slots := 152, locals := 155 }) (hl_Pc N0 [.ref N0, .int x1, .long x2, .long x4, .ref (N0 + 16)] (fun H => (SFS (dC, dI) cL cI cO N0 bs v H ∧ H.size = sz) ∧ va_P (dC, dI) cls3 (outW cL N0 fo) H) (dC, dI) cls3 (ty3 cL cI cO)) (al_Q (some (.int 0)) (fun H => (∃ bs', SFS (dC, dI) cL cI cO N0 bs' v H) ∧ va_P (dC, dI) cls3 (outW cL N0 (vp_updL fo 0 (bl r))) H) (inL N0)) 4 152 (inL N0) := by
  refine met_ofWH (cc := cL_inside) (maxL := 8) (ret := (some .int)) (hh := [(0, 20, 23, 27), (0, 20, 27, 29), (0, 20, 31, 13)]) (by decide) rfl ?_
  intro p e s m args below meth c s₁ B hml htab hv
  obtain ⟨rfl, ⟨⟨hPx, hz0⟩, hO⟩, hK, hev⟩ := hv
  have hx := B.exec
  have hb := B.bytes
  have hr := B.returns
  have hw : ∀ w ∈ wG, w.before ([.ref N0, .int x1, .long x2, .long x4, .ref (N0 + 16)] : List Value).toArray s = true := fun w hq => atoms_spec (ws := wsL_inside) B.pre w (List.mem_cons_of_mem _ hq)
  have hown : s.vm.findClass R_L = some m.cls := findClass_of_methodNamed B.named
  have hlocks := B.notSynchronized
  have hl := lv_entry ([.ref N0, .int x1, .long x2, .long x4, .ref (N0 + 16)] : List Value) (n := 8) (Nat.le_of_ble_eq_true rfl)
  rw [lg_entry_eq]
  generalize (lg_sl ([.ref N0, .int x1, .long x2, .long x4, .ref (N0 + 16)] : List Value) ++ List.replicate (8 - (lg_sl ([.ref N0, .int x1, .long x2, .long x4, .ref (N0 + 16)] : List Value)).length) Slot.unset).toArray = ls at hl ⊢
  have hl : lv_has ls 8 [(0, .ref N0), (1, .int x1), (2, .long x2), (4, .long x4), (6, .ref (N0 + 16))] := hl
  refine lv_aload hx hb dL_inside_0 (lv_at hl 4 rfl) ?_
  refine lv_iconst (v := 0) hx hb dL_inside_2 (by decide) ?_
  refine lv_aload_n hx hb dL_inside_3 rfl (lv_at hl 0 rfl) ?_
  refine lv_iload_n hx hb dL_inside_4 rfl (lv_at hl 1 rfl) ?_
  refine lv_lload_n hx hb dL_inside_5 rfl (lv_at hl 2 rfl) ?_
  refine lv_lload hx hb dL_inside_6 (lv_at hl 3 rfl) ?_
  refine vp_callSi (va_Run.run (va_runV (As := [.int x1, .long x2, .long x4]) (rest := [.int 0, .ref (N0 + 16)]) ⟨hx, hb, hml, hown, hw⟩ (k_F_inside l dC dI cL cI cO N0 (N0 + 1) (adB bs) v x1 x2 x4 r h) (cwV 3 hw (gV w_315 w_316 w_317 w_1 w_318) rfl rfl rfl (by decide +kernel) ⟨Nat.le_of_ble_eq_true rfl, Nat.le_of_ble_eq_true rfl⟩) ⟨rd_blind, va_recv hK hPx.1.1 (ci := 1) (q0 := 0) rfl rfl, rd_pre hPx.1 hK⟩ rfl rfl hl.1 rfl (lv_room (Nat.le_of_ble_eq_true rfl)) dL_inside_8 ⟨Nat.le_of_ble_eq_true rfl, Nat.le_of_ble_eq_true rfl⟩)) (fun z hz9 => ?_)
  rw [hz9]; clear hz9
  obtain ⟨H, hH⟩ : ∃ H : Heap, H = s.heap := ⟨_, rfl⟩
  rw [← hH] at hO ⊢
  have hS : va_S (inL N0) s.heap H [] := by rw [hH]; exact va_S.rf
  have hG : SFS (dC, dI) cL cI cO N0 bs v H := by rw [hH]; exact hPx
  refine lv_if_eq (tgt := 18) hx hb dL_inside_11 (by decide) (fun c1 => ?_) (fun c1 => ?_)
  · rw [show bl r = 0 from if_pos c1]
    refine lv_lconst (v := 0) hx hb dL_inside_18 (by decide) ?_
    refine al_last hx hb hK hO out_D hS 0 0 rfl rfl (x := 0) in01 dL_inside_19 (fun H1 locs hO1 hS hz1 hk1 => ?_)
    refine lv_goto (tgt := 35) hx hb dL_inside_20 (by decide) ?_
    refine lv_iconst (v := 0) hx hb dL_inside_35 (by decide) ?_
    have hG1 := sfs_out hG (Nat.le_of_eq hz1.symm) (fun q _ hq => hk1 q hq)
    refine W.widen (k := 4) (n := 152) (Nat.le_of_ble_eq_true rfl) (Nat.le_of_ble_eq_true rfl) ?_
    exact W.iret hx hb hr (fun t ht hW => ⟨rfl, ⟨⟨_, by rw [ht]; exact hG1⟩, by rw [ht]; exact hO1⟩, hS.F ht⟩) hS.2.2 dL_inside_36
  · rw [show bl r = 1 from if_neg c1]
    refine lv_lconst (v := 1) hx hb dL_inside_14 (by decide) ?_
    refine lv_goto (tgt := 19) hx hb dL_inside_15 (by decide) ?_
    refine al_last hx hb hK hO out_D hS 0 0 rfl rfl (x := 1) in01 dL_inside_19 (fun H1 locs hO1 hS hz1 hk1 => ?_)
    refine lv_goto (tgt := 35) hx hb dL_inside_20 (by decide) ?_
    refine lv_iconst (v := 0) hx hb dL_inside_35 (by decide) ?_
    have hG1 := sfs_out hG (Nat.le_of_eq hz1.symm) (fun q _ hq => hk1 q hq)
    refine W.widen (k := 4) (n := 152) (Nat.le_of_ble_eq_true rfl) (Nat.le_of_ble_eq_true rfl) ?_
    exact W.iret hx hb hr (fun t ht hW => ⟨rfl, ⟨⟨_, by rw [ht]; exact hG1⟩, by rw [ht]; exact hO1⟩, hS.F ht⟩) hS.2.2 dL_inside_36
set_option maxHeartbeats 1000000 in
set_option maxRecDepth 100000 in
theorem kxIOB_L_inside (l : Launch) (hl0 : l.stackTraces = false) (N0 sz : Nat) (dC : Nat → ClassId) (dI : Nat → Nat → Nat) (cL cI cO : ClassId) (bs : Nat → Nat) (v : CV) (fo : Nat → Int64) (x1 : Int32) (x2 : Int64) (x4 : Int64) (h : g_F_inside v x1 x2 x4 = some "java/lang/IndexOutOfBoundsException") : Met l yL_inside wsL_inside ({ frames := 8, cells := 4, slots := 152, locals := 155 }) (hl_Pc N0 [.ref N0, .int x1, .long x2, .long x4, .ref (N0 + 16)] (fun H => (SFS (dC, dI) cL cI cO N0 bs v H ∧ H.size = sz) ∧ va_P (dC, dI) cls3 (outW cL N0 fo) H) (dC, dI) cls3 (ty3 cL cI cO)) (al_Q (some (.int 1)) (fun H => (∃ bs', SFS (dC, dI) cL cI cO N0 bs' v H) ∧ va_P (dC, dI) cls3 (outW cL N0 fo) H) (inL N0)) 4 152 (inL N0) := by
  refine met_ofWH (cc := cL_inside) (maxL := 8) (ret := (some .int)) (hh := [(0, 20, 23, 27), (0, 20, 27, 29), (0, 20, 31, 13)]) (by decide) rfl ?_
  intro p e s m args below meth c s₁ B hml htab hv
  obtain ⟨rfl, ⟨⟨hPx, hz0⟩, hO⟩, hK, hev⟩ := hv
  have hx := B.exec
  have hb := B.bytes
  have hr := B.returns
  have hw : ∀ w ∈ wG, w.before ([.ref N0, .int x1, .long x2, .long x4, .ref (N0 + 16)] : List Value).toArray s = true := fun w hq => atoms_spec (ws := wsL_inside) B.pre w (List.mem_cons_of_mem _ hq)
  have hown : s.vm.findClass R_L = some m.cls := findClass_of_methodNamed B.named
  have hlocks := B.notSynchronized
  have hl := lv_entry ([.ref N0, .int x1, .long x2, .long x4, .ref (N0 + 16)] : List Value) (n := 8) (Nat.le_of_ble_eq_true rfl)
  rw [lg_entry_eq]
  generalize (lg_sl ([.ref N0, .int x1, .long x2, .long x4, .ref (N0 + 16)] : List Value) ++ List.replicate (8 - (lg_sl ([.ref N0, .int x1, .long x2, .long x4, .ref (N0 + 16)] : List Value)).length) Slot.unset).toArray = ls at hl ⊢
  have hl : lv_has ls 8 [(0, .ref N0), (1, .int x1), (2, .long x2), (4, .long x4), (6, .ref (N0 + 16))] := hl
  refine lv_aload hx hb dL_inside_0 (lv_at hl 4 rfl) ?_
  refine lv_iconst (v := 0) hx hb dL_inside_2 (by decide) ?_
  refine lv_aload_n hx hb dL_inside_3 rfl (lv_at hl 0 rfl) ?_
  refine lv_iload_n hx hb dL_inside_4 rfl (lv_at hl 1 rfl) ?_
  refine lv_lload_n hx hb dL_inside_5 rfl (lv_at hl 2 rfl) ?_
  refine lv_lload hx hb dL_inside_6 (lv_at hl 3 rfl) ?_
  refine thr_catch (cc := cL_inside) (E := "java/lang/IndexOutOfBoundsException") (name := "java/lang/IndexOutOfBoundsException") (vx_runV (As := [.int x1, .long x2, .long x4]) (rest := [.int 0, .ref (N0 + 16)]) ⟨hx, hb, hml, hown, hw⟩ (kt_F_inside l hl0 N0 dC dI cL cI cO N0 (N0 + 1) (adB bs) v x1 x2 x4 _ h) (cwV 3 hw (gV w_315 w_316 w_317 w_1 w_318) rfl rfl rfl (by decide +kernel) ⟨Nat.le_of_ble_eq_true rfl, Nat.le_of_ble_eq_true rfl⟩) ⟨ev_blind, va_recv hK hPx.1.1 (ci := 1) (q0 := 0) rfl rfl, ev_pre hPx.1 hK hev.1⟩ rfl rfl hl.1 rfl (lv_room (Nat.le_of_ble_eq_true rfl)) dL_inside_8 ⟨Nat.le_of_ble_eq_true rfl, Nat.le_of_ble_eq_true rfl⟩) hown [] ⟨0, 20, 23, 27⟩ [⟨0, 20, 27, 29⟩, ⟨0, 20, 31, 13⟩] htab (fun z hz => by cases hz) (by decide) (by decide) (hw _ w_198) (va_Nw.use (w := .castable "java/lang/IndexOutOfBoundsException" "java/lang/IndexOutOfBoundsException") rfl (hev.1.1 _ (by decide +kernel))) (fun q H1 locs hS => ?_)
  refine lv_astore (lv' := [(7, .ref q), (0, .ref N0), (1, .int x1), (2, .long x2), (4, .long x4), (6, .ref (N0 + 16))]) hx hb dL_inside_23 hl (by decide) rfl (fun ls hl => ?_)
  refine lv_iconst (v := 1) hx hb dL_inside_25 (by decide) ?_
  refine W.widen (k := 4) (n := 152) (Nat.le_of_ble_eq_true rfl) (Nat.le_of_ble_eq_true rfl) ?_
  have hk : ∀ q : Nat, q < s.heap.size → H1[q]? = s.heap[q]? := fun q hq => hS.2.1 q hq (fun z => z)
  exact W.iret hx hb hr (fun t ht hW => ⟨rfl, ⟨⟨bs, by rw [ht]; exact sfs_out hPx hS.1 (fun q hq _ => hk q hq)⟩, by rw [ht]; exact out_keep hO (fun q hq _ => hk q hq)⟩, (hS.F ht).mono (fun _ z => z.elim)⟩) (fun q hq => (hS.2.2 q hq).elim) dL_inside_26
set_option maxHeartbeats 1000000 in
set_option maxRecDepth 100000 in
theorem kxISE_L_inside (l : Launch) (hl0 : l.stackTraces = false) (N0 sz : Nat) (dC : Nat → ClassId) (dI : Nat → Nat → Nat) (cL cI cO : ClassId) (bs : Nat → Nat) (v : CV) (fo : Nat → Int64) (x1 : Int32) (x2 : Int64) (x4 : Int64) (h : g_F_inside v x1 x2 x4 = some "java/lang/IllegalStateException") : Met l yL_inside wsL_inside ({ frames := 8, cells := 4, slots := 152, locals := 155 }) (hl_Pc N0 [.ref N0, .int x1, .long x2, .long x4, .ref (N0 + 16)] (fun H => (SFS (dC, dI) cL cI cO N0 bs v H ∧ H.size = sz) ∧ va_P (dC, dI) cls3 (outW cL N0 fo) H) (dC, dI) cls3 (ty3 cL cI cO)) (al_Q (some (.int 2)) (fun H => (∃ bs', SFS (dC, dI) cL cI cO N0 bs' v H) ∧ va_P (dC, dI) cls3 (outW cL N0 fo) H) (inL N0)) 4 152 (inL N0) := by
  refine met_ofWH (cc := cL_inside) (maxL := 8) (ret := (some .int)) (hh := [(0, 20, 23, 27), (0, 20, 27, 29), (0, 20, 31, 13)]) (by decide) rfl ?_
  intro p e s m args below meth c s₁ B hml htab hv
  obtain ⟨rfl, ⟨⟨hPx, hz0⟩, hO⟩, hK, hev⟩ := hv
  have hx := B.exec
  have hb := B.bytes
  have hr := B.returns
  have hw : ∀ w ∈ wG, w.before ([.ref N0, .int x1, .long x2, .long x4, .ref (N0 + 16)] : List Value).toArray s = true := fun w hq => atoms_spec (ws := wsL_inside) B.pre w (List.mem_cons_of_mem _ hq)
  have hown : s.vm.findClass R_L = some m.cls := findClass_of_methodNamed B.named
  have hlocks := B.notSynchronized
  have hl := lv_entry ([.ref N0, .int x1, .long x2, .long x4, .ref (N0 + 16)] : List Value) (n := 8) (Nat.le_of_ble_eq_true rfl)
  rw [lg_entry_eq]
  generalize (lg_sl ([.ref N0, .int x1, .long x2, .long x4, .ref (N0 + 16)] : List Value) ++ List.replicate (8 - (lg_sl ([.ref N0, .int x1, .long x2, .long x4, .ref (N0 + 16)] : List Value)).length) Slot.unset).toArray = ls at hl ⊢
  have hl : lv_has ls 8 [(0, .ref N0), (1, .int x1), (2, .long x2), (4, .long x4), (6, .ref (N0 + 16))] := hl
  refine lv_aload hx hb dL_inside_0 (lv_at hl 4 rfl) ?_
  refine lv_iconst (v := 0) hx hb dL_inside_2 (by decide) ?_
  refine lv_aload_n hx hb dL_inside_3 rfl (lv_at hl 0 rfl) ?_
  refine lv_iload_n hx hb dL_inside_4 rfl (lv_at hl 1 rfl) ?_
  refine lv_lload_n hx hb dL_inside_5 rfl (lv_at hl 2 rfl) ?_
  refine lv_lload hx hb dL_inside_6 (lv_at hl 3 rfl) ?_
  refine thr_catch (cc := cL_inside) (E := "java/lang/IllegalStateException") (name := "java/lang/IllegalStateException") (vx_runV (As := [.int x1, .long x2, .long x4]) (rest := [.int 0, .ref (N0 + 16)]) ⟨hx, hb, hml, hown, hw⟩ (kt_F_inside l hl0 N0 dC dI cL cI cO N0 (N0 + 1) (adB bs) v x1 x2 x4 _ h) (cwV 3 hw (gV w_315 w_316 w_317 w_1 w_318) rfl rfl rfl (by decide +kernel) ⟨Nat.le_of_ble_eq_true rfl, Nat.le_of_ble_eq_true rfl⟩) ⟨ev_blind, va_recv hK hPx.1.1 (ci := 1) (q0 := 0) rfl rfl, ev_pre hPx.1 hK hev.1⟩ rfl rfl hl.1 rfl (lv_room (Nat.le_of_ble_eq_true rfl)) dL_inside_8 ⟨Nat.le_of_ble_eq_true rfl, Nat.le_of_ble_eq_true rfl⟩) hown [⟨0, 20, 23, 27⟩] ⟨0, 20, 27, 29⟩ [⟨0, 20, 31, 13⟩] htab (fun z hz => by have e := List.mem_singleton.mp hz; exact (by rw [e]; exact Or.inr ⟨by decide, _, hw _ w_198, hev.2.1⟩)) (by decide) (by decide) (hw _ w_199) (va_Nw.use (w := .castable "java/lang/IllegalStateException" "java/lang/IllegalStateException") rfl (hev.1.1 _ (by decide +kernel))) (fun q H1 locs hS => ?_)
  refine lv_astore (lv' := [(7, .ref q), (0, .ref N0), (1, .int x1), (2, .long x2), (4, .long x4), (6, .ref (N0 + 16))]) hx hb dL_inside_27 hl (by decide) rfl (fun ls hl => ?_)
  refine lv_iconst (v := 2) hx hb dL_inside_29 (by decide) ?_
  refine W.widen (k := 4) (n := 152) (Nat.le_of_ble_eq_true rfl) (Nat.le_of_ble_eq_true rfl) ?_
  have hk : ∀ q : Nat, q < s.heap.size → H1[q]? = s.heap[q]? := fun q hq => hS.2.1 q hq (fun z => z)
  exact W.iret hx hb hr (fun t ht hW => ⟨rfl, ⟨⟨bs, by rw [ht]; exact sfs_out hPx hS.1 (fun q hq _ => hk q hq)⟩, by rw [ht]; exact out_keep hO (fun q hq _ => hk q hq)⟩, (hS.F ht).mono (fun _ z => z.elim)⟩) (fun q hq => (hS.2.2 q hq).elim) dL_inside_30
set_option maxHeartbeats 1000000 in
set_option maxRecDepth 100000 in
theorem kxIAE_L_inside (l : Launch) (hl0 : l.stackTraces = false) (N0 sz : Nat) (dC : Nat → ClassId) (dI : Nat → Nat → Nat) (cL cI cO : ClassId) (bs : Nat → Nat) (v : CV) (fo : Nat → Int64) (x1 : Int32) (x2 : Int64) (x4 : Int64) (h : g_F_inside v x1 x2 x4 = some "java/lang/IllegalArgumentException") : Met l yL_inside wsL_inside ({ frames := 8, cells := 4, slots := 152, locals := 155 }) (hl_Pc N0 [.ref N0, .int x1, .long x2, .long x4, .ref (N0 + 16)] (fun H => (SFS (dC, dI) cL cI cO N0 bs v H ∧ H.size = sz) ∧ va_P (dC, dI) cls3 (outW cL N0 fo) H) (dC, dI) cls3 (ty3 cL cI cO)) (al_Q (some (.int 3)) (fun H => (∃ bs', SFS (dC, dI) cL cI cO N0 bs' v H) ∧ va_P (dC, dI) cls3 (outW cL N0 fo) H) (inL N0)) 4 152 (inL N0) := by
  refine met_ofWH (cc := cL_inside) (maxL := 8) (ret := (some .int)) (hh := [(0, 20, 23, 27), (0, 20, 27, 29), (0, 20, 31, 13)]) (by decide) rfl ?_
  intro p e s m args below meth c s₁ B hml htab hv
  obtain ⟨rfl, ⟨⟨hPx, hz0⟩, hO⟩, hK, hev⟩ := hv
  have hx := B.exec
  have hb := B.bytes
  have hr := B.returns
  have hw : ∀ w ∈ wG, w.before ([.ref N0, .int x1, .long x2, .long x4, .ref (N0 + 16)] : List Value).toArray s = true := fun w hq => atoms_spec (ws := wsL_inside) B.pre w (List.mem_cons_of_mem _ hq)
  have hown : s.vm.findClass R_L = some m.cls := findClass_of_methodNamed B.named
  have hlocks := B.notSynchronized
  have hl := lv_entry ([.ref N0, .int x1, .long x2, .long x4, .ref (N0 + 16)] : List Value) (n := 8) (Nat.le_of_ble_eq_true rfl)
  rw [lg_entry_eq]
  generalize (lg_sl ([.ref N0, .int x1, .long x2, .long x4, .ref (N0 + 16)] : List Value) ++ List.replicate (8 - (lg_sl ([.ref N0, .int x1, .long x2, .long x4, .ref (N0 + 16)] : List Value)).length) Slot.unset).toArray = ls at hl ⊢
  have hl : lv_has ls 8 [(0, .ref N0), (1, .int x1), (2, .long x2), (4, .long x4), (6, .ref (N0 + 16))] := hl
  refine lv_aload hx hb dL_inside_0 (lv_at hl 4 rfl) ?_
  refine lv_iconst (v := 0) hx hb dL_inside_2 (by decide) ?_
  refine lv_aload_n hx hb dL_inside_3 rfl (lv_at hl 0 rfl) ?_
  refine lv_iload_n hx hb dL_inside_4 rfl (lv_at hl 1 rfl) ?_
  refine lv_lload_n hx hb dL_inside_5 rfl (lv_at hl 2 rfl) ?_
  refine lv_lload hx hb dL_inside_6 (lv_at hl 3 rfl) ?_
  refine thr_catch (cc := cL_inside) (E := "java/lang/IllegalArgumentException") (name := "java/lang/IllegalArgumentException") (vx_runV (As := [.int x1, .long x2, .long x4]) (rest := [.int 0, .ref (N0 + 16)]) ⟨hx, hb, hml, hown, hw⟩ (kt_F_inside l hl0 N0 dC dI cL cI cO N0 (N0 + 1) (adB bs) v x1 x2 x4 _ h) (cwV 3 hw (gV w_315 w_316 w_317 w_1 w_318) rfl rfl rfl (by decide +kernel) ⟨Nat.le_of_ble_eq_true rfl, Nat.le_of_ble_eq_true rfl⟩) ⟨ev_blind, va_recv hK hPx.1.1 (ci := 1) (q0 := 0) rfl rfl, ev_pre hPx.1 hK hev.1⟩ rfl rfl hl.1 rfl (lv_room (Nat.le_of_ble_eq_true rfl)) dL_inside_8 ⟨Nat.le_of_ble_eq_true rfl, Nat.le_of_ble_eq_true rfl⟩) hown [⟨0, 20, 23, 27⟩, ⟨0, 20, 27, 29⟩] ⟨0, 20, 31, 13⟩ [] htab (fun z hz => by rcases List.mem_cons.mp hz with e | hz; exact (by rw [e]; exact Or.inr ⟨by decide, _, hw _ w_198, hev.2.2.1⟩); have e := List.mem_singleton.mp hz; exact (by rw [e]; exact Or.inr ⟨by decide, _, hw _ w_199, hev.2.2.2⟩)) (by decide) (by decide) (hw _ w_81) (va_Nw.use (w := .castable "java/lang/IllegalArgumentException" "java/lang/IllegalArgumentException") rfl (hev.1.1 _ (by decide +kernel))) (fun q H1 locs hS => ?_)
  refine lv_astore (lv' := [(7, .ref q), (0, .ref N0), (1, .int x1), (2, .long x2), (4, .long x4), (6, .ref (N0 + 16))]) hx hb dL_inside_31 hl (by decide) rfl (fun ls hl => ?_)
  refine lv_iconst (v := 3) hx hb dL_inside_33 (by decide) ?_
  refine W.widen (k := 4) (n := 152) (Nat.le_of_ble_eq_true rfl) (Nat.le_of_ble_eq_true rfl) ?_
  have hk : ∀ q : Nat, q < s.heap.size → H1[q]? = s.heap[q]? := fun q hq => hS.2.1 q hq (fun z => z)
  exact W.iret hx hb hr (fun t ht hW => ⟨rfl, ⟨⟨bs, by rw [ht]; exact sfs_out hPx hS.1 (fun q hq _ => hk q hq)⟩, by rw [ht]; exact out_keep hO (fun q hq _ => hk q hq)⟩, (hS.F ht).mono (fun _ z => z.elim)⟩) (fun q hq => (hS.2.2 q hq).elim) dL_inside_34
theorem dL_nearer_0 : decode cL_nearer 0 = .ok (.aload 5, 2) := by decide +kernel
theorem dL_nearer_2 : decode cL_nearer 2 = .ok (.iconst 0, 1) := by decide +kernel
theorem dL_nearer_3 : decode cL_nearer 3 = .ok (.aload_n 0, 1) := by decide +kernel
theorem dL_nearer_4 : decode cL_nearer 4 = .ok (.iload_n 1, 1) := by decide +kernel
theorem dL_nearer_5 : decode cL_nearer 5 = .ok (.iload_n 2, 1) := by decide +kernel
theorem dL_nearer_6 : decode cL_nearer 6 = .ok (.lload_n 3, 1) := by decide +kernel
theorem dL_nearer_7 : decode cL_nearer 7 = .ok (.invokevirtual 42, 3) := by decide +kernel
theorem dL_nearer_10 : decode cL_nearer 10 = .ok (.i2l, 1) := by decide +kernel
theorem dL_nearer_11 : decode cL_nearer 11 = .ok (.lastore, 1) := by decide +kernel
theorem dL_nearer_12 : decode cL_nearer 12 = .ok (.goto 15, 3) := by decide +kernel
theorem dL_nearer_15 : decode cL_nearer 15 = .ok (.astore 6, 2) := by decide +kernel
theorem dL_nearer_17 : decode cL_nearer 17 = .ok (.iconst 1, 1) := by decide +kernel
theorem dL_nearer_18 : decode cL_nearer 18 = .ok (.ireturn, 1) := by decide +kernel
theorem dL_nearer_19 : decode cL_nearer 19 = .ok (.astore 6, 2) := by decide +kernel
theorem dL_nearer_21 : decode cL_nearer 21 = .ok (.iconst 2, 1) := by decide +kernel
theorem dL_nearer_22 : decode cL_nearer 22 = .ok (.ireturn, 1) := by decide +kernel
theorem dL_nearer_23 : decode cL_nearer 23 = .ok (.astore 6, 2) := by decide +kernel
theorem dL_nearer_25 : decode cL_nearer 25 = .ok (.iconst 3, 1) := by decide +kernel
theorem dL_nearer_26 : decode cL_nearer 26 = .ok (.ireturn, 1) := by decide +kernel
theorem dL_nearer_27 : decode cL_nearer 27 = .ok (.iconst 0, 1) := by decide +kernel
theorem dL_nearer_28 : decode cL_nearer 28 = .ok (.ireturn, 1) := by decide +kernel
abbrev wsL_nearer : List Cond := .codeWith yL_nearer cL_nearer 7 (some .int) [(0, 12, 15, 27), (0, 12, 19, 29), (0, 12, 23, 13)] :: wG
set_option maxHeartbeats 1000000 in
set_option maxRecDepth 100000 in
theorem kn_L_nearer (l : Launch) (N0 sz : Nat) (dC : Nat → ClassId) (dI : Nat → Nat → Nat) (cL cI cO : ClassId) (bs : Nat → Nat) (v : CV) (fo : Nat → Int64) (x1 : Int32) (x2 : Int32) (x3 : Int64) (r : Int32) (h : f_F_nearer v x1 x2 x3 = some r) : Met l yL_nearer wsL_nearer ({ frames := 8, cells := 4, slots := 152, locals := 204 }) (hl_Pc N0 [.ref N0, .int x1, .int x2, .long x3, .ref (N0 + 16)] (fun H => (SFS (dC, dI) cL cI cO N0 bs v H ∧ H.size = sz) ∧ va_P (dC, dI) cls3 (outW cL N0 fo) H) (dC, dI) cls3 (ty3 cL cI cO)) (al_Q (some (.int 0)) (fun H => (∃ bs', SFS (dC, dI) cL cI cO N0 bs' v H) ∧ va_P (dC, dI) cls3 (outW cL N0 (vp_updL fo 0 r.toInt64)) H) (inL N0)) 4 152 (inL N0) := by
  refine met_ofWH (cc := cL_nearer) (maxL := 7) (ret := (some .int)) (hh := [(0, 12, 15, 27), (0, 12, 19, 29), (0, 12, 23, 13)]) (by decide) rfl ?_
  intro p e s m args below meth c s₁ B hml htab hv
  obtain ⟨rfl, ⟨⟨hPx, hz0⟩, hO⟩, hK, hev⟩ := hv
  have hx := B.exec
  have hb := B.bytes
  have hr := B.returns
  have hw : ∀ w ∈ wG, w.before ([.ref N0, .int x1, .int x2, .long x3, .ref (N0 + 16)] : List Value).toArray s = true := fun w hq => atoms_spec (ws := wsL_nearer) B.pre w (List.mem_cons_of_mem _ hq)
  have hown : s.vm.findClass R_L = some m.cls := findClass_of_methodNamed B.named
  have hlocks := B.notSynchronized
  have hl := lv_entry ([.ref N0, .int x1, .int x2, .long x3, .ref (N0 + 16)] : List Value) (n := 7) (Nat.le_of_ble_eq_true rfl)
  rw [lg_entry_eq]
  generalize (lg_sl ([.ref N0, .int x1, .int x2, .long x3, .ref (N0 + 16)] : List Value) ++ List.replicate (7 - (lg_sl ([.ref N0, .int x1, .int x2, .long x3, .ref (N0 + 16)] : List Value)).length) Slot.unset).toArray = ls at hl ⊢
  have hl : lv_has ls 7 [(0, .ref N0), (1, .int x1), (2, .int x2), (3, .long x3), (5, .ref (N0 + 16))] := hl
  refine lv_aload hx hb dL_nearer_0 (lv_at hl 4 rfl) ?_
  refine lv_iconst (v := 0) hx hb dL_nearer_2 (by decide) ?_
  refine lv_aload_n hx hb dL_nearer_3 rfl (lv_at hl 0 rfl) ?_
  refine lv_iload_n hx hb dL_nearer_4 rfl (lv_at hl 1 rfl) ?_
  refine lv_iload_n hx hb dL_nearer_5 rfl (lv_at hl 2 rfl) ?_
  refine lv_lload_n hx hb dL_nearer_6 rfl (lv_at hl 3 rfl) ?_
  refine vp_callSi (va_Run.run (va_runV (As := [.int x1, .int x2, .long x3]) (rest := [.int 0, .ref (N0 + 16)]) ⟨hx, hb, hml, hown, hw⟩ (k_F_nearer l dC dI cL cI cO N0 (N0 + 1) (adB bs) v x1 x2 x3 r h) (cwV 3 hw (gV w_356 w_357 w_358 w_1 w_359) rfl rfl rfl (by decide +kernel) ⟨Nat.le_of_ble_eq_true rfl, Nat.le_of_ble_eq_true rfl⟩) ⟨rd_blind, va_recv hK hPx.1.1 (ci := 1) (q0 := 0) rfl rfl, rd_pre hPx.1 hK⟩ rfl rfl hl.1 rfl (lv_room (Nat.le_of_ble_eq_true rfl)) dL_nearer_7 ⟨Nat.le_of_ble_eq_true rfl, Nat.le_of_ble_eq_true rfl⟩)) (fun z hz9 => ?_)
  rw [hz9]; clear hz9
  obtain ⟨H, hH⟩ : ∃ H : Heap, H = s.heap := ⟨_, rfl⟩
  rw [← hH] at hO ⊢
  have hS : va_S (inL N0) s.heap H [] := by rw [hH]; exact va_S.rf
  have hG : SFS (dC, dI) cL cI cO N0 bs v H := by rw [hH]; exact hPx
  refine lv_i2l hx hb dL_nearer_10 rfl ?_
  refine al_last hx hb hK hO out_D hS 0 0 rfl rfl (x := r.toInt64) in01 dL_nearer_11 (fun H1 locs hO1 hS hz1 hk1 => ?_)
  refine lv_goto (tgt := 27) hx hb dL_nearer_12 (by decide) ?_
  refine lv_iconst (v := 0) hx hb dL_nearer_27 (by decide) ?_
  have hG1 := sfs_out hG (Nat.le_of_eq hz1.symm) (fun q _ hq => hk1 q hq)
  refine W.widen (k := 4) (n := 152) (Nat.le_of_ble_eq_true rfl) (Nat.le_of_ble_eq_true rfl) ?_
  exact W.iret hx hb hr (fun t ht hW => ⟨rfl, ⟨⟨_, by rw [ht]; exact hG1⟩, by rw [ht]; exact hO1⟩, hS.F ht⟩) hS.2.2 dL_nearer_28
set_option maxHeartbeats 1000000 in
set_option maxRecDepth 100000 in
theorem kxIOB_L_nearer (l : Launch) (hl0 : l.stackTraces = false) (N0 sz : Nat) (dC : Nat → ClassId) (dI : Nat → Nat → Nat) (cL cI cO : ClassId) (bs : Nat → Nat) (v : CV) (fo : Nat → Int64) (x1 : Int32) (x2 : Int32) (x3 : Int64) (h : g_F_nearer v x1 x2 x3 = some "java/lang/IndexOutOfBoundsException") : Met l yL_nearer wsL_nearer ({ frames := 8, cells := 4, slots := 152, locals := 204 }) (hl_Pc N0 [.ref N0, .int x1, .int x2, .long x3, .ref (N0 + 16)] (fun H => (SFS (dC, dI) cL cI cO N0 bs v H ∧ H.size = sz) ∧ va_P (dC, dI) cls3 (outW cL N0 fo) H) (dC, dI) cls3 (ty3 cL cI cO)) (al_Q (some (.int 1)) (fun H => (∃ bs', SFS (dC, dI) cL cI cO N0 bs' v H) ∧ va_P (dC, dI) cls3 (outW cL N0 fo) H) (inL N0)) 4 152 (inL N0) := by
  refine met_ofWH (cc := cL_nearer) (maxL := 7) (ret := (some .int)) (hh := [(0, 12, 15, 27), (0, 12, 19, 29), (0, 12, 23, 13)]) (by decide) rfl ?_
  intro p e s m args below meth c s₁ B hml htab hv
  obtain ⟨rfl, ⟨⟨hPx, hz0⟩, hO⟩, hK, hev⟩ := hv
  have hx := B.exec
  have hb := B.bytes
  have hr := B.returns
  have hw : ∀ w ∈ wG, w.before ([.ref N0, .int x1, .int x2, .long x3, .ref (N0 + 16)] : List Value).toArray s = true := fun w hq => atoms_spec (ws := wsL_nearer) B.pre w (List.mem_cons_of_mem _ hq)
  have hown : s.vm.findClass R_L = some m.cls := findClass_of_methodNamed B.named
  have hlocks := B.notSynchronized
  have hl := lv_entry ([.ref N0, .int x1, .int x2, .long x3, .ref (N0 + 16)] : List Value) (n := 7) (Nat.le_of_ble_eq_true rfl)
  rw [lg_entry_eq]
  generalize (lg_sl ([.ref N0, .int x1, .int x2, .long x3, .ref (N0 + 16)] : List Value) ++ List.replicate (7 - (lg_sl ([.ref N0, .int x1, .int x2, .long x3, .ref (N0 + 16)] : List Value)).length) Slot.unset).toArray = ls at hl ⊢
  have hl : lv_has ls 7 [(0, .ref N0), (1, .int x1), (2, .int x2), (3, .long x3), (5, .ref (N0 + 16))] := hl
  refine lv_aload hx hb dL_nearer_0 (lv_at hl 4 rfl) ?_
  refine lv_iconst (v := 0) hx hb dL_nearer_2 (by decide) ?_
  refine lv_aload_n hx hb dL_nearer_3 rfl (lv_at hl 0 rfl) ?_
  refine lv_iload_n hx hb dL_nearer_4 rfl (lv_at hl 1 rfl) ?_
  refine lv_iload_n hx hb dL_nearer_5 rfl (lv_at hl 2 rfl) ?_
  refine lv_lload_n hx hb dL_nearer_6 rfl (lv_at hl 3 rfl) ?_
  refine thr_catch (cc := cL_nearer) (E := "java/lang/IndexOutOfBoundsException") (name := "java/lang/IndexOutOfBoundsException") (vx_runV (As := [.int x1, .int x2, .long x3]) (rest := [.int 0, .ref (N0 + 16)]) ⟨hx, hb, hml, hown, hw⟩ (kt_F_nearer l hl0 N0 dC dI cL cI cO N0 (N0 + 1) (adB bs) v x1 x2 x3 _ h) (cwV 3 hw (gV w_356 w_357 w_358 w_1 w_359) rfl rfl rfl (by decide +kernel) ⟨Nat.le_of_ble_eq_true rfl, Nat.le_of_ble_eq_true rfl⟩) ⟨ev_blind, va_recv hK hPx.1.1 (ci := 1) (q0 := 0) rfl rfl, ev_pre hPx.1 hK hev.1⟩ rfl rfl hl.1 rfl (lv_room (Nat.le_of_ble_eq_true rfl)) dL_nearer_7 ⟨Nat.le_of_ble_eq_true rfl, Nat.le_of_ble_eq_true rfl⟩) hown [] ⟨0, 12, 15, 27⟩ [⟨0, 12, 19, 29⟩, ⟨0, 12, 23, 13⟩] htab (fun z hz => by cases hz) (by decide) (by decide) (hw _ w_198) (va_Nw.use (w := .castable "java/lang/IndexOutOfBoundsException" "java/lang/IndexOutOfBoundsException") rfl (hev.1.1 _ (by decide +kernel))) (fun q H1 locs hS => ?_)
  refine lv_astore (lv' := [(6, .ref q), (0, .ref N0), (1, .int x1), (2, .int x2), (3, .long x3), (5, .ref (N0 + 16))]) hx hb dL_nearer_15 hl (by decide) rfl (fun ls hl => ?_)
  refine lv_iconst (v := 1) hx hb dL_nearer_17 (by decide) ?_
  refine W.widen (k := 4) (n := 152) (Nat.le_of_ble_eq_true rfl) (Nat.le_of_ble_eq_true rfl) ?_
  have hk : ∀ q : Nat, q < s.heap.size → H1[q]? = s.heap[q]? := fun q hq => hS.2.1 q hq (fun z => z)
  exact W.iret hx hb hr (fun t ht hW => ⟨rfl, ⟨⟨bs, by rw [ht]; exact sfs_out hPx hS.1 (fun q hq _ => hk q hq)⟩, by rw [ht]; exact out_keep hO (fun q hq _ => hk q hq)⟩, (hS.F ht).mono (fun _ z => z.elim)⟩) (fun q hq => (hS.2.2 q hq).elim) dL_nearer_18
set_option maxHeartbeats 1000000 in
set_option maxRecDepth 100000 in
theorem kxISE_L_nearer (l : Launch) (hl0 : l.stackTraces = false) (N0 sz : Nat) (dC : Nat → ClassId) (dI : Nat → Nat → Nat) (cL cI cO : ClassId) (bs : Nat → Nat) (v : CV) (fo : Nat → Int64) (x1 : Int32) (x2 : Int32) (x3 : Int64) (h : g_F_nearer v x1 x2 x3 = some "java/lang/IllegalStateException") : Met l yL_nearer wsL_nearer ({ frames := 8, cells := 4, slots := 152, locals := 204 }) (hl_Pc N0 [.ref N0, .int x1, .int x2, .long x3, .ref (N0 + 16)] (fun H => (SFS (dC, dI) cL cI cO N0 bs v H ∧ H.size = sz) ∧ va_P (dC, dI) cls3 (outW cL N0 fo) H) (dC, dI) cls3 (ty3 cL cI cO)) (al_Q (some (.int 2)) (fun H => (∃ bs', SFS (dC, dI) cL cI cO N0 bs' v H) ∧ va_P (dC, dI) cls3 (outW cL N0 fo) H) (inL N0)) 4 152 (inL N0) := by
  refine met_ofWH (cc := cL_nearer) (maxL := 7) (ret := (some .int)) (hh := [(0, 12, 15, 27), (0, 12, 19, 29), (0, 12, 23, 13)]) (by decide) rfl ?_
  intro p e s m args below meth c s₁ B hml htab hv
  obtain ⟨rfl, ⟨⟨hPx, hz0⟩, hO⟩, hK, hev⟩ := hv
  have hx := B.exec
  have hb := B.bytes
  have hr := B.returns
  have hw : ∀ w ∈ wG, w.before ([.ref N0, .int x1, .int x2, .long x3, .ref (N0 + 16)] : List Value).toArray s = true := fun w hq => atoms_spec (ws := wsL_nearer) B.pre w (List.mem_cons_of_mem _ hq)
  have hown : s.vm.findClass R_L = some m.cls := findClass_of_methodNamed B.named
  have hlocks := B.notSynchronized
  have hl := lv_entry ([.ref N0, .int x1, .int x2, .long x3, .ref (N0 + 16)] : List Value) (n := 7) (Nat.le_of_ble_eq_true rfl)
  rw [lg_entry_eq]
  generalize (lg_sl ([.ref N0, .int x1, .int x2, .long x3, .ref (N0 + 16)] : List Value) ++ List.replicate (7 - (lg_sl ([.ref N0, .int x1, .int x2, .long x3, .ref (N0 + 16)] : List Value)).length) Slot.unset).toArray = ls at hl ⊢
  have hl : lv_has ls 7 [(0, .ref N0), (1, .int x1), (2, .int x2), (3, .long x3), (5, .ref (N0 + 16))] := hl
  refine lv_aload hx hb dL_nearer_0 (lv_at hl 4 rfl) ?_
  refine lv_iconst (v := 0) hx hb dL_nearer_2 (by decide) ?_
  refine lv_aload_n hx hb dL_nearer_3 rfl (lv_at hl 0 rfl) ?_
  refine lv_iload_n hx hb dL_nearer_4 rfl (lv_at hl 1 rfl) ?_
  refine lv_iload_n hx hb dL_nearer_5 rfl (lv_at hl 2 rfl) ?_
  refine lv_lload_n hx hb dL_nearer_6 rfl (lv_at hl 3 rfl) ?_
  refine thr_catch (cc := cL_nearer) (E := "java/lang/IllegalStateException") (name := "java/lang/IllegalStateException") (vx_runV (As := [.int x1, .int x2, .long x3]) (rest := [.int 0, .ref (N0 + 16)]) ⟨hx, hb, hml, hown, hw⟩ (kt_F_nearer l hl0 N0 dC dI cL cI cO N0 (N0 + 1) (adB bs) v x1 x2 x3 _ h) (cwV 3 hw (gV w_356 w_357 w_358 w_1 w_359) rfl rfl rfl (by decide +kernel) ⟨Nat.le_of_ble_eq_true rfl, Nat.le_of_ble_eq_true rfl⟩) ⟨ev_blind, va_recv hK hPx.1.1 (ci := 1) (q0 := 0) rfl rfl, ev_pre hPx.1 hK hev.1⟩ rfl rfl hl.1 rfl (lv_room (Nat.le_of_ble_eq_true rfl)) dL_nearer_7 ⟨Nat.le_of_ble_eq_true rfl, Nat.le_of_ble_eq_true rfl⟩) hown [⟨0, 12, 15, 27⟩] ⟨0, 12, 19, 29⟩ [⟨0, 12, 23, 13⟩] htab (fun z hz => by have e := List.mem_singleton.mp hz; exact (by rw [e]; exact Or.inr ⟨by decide, _, hw _ w_198, hev.2.1⟩)) (by decide) (by decide) (hw _ w_199) (va_Nw.use (w := .castable "java/lang/IllegalStateException" "java/lang/IllegalStateException") rfl (hev.1.1 _ (by decide +kernel))) (fun q H1 locs hS => ?_)
  refine lv_astore (lv' := [(6, .ref q), (0, .ref N0), (1, .int x1), (2, .int x2), (3, .long x3), (5, .ref (N0 + 16))]) hx hb dL_nearer_19 hl (by decide) rfl (fun ls hl => ?_)
  refine lv_iconst (v := 2) hx hb dL_nearer_21 (by decide) ?_
  refine W.widen (k := 4) (n := 152) (Nat.le_of_ble_eq_true rfl) (Nat.le_of_ble_eq_true rfl) ?_
  have hk : ∀ q : Nat, q < s.heap.size → H1[q]? = s.heap[q]? := fun q hq => hS.2.1 q hq (fun z => z)
  exact W.iret hx hb hr (fun t ht hW => ⟨rfl, ⟨⟨bs, by rw [ht]; exact sfs_out hPx hS.1 (fun q hq _ => hk q hq)⟩, by rw [ht]; exact out_keep hO (fun q hq _ => hk q hq)⟩, (hS.F ht).mono (fun _ z => z.elim)⟩) (fun q hq => (hS.2.2 q hq).elim) dL_nearer_22
set_option maxHeartbeats 1000000 in
set_option maxRecDepth 100000 in
theorem kxIAE_L_nearer (l : Launch) (hl0 : l.stackTraces = false) (N0 sz : Nat) (dC : Nat → ClassId) (dI : Nat → Nat → Nat) (cL cI cO : ClassId) (bs : Nat → Nat) (v : CV) (fo : Nat → Int64) (x1 : Int32) (x2 : Int32) (x3 : Int64) (h : g_F_nearer v x1 x2 x3 = some "java/lang/IllegalArgumentException") : Met l yL_nearer wsL_nearer ({ frames := 8, cells := 4, slots := 152, locals := 204 }) (hl_Pc N0 [.ref N0, .int x1, .int x2, .long x3, .ref (N0 + 16)] (fun H => (SFS (dC, dI) cL cI cO N0 bs v H ∧ H.size = sz) ∧ va_P (dC, dI) cls3 (outW cL N0 fo) H) (dC, dI) cls3 (ty3 cL cI cO)) (al_Q (some (.int 3)) (fun H => (∃ bs', SFS (dC, dI) cL cI cO N0 bs' v H) ∧ va_P (dC, dI) cls3 (outW cL N0 fo) H) (inL N0)) 4 152 (inL N0) := by
  refine met_ofWH (cc := cL_nearer) (maxL := 7) (ret := (some .int)) (hh := [(0, 12, 15, 27), (0, 12, 19, 29), (0, 12, 23, 13)]) (by decide) rfl ?_
  intro p e s m args below meth c s₁ B hml htab hv
  obtain ⟨rfl, ⟨⟨hPx, hz0⟩, hO⟩, hK, hev⟩ := hv
  have hx := B.exec
  have hb := B.bytes
  have hr := B.returns
  have hw : ∀ w ∈ wG, w.before ([.ref N0, .int x1, .int x2, .long x3, .ref (N0 + 16)] : List Value).toArray s = true := fun w hq => atoms_spec (ws := wsL_nearer) B.pre w (List.mem_cons_of_mem _ hq)
  have hown : s.vm.findClass R_L = some m.cls := findClass_of_methodNamed B.named
  have hlocks := B.notSynchronized
  have hl := lv_entry ([.ref N0, .int x1, .int x2, .long x3, .ref (N0 + 16)] : List Value) (n := 7) (Nat.le_of_ble_eq_true rfl)
  rw [lg_entry_eq]
  generalize (lg_sl ([.ref N0, .int x1, .int x2, .long x3, .ref (N0 + 16)] : List Value) ++ List.replicate (7 - (lg_sl ([.ref N0, .int x1, .int x2, .long x3, .ref (N0 + 16)] : List Value)).length) Slot.unset).toArray = ls at hl ⊢
  have hl : lv_has ls 7 [(0, .ref N0), (1, .int x1), (2, .int x2), (3, .long x3), (5, .ref (N0 + 16))] := hl
  refine lv_aload hx hb dL_nearer_0 (lv_at hl 4 rfl) ?_
  refine lv_iconst (v := 0) hx hb dL_nearer_2 (by decide) ?_
  refine lv_aload_n hx hb dL_nearer_3 rfl (lv_at hl 0 rfl) ?_
  refine lv_iload_n hx hb dL_nearer_4 rfl (lv_at hl 1 rfl) ?_
  refine lv_iload_n hx hb dL_nearer_5 rfl (lv_at hl 2 rfl) ?_
  refine lv_lload_n hx hb dL_nearer_6 rfl (lv_at hl 3 rfl) ?_
  refine thr_catch (cc := cL_nearer) (E := "java/lang/IllegalArgumentException") (name := "java/lang/IllegalArgumentException") (vx_runV (As := [.int x1, .int x2, .long x3]) (rest := [.int 0, .ref (N0 + 16)]) ⟨hx, hb, hml, hown, hw⟩ (kt_F_nearer l hl0 N0 dC dI cL cI cO N0 (N0 + 1) (adB bs) v x1 x2 x3 _ h) (cwV 3 hw (gV w_356 w_357 w_358 w_1 w_359) rfl rfl rfl (by decide +kernel) ⟨Nat.le_of_ble_eq_true rfl, Nat.le_of_ble_eq_true rfl⟩) ⟨ev_blind, va_recv hK hPx.1.1 (ci := 1) (q0 := 0) rfl rfl, ev_pre hPx.1 hK hev.1⟩ rfl rfl hl.1 rfl (lv_room (Nat.le_of_ble_eq_true rfl)) dL_nearer_7 ⟨Nat.le_of_ble_eq_true rfl, Nat.le_of_ble_eq_true rfl⟩) hown [⟨0, 12, 15, 27⟩, ⟨0, 12, 19, 29⟩] ⟨0, 12, 23, 13⟩ [] htab (fun z hz => by rcases List.mem_cons.mp hz with e | hz; exact (by rw [e]; exact Or.inr ⟨by decide, _, hw _ w_198, hev.2.2.1⟩); have e := List.mem_singleton.mp hz; exact (by rw [e]; exact Or.inr ⟨by decide, _, hw _ w_199, hev.2.2.2⟩)) (by decide) (by decide) (hw _ w_81) (va_Nw.use (w := .castable "java/lang/IllegalArgumentException" "java/lang/IllegalArgumentException") rfl (hev.1.1 _ (by decide +kernel))) (fun q H1 locs hS => ?_)
  refine lv_astore (lv' := [(6, .ref q), (0, .ref N0), (1, .int x1), (2, .int x2), (3, .long x3), (5, .ref (N0 + 16))]) hx hb dL_nearer_23 hl (by decide) rfl (fun ls hl => ?_)
  refine lv_iconst (v := 3) hx hb dL_nearer_25 (by decide) ?_
  refine W.widen (k := 4) (n := 152) (Nat.le_of_ble_eq_true rfl) (Nat.le_of_ble_eq_true rfl) ?_
  have hk : ∀ q : Nat, q < s.heap.size → H1[q]? = s.heap[q]? := fun q hq => hS.2.1 q hq (fun z => z)
  exact W.iret hx hb hr (fun t ht hW => ⟨rfl, ⟨⟨bs, by rw [ht]; exact sfs_out hPx hS.1 (fun q hq _ => hk q hq)⟩, by rw [ht]; exact out_keep hO (fun q hq _ => hk q hq)⟩, (hS.F ht).mono (fun _ z => z.elim)⟩) (fun q hq => (hS.2.2 q hq).elim) dL_nearer_26
theorem dL_boxOf_0 : decode cL_boxOf 0 = .ok (.aload_n 3, 1) := by decide +kernel
theorem dL_boxOf_1 : decode cL_boxOf 1 = .ok (.iconst 0, 1) := by decide +kernel
theorem dL_boxOf_2 : decode cL_boxOf 2 = .ok (.aload_n 0, 1) := by decide +kernel
theorem dL_boxOf_3 : decode cL_boxOf 3 = .ok (.iload_n 1, 1) := by decide +kernel
theorem dL_boxOf_4 : decode cL_boxOf 4 = .ok (.iload_n 2, 1) := by decide +kernel
theorem dL_boxOf_5 : decode cL_boxOf 5 = .ok (.invokevirtual 46, 3) := by decide +kernel
theorem dL_boxOf_8 : decode cL_boxOf 8 = .ok (.lastore, 1) := by decide +kernel
theorem dL_boxOf_9 : decode cL_boxOf 9 = .ok (.goto 11, 3) := by decide +kernel
theorem dL_boxOf_12 : decode cL_boxOf 12 = .ok (.astore 4, 2) := by decide +kernel
theorem dL_boxOf_14 : decode cL_boxOf 14 = .ok (.iconst 1, 1) := by decide +kernel
theorem dL_boxOf_15 : decode cL_boxOf 15 = .ok (.ireturn, 1) := by decide +kernel
theorem dL_boxOf_16 : decode cL_boxOf 16 = .ok (.astore 4, 2) := by decide +kernel
theorem dL_boxOf_18 : decode cL_boxOf 18 = .ok (.iconst 2, 1) := by decide +kernel
theorem dL_boxOf_19 : decode cL_boxOf 19 = .ok (.ireturn, 1) := by decide +kernel
theorem dL_boxOf_20 : decode cL_boxOf 20 = .ok (.iconst 0, 1) := by decide +kernel
theorem dL_boxOf_21 : decode cL_boxOf 21 = .ok (.ireturn, 1) := by decide +kernel
abbrev wsL_boxOf : List Cond := .codeWith yL_boxOf cL_boxOf 5 (some .int) [(0, 9, 12, 27), (0, 9, 16, 29)] :: wG
set_option maxHeartbeats 1000000 in
set_option maxRecDepth 100000 in
theorem kn_L_boxOf (l : Launch) (N0 sz : Nat) (dC : Nat → ClassId) (dI : Nat → Nat → Nat) (cL cI cO : ClassId) (bs : Nat → Nat) (v : CV) (fo : Nat → Int64) (x1 : Int32) (x2 : Int32) (r : Int64) (h : f_F_boxOf v x1 x2 = some r) : Met l yL_boxOf wsL_boxOf ({ frames := 8, cells := 4, slots := 152, locals := 135 }) (hl_Pc N0 [.ref N0, .int x1, .int x2, .ref (N0 + 16)] (fun H => (SFS (dC, dI) cL cI cO N0 bs v H ∧ H.size = sz) ∧ va_P (dC, dI) cls3 (outW cL N0 fo) H) (dC, dI) cls3 (ty3 cL cI cO)) (al_Q (some (.int 0)) (fun H => (∃ bs', SFS (dC, dI) cL cI cO N0 bs' v H) ∧ va_P (dC, dI) cls3 (outW cL N0 (vp_updL fo 0 r)) H) (inL N0)) 4 152 (inL N0) := by
  refine met_ofWH (cc := cL_boxOf) (maxL := 5) (ret := (some .int)) (hh := [(0, 9, 12, 27), (0, 9, 16, 29)]) (by decide) rfl ?_
  intro p e s m args below meth c s₁ B hml htab hv
  obtain ⟨rfl, ⟨⟨hPx, hz0⟩, hO⟩, hK, hev⟩ := hv
  have hx := B.exec
  have hb := B.bytes
  have hr := B.returns
  have hw : ∀ w ∈ wG, w.before ([.ref N0, .int x1, .int x2, .ref (N0 + 16)] : List Value).toArray s = true := fun w hq => atoms_spec (ws := wsL_boxOf) B.pre w (List.mem_cons_of_mem _ hq)
  have hown : s.vm.findClass R_L = some m.cls := findClass_of_methodNamed B.named
  have hlocks := B.notSynchronized
  have hl := lv_entry ([.ref N0, .int x1, .int x2, .ref (N0 + 16)] : List Value) (n := 5) (Nat.le_of_ble_eq_true rfl)
  rw [lg_entry_eq]
  generalize (lg_sl ([.ref N0, .int x1, .int x2, .ref (N0 + 16)] : List Value) ++ List.replicate (5 - (lg_sl ([.ref N0, .int x1, .int x2, .ref (N0 + 16)] : List Value)).length) Slot.unset).toArray = ls at hl ⊢
  have hl : lv_has ls 5 [(0, .ref N0), (1, .int x1), (2, .int x2), (3, .ref (N0 + 16))] := hl
  refine lv_aload_n hx hb dL_boxOf_0 rfl (lv_at hl 3 rfl) ?_
  refine lv_iconst (v := 0) hx hb dL_boxOf_1 (by decide) ?_
  refine lv_aload_n hx hb dL_boxOf_2 rfl (lv_at hl 0 rfl) ?_
  refine lv_iload_n hx hb dL_boxOf_3 rfl (lv_at hl 1 rfl) ?_
  refine lv_iload_n hx hb dL_boxOf_4 rfl (lv_at hl 2 rfl) ?_
  refine vp_callSl (va_Run.run (va_runV (As := [.int x1, .int x2]) (rest := [.int 0, .ref (N0 + 16)]) ⟨hx, hb, hml, hown, hw⟩ (k_F_boxOf l dC dI cL cI cO N0 (N0 + 1) (adB bs) v x1 x2 r h) (cwV 2 hw (gV w_381 w_382 w_383 w_1 w_384) rfl rfl rfl (by decide +kernel) ⟨Nat.le_of_ble_eq_true rfl, Nat.le_of_ble_eq_true rfl⟩) ⟨rd_blind, va_recv hK hPx.1.1 (ci := 1) (q0 := 0) rfl rfl, rd_pre hPx.1 hK⟩ rfl rfl hl.1 rfl (lv_room (Nat.le_of_ble_eq_true rfl)) dL_boxOf_5 ⟨Nat.le_of_ble_eq_true rfl, Nat.le_of_ble_eq_true rfl⟩)) (fun z hz9 => ?_)
  rw [hz9]; clear hz9
  obtain ⟨H, hH⟩ : ∃ H : Heap, H = s.heap := ⟨_, rfl⟩
  rw [← hH] at hO ⊢
  have hS : va_S (inL N0) s.heap H [] := by rw [hH]; exact va_S.rf
  have hG : SFS (dC, dI) cL cI cO N0 bs v H := by rw [hH]; exact hPx
  refine al_last hx hb hK hO out_D hS 0 0 rfl rfl (x := r) in01 dL_boxOf_8 (fun H1 locs hO1 hS hz1 hk1 => ?_)
  refine lv_goto (tgt := 20) hx hb dL_boxOf_9 (by decide) ?_
  refine lv_iconst (v := 0) hx hb dL_boxOf_20 (by decide) ?_
  have hG1 := sfs_out hG (Nat.le_of_eq hz1.symm) (fun q _ hq => hk1 q hq)
  refine W.widen (k := 4) (n := 152) (Nat.le_of_ble_eq_true rfl) (Nat.le_of_ble_eq_true rfl) ?_
  exact W.iret hx hb hr (fun t ht hW => ⟨rfl, ⟨⟨_, by rw [ht]; exact hG1⟩, by rw [ht]; exact hO1⟩, hS.F ht⟩) hS.2.2 dL_boxOf_21
set_option maxHeartbeats 1000000 in
set_option maxRecDepth 100000 in
theorem kxIOB_L_boxOf (l : Launch) (hl0 : l.stackTraces = false) (N0 sz : Nat) (dC : Nat → ClassId) (dI : Nat → Nat → Nat) (cL cI cO : ClassId) (bs : Nat → Nat) (v : CV) (fo : Nat → Int64) (x1 : Int32) (x2 : Int32) (h : g_F_boxOf v x1 x2 = some "java/lang/IndexOutOfBoundsException") : Met l yL_boxOf wsL_boxOf ({ frames := 8, cells := 4, slots := 152, locals := 135 }) (hl_Pc N0 [.ref N0, .int x1, .int x2, .ref (N0 + 16)] (fun H => (SFS (dC, dI) cL cI cO N0 bs v H ∧ H.size = sz) ∧ va_P (dC, dI) cls3 (outW cL N0 fo) H) (dC, dI) cls3 (ty3 cL cI cO)) (al_Q (some (.int 1)) (fun H => (∃ bs', SFS (dC, dI) cL cI cO N0 bs' v H) ∧ va_P (dC, dI) cls3 (outW cL N0 fo) H) (inL N0)) 4 152 (inL N0) := by
  refine met_ofWH (cc := cL_boxOf) (maxL := 5) (ret := (some .int)) (hh := [(0, 9, 12, 27), (0, 9, 16, 29)]) (by decide) rfl ?_
  intro p e s m args below meth c s₁ B hml htab hv
  obtain ⟨rfl, ⟨⟨hPx, hz0⟩, hO⟩, hK, hev⟩ := hv
  have hx := B.exec
  have hb := B.bytes
  have hr := B.returns
  have hw : ∀ w ∈ wG, w.before ([.ref N0, .int x1, .int x2, .ref (N0 + 16)] : List Value).toArray s = true := fun w hq => atoms_spec (ws := wsL_boxOf) B.pre w (List.mem_cons_of_mem _ hq)
  have hown : s.vm.findClass R_L = some m.cls := findClass_of_methodNamed B.named
  have hlocks := B.notSynchronized
  have hl := lv_entry ([.ref N0, .int x1, .int x2, .ref (N0 + 16)] : List Value) (n := 5) (Nat.le_of_ble_eq_true rfl)
  rw [lg_entry_eq]
  generalize (lg_sl ([.ref N0, .int x1, .int x2, .ref (N0 + 16)] : List Value) ++ List.replicate (5 - (lg_sl ([.ref N0, .int x1, .int x2, .ref (N0 + 16)] : List Value)).length) Slot.unset).toArray = ls at hl ⊢
  have hl : lv_has ls 5 [(0, .ref N0), (1, .int x1), (2, .int x2), (3, .ref (N0 + 16))] := hl
  refine lv_aload_n hx hb dL_boxOf_0 rfl (lv_at hl 3 rfl) ?_
  refine lv_iconst (v := 0) hx hb dL_boxOf_1 (by decide) ?_
  refine lv_aload_n hx hb dL_boxOf_2 rfl (lv_at hl 0 rfl) ?_
  refine lv_iload_n hx hb dL_boxOf_3 rfl (lv_at hl 1 rfl) ?_
  refine lv_iload_n hx hb dL_boxOf_4 rfl (lv_at hl 2 rfl) ?_
  refine thr_catch (cc := cL_boxOf) (E := "java/lang/IndexOutOfBoundsException") (name := "java/lang/IndexOutOfBoundsException") (vx_runV (As := [.int x1, .int x2]) (rest := [.int 0, .ref (N0 + 16)]) ⟨hx, hb, hml, hown, hw⟩ (kt_F_boxOf l hl0 N0 dC dI cL cI cO N0 (N0 + 1) (adB bs) v x1 x2 _ h) (cwV 2 hw (gV w_381 w_382 w_383 w_1 w_384) rfl rfl rfl (by decide +kernel) ⟨Nat.le_of_ble_eq_true rfl, Nat.le_of_ble_eq_true rfl⟩) ⟨ev_blind, va_recv hK hPx.1.1 (ci := 1) (q0 := 0) rfl rfl, ev_pre hPx.1 hK hev.1⟩ rfl rfl hl.1 rfl (lv_room (Nat.le_of_ble_eq_true rfl)) dL_boxOf_5 ⟨Nat.le_of_ble_eq_true rfl, Nat.le_of_ble_eq_true rfl⟩) hown [] ⟨0, 9, 12, 27⟩ [⟨0, 9, 16, 29⟩] htab (fun z hz => by cases hz) (by decide) (by decide) (hw _ w_198) (va_Nw.use (w := .castable "java/lang/IndexOutOfBoundsException" "java/lang/IndexOutOfBoundsException") rfl (hev.1.1 _ (by decide +kernel))) (fun q H1 locs hS => ?_)
  refine lv_astore (lv' := [(4, .ref q), (0, .ref N0), (1, .int x1), (2, .int x2), (3, .ref (N0 + 16))]) hx hb dL_boxOf_12 hl (by decide) rfl (fun ls hl => ?_)
  refine lv_iconst (v := 1) hx hb dL_boxOf_14 (by decide) ?_
  refine W.widen (k := 4) (n := 152) (Nat.le_of_ble_eq_true rfl) (Nat.le_of_ble_eq_true rfl) ?_
  have hk : ∀ q : Nat, q < s.heap.size → H1[q]? = s.heap[q]? := fun q hq => hS.2.1 q hq (fun z => z)
  exact W.iret hx hb hr (fun t ht hW => ⟨rfl, ⟨⟨bs, by rw [ht]; exact sfs_out hPx hS.1 (fun q hq _ => hk q hq)⟩, by rw [ht]; exact out_keep hO (fun q hq _ => hk q hq)⟩, (hS.F ht).mono (fun _ z => z.elim)⟩) (fun q hq => (hS.2.2 q hq).elim) dL_boxOf_15
set_option maxHeartbeats 1000000 in
set_option maxRecDepth 100000 in
theorem kxISE_L_boxOf (l : Launch) (hl0 : l.stackTraces = false) (N0 sz : Nat) (dC : Nat → ClassId) (dI : Nat → Nat → Nat) (cL cI cO : ClassId) (bs : Nat → Nat) (v : CV) (fo : Nat → Int64) (x1 : Int32) (x2 : Int32) (h : g_F_boxOf v x1 x2 = some "java/lang/IllegalStateException") : Met l yL_boxOf wsL_boxOf ({ frames := 8, cells := 4, slots := 152, locals := 135 }) (hl_Pc N0 [.ref N0, .int x1, .int x2, .ref (N0 + 16)] (fun H => (SFS (dC, dI) cL cI cO N0 bs v H ∧ H.size = sz) ∧ va_P (dC, dI) cls3 (outW cL N0 fo) H) (dC, dI) cls3 (ty3 cL cI cO)) (al_Q (some (.int 2)) (fun H => (∃ bs', SFS (dC, dI) cL cI cO N0 bs' v H) ∧ va_P (dC, dI) cls3 (outW cL N0 fo) H) (inL N0)) 4 152 (inL N0) := by
  refine met_ofWH (cc := cL_boxOf) (maxL := 5) (ret := (some .int)) (hh := [(0, 9, 12, 27), (0, 9, 16, 29)]) (by decide) rfl ?_
  intro p e s m args below meth c s₁ B hml htab hv
  obtain ⟨rfl, ⟨⟨hPx, hz0⟩, hO⟩, hK, hev⟩ := hv
  have hx := B.exec
  have hb := B.bytes
  have hr := B.returns
  have hw : ∀ w ∈ wG, w.before ([.ref N0, .int x1, .int x2, .ref (N0 + 16)] : List Value).toArray s = true := fun w hq => atoms_spec (ws := wsL_boxOf) B.pre w (List.mem_cons_of_mem _ hq)
  have hown : s.vm.findClass R_L = some m.cls := findClass_of_methodNamed B.named
  have hlocks := B.notSynchronized
  have hl := lv_entry ([.ref N0, .int x1, .int x2, .ref (N0 + 16)] : List Value) (n := 5) (Nat.le_of_ble_eq_true rfl)
  rw [lg_entry_eq]
  generalize (lg_sl ([.ref N0, .int x1, .int x2, .ref (N0 + 16)] : List Value) ++ List.replicate (5 - (lg_sl ([.ref N0, .int x1, .int x2, .ref (N0 + 16)] : List Value)).length) Slot.unset).toArray = ls at hl ⊢
  have hl : lv_has ls 5 [(0, .ref N0), (1, .int x1), (2, .int x2), (3, .ref (N0 + 16))] := hl
  refine lv_aload_n hx hb dL_boxOf_0 rfl (lv_at hl 3 rfl) ?_
  refine lv_iconst (v := 0) hx hb dL_boxOf_1 (by decide) ?_
  refine lv_aload_n hx hb dL_boxOf_2 rfl (lv_at hl 0 rfl) ?_
  refine lv_iload_n hx hb dL_boxOf_3 rfl (lv_at hl 1 rfl) ?_
  refine lv_iload_n hx hb dL_boxOf_4 rfl (lv_at hl 2 rfl) ?_
  refine thr_catch (cc := cL_boxOf) (E := "java/lang/IllegalStateException") (name := "java/lang/IllegalStateException") (vx_runV (As := [.int x1, .int x2]) (rest := [.int 0, .ref (N0 + 16)]) ⟨hx, hb, hml, hown, hw⟩ (kt_F_boxOf l hl0 N0 dC dI cL cI cO N0 (N0 + 1) (adB bs) v x1 x2 _ h) (cwV 2 hw (gV w_381 w_382 w_383 w_1 w_384) rfl rfl rfl (by decide +kernel) ⟨Nat.le_of_ble_eq_true rfl, Nat.le_of_ble_eq_true rfl⟩) ⟨ev_blind, va_recv hK hPx.1.1 (ci := 1) (q0 := 0) rfl rfl, ev_pre hPx.1 hK hev.1⟩ rfl rfl hl.1 rfl (lv_room (Nat.le_of_ble_eq_true rfl)) dL_boxOf_5 ⟨Nat.le_of_ble_eq_true rfl, Nat.le_of_ble_eq_true rfl⟩) hown [⟨0, 9, 12, 27⟩] ⟨0, 9, 16, 29⟩ [] htab (fun z hz => by have e := List.mem_singleton.mp hz; exact (by rw [e]; exact Or.inr ⟨by decide, _, hw _ w_198, hev.2.1⟩)) (by decide) (by decide) (hw _ w_199) (va_Nw.use (w := .castable "java/lang/IllegalStateException" "java/lang/IllegalStateException") rfl (hev.1.1 _ (by decide +kernel))) (fun q H1 locs hS => ?_)
  refine lv_astore (lv' := [(4, .ref q), (0, .ref N0), (1, .int x1), (2, .int x2), (3, .ref (N0 + 16))]) hx hb dL_boxOf_16 hl (by decide) rfl (fun ls hl => ?_)
  refine lv_iconst (v := 2) hx hb dL_boxOf_18 (by decide) ?_
  refine W.widen (k := 4) (n := 152) (Nat.le_of_ble_eq_true rfl) (Nat.le_of_ble_eq_true rfl) ?_
  have hk : ∀ q : Nat, q < s.heap.size → H1[q]? = s.heap[q]? := fun q hq => hS.2.1 q hq (fun z => z)
  exact W.iret hx hb hr (fun t ht hW => ⟨rfl, ⟨⟨bs, by rw [ht]; exact sfs_out hPx hS.1 (fun q hq _ => hk q hq)⟩, by rw [ht]; exact out_keep hO (fun q hq _ => hk q hq)⟩, (hS.F ht).mono (fun _ z => z.elim)⟩) (fun q hq => (hS.2.2 q hq).elim) dL_boxOf_19
theorem dL_turn_0 : decode cL_turn 0 = .ok (.aload 4, 2) := by decide +kernel
theorem dL_turn_2 : decode cL_turn 2 = .ok (.iconst 0, 1) := by decide +kernel
theorem dL_turn_3 : decode cL_turn 3 = .ok (.aload_n 0, 1) := by decide +kernel
theorem dL_turn_4 : decode cL_turn 4 = .ok (.iload_n 1, 1) := by decide +kernel
theorem dL_turn_5 : decode cL_turn 5 = .ok (.iload_n 2, 1) := by decide +kernel
theorem dL_turn_6 : decode cL_turn 6 = .ok (.iload_n 3, 1) := by decide +kernel
theorem dL_turn_7 : decode cL_turn 7 = .ok (.invokevirtual 50, 3) := by decide +kernel
theorem dL_turn_10 : decode cL_turn 10 = .ok (.i2l, 1) := by decide +kernel
theorem dL_turn_11 : decode cL_turn 11 = .ok (.lastore, 1) := by decide +kernel
theorem dL_turn_12 : decode cL_turn 12 = .ok (.goto 11, 3) := by decide +kernel
theorem dL_turn_15 : decode cL_turn 15 = .ok (.astore 5, 2) := by decide +kernel
theorem dL_turn_17 : decode cL_turn 17 = .ok (.iconst 1, 1) := by decide +kernel
theorem dL_turn_18 : decode cL_turn 18 = .ok (.ireturn, 1) := by decide +kernel
theorem dL_turn_19 : decode cL_turn 19 = .ok (.astore 5, 2) := by decide +kernel
theorem dL_turn_21 : decode cL_turn 21 = .ok (.iconst 2, 1) := by decide +kernel
theorem dL_turn_22 : decode cL_turn 22 = .ok (.ireturn, 1) := by decide +kernel
theorem dL_turn_23 : decode cL_turn 23 = .ok (.iconst 0, 1) := by decide +kernel
theorem dL_turn_24 : decode cL_turn 24 = .ok (.ireturn, 1) := by decide +kernel
abbrev wsL_turn : List Cond := .codeWith yL_turn cL_turn 6 (some .int) [(0, 12, 15, 27), (0, 12, 19, 29)] :: wG
set_option maxHeartbeats 1000000 in
set_option maxRecDepth 100000 in
theorem kn_L_turn (l : Launch) (N0 sz : Nat) (dC : Nat → ClassId) (dI : Nat → Nat → Nat) (cL cI cO : ClassId) (bs : Nat → Nat) (v : CV) (fo : Nat → Int64) (x1 : Int32) (x2 : Int32) (x3 : Int32) (r : Int32 × CV) (h : f_F_turn v x1 x2 x3 = some r) : Met l yL_turn wsL_turn ({ frames := 8, cells := 4, slots := 152, locals := 139 }) (hl_Pc N0 [.ref N0, .int x1, .int x2, .int x3, .ref (N0 + 16)] (fun H => (SFS (dC, dI) cL cI cO N0 bs v H ∧ H.size = sz) ∧ va_P (dC, dI) cls3 (outW cL N0 fo) H) (dC, dI) cls3 (ty3 cL cI cO)) (al_Q (some (.int 0)) (fun H => (∃ bs', SFS (dC, dI) cL cI cO N0 bs' r.2 H) ∧ va_P (dC, dI) cls3 (outW cL N0 (vp_updL fo 0 r.1.toInt64)) H) (inL N0)) 4 152 (inL N0) := by
  refine met_ofWH (cc := cL_turn) (maxL := 6) (ret := (some .int)) (hh := [(0, 12, 15, 27), (0, 12, 19, 29)]) (by decide) rfl ?_
  intro p e s m args below meth c s₁ B hml htab hv
  obtain ⟨rfl, ⟨⟨hPx, hz0⟩, hO⟩, hK, hev⟩ := hv
  have hx := B.exec
  have hb := B.bytes
  have hr := B.returns
  have hw : ∀ w ∈ wG, w.before ([.ref N0, .int x1, .int x2, .int x3, .ref (N0 + 16)] : List Value).toArray s = true := fun w hq => atoms_spec (ws := wsL_turn) B.pre w (List.mem_cons_of_mem _ hq)
  have hown : s.vm.findClass R_L = some m.cls := findClass_of_methodNamed B.named
  have hlocks := B.notSynchronized
  have hl := lv_entry ([.ref N0, .int x1, .int x2, .int x3, .ref (N0 + 16)] : List Value) (n := 6) (Nat.le_of_ble_eq_true rfl)
  rw [lg_entry_eq]
  generalize (lg_sl ([.ref N0, .int x1, .int x2, .int x3, .ref (N0 + 16)] : List Value) ++ List.replicate (6 - (lg_sl ([.ref N0, .int x1, .int x2, .int x3, .ref (N0 + 16)] : List Value)).length) Slot.unset).toArray = ls at hl ⊢
  have hl : lv_has ls 6 [(0, .ref N0), (1, .int x1), (2, .int x2), (3, .int x3), (4, .ref (N0 + 16))] := hl
  refine lv_aload hx hb dL_turn_0 (lv_at hl 4 rfl) ?_
  refine lv_iconst (v := 0) hx hb dL_turn_2 (by decide) ?_
  refine lv_aload_n hx hb dL_turn_3 rfl (lv_at hl 0 rfl) ?_
  refine lv_iload_n hx hb dL_turn_4 rfl (lv_at hl 1 rfl) ?_
  refine lv_iload_n hx hb dL_turn_5 rfl (lv_at hl 2 rfl) ?_
  refine lv_iload_n hx hb dL_turn_6 rfl (lv_at hl 3 rfl) ?_
  refine al_call (va_runV (As := [.int x1, .int x2, .int x3]) (rest := [.int 0, .ref (N0 + 16)]) ⟨hx, hb, hml, hown, hw⟩ (k_F_turn l dC dI cL cI cO N0 sz bs v x1 x2 x3 r h) (cwV 3 hw (gV w_395 w_396 w_397 w_1 w_398) rfl rfl rfl (by decide +kernel) ⟨Nat.le_of_ble_eq_true rfl, Nat.le_of_ble_eq_true rfl⟩) ⟨rd_blind, va_recv hK hPx.1.1 (ci := 1) (q0 := 0) rfl rfl, rd_pre ⟨hPx, hz0⟩ hK⟩ rfl rfl hl.1 rfl (lv_room (Nat.le_of_ble_eq_true rfl)) dL_turn_7 ⟨Nat.le_of_ble_eq_true rfl, Nat.le_of_ble_eq_true rfl⟩) (A0 := inL N0) va_S.rf (fun _ z => Or.inl z) (fun H locs hG hS hle hk => ?_)
  obtain ⟨bs', hG⟩ := hG
  replace hO := out_keep hO hk
  refine lv_i2l hx hb dL_turn_10 rfl ?_
  refine al_last hx hb hK hO out_D hS 0 0 rfl rfl (x := r.1.toInt64) in01 dL_turn_11 (fun H1 locs hO1 hS hz1 hk1 => ?_)
  refine lv_goto (tgt := 23) hx hb dL_turn_12 (by decide) ?_
  refine lv_iconst (v := 0) hx hb dL_turn_23 (by decide) ?_
  have hG1 := sfs_out hG (Nat.le_of_eq hz1.symm) (fun q _ hq => hk1 q hq)
  refine W.widen (k := 4) (n := 152) (Nat.le_of_ble_eq_true rfl) (Nat.le_of_ble_eq_true rfl) ?_
  exact W.iret hx hb hr (fun t ht hW => ⟨rfl, ⟨⟨_, by rw [ht]; exact hG1⟩, by rw [ht]; exact hO1⟩, hS.F ht⟩) hS.2.2 dL_turn_24
set_option maxHeartbeats 1000000 in
set_option maxRecDepth 100000 in
theorem kxIOB_L_turn (l : Launch) (hl0 : l.stackTraces = false) (N0 sz : Nat) (dC : Nat → ClassId) (dI : Nat → Nat → Nat) (cL cI cO : ClassId) (bs : Nat → Nat) (v : CV) (fo : Nat → Int64) (x1 : Int32) (x2 : Int32) (x3 : Int32) (h : g_F_turn v x1 x2 x3 = some "java/lang/IndexOutOfBoundsException") : Met l yL_turn wsL_turn ({ frames := 8, cells := 4, slots := 152, locals := 139 }) (hl_Pc N0 [.ref N0, .int x1, .int x2, .int x3, .ref (N0 + 16)] (fun H => (SFS (dC, dI) cL cI cO N0 bs v H ∧ H.size = sz) ∧ va_P (dC, dI) cls3 (outW cL N0 fo) H) (dC, dI) cls3 (ty3 cL cI cO)) (al_Q (some (.int 1)) (fun H => (∃ bs', SFS (dC, dI) cL cI cO N0 bs' v H) ∧ va_P (dC, dI) cls3 (outW cL N0 fo) H) (inL N0)) 4 152 (inL N0) := by
  refine met_ofWH (cc := cL_turn) (maxL := 6) (ret := (some .int)) (hh := [(0, 12, 15, 27), (0, 12, 19, 29)]) (by decide) rfl ?_
  intro p e s m args below meth c s₁ B hml htab hv
  obtain ⟨rfl, ⟨⟨hPx, hz0⟩, hO⟩, hK, hev⟩ := hv
  have hx := B.exec
  have hb := B.bytes
  have hr := B.returns
  have hw : ∀ w ∈ wG, w.before ([.ref N0, .int x1, .int x2, .int x3, .ref (N0 + 16)] : List Value).toArray s = true := fun w hq => atoms_spec (ws := wsL_turn) B.pre w (List.mem_cons_of_mem _ hq)
  have hown : s.vm.findClass R_L = some m.cls := findClass_of_methodNamed B.named
  have hlocks := B.notSynchronized
  have hl := lv_entry ([.ref N0, .int x1, .int x2, .int x3, .ref (N0 + 16)] : List Value) (n := 6) (Nat.le_of_ble_eq_true rfl)
  rw [lg_entry_eq]
  generalize (lg_sl ([.ref N0, .int x1, .int x2, .int x3, .ref (N0 + 16)] : List Value) ++ List.replicate (6 - (lg_sl ([.ref N0, .int x1, .int x2, .int x3, .ref (N0 + 16)] : List Value)).length) Slot.unset).toArray = ls at hl ⊢
  have hl : lv_has ls 6 [(0, .ref N0), (1, .int x1), (2, .int x2), (3, .int x3), (4, .ref (N0 + 16))] := hl
  refine lv_aload hx hb dL_turn_0 (lv_at hl 4 rfl) ?_
  refine lv_iconst (v := 0) hx hb dL_turn_2 (by decide) ?_
  refine lv_aload_n hx hb dL_turn_3 rfl (lv_at hl 0 rfl) ?_
  refine lv_iload_n hx hb dL_turn_4 rfl (lv_at hl 1 rfl) ?_
  refine lv_iload_n hx hb dL_turn_5 rfl (lv_at hl 2 rfl) ?_
  refine lv_iload_n hx hb dL_turn_6 rfl (lv_at hl 3 rfl) ?_
  refine thr_catch (cc := cL_turn) (E := "java/lang/IndexOutOfBoundsException") (name := "java/lang/IndexOutOfBoundsException") (vx_runV (As := [.int x1, .int x2, .int x3]) (rest := [.int 0, .ref (N0 + 16)]) ⟨hx, hb, hml, hown, hw⟩ (kt_F_turn l hl0 N0 dC dI cL cI cO N0 (N0 + 1) (adB bs) v x1 x2 x3 _ h) (cwV 3 hw (gV w_395 w_396 w_397 w_1 w_398) rfl rfl rfl (by decide +kernel) ⟨Nat.le_of_ble_eq_true rfl, Nat.le_of_ble_eq_true rfl⟩) ⟨ev_blind, va_recv hK hPx.1.1 (ci := 1) (q0 := 0) rfl rfl, ev_pre hPx.1 hK hev.1⟩ rfl rfl hl.1 rfl (lv_room (Nat.le_of_ble_eq_true rfl)) dL_turn_7 ⟨Nat.le_of_ble_eq_true rfl, Nat.le_of_ble_eq_true rfl⟩) hown [] ⟨0, 12, 15, 27⟩ [⟨0, 12, 19, 29⟩] htab (fun z hz => by cases hz) (by decide) (by decide) (hw _ w_198) (va_Nw.use (w := .castable "java/lang/IndexOutOfBoundsException" "java/lang/IndexOutOfBoundsException") rfl (hev.1.1 _ (by decide +kernel))) (fun q H1 locs hS => ?_)
  refine lv_astore (lv' := [(5, .ref q), (0, .ref N0), (1, .int x1), (2, .int x2), (3, .int x3), (4, .ref (N0 + 16))]) hx hb dL_turn_15 hl (by decide) rfl (fun ls hl => ?_)
  refine lv_iconst (v := 1) hx hb dL_turn_17 (by decide) ?_
  refine W.widen (k := 4) (n := 152) (Nat.le_of_ble_eq_true rfl) (Nat.le_of_ble_eq_true rfl) ?_
  have hk : ∀ q : Nat, q < s.heap.size → H1[q]? = s.heap[q]? := fun q hq => hS.2.1 q hq (fun z => z)
  exact W.iret hx hb hr (fun t ht hW => ⟨rfl, ⟨⟨bs, by rw [ht]; exact sfs_out hPx hS.1 (fun q hq _ => hk q hq)⟩, by rw [ht]; exact out_keep hO (fun q hq _ => hk q hq)⟩, (hS.F ht).mono (fun _ z => z.elim)⟩) (fun q hq => (hS.2.2 q hq).elim) dL_turn_18
set_option maxHeartbeats 1000000 in
set_option maxRecDepth 100000 in
theorem kxISE_L_turn (l : Launch) (hl0 : l.stackTraces = false) (N0 sz : Nat) (dC : Nat → ClassId) (dI : Nat → Nat → Nat) (cL cI cO : ClassId) (bs : Nat → Nat) (v : CV) (fo : Nat → Int64) (x1 : Int32) (x2 : Int32) (x3 : Int32) (h : g_F_turn v x1 x2 x3 = some "java/lang/IllegalStateException") : Met l yL_turn wsL_turn ({ frames := 8, cells := 4, slots := 152, locals := 139 }) (hl_Pc N0 [.ref N0, .int x1, .int x2, .int x3, .ref (N0 + 16)] (fun H => (SFS (dC, dI) cL cI cO N0 bs v H ∧ H.size = sz) ∧ va_P (dC, dI) cls3 (outW cL N0 fo) H) (dC, dI) cls3 (ty3 cL cI cO)) (al_Q (some (.int 2)) (fun H => (∃ bs', SFS (dC, dI) cL cI cO N0 bs' v H) ∧ va_P (dC, dI) cls3 (outW cL N0 fo) H) (inL N0)) 4 152 (inL N0) := by
  refine met_ofWH (cc := cL_turn) (maxL := 6) (ret := (some .int)) (hh := [(0, 12, 15, 27), (0, 12, 19, 29)]) (by decide) rfl ?_
  intro p e s m args below meth c s₁ B hml htab hv
  obtain ⟨rfl, ⟨⟨hPx, hz0⟩, hO⟩, hK, hev⟩ := hv
  have hx := B.exec
  have hb := B.bytes
  have hr := B.returns
  have hw : ∀ w ∈ wG, w.before ([.ref N0, .int x1, .int x2, .int x3, .ref (N0 + 16)] : List Value).toArray s = true := fun w hq => atoms_spec (ws := wsL_turn) B.pre w (List.mem_cons_of_mem _ hq)
  have hown : s.vm.findClass R_L = some m.cls := findClass_of_methodNamed B.named
  have hlocks := B.notSynchronized
  have hl := lv_entry ([.ref N0, .int x1, .int x2, .int x3, .ref (N0 + 16)] : List Value) (n := 6) (Nat.le_of_ble_eq_true rfl)
  rw [lg_entry_eq]
  generalize (lg_sl ([.ref N0, .int x1, .int x2, .int x3, .ref (N0 + 16)] : List Value) ++ List.replicate (6 - (lg_sl ([.ref N0, .int x1, .int x2, .int x3, .ref (N0 + 16)] : List Value)).length) Slot.unset).toArray = ls at hl ⊢
  have hl : lv_has ls 6 [(0, .ref N0), (1, .int x1), (2, .int x2), (3, .int x3), (4, .ref (N0 + 16))] := hl
  refine lv_aload hx hb dL_turn_0 (lv_at hl 4 rfl) ?_
  refine lv_iconst (v := 0) hx hb dL_turn_2 (by decide) ?_
  refine lv_aload_n hx hb dL_turn_3 rfl (lv_at hl 0 rfl) ?_
  refine lv_iload_n hx hb dL_turn_4 rfl (lv_at hl 1 rfl) ?_
  refine lv_iload_n hx hb dL_turn_5 rfl (lv_at hl 2 rfl) ?_
  refine lv_iload_n hx hb dL_turn_6 rfl (lv_at hl 3 rfl) ?_
  refine thr_catch (cc := cL_turn) (E := "java/lang/IllegalStateException") (name := "java/lang/IllegalStateException") (vx_runV (As := [.int x1, .int x2, .int x3]) (rest := [.int 0, .ref (N0 + 16)]) ⟨hx, hb, hml, hown, hw⟩ (kt_F_turn l hl0 N0 dC dI cL cI cO N0 (N0 + 1) (adB bs) v x1 x2 x3 _ h) (cwV 3 hw (gV w_395 w_396 w_397 w_1 w_398) rfl rfl rfl (by decide +kernel) ⟨Nat.le_of_ble_eq_true rfl, Nat.le_of_ble_eq_true rfl⟩) ⟨ev_blind, va_recv hK hPx.1.1 (ci := 1) (q0 := 0) rfl rfl, ev_pre hPx.1 hK hev.1⟩ rfl rfl hl.1 rfl (lv_room (Nat.le_of_ble_eq_true rfl)) dL_turn_7 ⟨Nat.le_of_ble_eq_true rfl, Nat.le_of_ble_eq_true rfl⟩) hown [⟨0, 12, 15, 27⟩] ⟨0, 12, 19, 29⟩ [] htab (fun z hz => by have e := List.mem_singleton.mp hz; exact (by rw [e]; exact Or.inr ⟨by decide, _, hw _ w_198, hev.2.1⟩)) (by decide) (by decide) (hw _ w_199) (va_Nw.use (w := .castable "java/lang/IllegalStateException" "java/lang/IllegalStateException") rfl (hev.1.1 _ (by decide +kernel))) (fun q H1 locs hS => ?_)
  refine lv_astore (lv' := [(5, .ref q), (0, .ref N0), (1, .int x1), (2, .int x2), (3, .int x3), (4, .ref (N0 + 16))]) hx hb dL_turn_19 hl (by decide) rfl (fun ls hl => ?_)
  refine lv_iconst (v := 2) hx hb dL_turn_21 (by decide) ?_
  refine W.widen (k := 4) (n := 152) (Nat.le_of_ble_eq_true rfl) (Nat.le_of_ble_eq_true rfl) ?_
  have hk : ∀ q : Nat, q < s.heap.size → H1[q]? = s.heap[q]? := fun q hq => hS.2.1 q hq (fun z => z)
  exact W.iret hx hb hr (fun t ht hW => ⟨rfl, ⟨⟨bs, by rw [ht]; exact sfs_out hPx hS.1 (fun q hq _ => hk q hq)⟩, by rw [ht]; exact out_keep hO (fun q hq _ => hk q hq)⟩, (hS.F ht).mono (fun _ z => z.elim)⟩) (fun q hq => (hS.2.2 q hq).elim) dL_turn_22
theorem dL_kind_0 : decode cL_kind 0 = .ok (.aload_n 2, 1) := by decide +kernel
theorem dL_kind_1 : decode cL_kind 1 = .ok (.iconst 0, 1) := by decide +kernel
theorem dL_kind_2 : decode cL_kind 2 = .ok (.aload_n 0, 1) := by decide +kernel
theorem dL_kind_3 : decode cL_kind 3 = .ok (.iload_n 1, 1) := by decide +kernel
theorem dL_kind_4 : decode cL_kind 4 = .ok (.invokevirtual 54, 3) := by decide +kernel
theorem dL_kind_7 : decode cL_kind 7 = .ok (.i2l, 1) := by decide +kernel
theorem dL_kind_8 : decode cL_kind 8 = .ok (.lastore, 1) := by decide +kernel
theorem dL_kind_9 : decode cL_kind 9 = .ok (.goto 6, 3) := by decide +kernel
theorem dL_kind_12 : decode cL_kind 12 = .ok (.astore_n 3, 1) := by decide +kernel
theorem dL_kind_13 : decode cL_kind 13 = .ok (.iconst 1, 1) := by decide +kernel
theorem dL_kind_14 : decode cL_kind 14 = .ok (.ireturn, 1) := by decide +kernel
theorem dL_kind_15 : decode cL_kind 15 = .ok (.iconst 0, 1) := by decide +kernel
theorem dL_kind_16 : decode cL_kind 16 = .ok (.ireturn, 1) := by decide +kernel
abbrev wsL_kind : List Cond := .codeWith yL_kind cL_kind 4 (some .int) [(0, 9, 12, 27)] :: wG
set_option maxHeartbeats 1000000 in
set_option maxRecDepth 100000 in
theorem kn_L_kind (l : Launch) (N0 sz : Nat) (dC : Nat → ClassId) (dI : Nat → Nat → Nat) (cL cI cO : ClassId) (bs : Nat → Nat) (v : CV) (fo : Nat → Int64) (x1 : Int32) (r : Int32) (h : f_F_kind v x1 = some r) : Met l yL_kind wsL_kind ({ frames := 8, cells := 4, slots := 152, locals := 134 }) (hl_Pc N0 [.ref N0, .int x1, .ref (N0 + 16)] (fun H => (SFS (dC, dI) cL cI cO N0 bs v H ∧ H.size = sz) ∧ va_P (dC, dI) cls3 (outW cL N0 fo) H) (dC, dI) cls3 (ty3 cL cI cO)) (al_Q (some (.int 0)) (fun H => (∃ bs', SFS (dC, dI) cL cI cO N0 bs' v H) ∧ va_P (dC, dI) cls3 (outW cL N0 (vp_updL fo 0 r.toInt64)) H) (inL N0)) 4 152 (inL N0) := by
  refine met_ofWH (cc := cL_kind) (maxL := 4) (ret := (some .int)) (hh := [(0, 9, 12, 27)]) (by decide) rfl ?_
  intro p e s m args below meth c s₁ B hml htab hv
  obtain ⟨rfl, ⟨⟨hPx, hz0⟩, hO⟩, hK, hev⟩ := hv
  have hx := B.exec
  have hb := B.bytes
  have hr := B.returns
  have hw : ∀ w ∈ wG, w.before ([.ref N0, .int x1, .ref (N0 + 16)] : List Value).toArray s = true := fun w hq => atoms_spec (ws := wsL_kind) B.pre w (List.mem_cons_of_mem _ hq)
  have hown : s.vm.findClass R_L = some m.cls := findClass_of_methodNamed B.named
  have hlocks := B.notSynchronized
  have hl := lv_entry ([.ref N0, .int x1, .ref (N0 + 16)] : List Value) (n := 4) (Nat.le_of_ble_eq_true rfl)
  rw [lg_entry_eq]
  generalize (lg_sl ([.ref N0, .int x1, .ref (N0 + 16)] : List Value) ++ List.replicate (4 - (lg_sl ([.ref N0, .int x1, .ref (N0 + 16)] : List Value)).length) Slot.unset).toArray = ls at hl ⊢
  have hl : lv_has ls 4 [(0, .ref N0), (1, .int x1), (2, .ref (N0 + 16))] := hl
  refine lv_aload_n hx hb dL_kind_0 rfl (lv_at hl 2 rfl) ?_
  refine lv_iconst (v := 0) hx hb dL_kind_1 (by decide) ?_
  refine lv_aload_n hx hb dL_kind_2 rfl (lv_at hl 0 rfl) ?_
  refine lv_iload_n hx hb dL_kind_3 rfl (lv_at hl 1 rfl) ?_
  refine vp_callSi (va_Run.run (va_runV (As := [.int x1]) (rest := [.int 0, .ref (N0 + 16)]) ⟨hx, hb, hml, hown, hw⟩ (k_F_kind l dC dI cL cI cO N0 (N0 + 1) (adB bs) v x1 r h) (cwV 1 hw (gV w_413 w_414 w_415 w_1 w_416) rfl rfl rfl (by decide +kernel) ⟨Nat.le_of_ble_eq_true rfl, Nat.le_of_ble_eq_true rfl⟩) ⟨rd_blind, va_recv hK hPx.1.1 (ci := 1) (q0 := 0) rfl rfl, rd_pre hPx.1 hK⟩ rfl rfl hl.1 rfl (lv_room (Nat.le_of_ble_eq_true rfl)) dL_kind_4 ⟨Nat.le_of_ble_eq_true rfl, Nat.le_of_ble_eq_true rfl⟩)) (fun z hz9 => ?_)
  rw [hz9]; clear hz9
  obtain ⟨H, hH⟩ : ∃ H : Heap, H = s.heap := ⟨_, rfl⟩
  rw [← hH] at hO ⊢
  have hS : va_S (inL N0) s.heap H [] := by rw [hH]; exact va_S.rf
  have hG : SFS (dC, dI) cL cI cO N0 bs v H := by rw [hH]; exact hPx
  refine lv_i2l hx hb dL_kind_7 rfl ?_
  refine al_last hx hb hK hO out_D hS 0 0 rfl rfl (x := r.toInt64) in01 dL_kind_8 (fun H1 locs hO1 hS hz1 hk1 => ?_)
  refine lv_goto (tgt := 15) hx hb dL_kind_9 (by decide) ?_
  refine lv_iconst (v := 0) hx hb dL_kind_15 (by decide) ?_
  have hG1 := sfs_out hG (Nat.le_of_eq hz1.symm) (fun q _ hq => hk1 q hq)
  refine W.widen (k := 4) (n := 152) (Nat.le_of_ble_eq_true rfl) (Nat.le_of_ble_eq_true rfl) ?_
  exact W.iret hx hb hr (fun t ht hW => ⟨rfl, ⟨⟨_, by rw [ht]; exact hG1⟩, by rw [ht]; exact hO1⟩, hS.F ht⟩) hS.2.2 dL_kind_16
set_option maxHeartbeats 1000000 in
set_option maxRecDepth 100000 in
theorem kxIOB_L_kind (l : Launch) (hl0 : l.stackTraces = false) (N0 sz : Nat) (dC : Nat → ClassId) (dI : Nat → Nat → Nat) (cL cI cO : ClassId) (bs : Nat → Nat) (v : CV) (fo : Nat → Int64) (x1 : Int32) (h : g_F_kind v x1 = some "java/lang/IndexOutOfBoundsException") : Met l yL_kind wsL_kind ({ frames := 8, cells := 4, slots := 152, locals := 134 }) (hl_Pc N0 [.ref N0, .int x1, .ref (N0 + 16)] (fun H => (SFS (dC, dI) cL cI cO N0 bs v H ∧ H.size = sz) ∧ va_P (dC, dI) cls3 (outW cL N0 fo) H) (dC, dI) cls3 (ty3 cL cI cO)) (al_Q (some (.int 1)) (fun H => (∃ bs', SFS (dC, dI) cL cI cO N0 bs' v H) ∧ va_P (dC, dI) cls3 (outW cL N0 fo) H) (inL N0)) 4 152 (inL N0) := by
  refine met_ofWH (cc := cL_kind) (maxL := 4) (ret := (some .int)) (hh := [(0, 9, 12, 27)]) (by decide) rfl ?_
  intro p e s m args below meth c s₁ B hml htab hv
  obtain ⟨rfl, ⟨⟨hPx, hz0⟩, hO⟩, hK, hev⟩ := hv
  have hx := B.exec
  have hb := B.bytes
  have hr := B.returns
  have hw : ∀ w ∈ wG, w.before ([.ref N0, .int x1, .ref (N0 + 16)] : List Value).toArray s = true := fun w hq => atoms_spec (ws := wsL_kind) B.pre w (List.mem_cons_of_mem _ hq)
  have hown : s.vm.findClass R_L = some m.cls := findClass_of_methodNamed B.named
  have hlocks := B.notSynchronized
  have hl := lv_entry ([.ref N0, .int x1, .ref (N0 + 16)] : List Value) (n := 4) (Nat.le_of_ble_eq_true rfl)
  rw [lg_entry_eq]
  generalize (lg_sl ([.ref N0, .int x1, .ref (N0 + 16)] : List Value) ++ List.replicate (4 - (lg_sl ([.ref N0, .int x1, .ref (N0 + 16)] : List Value)).length) Slot.unset).toArray = ls at hl ⊢
  have hl : lv_has ls 4 [(0, .ref N0), (1, .int x1), (2, .ref (N0 + 16))] := hl
  refine lv_aload_n hx hb dL_kind_0 rfl (lv_at hl 2 rfl) ?_
  refine lv_iconst (v := 0) hx hb dL_kind_1 (by decide) ?_
  refine lv_aload_n hx hb dL_kind_2 rfl (lv_at hl 0 rfl) ?_
  refine lv_iload_n hx hb dL_kind_3 rfl (lv_at hl 1 rfl) ?_
  refine thr_catch (cc := cL_kind) (E := "java/lang/IndexOutOfBoundsException") (name := "java/lang/IndexOutOfBoundsException") (vx_runV (As := [.int x1]) (rest := [.int 0, .ref (N0 + 16)]) ⟨hx, hb, hml, hown, hw⟩ (kt_F_kind l hl0 N0 dC dI cL cI cO N0 (N0 + 1) (adB bs) v x1 _ h) (cwV 1 hw (gV w_413 w_414 w_415 w_1 w_416) rfl rfl rfl (by decide +kernel) ⟨Nat.le_of_ble_eq_true rfl, Nat.le_of_ble_eq_true rfl⟩) ⟨ev_blind, va_recv hK hPx.1.1 (ci := 1) (q0 := 0) rfl rfl, ev_pre hPx.1 hK hev.1⟩ rfl rfl hl.1 rfl (lv_room (Nat.le_of_ble_eq_true rfl)) dL_kind_4 ⟨Nat.le_of_ble_eq_true rfl, Nat.le_of_ble_eq_true rfl⟩) hown [] ⟨0, 9, 12, 27⟩ [] htab (fun z hz => by cases hz) (by decide) (by decide) (hw _ w_198) (va_Nw.use (w := .castable "java/lang/IndexOutOfBoundsException" "java/lang/IndexOutOfBoundsException") rfl (hev.1.1 _ (by decide +kernel))) (fun q H1 locs hS => ?_)
  refine lv_astore_n (lv' := [(3, .ref q), (0, .ref N0), (1, .int x1), (2, .ref (N0 + 16))]) hx hb dL_kind_12 rfl hl (by decide) rfl (fun ls hl => ?_)
  refine lv_iconst (v := 1) hx hb dL_kind_13 (by decide) ?_
  refine W.widen (k := 4) (n := 152) (Nat.le_of_ble_eq_true rfl) (Nat.le_of_ble_eq_true rfl) ?_
  have hk : ∀ q : Nat, q < s.heap.size → H1[q]? = s.heap[q]? := fun q hq => hS.2.1 q hq (fun z => z)
  exact W.iret hx hb hr (fun t ht hW => ⟨rfl, ⟨⟨bs, by rw [ht]; exact sfs_out hPx hS.1 (fun q hq _ => hk q hq)⟩, by rw [ht]; exact out_keep hO (fun q hq _ => hk q hq)⟩, (hS.F ht).mono (fun _ z => z.elim)⟩) (fun q hq => (hS.2.2 q hq).elim) dL_kind_14
theorem dL_same_0 : decode cL_same 0 = .ok (.aload_n 3, 1) := by decide +kernel
theorem dL_same_1 : decode cL_same 1 = .ok (.iconst 0, 1) := by decide +kernel
theorem dL_same_2 : decode cL_same 2 = .ok (.aload_n 0, 1) := by decide +kernel
theorem dL_same_3 : decode cL_same 3 = .ok (.iload_n 1, 1) := by decide +kernel
theorem dL_same_4 : decode cL_same 4 = .ok (.iload_n 2, 1) := by decide +kernel
theorem dL_same_5 : decode cL_same 5 = .ok (.invokevirtual 58, 3) := by decide +kernel
theorem dL_same_8 : decode cL_same 8 = .ok (.ifCond .eq 7, 3) := by decide +kernel
theorem dL_same_11 : decode cL_same 11 = .ok (.lconst 1, 1) := by decide +kernel
theorem dL_same_12 : decode cL_same 12 = .ok (.goto 4, 3) := by decide +kernel
theorem dL_same_15 : decode cL_same 15 = .ok (.lconst 0, 1) := by decide +kernel
theorem dL_same_16 : decode cL_same 16 = .ok (.lastore, 1) := by decide +kernel
theorem dL_same_17 : decode cL_same 17 = .ok (.goto 11, 3) := by decide +kernel
theorem dL_same_20 : decode cL_same 20 = .ok (.astore 4, 2) := by decide +kernel
theorem dL_same_22 : decode cL_same 22 = .ok (.iconst 1, 1) := by decide +kernel
theorem dL_same_23 : decode cL_same 23 = .ok (.ireturn, 1) := by decide +kernel
theorem dL_same_24 : decode cL_same 24 = .ok (.astore 4, 2) := by decide +kernel
theorem dL_same_26 : decode cL_same 26 = .ok (.iconst 2, 1) := by decide +kernel
theorem dL_same_27 : decode cL_same 27 = .ok (.ireturn, 1) := by decide +kernel
theorem dL_same_28 : decode cL_same 28 = .ok (.iconst 0, 1) := by decide +kernel
theorem dL_same_29 : decode cL_same 29 = .ok (.ireturn, 1) := by decide +kernel
abbrev wsL_same : List Cond := .codeWith yL_same cL_same 5 (some .int) [(0, 17, 20, 27), (0, 17, 24, 29)] :: wG
set_option maxHeartbeats 1000000 in
set_option maxRecDepth 100000 in
theorem kn_L_same (l : Launch) (N0 sz : Nat) (dC : Nat → ClassId) (dI : Nat → Nat → Nat) (cL cI cO : ClassId) (bs : Nat → Nat) (v : CV) (fo : Nat → Int64) (x1 : Int32) (x2 : Int32) (r : Int32) (h : f_F_same v x1 x2 = some r) : Met l yL_same wsL_same ({ frames := 8, cells := 4, slots := 152, locals := 229 }) (hl_Pc N0 [.ref N0, .int x1, .int x2, .ref (N0 + 16)] (fun H => (SFS (dC, dI) cL cI cO N0 bs v H ∧ H.size = sz) ∧ va_P (dC, dI) cls3 (outW cL N0 fo) H) (dC, dI) cls3 (ty3 cL cI cO)) (al_Q (some (.int 0)) (fun H => (∃ bs', SFS (dC, dI) cL cI cO N0 bs' v H) ∧ va_P (dC, dI) cls3 (outW cL N0 (vp_updL fo 0 (bl r))) H) (inL N0)) 4 152 (inL N0) := by
  refine met_ofWH (cc := cL_same) (maxL := 5) (ret := (some .int)) (hh := [(0, 17, 20, 27), (0, 17, 24, 29)]) (by decide) rfl ?_
  intro p e s m args below meth c s₁ B hml htab hv
  obtain ⟨rfl, ⟨⟨hPx, hz0⟩, hO⟩, hK, hev⟩ := hv
  have hx := B.exec
  have hb := B.bytes
  have hr := B.returns
  have hw : ∀ w ∈ wG, w.before ([.ref N0, .int x1, .int x2, .ref (N0 + 16)] : List Value).toArray s = true := fun w hq => atoms_spec (ws := wsL_same) B.pre w (List.mem_cons_of_mem _ hq)
  have hown : s.vm.findClass R_L = some m.cls := findClass_of_methodNamed B.named
  have hlocks := B.notSynchronized
  have hl := lv_entry ([.ref N0, .int x1, .int x2, .ref (N0 + 16)] : List Value) (n := 5) (Nat.le_of_ble_eq_true rfl)
  rw [lg_entry_eq]
  generalize (lg_sl ([.ref N0, .int x1, .int x2, .ref (N0 + 16)] : List Value) ++ List.replicate (5 - (lg_sl ([.ref N0, .int x1, .int x2, .ref (N0 + 16)] : List Value)).length) Slot.unset).toArray = ls at hl ⊢
  have hl : lv_has ls 5 [(0, .ref N0), (1, .int x1), (2, .int x2), (3, .ref (N0 + 16))] := hl
  refine lv_aload_n hx hb dL_same_0 rfl (lv_at hl 3 rfl) ?_
  refine lv_iconst (v := 0) hx hb dL_same_1 (by decide) ?_
  refine lv_aload_n hx hb dL_same_2 rfl (lv_at hl 0 rfl) ?_
  refine lv_iload_n hx hb dL_same_3 rfl (lv_at hl 1 rfl) ?_
  refine lv_iload_n hx hb dL_same_4 rfl (lv_at hl 2 rfl) ?_
  refine vp_callSi (va_Run.run (va_runV (As := [.int x1, .int x2]) (rest := [.int 0, .ref (N0 + 16)]) ⟨hx, hb, hml, hown, hw⟩ (k_F_same l dC dI cL cI cO N0 (N0 + 1) (adB bs) v x1 x2 r h) (cwV 2 hw (gV w_420 w_421 w_422 w_1 w_423) rfl rfl rfl (by decide +kernel) ⟨Nat.le_of_ble_eq_true rfl, Nat.le_of_ble_eq_true rfl⟩) ⟨rd_blind, va_recv hK hPx.1.1 (ci := 1) (q0 := 0) rfl rfl, rd_pre hPx.1 hK⟩ rfl rfl hl.1 rfl (lv_room (Nat.le_of_ble_eq_true rfl)) dL_same_5 ⟨Nat.le_of_ble_eq_true rfl, Nat.le_of_ble_eq_true rfl⟩)) (fun z hz9 => ?_)
  rw [hz9]; clear hz9
  obtain ⟨H, hH⟩ : ∃ H : Heap, H = s.heap := ⟨_, rfl⟩
  rw [← hH] at hO ⊢
  have hS : va_S (inL N0) s.heap H [] := by rw [hH]; exact va_S.rf
  have hG : SFS (dC, dI) cL cI cO N0 bs v H := by rw [hH]; exact hPx
  refine lv_if_eq (tgt := 15) hx hb dL_same_8 (by decide) (fun c1 => ?_) (fun c1 => ?_)
  · rw [show bl r = 0 from if_pos c1]
    refine lv_lconst (v := 0) hx hb dL_same_15 (by decide) ?_
    refine al_last hx hb hK hO out_D hS 0 0 rfl rfl (x := 0) in01 dL_same_16 (fun H1 locs hO1 hS hz1 hk1 => ?_)
    refine lv_goto (tgt := 28) hx hb dL_same_17 (by decide) ?_
    refine lv_iconst (v := 0) hx hb dL_same_28 (by decide) ?_
    have hG1 := sfs_out hG (Nat.le_of_eq hz1.symm) (fun q _ hq => hk1 q hq)
    refine W.widen (k := 4) (n := 152) (Nat.le_of_ble_eq_true rfl) (Nat.le_of_ble_eq_true rfl) ?_
    exact W.iret hx hb hr (fun t ht hW => ⟨rfl, ⟨⟨_, by rw [ht]; exact hG1⟩, by rw [ht]; exact hO1⟩, hS.F ht⟩) hS.2.2 dL_same_29
  · rw [show bl r = 1 from if_neg c1]
    refine lv_lconst (v := 1) hx hb dL_same_11 (by decide) ?_
    refine lv_goto (tgt := 16) hx hb dL_same_12 (by decide) ?_
    refine al_last hx hb hK hO out_D hS 0 0 rfl rfl (x := 1) in01 dL_same_16 (fun H1 locs hO1 hS hz1 hk1 => ?_)
    refine lv_goto (tgt := 28) hx hb dL_same_17 (by decide) ?_
    refine lv_iconst (v := 0) hx hb dL_same_28 (by decide) ?_
    have hG1 := sfs_out hG (Nat.le_of_eq hz1.symm) (fun q _ hq => hk1 q hq)
    refine W.widen (k := 4) (n := 152) (Nat.le_of_ble_eq_true rfl) (Nat.le_of_ble_eq_true rfl) ?_
    exact W.iret hx hb hr (fun t ht hW => ⟨rfl, ⟨⟨_, by rw [ht]; exact hG1⟩, by rw [ht]; exact hO1⟩, hS.F ht⟩) hS.2.2 dL_same_29
set_option maxHeartbeats 1000000 in
set_option maxRecDepth 100000 in
theorem kxIOB_L_same (l : Launch) (hl0 : l.stackTraces = false) (N0 sz : Nat) (dC : Nat → ClassId) (dI : Nat → Nat → Nat) (cL cI cO : ClassId) (bs : Nat → Nat) (v : CV) (fo : Nat → Int64) (x1 : Int32) (x2 : Int32) (h : g_F_same v x1 x2 = some "java/lang/IndexOutOfBoundsException") : Met l yL_same wsL_same ({ frames := 8, cells := 4, slots := 152, locals := 229 }) (hl_Pc N0 [.ref N0, .int x1, .int x2, .ref (N0 + 16)] (fun H => (SFS (dC, dI) cL cI cO N0 bs v H ∧ H.size = sz) ∧ va_P (dC, dI) cls3 (outW cL N0 fo) H) (dC, dI) cls3 (ty3 cL cI cO)) (al_Q (some (.int 1)) (fun H => (∃ bs', SFS (dC, dI) cL cI cO N0 bs' v H) ∧ va_P (dC, dI) cls3 (outW cL N0 fo) H) (inL N0)) 4 152 (inL N0) := by
  refine met_ofWH (cc := cL_same) (maxL := 5) (ret := (some .int)) (hh := [(0, 17, 20, 27), (0, 17, 24, 29)]) (by decide) rfl ?_
  intro p e s m args below meth c s₁ B hml htab hv
  obtain ⟨rfl, ⟨⟨hPx, hz0⟩, hO⟩, hK, hev⟩ := hv
  have hx := B.exec
  have hb := B.bytes
  have hr := B.returns
  have hw : ∀ w ∈ wG, w.before ([.ref N0, .int x1, .int x2, .ref (N0 + 16)] : List Value).toArray s = true := fun w hq => atoms_spec (ws := wsL_same) B.pre w (List.mem_cons_of_mem _ hq)
  have hown : s.vm.findClass R_L = some m.cls := findClass_of_methodNamed B.named
  have hlocks := B.notSynchronized
  have hl := lv_entry ([.ref N0, .int x1, .int x2, .ref (N0 + 16)] : List Value) (n := 5) (Nat.le_of_ble_eq_true rfl)
  rw [lg_entry_eq]
  generalize (lg_sl ([.ref N0, .int x1, .int x2, .ref (N0 + 16)] : List Value) ++ List.replicate (5 - (lg_sl ([.ref N0, .int x1, .int x2, .ref (N0 + 16)] : List Value)).length) Slot.unset).toArray = ls at hl ⊢
  have hl : lv_has ls 5 [(0, .ref N0), (1, .int x1), (2, .int x2), (3, .ref (N0 + 16))] := hl
  refine lv_aload_n hx hb dL_same_0 rfl (lv_at hl 3 rfl) ?_
  refine lv_iconst (v := 0) hx hb dL_same_1 (by decide) ?_
  refine lv_aload_n hx hb dL_same_2 rfl (lv_at hl 0 rfl) ?_
  refine lv_iload_n hx hb dL_same_3 rfl (lv_at hl 1 rfl) ?_
  refine lv_iload_n hx hb dL_same_4 rfl (lv_at hl 2 rfl) ?_
  refine thr_catch (cc := cL_same) (E := "java/lang/IndexOutOfBoundsException") (name := "java/lang/IndexOutOfBoundsException") (vx_runV (As := [.int x1, .int x2]) (rest := [.int 0, .ref (N0 + 16)]) ⟨hx, hb, hml, hown, hw⟩ (kt_F_same l hl0 N0 dC dI cL cI cO N0 (N0 + 1) (adB bs) v x1 x2 _ h) (cwV 2 hw (gV w_420 w_421 w_422 w_1 w_423) rfl rfl rfl (by decide +kernel) ⟨Nat.le_of_ble_eq_true rfl, Nat.le_of_ble_eq_true rfl⟩) ⟨ev_blind, va_recv hK hPx.1.1 (ci := 1) (q0 := 0) rfl rfl, ev_pre hPx.1 hK hev.1⟩ rfl rfl hl.1 rfl (lv_room (Nat.le_of_ble_eq_true rfl)) dL_same_5 ⟨Nat.le_of_ble_eq_true rfl, Nat.le_of_ble_eq_true rfl⟩) hown [] ⟨0, 17, 20, 27⟩ [⟨0, 17, 24, 29⟩] htab (fun z hz => by cases hz) (by decide) (by decide) (hw _ w_198) (va_Nw.use (w := .castable "java/lang/IndexOutOfBoundsException" "java/lang/IndexOutOfBoundsException") rfl (hev.1.1 _ (by decide +kernel))) (fun q H1 locs hS => ?_)
  refine lv_astore (lv' := [(4, .ref q), (0, .ref N0), (1, .int x1), (2, .int x2), (3, .ref (N0 + 16))]) hx hb dL_same_20 hl (by decide) rfl (fun ls hl => ?_)
  refine lv_iconst (v := 1) hx hb dL_same_22 (by decide) ?_
  refine W.widen (k := 4) (n := 152) (Nat.le_of_ble_eq_true rfl) (Nat.le_of_ble_eq_true rfl) ?_
  have hk : ∀ q : Nat, q < s.heap.size → H1[q]? = s.heap[q]? := fun q hq => hS.2.1 q hq (fun z => z)
  exact W.iret hx hb hr (fun t ht hW => ⟨rfl, ⟨⟨bs, by rw [ht]; exact sfs_out hPx hS.1 (fun q hq _ => hk q hq)⟩, by rw [ht]; exact out_keep hO (fun q hq _ => hk q hq)⟩, (hS.F ht).mono (fun _ z => z.elim)⟩) (fun q hq => (hS.2.2 q hq).elim) dL_same_23
set_option maxHeartbeats 1000000 in
set_option maxRecDepth 100000 in
theorem kxISE_L_same (l : Launch) (hl0 : l.stackTraces = false) (N0 sz : Nat) (dC : Nat → ClassId) (dI : Nat → Nat → Nat) (cL cI cO : ClassId) (bs : Nat → Nat) (v : CV) (fo : Nat → Int64) (x1 : Int32) (x2 : Int32) (h : g_F_same v x1 x2 = some "java/lang/IllegalStateException") : Met l yL_same wsL_same ({ frames := 8, cells := 4, slots := 152, locals := 229 }) (hl_Pc N0 [.ref N0, .int x1, .int x2, .ref (N0 + 16)] (fun H => (SFS (dC, dI) cL cI cO N0 bs v H ∧ H.size = sz) ∧ va_P (dC, dI) cls3 (outW cL N0 fo) H) (dC, dI) cls3 (ty3 cL cI cO)) (al_Q (some (.int 2)) (fun H => (∃ bs', SFS (dC, dI) cL cI cO N0 bs' v H) ∧ va_P (dC, dI) cls3 (outW cL N0 fo) H) (inL N0)) 4 152 (inL N0) := by
  refine met_ofWH (cc := cL_same) (maxL := 5) (ret := (some .int)) (hh := [(0, 17, 20, 27), (0, 17, 24, 29)]) (by decide) rfl ?_
  intro p e s m args below meth c s₁ B hml htab hv
  obtain ⟨rfl, ⟨⟨hPx, hz0⟩, hO⟩, hK, hev⟩ := hv
  have hx := B.exec
  have hb := B.bytes
  have hr := B.returns
  have hw : ∀ w ∈ wG, w.before ([.ref N0, .int x1, .int x2, .ref (N0 + 16)] : List Value).toArray s = true := fun w hq => atoms_spec (ws := wsL_same) B.pre w (List.mem_cons_of_mem _ hq)
  have hown : s.vm.findClass R_L = some m.cls := findClass_of_methodNamed B.named
  have hlocks := B.notSynchronized
  have hl := lv_entry ([.ref N0, .int x1, .int x2, .ref (N0 + 16)] : List Value) (n := 5) (Nat.le_of_ble_eq_true rfl)
  rw [lg_entry_eq]
  generalize (lg_sl ([.ref N0, .int x1, .int x2, .ref (N0 + 16)] : List Value) ++ List.replicate (5 - (lg_sl ([.ref N0, .int x1, .int x2, .ref (N0 + 16)] : List Value)).length) Slot.unset).toArray = ls at hl ⊢
  have hl : lv_has ls 5 [(0, .ref N0), (1, .int x1), (2, .int x2), (3, .ref (N0 + 16))] := hl
  refine lv_aload_n hx hb dL_same_0 rfl (lv_at hl 3 rfl) ?_
  refine lv_iconst (v := 0) hx hb dL_same_1 (by decide) ?_
  refine lv_aload_n hx hb dL_same_2 rfl (lv_at hl 0 rfl) ?_
  refine lv_iload_n hx hb dL_same_3 rfl (lv_at hl 1 rfl) ?_
  refine lv_iload_n hx hb dL_same_4 rfl (lv_at hl 2 rfl) ?_
  refine thr_catch (cc := cL_same) (E := "java/lang/IllegalStateException") (name := "java/lang/IllegalStateException") (vx_runV (As := [.int x1, .int x2]) (rest := [.int 0, .ref (N0 + 16)]) ⟨hx, hb, hml, hown, hw⟩ (kt_F_same l hl0 N0 dC dI cL cI cO N0 (N0 + 1) (adB bs) v x1 x2 _ h) (cwV 2 hw (gV w_420 w_421 w_422 w_1 w_423) rfl rfl rfl (by decide +kernel) ⟨Nat.le_of_ble_eq_true rfl, Nat.le_of_ble_eq_true rfl⟩) ⟨ev_blind, va_recv hK hPx.1.1 (ci := 1) (q0 := 0) rfl rfl, ev_pre hPx.1 hK hev.1⟩ rfl rfl hl.1 rfl (lv_room (Nat.le_of_ble_eq_true rfl)) dL_same_5 ⟨Nat.le_of_ble_eq_true rfl, Nat.le_of_ble_eq_true rfl⟩) hown [⟨0, 17, 20, 27⟩] ⟨0, 17, 24, 29⟩ [] htab (fun z hz => by have e := List.mem_singleton.mp hz; exact (by rw [e]; exact Or.inr ⟨by decide, _, hw _ w_198, hev.2.1⟩)) (by decide) (by decide) (hw _ w_199) (va_Nw.use (w := .castable "java/lang/IllegalStateException" "java/lang/IllegalStateException") rfl (hev.1.1 _ (by decide +kernel))) (fun q H1 locs hS => ?_)
  refine lv_astore (lv' := [(4, .ref q), (0, .ref N0), (1, .int x1), (2, .int x2), (3, .ref (N0 + 16))]) hx hb dL_same_24 hl (by decide) rfl (fun ls hl => ?_)
  refine lv_iconst (v := 2) hx hb dL_same_26 (by decide) ?_
  refine W.widen (k := 4) (n := 152) (Nat.le_of_ble_eq_true rfl) (Nat.le_of_ble_eq_true rfl) ?_
  have hk : ∀ q : Nat, q < s.heap.size → H1[q]? = s.heap[q]? := fun q hq => hS.2.1 q hq (fun z => z)
  exact W.iret hx hb hr (fun t ht hW => ⟨rfl, ⟨⟨bs, by rw [ht]; exact sfs_out hPx hS.1 (fun q hq _ => hk q hq)⟩, by rw [ht]; exact out_keep hO (fun q hq _ => hk q hq)⟩, (hS.F ht).mono (fun _ z => z.elim)⟩) (fun q hq => (hS.2.2 q hq).elim) dL_same_27
