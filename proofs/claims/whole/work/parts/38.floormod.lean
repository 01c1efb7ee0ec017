/-- as Met.ofW, of a method that no entry of the machine stands for -/
theorem met_ofWF {l : Launch} {y : MethodName} {ws ws' : List Cond} {rm : Room} {Pc : Array Value → State → Prop} {Qc : Array Value → State → Outcome → State → Prop} {mc ms : Nat} {free : Addr → Prop} {cc : ByteArray} {maxL : Nat} {ret : Option FieldType}
    (hy : plainFor y = true) (hw : ws = Cond.code y cc maxL ret :: ws')
    (body : ∀ p e s m args below meth c s₁, BodyLoose p l y (headSpec ws rm) cc maxL ret e s m args below meth c s₁ → c.maxLocals = maxL → Pc args s →
      W p l e (headSpec ws rm).room s m args below meth c s.heap [] 0 0 (MQ below Qc args s mc ms free) (entryFrame m args maxL)) : Met l y ws rm Pc Qc mc ms free := by
  refine MetFree.of_bodySF (code := cc) (maxLocals := maxL) (ret := ret) hy ?_ ?_
  · intro args s m h hn
    obtain ⟨meth, c, h1, h2, h3, h4, h5, h6, -, -⟩ := Cond.code_spec hn (atoms_spec (ws := ws) h _ (by rw [hw]; exact List.mem_cons_self))
    exact ⟨meth, c, h1, h2, h3, h4, h5, h6⟩
  · intro p e s m args below meth c s₁ B hml hP _
    have hh0 : s₁.heap = s.heap := by rw [B.state]; rfl
    obtain ⟨t, a1, o, b1, b2, b3⟩ := body p e s m args below meth c s₁ B hml hP s₁ hh0 (Stand.of_body B)
    exact ⟨t, o, a1, b1, b2, b3⟩
theorem dJM_floorMod_II_0 : decode cJM_floorMod_II 0 = .ok (.iload_n 0, 1) := by decide +kernel
theorem dJM_floorMod_II_1 : decode cJM_floorMod_II 1 = .ok (.iload_n 1, 1) := by decide +kernel
theorem dJM_floorMod_II_2 : decode cJM_floorMod_II 2 = .ok (.irem, 1) := by decide +kernel
theorem dJM_floorMod_II_3 : decode cJM_floorMod_II 3 = .ok (.istore_n 2, 1) := by decide +kernel
theorem dJM_floorMod_II_4 : decode cJM_floorMod_II 4 = .ok (.iload_n 0, 1) := by decide +kernel
theorem dJM_floorMod_II_5 : decode cJM_floorMod_II 5 = .ok (.iload_n 1, 1) := by decide +kernel
theorem dJM_floorMod_II_6 : decode cJM_floorMod_II 6 = .ok (.ixor, 1) := by decide +kernel
theorem dJM_floorMod_II_7 : decode cJM_floorMod_II 7 = .ok (.ifCond .ge 11, 3) := by decide +kernel
theorem dJM_floorMod_II_10 : decode cJM_floorMod_II 10 = .ok (.iload_n 2, 1) := by decide +kernel
theorem dJM_floorMod_II_11 : decode cJM_floorMod_II 11 = .ok (.ifCond .eq 7, 3) := by decide +kernel
theorem dJM_floorMod_II_14 : decode cJM_floorMod_II 14 = .ok (.iload_n 2, 1) := by decide +kernel
theorem dJM_floorMod_II_15 : decode cJM_floorMod_II 15 = .ok (.iload_n 1, 1) := by decide +kernel
theorem dJM_floorMod_II_16 : decode cJM_floorMod_II 16 = .ok (.iadd, 1) := by decide +kernel
theorem dJM_floorMod_II_17 : decode cJM_floorMod_II 17 = .ok (.ireturn, 1) := by decide +kernel
theorem dJM_floorMod_II_18 : decode cJM_floorMod_II 18 = .ok (.iload_n 2, 1) := by decide +kernel
theorem dJM_floorMod_II_19 : decode cJM_floorMod_II 19 = .ok (.ireturn, 1) := by decide +kernel
def f_JM_floorMod_II_j18 (p2 : Int32) : Option Int32 := some p2
def f_JM_floorMod_II (x0 : Int32) (x1 : Int32) : Option Int32 := if x1 = 0 then none else (if 0 ≤ (x0 ^^^ x1) then (f_JM_floorMod_II_j18 (x0 - x0 / x1 * x1)) else (if (x0 - x0 / x1 * x1) = 0 then (f_JM_floorMod_II_j18 (x0 - x0 / x1 * x1)) else some ((x0 - x0 / x1 * x1) + x1)))
set_option maxHeartbeats 4000000 in
set_option maxRecDepth 100000 in
theorem k_JM_floorMod_II (l : Launch) (dC : Nat → ClassId) (dI : Nat → Nat → Nat) (cL cI : ClassId) (x0 : Int32) (x1 : Int32) (r : Int32) (h : f_JM_floorMod_II x0 x1 = some r) : Met l yJM_floorMod_II wsJM_floorMod_II ({ frames := 0, cells := 0, slots := 0, locals := 0 }) (rd_Pc [.int x0, .int x1] (fun _ => True) (dC, dI) cls3 [(cL, .long), (cI, .int)]) (vp_Si (fun z => z = r)) 0 0 (fun _ => False) := by
  refine met_ofWF (cc := cJM_floorMod_II) (maxL := 3) (ret := (some .int)) (by decide +kernel) rfl ?_
  intro p e s m args below meth c s₁ B hml hv
  obtain ⟨rfl, hF, hK⟩ := hv
  have hx := B.exec
  have hb := B.bytes
  have hr := B.returns
  have hw : ∀ w ∈ wG, w.before ([.int x0, .int x1] : List Value).toArray s = true := fun w hq => atoms_spec (ws := wsJM_floorMod_II) B.pre w (List.mem_cons_of_mem _ hq)
  have hown : s.vm.findClass R_JM = some m.cls := findClass_of_methodNamed B.named
  have hlocks := B.notSynchronized
  have hl := lv_entry ([.int x0, .int x1] : List Value) (n := 3) (Nat.le_of_ble_eq_true rfl)
  rw [lg_entry_eq]
  generalize (lg_sl ([.int x0, .int x1] : List Value) ++ List.replicate (3 - (lg_sl ([.int x0, .int x1] : List Value)).length) Slot.unset).toArray = ls at hl ⊢
  have hl : lv_has ls 3 [(0, .int x0), (1, .int x1)] := hl
  have k18 : ∀ (p2 : Int32), f_JM_floorMod_II_j18 p2 = some r →  ∀ (ls : Array Slot), lv_has ls 3 [(2, .int p2)] → W p l e (headSpec wsJM_floorMod_II ({ frames := 0, cells := 0, slots := 0, locals := 0 })).room s m ([.int x0, .int x1] : List Value).toArray below meth c s.heap [] 0 0 (MQ below (vp_Si (fun z => z = r)) ([.int x0, .int x1] : List Value).toArray s 0 0 (fun _ => False)) (F0 m 18 ls []) := by
    intro p2 h  ls hl
    unfold f_JM_floorMod_II_j18 at h
    refine lv_iload_n hx hb dJM_floorMod_II_18 rfl (lv_at hl 0 rfl) ?_
    exact W.iret hx hb hr (fun t ht hW => ⟨_, rfl, Option.some.inj h, ht⟩) nil_locs dJM_floorMod_II_19
  unfold f_JM_floorMod_II at h
  refine lv_iload_n hx hb dJM_floorMod_II_0 rfl (lv_at hl 0 rfl) ?_
  refine lv_iload_n hx hb dJM_floorMod_II_1 rfl (lv_at hl 1 rfl) ?_
  have c1 : ¬ x1 = 0 := fun z => by rw [if_pos z] at h; cases h
  have h := it_f c1 h
  refine lv_irem hx hb dJM_floorMod_II_2 c1 ?_
  refine lv_istore_n (lv' := [(2, .int (x0 - x0 / x1 * x1)), (0, .int x0), (1, .int x1)]) hx hb dJM_floorMod_II_3 rfl hl (by decide) rfl (fun ls hl => ?_)
  refine lv_iload_n hx hb dJM_floorMod_II_4 rfl (lv_at hl 1 rfl) ?_
  refine lv_iload_n hx hb dJM_floorMod_II_5 rfl (lv_at hl 2 rfl) ?_
  refine lv_ixor hx hb dJM_floorMod_II_6 ?_
  refine lv_if_ge (tgt := 18) hx hb dJM_floorMod_II_7 (by decide) (fun c2 => ?_) (fun c2 => ?_)
  · have h := it_t c2 h
    exact k18 (x0 - x0 / x1 * x1) h ls (lv_sub hl [0] rfl)
  · have h := it_f c2 h
    refine lv_iload_n hx hb dJM_floorMod_II_10 rfl (lv_at hl 0 rfl) ?_
    refine lv_if_eq (tgt := 18) hx hb dJM_floorMod_II_11 (by decide) (fun c3 => ?_) (fun c3 => ?_)
    · have h := it_t c3 h
      exact k18 (x0 - x0 / x1 * x1) h ls (lv_sub hl [0] rfl)
    · have h := it_f c3 h
      refine lv_iload_n hx hb dJM_floorMod_II_14 rfl (lv_at hl 0 rfl) ?_
      refine lv_iload_n hx hb dJM_floorMod_II_15 rfl (lv_at hl 2 rfl) ?_
      refine lv_iadd hx hb dJM_floorMod_II_16 ?_
      exact W.iret hx hb hr (fun t ht hW => ⟨_, rfl, Option.some.inj h, ht⟩) nil_locs dJM_floorMod_II_17
