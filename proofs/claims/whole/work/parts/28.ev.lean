/-! what a throw needs of the start -/
def exB : List Cond := [(Jvm.Cond.castable "java/lang/IllegalArgumentException" "java/lang/IllegalArgumentException"), (Jvm.Cond.declares ({ cls := "java/lang/RuntimeException", name := "<init>", desc := "()V" } : Jvm.MethodName)), (Jvm.Cond.declares ({ cls := "java/lang/RuntimeException", name := "<init>", desc := "(Ljava/lang/String;)V" } : Jvm.MethodName)), (Jvm.Cond.declares ({ cls := "java/lang/Exception", name := "<init>", desc := "()V" } : Jvm.MethodName)), (Jvm.Cond.declares ({ cls := "java/lang/Exception", name := "<init>", desc := "(Ljava/lang/String;)V" } : Jvm.MethodName)), (Jvm.Cond.declares ({ cls := "java/lang/Throwable", name := "<init>", desc := "()V" } : Jvm.MethodName)), (Jvm.Cond.declares ({ cls := "java/lang/Throwable", name := "<init>", desc := "(Ljava/lang/String;)V" } : Jvm.MethodName)), (Jvm.Cond.castable "java/lang/IndexOutOfBoundsException" "java/lang/IndexOutOfBoundsException"), (Jvm.Cond.castable "java/lang/IllegalStateException" "java/lang/IllegalStateException")]
def exS : List (String × Nat × String) := [("ShapeForms", 146, "no place"), ("ShapeForms", 148, "not 0 to 1,000,000,000"), ("ShapeForms", 42, "the rounding is not 0 to the half of both sides"), ("ShapeForms", 53, "no even width from 0 to 2,000,000,000"), ("ShapeForms", 155, "no such shape"), ("ShapeForms", 65, "the shape takes no corners"), ("ShapeForms", 71, "no polygon with corners behind its last ring"), ("ShapeForms", 153, "the shape is not whole"), ("ShapeForms", 84, "not -1,000,000,000 to 1,000,000,000"), ("ShapeForms", 113, "no such side")]
theorem exB_tab : ∀ w ∈ exB, w ∈ lw_tbl ∧ w.onTables = true := by decide +kernel
theorem exS_tab : ∀ q ∈ exS, Cond.stringRef q.1 q.2.1 q.2.2 ∈ lw_tbl := by decide +kernel
def exK : Cond → Bool
  | .declares _ => true
  | .castable _ _ => true
  | _ => false
theorem exB_k : ∀ w ∈ exB, exK w = true := by decide +kernel
theorem exNw {w : Cond} (h : exK w = true) {s U : State} (hW : s.WarmedH U.vm) (hZ : va_Nw w s) : va_Nw w U := by
  cases w <;> first | exact va_Nw.warmD hW hZ | exact va_Nw.warmC hW hZ | (exact absurd h (by simp [exK]))
/-- the environment: N0 is where the cells begin that the run has made -/
def EV (N0 : Nat) (U : State) : Prop := (∀ w ∈ exB, va_Nw w U) ∧ (∀ q ∈ exS, ∃ a, vk_R q.1 q.2.1 q.2.2 a U) ∧ va_AO R_S U ∧ vx_Zq Bundle.tN "UNASSIGNED_STACK" Bundle.steD (fun q => N0 ≤ q) U U.heap ∧ vx_Zq Bundle.tN "SUPPRESSED_SENTINEL" Bundle.listD (fun q => N0 ≤ q) U U.heap
theorem EV.blind {N0 : Nat} {U : State} {g : JFrame} {mk : MethodId} {a : Array Value} (h : EV N0 U) : EV N0 (U.calling g mk a) := by
  obtain ⟨h1, h2, h3, h4, h5⟩ := h
  refine ⟨fun w hw => va_Nw.same (exB_tab w hw).2 (rfl : U.vm = (U.calling g mk a).vm) (h1 w hw), fun q hq => ?_, va_AO.moved (u := U) (Vm.Alike.refl U.vm) h3, ?_, ?_⟩
  · obtain ⟨b, hb⟩ := h2 q hq
    exact ⟨b, vk_R.same (rfl : (U.calling g mk a).vm = U.vm) hb⟩
  · exact vx_Zq.moved (u := U) (U := U.calling g mk a) (Vm.Alike.refl U.vm) h4
  · exact vx_Zq.moved (u := U) (U := U.calling g mk a) (Vm.Alike.refl U.vm) h5
theorem EV.go {N0 : Nat} {s U : State} {H : Heap} (h : EV N0 s) (hW : s.WarmedH U.vm) (hU : U.heap = H) (hk : ∀ q : Nat, q < s.heap.size → ¬ N0 ≤ q → H[q]? = s.heap[q]?) : EV N0 U := by
  obtain ⟨h1, h2, h3, h4, h5⟩ := h
  refine ⟨fun w hw => exNw (exB_k w hw) hW (h1 w hw), fun q hq => ?_, va_AO.moved hW.alike h3, ?_, ?_⟩
  · obtain ⟨b, hb⟩ := h2 q hq
    exact ⟨b, vk_R.warm hW hb⟩
  · rw [hU]; exact vx_Zq.moved hW.alike (h4.kept hk)
  · rw [hU]; exact vx_Zq.moved hW.alike (h5.kept hk)
/-- throwing: no return; the class E; nothing old is changed -/
def NoQ : Array Value → State → Outcome → State → Prop := fun _ _ _ _ => False
def XE (E0 : String) : String → State → State → Prop := fun E st t => E = E0 ∧ va_F (fun _ => False) st t
def exN : List String := ["java/lang/RuntimeException", "java/lang/Exception"]
section TH
variable {p : Program} {l : Launch} {e : Env} {R : Room} {s : State} {m : MethodId} {args : Array Value} {below : List Frame} {meth : Method} {c : Code}
theorem thr_F {cc : ByteArray} {pc ik is ic N0 : Nat} {cls text : String} {ls : Array Slot} {rest : List Value} (hx : p.tables.exec = Jvm.exec) (hb : c.code = cc) (hl0 : l.stackTraces = false) (hown : s.vm.findClass R_F = some m.cls) (hev : EV N0 s) (hw : ∀ w ∈ wG, w.before args s = true)
    (hfit : Bundle.fit cls = true) (hk : Cond.classLink R_F ik cls ∈ wG) (hi : Cond.initialized cls ∈ wG) (hst : (R_F, is, text) ∈ exS) (hgood : ∀ w ∈ (vx_atS R_F ic cls exN).filter goodWord, w ∈ wG) (hbad : ∀ w ∈ (vx_atS R_F ic cls exN).filter (fun w => !goodWord w), w ∈ exB)
    (hot : ∀ w ∈ Cond.classLink R_F ik cls :: Cond.initialized cls :: vx_atS R_F ic cls exN, vx_ot w = true) (hsize : ls.size = c.maxLocals) (htab : ∀ x ∈ c.exceptionTable.toList, False) (hlocks : meth.locks = false)
    (d0 : decode cc pc = .ok (.new ik, 3)) (d3 : decode cc (pc + 3) = .ok (.dup, 1)) (d4 : decode cc (pc + 4) = .ok (.ldc is, 2)) (d6 : decode cc (pc + 6) = .ok (.invokespecial ic, 3)) (d9 : decode cc (pc + 9) = .ok (.athrow, 1))
    (hRf : 5 < R.frames) (hRl : (rest.map fun v => v.category).sum + 82 ≤ R.locals) (hRc : 1 ≤ R.cells) (hRs : 6 ≤ R.slots) :
    W p l e R s m args below meth c s.heap [] 0 0 (vx_MQ below NoQ (XE cls) args s 1 6 (fun _ => False)) (F0 m pc ls rest) := by
  obtain ⟨h1, h2, h3, h4, h5⟩ := hev
  obtain ⟨sa, hsa⟩ := h2 _ hst
  exact vx_throwS (names := exN) (A := fun _ => False) hx hb hl0 hown hfit (by decide) (hw _ hk) (hw _ hi) hsa
    (vx_hat (B := exB) (fun w h => hw w (hgood w h)) hbad (fun w h => va_Nw.use (exB_tab w h).2 (h1 w h))) hot
    (h4.narrow (fun _ z => z.elim)) (h5.narrow (fun _ z => z.elim)) va_S.rf hsize d0 d3 d4 d6 d9 (fun x h => (htab x h).elim) hRf hRl (by omega) (by omega) hlocks
    (fun t _ hz hk => ⟨rfl, hz, fun q hq _ => hk q hq⟩) (fun _ h => nomatch h) (Nat.le_refl _) (Nat.le_refl _)
/-- a callee has thrown: it goes on through this frame -/
theorem thr_pass {pc : Nat} {E : String} {ls : Array Slot} {st0 rest : List Value} {a : Array Value} (hr : vx_Run p l e R s m args below meth c s.heap [] 0 0 1 6 (F0 m pc ls st0) rest (NoQ a) (XE E) (fun _ => False)) (htab : ∀ x ∈ c.exceptionTable.toList, False) (hlocks : meth.locks = false) :
    W p l e R s m args below meth c s.heap [] 0 0 (vx_MQ below NoQ (XE E) args s 1 6 (fun _ => False)) (F0 m pc ls st0) := by
  intro T hT X
  rcases hr T hT X with ⟨v, st₀, t, T', L, h0, X', hL, e1, e2, hq, st⟩ | ⟨q, st₀, t, T', L, E', ce, h0, X', hL, e1, e2, ⟨hE, hF⟩, hce, hcv, hcl, st⟩
  · exact hq.elim
  · subst hE
    have hc : T'.heap[q]? = some ce := by rw [e1]; exact hce
    obtain ⟨t2, a1, b1⟩ := vx_out (XC := XE E') (Qc := NoQ) (free := fun _ => False) (pc := pc) (ls := ls) (rest := rest) (E := E') (ce := ce) (q := q) (H := T'.heap) (mc := 1) (ms := 6) (fun x h => (htab x h).elim) hlocks hc hcv hcl
      (fun t2 ht2 _ => ⟨rfl, by obtain ⟨z1, z2⟩ := hF; rw [h0] at z1 z2; exact ⟨by rw [ht2, e1]; exact z1, fun q hq hn => by rw [ht2, e1]; exact z2 q hq hn⟩⟩) (fun z hz => hL z (by simpa using hz)) (Nat.le_of_eq (Nat.zero_add 1)) (Nat.le_of_eq (Nat.zero_add 6)) T' rfl X'
    exact ⟨t2, st.trans a1, b1⟩
end TH
/-- first what throws, then the rest -/
def xthen (o k : Option String) : Option String := match o with
  | some E => some E
  | none => k
theorem xt {o k : Option String} {E : String} (h : xthen o k = some E) : o = some E ∨ (o = none ∧ k = some E) := by
  cases o with
  | none => exact Or.inr ⟨rfl, h⟩
  | some z => exact Or.inl h

theorem tIAE_fit : Bundle.fit "java/lang/IllegalArgumentException" = true := by decide
theorem tIAE_good : ∀ w ∈ (vx_atS R_F 44 "java/lang/IllegalArgumentException" exN).filter goodWord, w ∈ wG := by decide +kernel
theorem tIAE_bad : ∀ w ∈ (vx_atS R_F 44 "java/lang/IllegalArgumentException" exN).filter (fun w => !goodWord w), w ∈ exB := by decide +kernel
theorem tIAE_ot : ∀ w ∈ Cond.classLink R_F 40 "java/lang/IllegalArgumentException" :: Cond.initialized "java/lang/IllegalArgumentException" :: vx_atS R_F 44 "java/lang/IllegalArgumentException" exN, vx_ot w = true := by decide +kernel
theorem tISE_fit : Bundle.fit "java/lang/IllegalStateException" = true := by decide
theorem tISE_good : ∀ w ∈ (vx_atS R_F 67 "java/lang/IllegalStateException" exN).filter goodWord, w ∈ wG := by decide +kernel
theorem tISE_bad : ∀ w ∈ (vx_atS R_F 67 "java/lang/IllegalStateException" exN).filter (fun w => !goodWord w), w ∈ exB := by decide +kernel
theorem tISE_ot : ∀ w ∈ Cond.classLink R_F 63 "java/lang/IllegalStateException" :: Cond.initialized "java/lang/IllegalStateException" :: vx_atS R_F 67 "java/lang/IllegalStateException" exN, vx_ot w = true := by decide +kernel
theorem tIOB_fit : Bundle.fit "java/lang/IndexOutOfBoundsException" = true := by decide
theorem tIOB_good : ∀ w ∈ (vx_atS R_F 115 "java/lang/IndexOutOfBoundsException" exN).filter goodWord, w ∈ wG := by decide +kernel
theorem tIOB_bad : ∀ w ∈ (vx_atS R_F 115 "java/lang/IndexOutOfBoundsException" exN).filter (fun w => !goodWord w), w ∈ exB := by decide +kernel
theorem tIOB_ot : ∀ w ∈ Cond.classLink R_F 111 "java/lang/IndexOutOfBoundsException" :: Cond.initialized "java/lang/IndexOutOfBoundsException" :: vx_atS R_F 115 "java/lang/IndexOutOfBoundsException" exN, vx_ot w = true := by decide +kernel
