/-! THE CLAIM OUT OF ONE WALK OF THE LAW'S BODY. Your part is whole_start (and what it stands on); all else here is the same for every law, but numbers. -/
def R_law : String := "ShapeFormsLaw"
def lw_P (b : Addr) (xs : List Int32) (args : Array Value) (s : State) : Prop := args = #[.ref b] ∧ s.IntsAt b xs ∧ xs.length ≤ 5632 ∧ (Jvm.Cond.and given_1 narrow_1).before args s = true
def lw_Q (_ : Array Value) (s : State) (o : Outcome) (t : State) : Prop := o = .returned (some (.int 1)) ∧ Framed s o t [] 601024 7293034
def lw_Z (below : List Frame) (a : Array Value) (s : State) : State → Prop := fun t => ∃ o, t.status = .running ∧ Ended t below o ∧ lw_Q a s o t
/-- the law's own end, with 1 on the stack, nothing written that was there before, its room as the claim has it -/
theorem lw_ret {p : Program} {l : Launch} {e : Env} {s : State} {m : MethodId} {below : List Frame} {meth : Method} {c : Code} {b : Nat} (hx : p.tables.exec = Jvm.exec) (hb : c.code = code) (hr : meth.sig.returnType = ret) (hlocks : meth.locks = false) {pc : Nat} {H : Heap} {ls : Array Slot} (hdg : decode code pc = .ok (.ireturn, 1)) : W p l e room_1 s m #[Value.ref b] below meth c H [] 601024 7293034 (lw_Z below #[Value.ref b] s) (F0 m pc ls [.int 1]) := by
  intro T hT X
  obtain ⟨fs, hret, hrun, hended, hW, hframe⟩ := X.leave (v := some (.int 1)) (hlocks := hlocks) (fun h => by rw [hr] at h; cases h)
  have hmeth' : T.vm.method? m = some meth := X.method'
  refine ⟨T.setFrames fs, ?_, .returned (some (.int 1)), hrun, hended, rfl, ⟨_, rfl⟩, hW, hframe⟩
  jvm_step X.here [X.here.top, hx, hb, hdg, hmeth', hr, ret, narrow_b1]
  (try refine ⟨rfl, ?_⟩); (try refine ⟨rfl, ?_⟩)
  first | (intro acts; rw [hret _ acts rfl rfl rfl]) | rw [hret _ _ rfl rfl rfl]
  exact Steps.refl _
/-- what holds at the law's entry: the machine, the code, the tables' words (any of lw_tbl by 'hts w (by decide +kernel)'), the script of L ints xs at the cell b, what the Statement gives of the start (any of its parts by flat_of_before) -/
def lw_At (p : Program) (s : State) (m : MethodId) (meth : Method) (c : Code) (b L : Nat) (xs : Nat → Int32) : Prop :=
  p.tables.exec = Jvm.exec ∧ c.code = code ∧ meth.sig.returnType = ret ∧ c.maxLocals = 8 ∧ s.vm.findClass R_law = some m.cls ∧ (∀ w ∈ lw_tbl, w.before #[Value.ref b] s = true) ∧ va_X b L xs s s.heap ∧ b < s.heap.size ∧ meth.locks = false ∧ (Jvm.Cond.and given_1 narrow_1).before #[Value.ref b] s = true

/-! base of the law's walk -/
abbrev qM (N0 : Nat) : Nat → Nat := fun k => N0 + 2 + k
def LSt (D : va_G) (cL cI cO : ClassId) (N0 : Nat) (bs : Nat → Nat) (v : CV) (mv : MV) (fo : Nat → Int64) (H : Heap) : Prop := SFS D cL cI cO N0 bs v H ∧ va_P D cls3 (mdW cL cI (qM N0) mv) H ∧ va_P D cls3 (outW cL N0 fo) H
theorem md_adr {cL cI : ClassId} {N0 : Nat} {mv : MV} {k : Nat} {q : Nat × va_E} (h : (mdW cL cI (qM N0) mv)[k]? = some q) : N0 + 2 ≤ q.1 ∧ q.1 ≤ N0 + 15 := by
  have h3 : q.1 ∈ ([N0 + 2 + 0, N0 + 2 + 1, N0 + 2 + 2, N0 + 2 + 3, N0 + 2 + 4, N0 + 2 + 5, N0 + 2 + 6, N0 + 2 + 7, N0 + 2 + 8, N0 + 2 + 9, N0 + 2 + 10, N0 + 2 + 11, N0 + 2 + 12, N0 + 2 + 13] : List Nat) := List.mem_map_of_mem (f := Prod.fst) (List.mem_of_getElem? h)
  simp only [List.mem_cons, List.not_mem_nil, or_false] at h3
  omega
theorem md_keepL {D : va_G} {cL cI : ClassId} {N0 : Nat} {mv : MV} {H H1 : Heap} (h : va_P D cls3 (mdW cL cI (qM N0) mv) H) (hk : ∀ q : Nat, q < H.size → ¬ inL N0 q → H1[q]? = H[q]?) : va_P D cls3 (mdW cL cI (qM N0) mv) H1 := h.kept (fun k q hq => hk q.1 ((h k q hq).lt) (fun z => by
  have h3 := md_adr hq
  have z : (q.1 = N0 ∨ q.1 = N0 + 1 ∨ N0 + 17 ≤ q.1) ∨ q.1 = N0 + 16 := z
  omega))
theorem md_D0 {cL cI : ClassId} {N0 : Nat} {mv : MV} : va_D (inQ (qM N0)) (mdW cL cI (qM N0) mv) := va_D_of (by show ([N0 + 2 + 0, N0 + 2 + 1, N0 + 2 + 2, N0 + 2 + 3, N0 + 2 + 4, N0 + 2 + 5, N0 + 2 + 6, N0 + 2 + 7, N0 + 2 + 8, N0 + 2 + 9, N0 + 2 + 10, N0 + 2 + 11, N0 + 2 + 12, N0 + 2 + 13] : List Nat).Pairwise (· < ·); simp) (by
  intro a ha
  have ha : a ∈ ([N0 + 2 + 0, N0 + 2 + 1, N0 + 2 + 2, N0 + 2 + 3, N0 + 2 + 4, N0 + 2 + 5, N0 + 2 + 6, N0 + 2 + 7, N0 + 2 + 8, N0 + 2 + 9, N0 + 2 + 10, N0 + 2 + 11, N0 + 2 + 12, N0 + 2 + 13] : List Nat) := ha
  simp only [List.mem_cons, List.not_mem_nil, or_false] at ha
  exact ⟨a - (N0 + 2), by omega, by show a = N0 + 2 + (a - (N0 + 2)); omega⟩)
theorem inQ_le {N0 q : Nat} (h : inQ (qM N0) q) : N0 + 2 ≤ q ∧ q ≤ N0 + 15 := by
  obtain ⟨k, hk, e⟩ := h
  have e : q = N0 + 2 + k := e
  omega
theorem sfs_keepM {D : va_G} {cL cI cO : ClassId} {N0 : Nat} {bs : Nat → Nat} {v : CV} {H H1 : Heap} (h : SFS D cL cI cO N0 bs v H) (hz : H.size ≤ H1.size) (hk : ∀ q : Nat, q < H.size → ¬ inQ (qM N0) q → H1[q]? = H[q]?) : SFS D cL cI cO N0 bs v H1 := by
  refine ⟨⟨h.1.1.kept (fun k q hq => hk q.1 ((h.1.1 k q hq).lt) (fun z => ?_)), fun i hi => (h.1.2.1 i hi).kept (fun k q hq => hk q.1 ((h.1.2.1 i hi k q hq).lt) (fun z => ?_)), h.1.2.2⟩, h.2.1, h.2.2.1, Nat.le_trans h.2.2.2 hz⟩
  · have h3 : q.1 ∈ ([N0, N0 + 1] : List Nat) := List.mem_map_of_mem (f := Prod.fst) (List.mem_of_getElem? hq)
    have := inQ_le z
    simp at h3; omega
  · have h3 : q.1 ∈ ([bs i + 0, bs i + 1, bs i + 2, bs i + 3] : List Nat) := List.mem_map_of_mem (f := Prod.fst) (List.mem_of_getElem? hq)
    have := h.2.1 i hi
    have := inQ_le z
    simp at h3; omega
theorem out_keepM {D : va_G} {cL : ClassId} {N0 : Nat} {fo : Nat → Int64} {H H1 : Heap} (h : va_P D cls3 (outW cL N0 fo) H) (hk : ∀ q : Nat, q < H.size → ¬ inQ (qM N0) q → H1[q]? = H[q]?) : va_P D cls3 (outW cL N0 fo) H1 := h.kept (fun k q hq => hk q.1 ((h k q hq).lt) (fun z => by
  have h3 : q.1 ∈ ([N0 + 16] : List Nat) := List.mem_map_of_mem (f := Prod.fst) (List.mem_of_getElem? hq)
  have := inQ_le z
  simp at h3; omega))
theorem gSW {own : String} {i : Nat} {y : MethodName} {b : ByteArray} {n : Nat} {r : Option FieldType} {hh : List (Nat × Nat × Nat × Nat)} (h1 : Cond.methodLink own i y ∈ wG) (h2 : Cond.static y ∈ wG) (h4 : Cond.initialized y.cls ∈ wG) (h5 : Cond.codeWith y b n r hh ∈ wG) : GoodIn wG (va_wsS own i y (.codeWith y b n r hh :: wG)) := by
  intro w hw
  unfold va_wsS at hw
  simp only [List.cons_append, List.nil_append, List.mem_cons] at hw
  rcases hw with e | e | e | e | h
  · rw [e]; exact good_all h1
  · rw [e]; exact good_all h2
  · rw [e]; exact good_all h4
  · rw [e]; exact good_all h5
  · exact good_all h
theorem lg_self (x : Int64) : lg_cmp x x = 0 := by simp [lg_cmp]
theorem out0 {f : Nat → Int64} {x : Int64} : vp_updL f 0 x (0 : Int32).toNatClampNeg = x := by simp [vp_updL]
def wI (xs : Nat → Int32) (j : Nat) (k : Int32) : Int32 := xs (nI (11 * j) + k).toNatClampNeg
def wJ (xs : Nat → Int32) (j : Nat) (k k2 : Int32) : Int64 := ((wI xs j k).toInt64 <<< ((32 : Int32).toInt64 &&& 63)) ||| ((wI xs j k2).toInt64 &&& 4294967295)
theorem w_in {j L : Nat} (hL : L ≤ 5632) (hj : 11 * j + 11 ≤ L) (k : Nat) (hk : k ≤ 10) : vp_in (nI (11 * j) + nI k) L := by
  rw [nI_add]; exact vp_in_nI (by omega) (by omega)
/-- what holds all through the law -/
def LA (p : Program) (l : Launch) (s : State) (m : MethodId) (meth : Method) (c : Code) (b L : Nat) (xs : Nat → Int32) (N0 : Nat) (dC : Nat → ClassId) (dI : Nat → Nat → Nat) (cL cI cO : ClassId) : Prop := lw_At p s m meth c b L xs ∧ s.heap.size = N0 ∧ va_K (dC, dI) cls3 (ty3 cL cI cO) s ∧ EVL N0 s ∧ l.stackTraces = false ∧ L ≤ 5632
abbrev lvL (b N0 j : Nat) : List (Nat × Value) := [(0, .ref b), (1, .ref N0), (2, .ref (N0 + 2)), (3, .ref (N0 + 16)), (4, .int (nI (11 * j)))]
abbrev LW (p : Program) (l : Launch) (e : Env) (s : State) (m : MethodId) (below : List Frame) (meth : Method) (c : Code) (b : Nat) (H : Heap) (locs : List Loc) (cells slots : Nat) (g : JFrame) : Prop := W p l e room_1 s m #[Value.ref b] below meth c H locs cells slots (lw_Z below #[Value.ref b] s) g
/-- the next round of the loop, from any state that R knows -/
def Nxt (R : CV → MV → Prop) (p : Program) (l : Launch) (e : Env) (s : State) (m : MethodId) (below : List Frame) (meth : Method) (c : Code) (b N0 : Nat) (D : va_G) (cL cI cO : ClassId) (j : Nat) : Prop := ∀ (bs : Nat → Nat) (v : CV) (mv : MV) (fo : Nat → Int64) (H : Heap) (locs : List Loc) (ls : Array Slot), R v mv → LSt D cL cI cO N0 bs v mv fo H → va_S (fun q => N0 ≤ q) s.heap H locs → lv_has ls 8 (lvL b N0 j) → LW p l e s m below meth c b H locs (17 + 4 * (j + 1)) (5092 + 152 * (j + 1)) (F0 m 1532 ls [])
