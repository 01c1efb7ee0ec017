/-! Own base: pure functions in Option, and rows that read them -/
def ld {α : Type} (n : Nat) (f : Nat → α) (i : Int32) : Option α := if (i < 0 ∨ n ≤ i.toNatClampNeg) then none else some (f i.toNatClampNeg)
theorem ld_of {α : Type} {n : Nat} {f : Nat → α} {i : Int32} {x : α} (h : ld n f i = some x) : vp_in i n ∧ f i.toNatClampNeg = x := by
  unfold ld at h
  by_cases c : (i < 0 ∨ n ≤ i.toNatClampNeg)
  · rw [if_pos c] at h; cases h
  · rw [if_neg c] at h; exact ⟨c, Option.some.inj h⟩
theorem ob_some {α β : Type} {o : Option α} {f : α → Option β} {r : β} (h : o.bind f = some r) : ∃ x, o = some x ∧ f x = some r := by
  cases o with
  | none => cases h
  | some x => exact ⟨x, rfl, h⟩
theorem it_t {α : Type} {c : Prop} [Decidable c] {a b r : α} (hc : c) (h : (if c then a else b) = r) : a = r := by rw [if_pos hc] at h; exact h
theorem it_f {α : Type} {c : Prop} [Decidable c] {a b r : α} (hc : ¬ c) (h : (if c then a else b) = r) : b = r := by rw [if_neg hc] at h; exact h
/-- a boolean answer: 0 or 1 -/
def rb (x : Int32) : Option Int32 := if x = 0 ∨ x = 1 then some x else none
theorem rb_of {x r : Int32} (h : rb x = some r) : narrow .boolean (.int x) = .int x ∧ x = r := by
  unfold rb at h
  by_cases c : (x = 0 ∨ x = 1)
  · rw [if_pos c] at h
    refine ⟨?_, Option.some.inj h⟩
    rcases c with c | c <;> rw [c] <;> decide
  · rw [if_neg c] at h; cases h
theorem nil_locs {P : Addr → Prop} : ∀ q ∈ ([] : List Loc), P q.base := fun _ h => nomatch h
/-- what a reading method takes: its arguments, a picture of the heap, the classes -/
abbrev rd_Pc (av : List Value) (F : Heap → Prop) (D : va_G) (cl : List vw_C) (tys : List (ClassId × FieldType)) : Array Value → State → Prop := va_Pc av (fun U => F U.heap ∧ va_K D cl tys U)
theorem rd_blind {av : List Value} {F : Heap → Prop} {D : va_G} {cl : List vw_C} {tys : List (ClassId × FieldType)} : FrameBlind (rd_Pc av F D cl tys) := fun a U g mk q => by
  obtain ⟨q0, qP, qK⟩ := q
  exact ⟨q0, qP, va_K.moved (u := U) (U := U.calling g mk a) (Vm.Alike.refl U.vm) qK⟩
theorem rd_pre {av : List Value} {F : Heap → Prop} {D : va_G} {cl : List vw_C} {tys : List (ClassId × FieldType)} {s : State} {H : Heap} (hF : F H) (hK : va_K D cl tys s) : ∀ U : State, U.heap = H → s.WarmedH U.vm → rd_Pc av F D cl tys av.toArray U := fun U hU hW => ⟨rfl, by rw [hU]; exact hF, va_K.moved hW.alike hK⟩
theorem good_all {w : Cond} (h : w ∈ wG) : w ∈ wG ∧ ((w.onTables && w.keeps) = true ∨ ∃ ty, w = .arrayClass ty) := ⟨h, good_of_word (List.mem_filter.mp h).2⟩
theorem gV {own C : String} {i : Nat} {y : MethodName} {b : ByteArray} {n : Nat} {r : Option FieldType} (h1 : Cond.methodLink own i y ∈ wG) (h2 : Cond.instanceMethod y ∈ wG) (h3 : Cond.selects C y y ∈ wG) (h4 : Cond.initialized C ∈ wG) (h5 : Cond.code y b n r ∈ wG) : GoodIn wG (wsV own i C y (.code y b n r :: wG)) := by
  intro w hw
  unfold wsV at hw
  simp only [List.cons_append, List.nil_append, List.mem_cons] at hw
  rcases hw with e | e | e | e | e | h
  · rw [e]; exact good_all h1
  · rw [e]; exact good_all h2
  · rw [e]; exact good_all h3
  · rw [e]; exact good_all h4
  · rw [e]; exact good_all h5
  · exact good_all h
theorem gS {own : String} {i : Nat} {y : MethodName} {b : ByteArray} {n : Nat} {r : Option FieldType} (h1 : Cond.methodLink own i y ∈ wG) (h2 : Cond.static y ∈ wG) (h4 : Cond.initialized y.cls ∈ wG) (h5 : Cond.code y b n r ∈ wG) : GoodIn wG (va_wsS own i y (.code y b n r :: wG)) := by
  intro w hw
  unfold va_wsS at hw
  simp only [List.cons_append, List.nil_append, List.mem_cons] at hw
  rcases hw with e | e | e | e | h
  · rw [e]; exact good_all h1
  · rw [e]; exact good_all h2
  · rw [e]; exact good_all h4
  · rw [e]; exact good_all h5
  · exact good_all h
/-! A shape of the class, as a value: form, filled, radius, xs, ys, ends, count, open; and its four cells -/
abbrev SV : Type := Int32 × Int32 × Int64 × (Nat → Int64) × (Nat → Int64) × (Nat → Int32) × Int32 × Int32
def sF (v : SV) : Int32 := v.1
def sB (v : SV) : Int32 := v.2.1
def sR (v : SV) : Int64 := v.2.2.1
def sX (v : SV) : Nat → Int64 := v.2.2.2.1
def sY (v : SV) : Nat → Int64 := v.2.2.2.2.1
def sE (v : SV) : Nat → Int32 := v.2.2.2.2.2.1
def sN (v : SV) : Int32 := v.2.2.2.2.2.2.1
def sO (v : SV) : Int32 := v.2.2.2.2.2.2.2
def shW (cL cI : ClassId) (a ax ay ae : Nat) (v : SV) : va_W := [(a, .inr (0, [.int (sF v), .int (sB v), .long (sR v), .ref ax, .ref ay, .ref ae, .int (sN v), .int (sO v)])), (ax, .inl (cL, 48, .inr (.inl (sX v)))), (ay, .inl (cL, 48, .inr (.inl (sY v)))), (ae, .inl (cI, 48, .inl (sE v)))]
