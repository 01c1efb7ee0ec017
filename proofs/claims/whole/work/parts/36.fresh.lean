/-! a fresh shape beside the class's state -/
theorem gC {y : MethodName} {b : ByteArray} {n : Nat} {r : Option FieldType} (h : Cond.code y b n r ∈ wG) : GoodIn wG (.code y b n r :: wG) := by
  intro w hw
  rcases List.mem_cons.mp hw with e | h2
  · rw [e]; exact good_all h
  · exact good_all h2
def bz (x : Int32) : Option Unit := if x = 0 ∨ x = 1 then some () else none
theorem bz_of {x : Int32} {u : Unit} (h : bz x = some u) : x = 0 ∨ x = 1 := by
  unfold bz at h
  by_cases c : x = 0 ∨ x = 1
  · exact c
  · rw [if_neg c] at h; cases h
/-- a shape just made -/
def sv0 (form filled : Int32) (radius : Int64) : SV := (form, filled, radius, fun _ => 0, fun _ => 0, fun _ => 0, 0, 0)
theorem sh_Dof {cL cI : ClassId} {sz : Nat} {v : SV} : va_D (fun x => sz ≤ x) (shW cL cI sz (sz + 1) (sz + 2) (sz + 3) v) := va_D_of (by show ([sz, sz + 1, sz + 2, sz + 3] : List Nat).Pairwise (· < ·); simp) (by intro a ha; have ha : a ∈ ([sz, sz + 1, sz + 2, sz + 3] : List Nat) := ha; simp at ha; show sz ≤ a; omega)
theorem sh_D4 {cL cI : ClassId} {sz : Nat} {v : SV} : va_D (in4 (sz + 0) (sz + 1) (sz + 2) (sz + 3)) (shW cL cI (sz + 0) (sz + 1) (sz + 2) (sz + 3) v) := va_D_of (by show ([sz + 0, sz + 1, sz + 2, sz + 3] : List Nat).Pairwise (· < ·); simp) (by intro a ha; have ha : a ∈ ([sz + 0, sz + 1, sz + 2, sz + 3] : List Nat) := ha; simp at ha; show a = sz + 0 ∨ a = sz + 1 ∨ a = sz + 2 ∨ a = sz + 3; omega)
theorem va_S.mono {A B : Nat → Prop} {H0 H : Heap} {locs : List Loc} (h : va_S A H0 H locs) (hAB : ∀ q, A q → B q) : va_S B H0 H locs := ⟨h.1, fun q h1 h2 => h.2.1 q h1 (fun z => h2 (hAB q z)), fun l hl => hAB _ (h.2.2 l hl)⟩
theorem sfs_far {D : va_G} {cL cI cO : ClassId} {N0 : Nat} {bs : Nat → Nat} {v : CV} {H : Heap} (h : SFS D cL cI cO N0 bs v H) : ∀ i, i < v.1 → bs i + 4 ≤ H.size := fun i hi => by
  have := (h.1.2.1 i hi 3 _ rfl).lt
  have : bs i + 3 < H.size := this
  omega
theorem sfs_keep {D : va_G} {cL cI cO : ClassId} {N0 sz : Nat} {bs : Nat → Nat} {v : CV} {H0 H : Heap} {locs : List Loc} (h : SFS D cL cI cO N0 bs v H0) (hz : H0.size = sz) (hS : va_S (fun x => sz ≤ x) H0 H locs) : SFS D cL cI cO N0 bs v H :=
  ⟨⟨keepN h.1.1 hz hS, fun i hi => keepN (h.1.2.1 i hi) hz hS, h.1.2.2⟩, h.2.1, h.2.2.1, Nat.le_trans h.2.2.2 hS.1⟩
theorem sfs_in {N0 sz : Nat} (h : N0 + 17 ≤ sz) : ∀ q, (fun x => sz ≤ x) q → inC N0 q := fun q hq => Or.inr (Or.inr (Nat.le_trans h hq))
/-- one shape has got a new value, nothing else has changed -/
theorem sfs_upd {D : va_G} {cL cI cO : ClassId} {N0 u : Nat} {bs : Nat → Nat} {v : CV} {w : SV} {H H1 : Heap} (h : SFS D cL cI cO N0 bs v H) (hu : u < v.1) (hz : H.size ≤ H1.size) (hP : va_P D cls3 (shW cL cI (bs u + 0) (bs u + 1) (bs u + 2) (bs u + 3) w) H1) (hk : ∀ q : Nat, q < H.size → ¬ in4 (bs u + 0) (bs u + 1) (bs u + 2) (bs u + 3) q → H1[q]? = H[q]?) : SFS D cL cI cO N0 bs (v.1, va_up v.2 u w) H1 := by
  have hu1 := h.2.1 u hu
  refine ⟨⟨h.1.1.kept (fun k q hq => hk q.1 ((h.1.1 k q hq).lt) (fun z => ?_)), fun i hi => ?_, h.1.2.2⟩, h.2.1, h.2.2.1, Nat.le_trans h.2.2.2 hz⟩
  · have h3 : q.1 ∈ ([N0, N0 + 1] : List Nat) := List.mem_map_of_mem (f := Prod.fst) (List.mem_of_getElem? hq)
    simp at h3
    have z : q.1 = bs u + 0 ∨ q.1 = bs u + 1 ∨ q.1 = bs u + 2 ∨ q.1 = bs u + 3 := z
    omega
  · have hi : i < v.1 := hi
    by_cases e : i = u
    · subst e
      show va_P D cls3 (shW cL cI (bs i + 0) (bs i + 1) (bs i + 2) (bs i + 3) (va_up v.2 i w i)) H1
      rw [show va_up v.2 i w i = w by simp [va_up]]; exact hP
    · show va_P D cls3 (shW cL cI (bs i + 0) (bs i + 1) (bs i + 2) (bs i + 3) (va_up v.2 u w i)) H1
      rw [show va_up v.2 u w i = v.2 i by simp [va_up, e]]
      have hPi := h.1.2.1 i hi
      refine hPi.kept (fun k q hq => hk q.1 ((hPi k q hq).lt) (fun z => ?_))
      have h3 : q.1 ∈ ([bs i + 0, bs i + 1, bs i + 2, bs i + 3] : List Nat) := List.mem_map_of_mem (f := Prod.fst) (List.mem_of_getElem? hq)
      simp at h3
      have z : q.1 = bs u + 0 ∨ q.1 = bs u + 1 ∨ q.1 = bs u + 2 ∨ q.1 = bs u + 3 := z
      rcases Nat.lt_or_ge i u with hlt | hge
      · have := h.2.2.1 i u hlt hu; omega
      · have := h.2.2.1 u i (by omega) hi; omega
theorem in4_C {N0 b : Nat} (h : N0 + 17 ≤ b) : ∀ q, in4 (b + 0) (b + 1) (b + 2) (b + 3) q → inC N0 q := fun q hq => by
  have hq : q = b + 0 ∨ q = b + 1 ∨ q = b + 2 ∨ q = b + 3 := hq
  exact Or.inr (Or.inr (by omega))
