/-! THE BASE: pictures of states, contracts over pictures, a row an instruction over pictures; pure programs in Option -/
abbrev St : Type := Nat → Nat → Int32
/-- place j of number k becomes v -/
def st (μ : St) (k j : Nat) (v : Int32) : St := fun a => if a = k then upd (μ k) j v else μ a
/-- a field: (true, k): the int of number k; (false, k): a reference to the cell k -/
abbrev q_Fd : Type := Bool × Nat
/-- a cell: an object (its class, its fields), or an int array (its length, its number) -/
abbrev q_Cd : Type := (Nat × List q_Fd) ⊕ (Nat × Nat)
def fv (ρ : Nat → Nat) (μ : St) (f : q_Fd) : Value := if f.1 = true then .int (μ f.2 0) else .ref (ρ f.2)
def cv (cI : ClassId) (ρ : Nat → Nat) (μ : St) (d : q_Cd) : va_E := match d with
  | .inl o => .inr (o.1, o.2.map (fv ρ μ))
  | .inr a => .inl (cI, a.1, .inl (μ a.2))
def pic (T : List q_Cd) (cI : ClassId) (ρ : Nat → Nat) (μ : St) : va_W := T.mapIdx (fun i d => (ρ i, cv cI ρ μ d))
theorem pic_get {T : List q_Cd} {cI : ClassId} {ρ : Nat → Nat} {μ : St} {i : Nat} {d : q_Cd} (h : T[i]? = some d) : (pic T cI ρ μ)[i]? = some (ρ i, cv cI ρ μ d) := by
  simp [pic, List.getElem?_mapIdx, h]
theorem pic_inv {T : List q_Cd} {cI : ClassId} {ρ : Nat → Nat} {μ : St} {i : Nat} {q : Nat × va_E} (h : (pic T cI ρ μ)[i]? = some q) : ∃ d, T[i]? = some d ∧ q = (ρ i, cv cI ρ μ d) := by
  simp only [pic, List.getElem?_mapIdx, Option.map_eq_some_iff] at h
  obtain ⟨d, h1, h2⟩ := h
  exact ⟨d, h1, h2.symm⟩
/-- where the number k is used: nowhere but in the cell o, there as its field j -/
def onlyF (T : List q_Cd) (o j k : Nat) : Bool := (List.range T.length).all fun i => match T[i]? with
  | some (.inl (_, fs)) => (List.range fs.length).all fun a => match fs[a]? with
    | some (true, n) => if i = o ∧ a = j then true else !(n == k)
    | _ => true
  | some (.inr (_, n)) => !(n == k)
  | none => true
/-- .. but in the cell o, an array -/
def onlyA (T : List q_Cd) (o k : Nat) : Bool := (List.range T.length).all fun i => match T[i]? with
  | some (.inl (_, fs)) => fs.all fun f => match f with
    | (true, n) => !(n == k)
    | _ => true
  | some (.inr (_, n)) => if i = o then true else !(n == k)
  | none => true
theorem st_at (μ : St) (k j : Nat) (v : Int32) : st μ k j v k j = v := by simp [st, upd]
theorem st_ne {μ : St} {k j a b : Nat} {v : Int32} (h : a ≠ k) : st μ k j v a b = μ a b := by simp [st, h]
theorem st_ne' {μ : St} {k j a : Nat} {v : Int32} (h : a ≠ k) : st μ k j v a = μ a := by simp [st, h]
theorem st_nj {μ : St} {k j b : Nat} {v : Int32} (h : b ≠ j) : st μ k j v k b = μ k b := by simp [st, upd, h]
theorem st_row (μ : St) (k j : Nat) (v : Int32) : st μ k j v k = upd (μ k) j v := by simp [st]
theorem pic_putF {T : List q_Cd} {cI : ClassId} {ρ : Nat → Nat} {μ : St} {o j k ci : Nat} {fs : List q_Fd} {v : Int32} (hT : T[o]? = some (.inl (ci, fs))) (hf : fs[j]? = some (true, k)) (hu : onlyF T o j k = true) :
    (pic T cI ρ μ).set o (ρ o, .inr (ci, (fs.map (fv ρ μ)).set j (.int v))) = pic T cI ρ (st μ k 0 v) := by
  simp only [onlyF, List.all_eq_true, List.mem_range] at hu
  have ho : o < T.length := (List.getElem?_eq_some_iff.mp hT).1
  apply List.ext_getElem?
  intro i
  by_cases hi : i = o
  · subst hi
    rw [List.getElem?_set_self (by simpa [pic] using ho), pic_get hT]
    have h1 := hu i ho
    rw [hT] at h1
    simp only [List.all_eq_true, List.mem_range] at h1
    congr 1
    show (ρ i, (Sum.inr (ci, (fs.map (fv ρ μ)).set j (.int v)) : va_E)) = (ρ i, .inr (ci, fs.map (fv ρ (st μ k 0 v))))
    congr 3
    apply List.ext_getElem?
    intro a
    by_cases ha : a = j
    · subst ha
      have hl : a < fs.length := (List.getElem?_eq_some_iff.mp hf).1
      rw [List.getElem?_set_self (by simpa using hl), List.getElem?_map, hf]
      simp [fv, st_at]
    · rw [List.getElem?_set_ne (Ne.symm ha), List.getElem?_map, List.getElem?_map]
      cases hfa : fs[a]? with
      | none => rfl
      | some f =>
        have hl : a < fs.length := (List.getElem?_eq_some_iff.mp hfa).1
        have h2 := h1 a hl
        rw [hfa] at h2
        obtain ⟨b, n⟩ := f
        cases b with
        | false => rfl
        | true =>
          simp only [ha, and_false, if_false, Bool.not_eq_true', beq_eq_false_iff_ne] at h2
          simp [fv, st_ne h2]
  · rw [List.getElem?_set_ne (Ne.symm hi)]
    cases hTi : T[i]? with
    | none => simp [pic, List.getElem?_mapIdx, hTi]
    | some d =>
      rw [pic_get hTi, pic_get hTi]
      have hl : i < T.length := (List.getElem?_eq_some_iff.mp hTi).1
      have h1 := hu i hl
      rw [hTi] at h1
      congr 2
      cases d with
      | inr a =>
        obtain ⟨n, k'⟩ := a
        simp only [Bool.not_eq_true', beq_eq_false_iff_ne] at h1
        simp [cv, st_ne' h1]
      | inl x =>
        obtain ⟨c', gs⟩ := x
        simp only [List.all_eq_true, List.mem_range] at h1
        simp only [cv]
        congr 2
        apply List.ext_getElem?
        intro a
        rw [List.getElem?_map, List.getElem?_map]
        cases hfa : gs[a]? with
        | none => rfl
        | some f =>
          have hl2 : a < gs.length := (List.getElem?_eq_some_iff.mp hfa).1
          have h2 := h1 a hl2
          rw [hfa] at h2
          obtain ⟨b, n⟩ := f
          cases b with
          | false => rfl
          | true =>
            simp only [hi, false_and, if_false, Bool.not_eq_true', beq_eq_false_iff_ne] at h2
            simp [fv, st_ne h2]
theorem pic_putA {T : List q_Cd} {cI : ClassId} {ρ : Nat → Nat} {μ : St} {o n k j : Nat} {v : Int32} (hT : T[o]? = some (.inr (n, k))) (hu : onlyA T o k = true) :
    (pic T cI ρ μ).set o (ρ o, .inl (cI, n, .inl (upd (μ k) j v))) = pic T cI ρ (st μ k j v) := by
  simp only [onlyA, List.all_eq_true, List.mem_range] at hu
  have ho : o < T.length := (List.getElem?_eq_some_iff.mp hT).1
  apply List.ext_getElem?
  intro i
  by_cases hi : i = o
  · subst hi
    rw [List.getElem?_set_self (by simpa [pic] using ho), pic_get hT]
    simp [cv, st_row]
  · rw [List.getElem?_set_ne (Ne.symm hi)]
    cases hTi : T[i]? with
    | none => simp [pic, List.getElem?_mapIdx, hTi]
    | some d =>
      rw [pic_get hTi, pic_get hTi]
      have hl : i < T.length := (List.getElem?_eq_some_iff.mp hTi).1
      have h1 := hu i hl
      rw [hTi] at h1
      congr 2
      cases d with
      | inr a =>
        obtain ⟨n', k'⟩ := a
        simp only [hi, if_false, Bool.not_eq_true', beq_eq_false_iff_ne] at h1
        simp [cv, st_ne' h1]
      | inl x =>
        obtain ⟨c', gs⟩ := x
        simp only [List.all_eq_true] at h1
        simp only [cv]
        congr 2
        apply List.map_congr_left
        intro f hf
        have h2 := h1 f hf
        obtain ⟨b, n'⟩ := f
        cases b with
        | false => rfl
        | true =>
          simp only [Bool.not_eq_true', beq_eq_false_iff_ne] at h2
          simp [fv, st_ne h2]
theorem pic_D {T : List q_Cd} {cI : ClassId} {ρ : Nat → Nat} {μ ν : St} {A : Nat → Prop} (h : va_D A (pic T cI ρ μ)) : va_D A (pic T cI ρ ν) := by
  constructor
  · intro i j p q hi hj e
    obtain ⟨d1, h1, rfl⟩ := pic_inv hi
    obtain ⟨d2, h2, rfl⟩ := pic_inv hj
    exact h.1 i j _ _ (pic_get h1) (pic_get h2) e
  · intro k q hq
    obtain ⟨d1, h1, rfl⟩ := pic_inv hq
    exact h.2 k (ρ k, cv cI ρ μ d1) (pic_get h1)
theorem pic_A {T : List q_Cd} {cI : ClassId} {ρ : Nat → Nat} {μ ν : St} {sz q : Nat} (h : va_A (pic T cI ρ μ) sz q) : va_A (pic T cI ρ ν) sz q := by
  rcases h with ⟨k, e, h⟩ | h
  · obtain ⟨d1, h1, h2⟩ := pic_inv h
    cases h2
    exact Or.inl ⟨k, _, pic_get h1⟩
  · exact Or.inr h
/-! pure programs -/
def nm {α β : Type} (e : α) (k : α → Option β) : Option β := k e
theorem nm_some {α β : Type} {e : α} {k : α → Option β} {r : β} (h : nm e k = some r) : ∃ x, x = e ∧ k x = some r := ⟨e, rfl, h⟩
def gd {β : Type} (b : Bool) (k : Option β) : Option β := if b = true then k else none
theorem gd_some {β : Type} {b : Bool} {k : Option β} {r : β} (h : gd b k = some r) : b = true ∧ k = some r := by
  unfold gd at h
  split at h
  · exact ⟨by assumption, h⟩
  · cases h
def ca {α β : Type} (o : Option α) (k : α → Option β) : Option β := match o with
  | some x => k x
  | none => none
theorem ca_some {α β : Type} {o : Option α} {k : α → Option β} {r : β} (h : ca o k = some r) : ∃ x, o = some x ∧ k x = some r := by
  cases o with
  | none => cases h
  | some x => exact ⟨x, rfl, h⟩
def jn {κ β : Type} (f : κ) (body : κ → Option β) : Option β := body f
theorem jn_some {κ β : Type} {f : κ} {body : κ → Option β} {r : β} (h : jn f body = some r) : ∃ k, k = f ∧ body k = some r := ⟨f, rfl, h⟩
def lpk {κ : Type} (F : κ → κ) (z : κ) : Nat → κ
  | 0 => z
  | n + 1 => F (lpk F z n)
theorem lp_elim {κ : Type} {F : κ → κ} {z : κ} (P : κ → Prop) (h0 : P z) (hs : ∀ k, P k → P (F k)) (n : Nat) : P (lpk F z n) := by
  induction n with
  | zero => exact h0
  | succ n ih => exact hs _ ih
def inb (i : Int32) (n : Nat) : Bool := decide (0 ≤ i.toInt) && decide (i.toInt < n)
theorem inb_in {i : Int32} {n : Nat} (h : inb i n = true) : vp_in i n := by
  simp only [inb, Bool.and_eq_true, decide_eq_true_eq] at h
  exact vp_in_iff.mpr h
theorem it_pos {c : Prop} [Decidable c] {β : Type} {a b : Option β} {r : β} (hc : c) (h : (if c then a else b) = some r) : a = some r := by
  rw [if_pos hc] at h; exact h
theorem it_neg {c : Prop} [Decidable c] {β : Type} {a b : Option β} {r : β} (hc : ¬ c) (h : (if c then a else b) = some r) : b = some r := by
  rw [if_neg hc] at h; exact h
def nz (x : Int32) : Bool := !(x == 0)
theorem nz_ne {x : Int32} (h : nz x = true) : ¬ x = 0 := by simpa [nz] using h
theorem ne_toInt {x v : Int32} {z : Int} (hv : v.toInt = z) (h : ¬ x = v) : x.toInt ≠ z := fun e => h (Int32.toInt_inj.mp (e.trans hv.symm))
/-! the machine over pictures -/
abbrev wm (y : MethodName) (cc : ByteArray) (n : Nat) (ret : Option FieldType) : List Cond := Cond.code y cc n ret :: wg
abbrev rmL (h : Nat) : Room := { frames := h, cells := 0, slots := 0, locals := 40 * h }
def Cx (p : Program) (s : State) (m : MethodId) (args : Array Value) (c : Code) (cc : ByteArray) (nL : Nat) (own : String) (D : va_G) (cI : ClassId) : Prop :=
  CallFix p m c cc nL s args wg own ∧ va_K D vwCl [(cI, .int)] s
def RI (T : List q_Cd) (cI : ClassId) (D : va_G) (A : Nat → Prop) (H0 : Heap) (ρ : Nat → Nat) (μ : St) (H : Heap) (locs : List Loc) : Prop :=
  va_P D vwCl (pic T cI ρ μ) H ∧ va_D A (pic T cI ρ μ) ∧ va_S A H0 H locs ∧ ∀ q, H0.size ≤ q → A q
def pw (T : List q_Cd) (cI : ClassId) (D : va_G) (ρ : Nat → Nat) (μ : St) (U : State) : Prop :=
  va_P D vwCl (pic T cI ρ μ) U.heap ∧ va_K D vwCl [(cI, .int)] U ∧ va_D (fun _ => True) (pic T cI ρ μ)
def PcT (T : List q_Cd) (cI : ClassId) (D : va_G) (ρ : Nat → Nat) (μ : St) (as : List Value) (sz : Nat) : Array Value → State → Prop :=
  va_Pc as (fun U => U.heap.size = sz ∧ pw T cI D ρ μ U)
def QiT (T : List q_Cd) (cI : ClassId) (D : va_G) (ρ : Nat → Nat) (μ : St) (sz : Nat) (r : Int32) (ν : St) : Array Value → State → Outcome → State → Prop :=
  va_Qi (fun (r' : Int32) (u : St) => r' = r ∧ u = ν) (fun u t => pw T cI D ρ u t) (va_A (pic T cI ρ μ) sz)
def QvT (T : List q_Cd) (cI : ClassId) (D : va_G) (ρ : Nat → Nat) (μ : St) (sz : Nat) (ν : St) : Array Value → State → Outcome → State → Prop :=
  va_Qv (fun (u : St) => u = ν) (fun u t => pw T cI D ρ u t) (va_A (pic T cI ρ μ) sz)
/-- THE CONTRACT of a method that answers an int: from the picture of μ it answers r, with the picture of ν -/
def CI (l : Launch) (y : MethodName) (cc : ByteArray) (n : Nat) (ret : Option FieldType) (h : Nat) (T : List q_Cd) (cI : ClassId) (D : va_G) (ρ : Nat → Nat) (as : List Value) (μ : St) (r : Int32) (ν : St) : Prop :=
  ∀ sz, Met l y (wm y cc n ret) (rmL h) (PcT T cI D ρ μ as sz) (QiT T cI D ρ μ sz r ν) 0 0 (va_A (pic T cI ρ μ) sz)
/-- .. of one that answers nothing -/
def CV (l : Launch) (y : MethodName) (cc : ByteArray) (n : Nat) (h : Nat) (T : List q_Cd) (cI : ClassId) (D : va_G) (ρ : Nat → Nat) (as : List Value) (μ : St) (ν : St) : Prop :=
  ∀ sz, Met l y (wm y cc n none) (rmL h) (PcT T cI D ρ μ as sz) (QvT T cI D ρ μ sz ν) 0 0 (va_A (pic T cI ρ μ) sz)
theorem PcT_blind {T : List q_Cd} {cI : ClassId} {D : va_G} {ρ : Nat → Nat} {μ : St} {as : List Value} {sz : Nat} : FrameBlind (PcT T cI D ρ μ as sz) := by
  intro a U g mk q
  obtain ⟨q0, q1, qP, qK, qD⟩ := q
  exact ⟨q0, q1, qP, va_K.moved (u := U) (U := U.calling g mk a) (Vm.Alike.refl U.vm) qK, qD⟩
theorem wm_good {y : MethodName} {cc : ByteArray} {n : Nat} {ret : Option FieldType} (h : Cond.code y cc n ret ∈ wg) {w : Cond} (hw : w ∈ wm y cc n ret) : w ∈ wg := by
  rcases List.mem_cons.mp hw with rfl | h2
  · exact h
  · exact h2
theorem wg_good {w : Cond} (h : w ∈ wg) : (w.onTables && w.keeps) = true ∨ ∃ ty, w = .arrayClass ty := good_of_word (List.mem_filter.mp h).2
theorem gi_V {own C : String} {idx n : Nat} {y : MethodName} {cc : ByteArray} {ret : Option FieldType} (h1 : Cond.methodLink own idx y ∈ wg) (h2 : Cond.instanceMethod y ∈ wg) (h3 : Cond.selects C y y ∈ wg) (h4 : Cond.initialized C ∈ wg) (h5 : Cond.code y cc n ret ∈ wg) :
    GoodIn wg (wsV own idx C y (wm y cc n ret)) := by
  intro w hw
  have : w ∈ wg := by
    rcases List.mem_append.mp hw with h | h
    · simp only [List.mem_cons, List.not_mem_nil, or_false] at h
      rcases h with rfl | rfl | rfl | rfl <;> assumption
    · exact wm_good h5 h
  exact ⟨this, wg_good this⟩
theorem gi_S {own : String} {idx n : Nat} {y : MethodName} {cc : ByteArray} {ret : Option FieldType} (h1 : Cond.methodLink own idx y ∈ wg) (h2 : Cond.static y ∈ wg) (h4 : Cond.initialized own ∈ wg) (h5 : Cond.code y cc n ret ∈ wg) :
    GoodIn wg (wsS own idx y (wm y cc n ret)) := by
  intro w hw
  have : w ∈ wg := by
    rcases List.mem_append.mp hw with h | h
    · simp only [List.mem_cons, List.not_mem_nil, or_false] at h
      rcases h with rfl | rfl | rfl <;> assumption
    · exact wm_good h5 h
  exact ⟨this, wg_good this⟩
