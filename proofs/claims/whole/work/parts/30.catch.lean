/-! a thrown object finds its handler: rows of the table that link to other classes are passed, the row that names its class takes it; the tables grow warm on the way -/
section KC
/-- a row whose class links, and takes the object -/
theorem kc_take {Q : Handler → Pre} {E : CtlPost} {e : Env} {d : Bool} {acts : List Action} {S : State} {f : JFrame} {a : Addr} {x : ExceptionTableEntry} {t : List ExceptionTableEntry} {k : ClassId} {cell : Cell} (hx : covers x f.pc = true) (h0 : x.catchType ≠ 0)
    (hl : S.vm.ClassLinks e.platform f.method.cls x.catchType k) (hcell : S.heap[a]? = some cell) (hobj : ∀ j, cell.vm ≠ .statics j) (h1 : ∃ j, S.vm.classes[cell.cls]? = some j) (h2 : ∃ j, S.vm.classes[k]? = some j) {b : Bool} (hfit : S.vm.assignable cell.cls k = b) :
    wp (findHandler.go f a (x :: t)) Q E e d acts S ↔ if b = true then Q (.found x.handlerPc) d acts (S.setVm (S.vm.noted f.method.cls x.catchType (.cls k))) else wp (findHandler.go f a t) Q E e d acts (S.setVm (S.vm.noted f.method.cls x.catchType (.cls k))) := by
  simp only [covers] at hx
  have hal : S.vm.Alike (S.vm.noted f.method.cls x.catchType (.cls k)) := (Vm.Alike.refl S.vm).noted _ _ _
  obtain ⟨ra, rt⟩ := (resolveClass_links e.toSetting hl).op (op := VmOp.resolveClass f.method.cls x.catchType) rfl
  obtain ⟨j1, g1⟩ := h1
  obtain ⟨j2, g2⟩ := h2
  obtain ⟨i1, e1, -⟩ := hal.2.2 _ _ g1
  obtain ⟨i2, e2, -⟩ := hal.2.2 _ _ g2
  have hf : (S.vm.noted f.method.cls x.catchType (.cls k)).assignable cell.cls k = b := by rw [hal.assignable]; exact hfit
  cases b <;> simp [findHandler.go, hx, h0, ra, rt, hcell, hobj, e1, e2, hf, VmOp.dirties, VmOp.acts]
/-- what a row does with a class: passed by, or it names another class -/
def kc_by (e : Env) (s : State) (d : ClassId) (pc : Nat) (cx : ClassId) (y : ExceptionTableEntry) : Prop := covers y pc = false ∨ (y.catchType ≠ 0 ∧ ∃ k, s.vm.ClassLinks e.platform d y.catchType k ∧ s.vm.assignable cx k = false)
theorem kc_go {e : Env} {s : State} {f : JFrame} {a : Addr} {cell : Cell} {x : ExceptionTableEntry} {suf : List ExceptionTableEntry} {k : ClassId} (hobj : ∀ j, cell.vm ≠ .statics j) (hc0 : ∃ j, s.vm.classes[cell.cls]? = some j) (hx : covers x f.pc = true) (h0 : x.catchType ≠ 0)
    (hl : s.vm.ClassLinks e.platform f.method.cls x.catchType k) (hfit : s.vm.assignable cell.cls k = true) (pre : List ExceptionTableEntry) :
    ∀ S : State, s.WarmedH S.vm → S.heap[a]? = some cell → (∀ y ∈ pre, kc_by e s f.method.cls f.pc cell.cls y) →
      ∃ vm' : Vm, s.WarmedH vm' ∧ ∀ (Q : Handler → Pre) (E : CtlPost) (d : Bool) (acts : List Action), wp (findHandler.go f a (pre ++ x :: suf)) Q E e d acts S ↔ Q (.found x.handlerPc) d acts (S.setVm vm') := by
  obtain ⟨j0, hj0⟩ := hc0
  induction pre with
  | nil =>
    intro S hW hcell _
    obtain ⟨j1, h1, -⟩ := hW.alike.2.2 _ _ hj0
    obtain ⟨dk, _, _, kt, hd, _, _, _, _, hkt, _, hopen⟩ := hl.here
    obtain ⟨j2, h2, -⟩ := hW.alike.2.2 _ _ hkt
    refine ⟨_, hW.noted hd hopen (State.rightAt_cls hl), fun Q E d acts => ?_⟩
    have := kc_take (Q := Q) (E := E) (d := d) (acts := acts) (t := suf) hx h0 (hW.classLinks hl) hcell hobj ⟨j1, h1⟩ ⟨j2, h2⟩ (b := true) (by rw [hW.alike.assignable]; exact hfit)
    simpa using this
  | cons y ys ih =>
    intro S hW hcell hby
    have hr := fun z hz => hby z (List.mem_cons_of_mem _ hz)
    rcases hby y List.mem_cons_self with h | ⟨hy0, k', hl', hno⟩
    · obtain ⟨vm', hW', hq⟩ := ih S hW hcell hr
      exact ⟨vm', hW', fun Q E d acts => by rw [List.cons_append, W.findHandler_go_skip h]; exact hq Q E d acts⟩
    · by_cases hcv : covers y f.pc = true
      · obtain ⟨j1, h1, -⟩ := hW.alike.2.2 _ _ hj0
        obtain ⟨dk, _, _, kt, hd, _, _, _, _, hkt, _, hopen⟩ := hl'.here
        obtain ⟨j2, h2, -⟩ := hW.alike.2.2 _ _ hkt
        obtain ⟨vm', hW', hq⟩ := ih (S.setVm (S.vm.noted f.method.cls y.catchType (.cls k'))) (hW.noted hd hopen (State.rightAt_cls hl')) hcell hr
        refine ⟨vm', hW', fun Q E d acts => ?_⟩
        have h9 := kc_take (Q := Q) (E := E) (d := d) (acts := acts) (t := ys ++ x :: suf) hcv hy0 (hW.classLinks hl') hcell hobj ⟨j1, h1⟩ ⟨j2, h2⟩ (b := false) (by rw [hW.alike.assignable]; exact hno)
        rw [List.cons_append, h9, if_neg (by decide)]
        exact hq Q E d acts
      · obtain ⟨vm', hW', hq⟩ := ih S hW hcell hr
        exact ⟨vm', hW', fun Q E d acts => by rw [List.cons_append, W.findHandler_go_skip (by simpa using hcv)]; exact hq Q E d acts⟩
/-- the throwing step, where the search ends at a handler and leaves warmer tables -/
theorem kc_step {e : Env} {S : State} {a : Addr} {f : JFrame} {r : List Frame} {pc : Nat} {vm' : Vm} (hfind : ∀ (Q : Handler → Pre) (E : CtlPost) (d : Bool) (acts : List Action), wp (findHandler f a) Q E e d acts S ↔ Q (.found pc) d acts (S.setVm vm')) :
    (stepThrowing e S a (.java f :: r)).Is ((S.setVm vm').setFrames (.java { f with pc := pc, stack := [.ref a] } :: r)) [] := by
  simp only [stepThrowing, searchFrame, vmDo]
  generalize hr : Sem.go _ e false [] S = res
  obtain ⟨as, rfl, ha⟩ := Sem.eq_ok_of hr (a := Handler.found pc) (s' := S.setVm vm') (acts' := []) (by simp [hfind _ _ _ _])
  exact ⟨rfl, ha⟩
theorem kc_frames (u : State) (vm' : Vm) (F G : List Frame) : ((u.setFrames F).setVm vm').setFrames G = (u.setVm vm').setFrames G := by
  rw [show (u.setFrames F).setVm vm' = (u.setVm vm').setFrames F from rfl, State.setFrames_setFrames]
theorem kc_steps {tb : Tables} {e : Env} {S target : State} {g : JFrame} {c : Code} {below : List Frame} {a : Addr} {pc : Nat} {vm' : Vm} (h : At S g.method c below)
    (hfind : ∀ (Q : Handler → Pre) (E : CtlPost) (d : Bool) (acts : List Action), wp (findHandler g a) Q E e d acts ((S.setTop g).pushFrame (.throwing a)) ↔ Q (.found pc) d acts (((S.setTop g).pushFrame (.throwing a)).setVm vm'))
    (hrest : Steps tb e below ((S.setVm vm').setTop { g with pc := pc, stack := [.ref a] }) target) : Steps tb e below ((S.setTop g).pushFrame (.throwing a)) target := by
  obtain ⟨hgo, hw⟩ := h.throwing a
  refine Steps.head hgo hw ?_
  rw [stepThread_throwing (frames_entered h.top _), (kc_step (S := (S.setTop g).pushFrame (.throwing a)) hfind).1]
  obtain ⟨g₀, hg⟩ := Option.isSome_iff_exists.mp h.top
  obtain ⟨r, hr⟩ := State.topJava?_eq_some.mp hg
  have hr' : (S.setVm vm').frames = .java g₀ :: r := hr
  rw [State.setTop_of_frames _ hr'] at hrest
  rw [hr, List.tail_cons, State.pushFrame, kc_frames, State.setTop_of_frames _ hr, kc_frames]
  exact hrest
section
variable {p : Program} {l : Launch} {e : Env} {R : Room} {s : State} {m : MethodId} {args : Array Value} {below : List Frame} {meth : Method} {c : Code} {H : Heap} {locs : List Loc} {cells slots : Nat} {Q : State → Prop} {pc : Nat} {ls : Array Slot} {rest : List Value}
/-- CAUGHT by the row x; the rows ahead name other classes -/
theorem kc_catch {own name : String} {E : String} {ce : Cell} {q : Addr} (hown : s.vm.findClass own = some m.cls) (pre : List ExceptionTableEntry) (x : ExceptionTableEntry) (suf : List ExceptionTableEntry) (hsplit : c.exceptionTable.toList = pre ++ x :: suf)
    (hpass : ∀ z ∈ pre, covers z pc = false ∨ (z.catchType ≠ 0 ∧ ∃ nm : String, (Cond.classLink own z.catchType nm).before args s = true ∧ va_Nc E nm s)) (hx : covers x pc = true) (h0 : x.catchType ≠ 0)
    (hlink : (Cond.classLink own x.catchType name).before args s = true) (hcast : (Cond.castable E name).before args s = true) (hcell : H[q]? = some ce) (hv : ce.vm = .none) (hcl : s.vm.findClass E = some ce.cls)
    (kk : W p l e R s m args below meth c H locs cells slots Q (F0 m x.handlerPc ls [.ref q])) : vx_W p l e R s m args below meth c H locs cells slots Q (F0 m pc ls rest) q := by
  intro T hT X
  have hpl : e.platform.magicAccessors = ({} : Platform).magicAccessors := by rw [X.admits.platform]
  obtain ⟨c3, c4, hc3, hc4, hasg⟩ := Cond.castable_spec hcast
  cases Option.some.inj (hc3.symm.trans hcl)
  obtain ⟨c5, hc5, hcl5⟩ := Cond.classLink_spec hown hlink e.platform hpl
  cases Option.some.inj (hc4.symm.trans hc5)
  obtain ⟨vm', hW', hq⟩ := kc_go (e := e) (s := s) (f := F0 m pc ls rest) (a := q) (cell := ce) (x := x) (suf := suf) (k := c4) (fun j => by rw [hv]; intro h; cases h) (by obtain ⟨k9, h9, -⟩ := Vm.findClass_spec hcl; exact ⟨k9, h9⟩) hx h0 hcl5 hasg pre ((T.setTop (F0 m pc ls rest)).pushFrame (.throwing q)) X.warmed (by show T.heap[q]? = some ce; rw [hT]; exact hcell)
    (fun z hz => by
      rcases hpass z hz with h | ⟨hz0, nm, hl1, hn1⟩
      · exact Or.inl h
      · obtain ⟨c6, hc6, hcl6⟩ := Cond.classLink_spec hown hl1 e.platform hpl
        obtain ⟨a8, b8, h1, h2, h3⟩ := hn1
        cases Option.some.inj (h1.symm.trans hcl)
        cases Option.some.inj (h2.symm.trans hc6)
        exact Or.inr ⟨hz0, _, hcl6, h3⟩)
  obtain ⟨t, a1, b1⟩ := kk (T.setVm vm') hT (X.noted hW')
  refine ⟨t, kc_steps (g := F0 m pc ls rest) X.here (fun Q E d acts => ?_) a1, b1⟩
  rw [W.findHandler_eq X.method' X.code, hsplit]
  exact hq Q E d acts
end
end KC
