/-! worlds side by side; the law's wrappers, which catch -/
theorem wLX_1 : Cond.classLink RL 13 (xn 1) ∈ wg := wg_of (List.mem_of_getElem? (i := 416) (by decide +kernel)) (by decide +kernel)
theorem wLX_2 : Cond.classLink RL 15 (xn 2) ∈ wg := wg_of (List.mem_of_getElem? (i := 417) (by decide +kernel)) (by decide +kernel)
theorem wLX_3 : Cond.classLink RL 31 (xn 3) ∈ wg := wg_of (List.mem_of_getElem? (i := 651) (by decide +kernel)) (by decide +kernel)
section FR
variable {D : va_G} {cl : List vw_C} {A : Nat → Prop} {a a' b : va_W} {H H1 : Heap}
theorem fr_L (h : va_P D cl (a ++ b) H) : va_P D cl a H := fun k q hk => h k q (by rw [List.getElem?_append_left (List.getElem?_eq_some_iff.mp hk).1]; exact hk)
theorem fr_R (h : va_P D cl (a ++ b) H) : va_P D cl b H := fun k q hk => h (a.length + k) q (by rw [List.getElem?_append_right (Nat.le_add_right _ _), Nat.add_sub_cancel_left]; exact hk)
theorem fr_DL (h : va_D A (a ++ b)) : va_D A a := by
  have e : ∀ {k : Nat} {q : Nat × va_E}, a[k]? = some q → (a ++ b)[k]? = some q := fun {k q} hk => by rw [List.getElem?_append_left (List.getElem?_eq_some_iff.mp hk).1]; exact hk
  exact ⟨fun i j p q hi hj he => h.1 i j p q (e hi) (e hj) he, fun k q hk => h.2 k q (e hk)⟩
theorem fr_swapP (h : va_P D cl (a ++ b) H) : va_P D cl (b ++ a) H := by
  have h2 : va_P D cl (b ++ a) H := (fr_R h).app (fr_L h)
  exact h2
theorem fr_apart (h : va_D A (a ++ b)) {i j : Nat} {p q : Nat × va_E} (hi : a[i]? = some p) (hj : b[j]? = some q) : p.1 ≠ q.1 := by
  intro he
  have hl := (List.getElem?_eq_some_iff.mp hi).1
  have := h.1 i (a.length + j) p q (by rw [List.getElem?_append_left hl]; exact hi) (by rw [List.getElem?_append_right (Nat.le_add_right _ _), Nat.add_sub_cancel_left]; exact hj) he
  omega
theorem fr_fst {ws ws' : va_W} (hf : ws'.map Prod.fst = ws.map Prod.fst) {k : Nat} {q : Nat × va_E} (hk : ws'[k]? = some q) : ∃ e, ws[k]? = some (q.1, e) := by
  have h1 : (ws'.map Prod.fst)[k]? = some q.1 := by rw [List.getElem?_map, hk]; rfl
  rw [hf, List.getElem?_map] at h1
  cases hw : ws[k]? with
  | none => rw [hw] at h1; cases h1
  | some z =>
    rw [hw] at h1
    have h2 : z.1 = q.1 := Option.some.inj h1
    exact ⟨z.2, by rw [← h2]⟩
theorem fr_D {ws ws' : va_W} (hf : ws'.map Prod.fst = ws.map Prod.fst) (h : va_D A ws) : va_D A ws' := by
  constructor
  · intro i j p q hi hj he
    obtain ⟨e1, h1⟩ := fr_fst hf hi
    obtain ⟨e2, h2⟩ := fr_fst hf hj
    exact h.1 i j _ _ h1 h2 he
  · intro k q hk
    obtain ⟨e1, h1⟩ := fr_fst hf hk
    exact h.2 k (q.1, e1) h1
theorem fr_swapD (h : va_D A (a ++ b)) : va_D A (b ++ a) := by
  have g : ∀ {k : Nat} {q : Nat × va_E}, (b ++ a)[k]? = some q → (a ++ b)[if k < b.length then a.length + k else k - b.length]? = some q := by
    intro k q hk
    by_cases hl : k < b.length
    · rw [if_pos hl, List.getElem?_append_right (Nat.le_add_right _ _), Nat.add_sub_cancel_left]
      rw [List.getElem?_append_left hl] at hk
      exact hk
    · rw [if_neg hl]
      rw [List.getElem?_append_right (Nat.le_of_not_lt hl)] at hk
      rw [List.getElem?_append_left (List.getElem?_eq_some_iff.mp hk).1]
      exact hk
  refine ⟨fun i j p q hi hj he => ?_, fun k q hk => h.2 _ q (g hk)⟩
  have h1 := h.1 _ _ p q (g hi) (g hj) he
  have hi' := (List.getElem?_eq_some_iff.mp hi).1
  have hj' := (List.getElem?_eq_some_iff.mp hj).1
  simp only [List.length_append] at hi' hj'
  by_cases hl : i < b.length <;> by_cases hl2 : j < b.length
  · rw [if_pos hl, if_pos hl2] at h1; omega
  · rw [if_pos hl, if_neg hl2] at h1; omega
  · rw [if_neg hl, if_pos hl2] at h1; omega
  · rw [if_neg hl, if_neg hl2] at h1; omega
/-- behind a call on a: b is as it was -/
theorem fr_join (hP : va_P D cl (a ++ b) H) (hD : va_D A (a ++ b)) (hP1 : va_P D cl a' H1) (hk : ∀ q : Nat, q < H.size → ¬ va_A a H.size q → H1[q]? = H[q]?) : va_P D cl (a' ++ b) H1 := by
  refine va_P.app hP1 (va_P.kept (fr_R hP) (fun k q hq => hk _ ((fr_R hP) k q hq).lt ?_))
  rintro (⟨i, e, hi⟩ | hle)
  · exact fr_apart hD hi hq rfl
  · exact absurd ((fr_R hP) k q hq).lt (Nat.not_lt.mpr hle)
theorem fr_A {ws ws' : va_W} (hf : ws'.map Prod.fst = ws.map Prod.fst) {sz q : Nat} (h : va_A ws' sz q) : va_A ws sz q := by
  rcases h with ⟨k, e, h⟩ | h
  · obtain ⟨e1, h1⟩ := fr_fst hf h
    exact Or.inl ⟨k, e1, h1⟩
  · exact Or.inr h
theorem fr_free {H0 : Heap} {locs : List Loc} (hD : va_D A (a ++ b)) (hS : va_S A H0 H locs) (hA : ∀ q, H0.size ≤ q → A q) : ∀ q, va_A a H.size q → A q := by
  rintro q (⟨k, e, hk⟩ | hq)
  · exact (fr_DL hD).2 k _ hk
  · exact hA q (Nat.le_trans hS.1 hq)
end FR
theorem pic_fst {T : List q_Cd} {cI : ClassId} {ρ : Nat → Nat} {μ ν : St} : (pic T cI ρ ν).map Prod.fst = (pic T cI ρ μ).map Prod.fst := by
  apply List.ext_getElem?
  intro i
  simp only [pic, List.getElem?_map, List.getElem?_mapIdx, Option.map_map]
  rfl
abbrev oc (cL : ClassId) (q : Nat) (fo : Nat → Int64) : Nat × va_E := (q, .inl (cL, 1, .inr (.inl fo)))
abbrev w_w (cI cL : ClassId) (ρ : Nat → Nat) (q : Nat) (ν : St) (fo : Nat → Int64) : va_W := pic TC cI ρ ν ++ [oc cL q fo]
def pwo (cI cL : ClassId) (D : va_G) (ρ : Nat → Nat) (q : Nat) (ν : St) (fo : Nat → Int64) (U : State) : Prop := va_P D vwCl (w_w cI cL ρ q ν fo) U.heap ∧ va_K D vwCl [(cI, .int), (cL, .long)] U ∧ va_D (fun _ => True) (w_w cI cL ρ q ν fo)
/-- what a throw and its catching need -/
def XN (A : Nat → Prop) (U : State) (H : Heap) : Prop := XW A U H ∧ va_Nc (xn 2) (xn 1) U
theorem va_Nc_moved {E T : String} {u U : State} (hvm : u.vm.Alike U.vm) (h : va_Nc E T u) : va_Nc E T U := by
  obtain ⟨c, t, h1, h2, h3⟩ := h
  exact ⟨c, t, by rw [hvm.findClass]; exact h1, by rw [hvm.findClass]; exact h2, by rw [hvm.assignable]; exact h3⟩
def PcW (cI cL : ClassId) (D : va_G) (ρ : Nat → Nat) (q : Nat) (ν : St) (fo : Nat → Int64) (as : List Value) (sz : Nat) : Array Value → State → Prop :=
  va_Pc as (fun U => U.heap.size = sz ∧ pwo cI cL D ρ q ν fo U ∧ XN (va_A (w_w cI cL ρ q ν fo) sz) U U.heap)
/-- THE CONTRACT of a wrapper: answers kr, the class's state ν', the cell out fo' -/
def CW (l : Launch) (y : MethodName) (cc : ByteArray) (n : Nat) (hh : List (Nat × Nat × Nat × Nat)) (h : Nat) (cI cL : ClassId) (D : va_G) (ρ : Nat → Nat) (q : Nat) (as : List Value) (ν : St) (fo : Nat → Int64) (kr : Int32) (ν' : St) (fo' : Nat → Int64) : Prop :=
  ∀ sz, Met l y (Cond.codeWith y cc n (some .int) hh :: wg) (rmX h) (PcW cI cL D ρ q ν fo as sz) (va_Qi (fun (r' : Int32) (u : St × (Nat → Int64)) => r' = kr ∧ u = (ν', fo')) (fun u t => pwo cI cL D ρ q u.1 u.2 t) (va_A (w_w cI cL ρ q ν fo) sz)) 1 6 (va_A (w_w cI cL ρ q ν fo) sz)
theorem PcW_blind {cI cL : ClassId} {D : va_G} {ρ : Nat → Nat} {q : Nat} {ν : St} {fo : Nat → Int64} {as : List Value} {sz : Nat} : FrameBlind (PcW cI cL D ρ q ν fo as sz) := by
  intro a U g mk z
  obtain ⟨q0, q1, ⟨qP, qK, qD⟩, qX, qN⟩ := z
  exact ⟨q0, q1, ⟨qP, va_K.moved (u := U) (U := U.calling g mk a) (Vm.Alike.refl U.vm) qK, qD⟩, XW.same (U := U.calling g mk a) qX rfl, va_Nc_moved (u := U) (U := U.calling g mk a) (Vm.Alike.refl U.vm) qN⟩
theorem kw_ofW {l : Launch} {y : MethodName} {ws ws' : List Cond} {rm : Room} {Pc : Array Value → State → Prop} {Qc : Array Value → State → Outcome → State → Prop} {mc ms : Nat} {free : Addr → Prop} {cc : ByteArray} {maxL : Nat} {ret : Option FieldType} {hh : List (Nat × Nat × Nat × Nat)}
    (hy : plainName y.cls = true) (hw : ws = Cond.codeWith y cc maxL ret hh :: ws')
    (body : ∀ p e s m args below meth c s₁, BodyLoose p l y (headSpec ws rm) cc maxL ret e s m args below meth c s₁ → c.maxLocals = maxL → Pc args s →
      W p l e (headSpec ws rm).room s m args below meth c s.heap [] 0 0 (MQ below Qc args s mc ms free) (entryFrame m args maxL)) : Met l y ws rm Pc Qc mc ms free := by
  refine MetFree.of_bodyS (code := cc) (maxLocals := maxL) (ret := ret) hy ?_ ?_
  · intro args s m h hn
    obtain ⟨m9, meth, c, hn9, h1, h2, h3, h4, -, h5, h6, -⟩ := Cond.codeWith_spec (atoms_spec (ws := ws) h _ (by rw [hw]; exact List.mem_cons_self))
    cases hn.symm.trans hn9
    exact ⟨meth, c, h1, h2, h3, h4, h5, h6⟩
  · intro p e s m args below meth c s₁ B hml hP _
    have hh0 : s₁.heap = s.heap := by rw [B.state]; rfl
    obtain ⟨t, a1, o, b1, b2, b3, b4⟩ := body p e s m args below meth c s₁ B hml hP s₁ hh0 (Stand.of_body B)
    exact ⟨t, o, a1, b1, b2, b3, b4⟩
theorem xw_cast {A : Nat → Prop} {s : State} {H : Heap} {args : Array Value} (h : XW A s H) {w : Cond} (hw : w ∈ xg) : w.before args s = true := va_Nw.use (xg_tab hw) (h.2.2.2 w hw)
theorem xg_c1 : Cond.castable (xn 1) (xn 1) ∈ xg := by decide +kernel
theorem xg_c2 : Cond.castable (xn 2) (xn 2) ∈ xg := by decide +kernel
theorem xg_c3 : Cond.castable (xn 3) (xn 3) ∈ xg := by decide +kernel
theorem pic_obj {T : List q_Cd} {cI : ClassId} {ρ : Nat → Nat} {μ : St} {i : Nat} {o : Nat × List q_Fd} (h : T[i]? = some (.inl o)) : (pic T cI ρ μ)[i]? = some (ρ i, .inr (o.1, o.2.map (fv ρ μ))) := pic_get h
section WR
variable {p : Program} {l : Launch} {e : Env} {R : Room} {s : State} {m : MethodId} {args : Array Value} {below : List Frame} {meth : Method} {c : Code} {H : Heap} {locs : List Loc} {cells slots : Nat} {Q : State → Prop} {cc : ByteArray} {nL : Nat} {own : String} {D : va_G} {cI cL : ClassId} {A : Nat → Prop} {ρ : Nat → Nat} {q : Nat} {ν ν' : St} {fo : Nat → Int64} {pc : Nat} {ls : Array Slot} {rest : List Value} {h' n' idx k : Nat} {y : MethodName} {cc' : ByteArray} {ret : Option FieldType} {r : Int32} {As st0 : List Value}
/-- a call of a method of ShortMill that may throw, with the cell out beside -/
theorem rw_call (F : CallFix p m c cc nL s args wg own) (hK : va_K D vwCl [(cI, .int), (cL, .long)] s) (hP : va_P D vwCl (w_w cI cL ρ q ν fo) H) (hD : va_D A (w_w cI cL ρ q ν fo)) (hS : va_S A s.heap H locs) (hA : ∀ z, s.heap.size ≤ z → A z) (hX : XW A s H) (hM : CX l y cc' n' ret h' TC cI D ρ (.ref (ρ 0) :: As) ν k r ν') (g : GoodIn wg (wsV own idx RX5 y (wm y cc' n' ret))) (hd : y.cls = RX5 ∧ y.cls ≠ "java/lang/invoke/MethodHandle" ∧ y.cls ≠ "java/lang/invoke/VarHandle" ∧ (parseMethodDescriptor y.desc).map (fun d => d.parameters.length) = some As.length) (hR : (rmX h').frames + 1 ≤ R.frames ∧ 8 + (n' + 11) + (rmX h').locals ≤ R.locals) (hcs : cells + 1 ≤ R.cells ∧ slots + 6 ≤ R.slots) (hl : ls.size = nL) (hst : st0 = As.reverse ++ .ref (ρ 0) :: rest) (hW : (rest.map fun v => v.category).sum ≤ 8) (hdg : decode cc pc = .ok (.invokevirtual idx, 3))
    (kx : ∀ (H1 : Heap) (locs1 : List Loc) (q9 : Addr) (ce : Cell), k ≠ 0 → va_P D vwCl (w_w cI cL ρ q ν' fo) H1 → va_D A (w_w cI cL ρ q ν' fo) → va_S A s.heap H1 locs1 → H1[q9]? = some ce → ce.vm = .none → s.vm.findClass (xn k) = some ce.cls → vx_W p l e R s m args below meth c H1 locs1 (cells + 1) (slots + 6) Q (F0 m pc ls rest) q9)
    (kk : ∀ (H1 : Heap) (locs1 : List Loc), k = 0 → va_P D vwCl (w_w cI cL ρ q ν' fo) H1 → va_D A (w_w cI cL ρ q ν' fo) → va_S A s.heap H1 locs1 → W p l e R s m args below meth c H1 locs1 (cells + 1) (slots + 6) Q (F0 m (pc + 3) ls (.int r :: rest))) : W p l e R s m args below meth c H locs cells slots Q (F0 m pc ls st0) := by
  subst hst
  have hFc := fr_free (a := pic TC cI ρ ν) (b := [oc cL q fo]) hD hS hA
  have hPc : va_P D vwCl (pic TC cI ρ ν) H := fr_L hP
  have hKc := hK.sub (tys' := [(cI, .int)]) [0] rfl
  have hf' : (w_w cI cL ρ q ν' fo).map Prod.fst = (w_w cI cL ρ q ν fo).map Prod.fst := by rw [List.map_append, List.map_append, pic_fst (μ := ν)]
  refine vx_calli (vx_runV (As := As) (rest := rest) F (hM H.size) (cwV As.length F.2.2.2.2 g rfl rfl rfl hd hR) ⟨PcX_blind, va_recv hKc hPc (ci := 5) (q := (RX5, TX5, 6)) rfl (pic_obj (T := TC) (i := 0) rfl), fun U hU hW => ⟨rfl, by rw [hU], ⟨by rw [hU]; exact hPc, va_K.moved hW.alike hKc, (fr_DL hD).weaken (fun _ _ _ _ => trivial)⟩, by rw [hU]; exact hX.call hW (fun _ _ _ => rfl) hFc⟩⟩ rfl rfl hl rfl (lv_room hW) hdg hcs) hS (fun z _ h => hFc z h) hFc (fun z _ h => hFc z h) (fun E ce q9 u t H1 locs1 ht hvm hw hB hz1 hk1 hS1 hce hcv hcl => ?_) (fun r' u t H1 locs1 ht hvm hw hB hz1 hk1 hS1 => ?_)
  · obtain ⟨hk, rfl⟩ := hw
    obtain ⟨rfl, hB⟩ := hB
    exact kx H1 locs1 q9 ce hk (fr_join hP hD (by rw [← ht]; exact hB.1) hk1) (fr_D hf' hD) hS1 hce hcv hcl
  · obtain ⟨hk, rfl, rfl⟩ := hw
    exact kk H1 locs1 hk (fr_join hP hD (by rw [← ht]; exact hB.1) hk1) (fr_D hf' hD) hS1
end WR
theorem kw_set {cI cL : ClassId} {ρ : Nat → Nat} {q : Nat} {ν : St} {fo fo' : Nat → Int64} : (w_w cI cL ρ q ν fo).set 24 (q, .inl (cL, 1, .inr (.inl fo'))) = w_w cI cL ρ q ν fo' := by
  have h : (pic TC cI ρ ν).length = 24 := by simp [pic]
  rw [show (24 : Nat) = (pic TC cI ρ ν).length + 0 from by rw [h], List.set_append_right _ _ (Nat.le_add_right _ _), Nat.add_sub_cancel_left]
  rfl
theorem wCW_words : Cond.codeWith yL_words cL_words 5 (some .int) [(0, 10, 13, 13), (0, 10, 17, 15)] ∈ wg := wg_of (List.mem_of_getElem? (i := 415) (by decide +kernel)) (by decide +kernel)
theorem gW_7 : GoodIn wg (wsV RL 7 RX5 yX5_words (wm yX5_words cX5_words 4 (some .int))) := gi_V wM_L_7 wN_X5_words wV_X5_words wI_X5 wC_X5_words
theorem hdW_words : yX5_words.cls = RX5 ∧ yX5_words.cls ≠ "java/lang/invoke/MethodHandle" ∧ yX5_words.cls ≠ "java/lang/invoke/VarHandle" ∧ (parseMethodDescriptor yX5_words.desc).map (fun d => d.parameters.length) = some 2 := by decide +kernel
set_option maxHeartbeats 4000000 in
set_option maxRecDepth 100000 in
theorem c_L_words (l : Launch) (hst : l.stackTraces = false) (D : va_G) (cI cL : ClassId) (ρ : Nat → Nat) (q : Nat) {N : Nat} {p0 : Int32} {p1 : Int32} {ν ν' : St} {fo : Nat → Int64} {k : Nat} {r : Int32} (hk : k = 0 ∨ k = 1 ∨ k = 2) (h : f_S_words N p0 p1 ν = some (k, r, ν')) : CW l yL_words cL_words 5 [(0, 10, 13, 13), (0, 10, 17, 15)] 7 cI cL D ρ q [.ref (ρ 0), .int p0, .int p1, .ref q] ν fo (if k = 0 then (0 : Int32) else if k = 1 then 1 else 2) ν' (if k = 0 then vp_updL fo 0 r.toInt64 else fo) := by
  intro sz
  refine kw_ofW (cc := cL_words) (maxL := 5) (ret := some .int) (hh := [(0, 10, 13, 13), (0, 10, 17, 15)]) (by decide) rfl ?_
  intro p e s m args below meth c s₁ B hml hv
  obtain ⟨rfl, hsz, ⟨hP, hK, hD0⟩, hXW, hNc⟩ := hv
  have hts := atoms_spec (ws := Cond.codeWith yL_words cL_words 5 (some .int) [(0, 10, 13, 13), (0, 10, 17, 15)] :: wg) B.pre
  subst hsz
  have htb := vx_table (x := yL_words) B (hts _ List.mem_cons_self)
  have hD := hD0.self (sz := s.heap.size)
  generalize hAe : va_A (w_w cI cL ρ q ν fo) s.heap.size = A at hD hXW ⊢
  have hA : ∀ z : Nat, s.heap.size ≤ z → A z := fun z h => by rw [← hAe]; exact Or.inr h
  have hS : va_S A s.heap s.heap [] := va_S.rf
  have F : CallFix p m c cL_words 5 s _ wg RL := ⟨B.exec, B.bytes, hml, findClass_of_methodNamed B.named, fun w hw => hts w (List.mem_cons_of_mem _ hw)⟩
  have hx := F.1
  have hb := F.2.1
  have hw := F.2.2.2.2
  have hown := F.2.2.2.1
  have hl := lv_entry ([.ref (ρ 0), .int p0, .int p1, .ref q]) (n := 5) (Nat.le_of_ble_eq_true rfl)
  rw [lg_entry_eq]
  generalize (lg_sl ([.ref (ρ 0), .int p0, .int p1, .ref q]) ++ List.replicate (5 - (lg_sl ([.ref (ρ 0), .int p0, .int p1, .ref q])).length) Slot.unset).toArray = ls at hl ⊢
  have hl : lv_has ls 5 [(0, .ref (ρ 0)), (1, .int p0), (2, .int p1), (3, .ref q)] := hl
  refine lv_aload_n hx hb dL_words_0 rfl (lv_at hl 3 rfl) ?_
  refine lv_iconst (v := 0) hx hb dL_words_1 (by decide) ?_
  refine lv_aload_n hx hb dL_words_2 rfl (lv_at hl 0 rfl) ?_
  refine lv_iload_n hx hb dL_words_3 rfl (lv_at hl 1 rfl) ?_
  refine lv_iload_n hx hb dL_words_4 rfl (lv_at hl 2 rfl) ?_
  refine rw_call (As := [.int p0, .int p1]) (rest := [.int 0, .ref q]) F hK hP hD hS hA hXW (c_S_words l D cI ρ hst 6 (Nat.le_refl _) h) gW_7 hdW_words ⟨by decide, by decide⟩ ⟨by decide, by decide⟩ hl.1 rfl (Nat.le_of_ble_eq_true rfl) dL_words_5 (fun H locs q9 ce hk0 hP hD hS hce hcv hcl => ?_) (fun H locs hk0 hP hD hS => ?_)
  · rcases hk with rfl | rfl | rfl
    · exact absurd rfl hk0
    · refine kc_catch (own := RL) (name := xn 1) hown [] ⟨0, 10, 13, 13⟩ [⟨0, 10, 17, 15⟩] (htb.trans rfl) (fun z hz => by cases hz) (by decide) (by decide) (hw _ wLX_1) (xw_cast hXW xg_c1) hce hcv hcl ?_
      refine lv_astore (lv' := [(4, .ref q9), (0, .ref (ρ 0)), (1, .int p0), (2, .int p1), (3, .ref q)]) hx hb dL_words_13 hl (by decide) rfl (fun ls hl => ?_)
      refine lv_iconst (v := 1) hx hb dL_words_15 (by decide) ?_
      exact W.iret (v := 1) hx hb B.returns (fun t ht hW => ⟨⟨1, (ν', fo), rfl, ⟨rfl, rfl⟩, by rw [ht]; exact hP, va_K.moved hW.alike hK, hD.weaken (fun _ _ _ _ => trivial)⟩, hS.F ht⟩) hS.2.2 dL_words_16 B.notSynchronized
    · refine kc_catch (own := RL) (name := xn 2) hown [⟨0, 10, 13, 13⟩] ⟨0, 10, 17, 15⟩ [] (htb.trans rfl) (fun z hz => by rcases List.mem_singleton.mp hz with rfl; exact Or.inr ⟨by decide, _, hw _ wLX_1, hNc⟩) (by decide) (by decide) (hw _ wLX_2) (xw_cast hXW xg_c2) hce hcv hcl ?_
      refine lv_astore (lv' := [(4, .ref q9), (0, .ref (ρ 0)), (1, .int p0), (2, .int p1), (3, .ref q)]) hx hb dL_words_17 hl (by decide) rfl (fun ls hl => ?_)
      refine lv_iconst (v := 2) hx hb dL_words_19 (by decide) ?_
      exact W.iret (v := 2) hx hb B.returns (fun t ht hW => ⟨⟨2, (ν', fo), rfl, ⟨rfl, rfl⟩, by rw [ht]; exact hP, va_K.moved hW.alike hK, hD.weaken (fun _ _ _ _ => trivial)⟩, hS.F ht⟩) hS.2.2 dL_words_20 B.notSynchronized
  · subst hk0
    refine lv_i2l hx hb dL_words_8 rfl ?_
    refine va_last (x := r.toInt64) hx hb hK hP hD hS 24 1 (show (w_w cI cL ρ q ν' fo)[24]? = some (oc cL q fo) from by rw [List.getElem?_append_right (by simp [pic])]; simp [pic]) rfl (vp_in_nI (n := 0) (N := 1) (by decide) (by decide)) dL_words_9 (fun H locs hP hD hS => ?_)
    rw [kw_set] at hP hD
    refine lv_goto (tgt := 21) hx hb dL_words_10 (by decide) ?_
    refine lv_iconst (v := 0) hx hb dL_words_21 (by decide) ?_
    exact W.iret (v := 0) hx hb B.returns (fun t ht hW => ⟨⟨0, (ν', vp_updL fo 0 r.toInt64), rfl, ⟨rfl, rfl⟩, by rw [ht]; exact hP, va_K.moved hW.alike hK, hD.weaken (fun _ _ _ _ => trivial)⟩, hS.F ht⟩) hS.2.2 dL_words_22 B.notSynchronized

theorem wCW_start : Cond.codeWith yL_start cL_start 3 (some .int) [(0, 15, 18, 15)] ∈ wg := wg_of (List.mem_of_getElem? (i := 516) (by decide +kernel)) (by decide +kernel)
theorem gW_17 : GoodIn wg (wsV RL 17 RX5 yX5_start (wm yX5_start cX5_start 1 (some .boolean))) := gi_V wM_L_17 wN_X5_start wV_X5_start wI_X5 wC_X5_start
theorem hdW_start : yX5_start.cls = RX5 ∧ yX5_start.cls ≠ "java/lang/invoke/MethodHandle" ∧ yX5_start.cls ≠ "java/lang/invoke/VarHandle" ∧ (parseMethodDescriptor yX5_start.desc).map (fun d => d.parameters.length) = some 0 := by decide +kernel
set_option maxHeartbeats 4000000 in
set_option maxRecDepth 100000 in
theorem c_L_start (l : Launch) (hst : l.stackTraces = false) (D : va_G) (cI cL : ClassId) (ρ : Nat → Nat) (q : Nat) {N : Nat} {ν ν' : St} {fo : Nat → Int64} {k : Nat} {r : Int32} (hk : k = 0 ∨ k = 2) (h : f_S_start N ν = some (k, r, ν')) : CW l yL_start cL_start 3 [(0, 15, 18, 15)] 7 cI cL D ρ q [.ref (ρ 0), .ref q] ν fo (if k = 0 then (0 : Int32) else 1) ν' (if k = 0 then vp_updL fo 0 (if r = 0 then (0 : Int64) else 1) else fo) := by
  intro sz
  refine kw_ofW (cc := cL_start) (maxL := 3) (ret := some .int) (hh := [(0, 15, 18, 15)]) (by decide) rfl ?_
  intro p e s m args below meth c s₁ B hml hv
  obtain ⟨rfl, hsz, ⟨hP, hK, hD0⟩, hXW, hNc⟩ := hv
  have hts := atoms_spec (ws := Cond.codeWith yL_start cL_start 3 (some .int) [(0, 15, 18, 15)] :: wg) B.pre
  subst hsz
  have htb := vx_table (x := yL_start) B (hts _ List.mem_cons_self)
  have hD := hD0.self (sz := s.heap.size)
  generalize hAe : va_A (w_w cI cL ρ q ν fo) s.heap.size = A at hD hXW ⊢
  have hA : ∀ z : Nat, s.heap.size ≤ z → A z := fun z h => by rw [← hAe]; exact Or.inr h
  have hS : va_S A s.heap s.heap [] := va_S.rf
  have F : CallFix p m c cL_start 3 s _ wg RL := ⟨B.exec, B.bytes, hml, findClass_of_methodNamed B.named, fun w hw => hts w (List.mem_cons_of_mem _ hw)⟩
  have hx := F.1
  have hb := F.2.1
  have hw := F.2.2.2.2
  have hown := F.2.2.2.1
  have hl := lv_entry ([.ref (ρ 0), .ref q]) (n := 3) (Nat.le_of_ble_eq_true rfl)
  rw [lg_entry_eq]
  generalize (lg_sl ([.ref (ρ 0), .ref q]) ++ List.replicate (3 - (lg_sl ([.ref (ρ 0), .ref q])).length) Slot.unset).toArray = ls at hl ⊢
  have hl : lv_has ls 3 [(0, .ref (ρ 0)), (1, .ref q)] := hl
  refine lv_aload_n hx hb dL_start_0 rfl (lv_at hl 1 rfl) ?_
  refine lv_iconst (v := 0) hx hb dL_start_1 (by decide) ?_
  refine lv_aload_n hx hb dL_start_2 rfl (lv_at hl 0 rfl) ?_
  refine rw_call (As := []) (rest := [.int 0, .ref q]) F hK hP hD hS hA hXW (c_S_start l D cI ρ hst 6 (Nat.le_refl _) h) gW_17 hdW_start ⟨by decide, by decide⟩ ⟨by decide, by decide⟩ hl.1 rfl (Nat.le_of_ble_eq_true rfl) dL_start_3 (fun H locs q9 ce hk0 hP hD hS hce hcv hcl => ?_) (fun H locs hk0 hP hD hS => ?_)
  · rcases hk with rfl | rfl
    · exact absurd rfl hk0
    · refine kc_catch (own := RL) (name := xn 2) hown [] ⟨0, 15, 18, 15⟩ [] (htb.trans rfl) (fun z hz => by cases hz) (by decide) (by decide) (hw _ wLX_2) (xw_cast hXW xg_c2) hce hcv hcl ?_
      refine lv_astore_n (lv' := [(2, .ref q9), (0, .ref (ρ 0)), (1, .ref q)]) hx hb dL_start_18 rfl hl (by decide) rfl (fun ls hl => ?_)
      refine lv_iconst (v := 1) hx hb dL_start_19 (by decide) ?_
      exact W.iret (v := 1) hx hb B.returns (fun t ht hW => ⟨⟨1, (ν', fo), rfl, ⟨rfl, rfl⟩, by rw [ht]; exact hP, va_K.moved hW.alike hK, hD.weaken (fun _ _ _ _ => trivial)⟩, hS.F ht⟩) hS.2.2 dL_start_20 B.notSynchronized
  · subst hk0
    refine lv_if_eq (tgt := 13) hx hb dL_start_6 (by decide) (fun c1 => ?_) (fun c1 => ?_)
    · subst c1
      refine lv_lconst (v := 0) hx hb dL_start_13 rfl ?_
      refine va_last (x := (0 : Int64)) hx hb hK hP hD hS 24 1 (show (w_w cI cL ρ q ν' fo)[24]? = some (oc cL q fo) from by rw [List.getElem?_append_right (by simp [pic])]; simp [pic]) rfl (vp_in_nI (n := 0) (N := 1) (by decide) (by decide)) dL_start_14 (fun H locs hP hD hS => ?_)
      rw [kw_set] at hP hD
      refine lv_goto (tgt := 21) hx hb dL_start_15 (by decide) ?_
      refine lv_iconst (v := 0) hx hb dL_start_21 (by decide) ?_
      exact W.iret (v := 0) hx hb B.returns (fun t ht hW => ⟨⟨0, (ν', vp_updL fo 0 (0 : Int64)), rfl, ⟨rfl, rfl⟩, by rw [ht]; exact hP, va_K.moved hW.alike hK, hD.weaken (fun _ _ _ _ => trivial)⟩, hS.F ht⟩) hS.2.2 dL_start_22 B.notSynchronized
    · rw [if_neg c1]
      refine lv_lconst (v := 1) hx hb dL_start_9 rfl ?_
      refine lv_goto (tgt := 14) hx hb dL_start_10 (by decide) ?_
      refine va_last (x := (1 : Int64)) hx hb hK hP hD hS 24 1 (show (w_w cI cL ρ q ν' fo)[24]? = some (oc cL q fo) from by rw [List.getElem?_append_right (by simp [pic])]; simp [pic]) rfl (vp_in_nI (n := 0) (N := 1) (by decide) (by decide)) dL_start_14 (fun H locs hP hD hS => ?_)
      rw [kw_set] at hP hD
      refine lv_goto (tgt := 21) hx hb dL_start_15 (by decide) ?_
      refine lv_iconst (v := 0) hx hb dL_start_21 (by decide) ?_
      exact W.iret (v := 0) hx hb B.returns (fun t ht hW => ⟨⟨0, (ν', vp_updL fo 0 (1 : Int64)), rfl, ⟨rfl, rfl⟩, by rw [ht]; exact hP, va_K.moved hW.alike hK, hD.weaken (fun _ _ _ _ => trivial)⟩, hS.F ht⟩) hS.2.2 dL_start_22 B.notSynchronized

theorem wCW_key : Cond.codeWith yL_key cL_key 4 (some .int) [(0, 9, 12, 13), (0, 9, 15, 15)] ∈ wg := wg_of (List.mem_of_getElem? (i := 546) (by decide +kernel)) (by decide +kernel)
theorem gW_21 : GoodIn wg (wsV RL 21 RX5 yX5_key (wm yX5_key cX5_key 2 (some .int))) := gi_V wM_L_21 wN_X5_key wV_X5_key wI_X5 wC_X5_key
theorem hdW_key : yX5_key.cls = RX5 ∧ yX5_key.cls ≠ "java/lang/invoke/MethodHandle" ∧ yX5_key.cls ≠ "java/lang/invoke/VarHandle" ∧ (parseMethodDescriptor yX5_key.desc).map (fun d => d.parameters.length) = some 1 := by decide +kernel
set_option maxHeartbeats 4000000 in
set_option maxRecDepth 100000 in
theorem c_L_key (l : Launch) (hst : l.stackTraces = false) (D : va_G) (cI cL : ClassId) (ρ : Nat → Nat) (q : Nat) {p0 : Int32} {ν ν' : St} {fo : Nat → Int64} {k : Nat} {r : Int32} (hk : k = 0 ∨ k = 1 ∨ k = 2) (h : f_S_key p0 ν = some (k, r, ν')) : CW l yL_key cL_key 4 [(0, 9, 12, 13), (0, 9, 15, 15)] 7 cI cL D ρ q [.ref (ρ 0), .int p0, .ref q] ν fo (if k = 0 then (0 : Int32) else if k = 1 then 1 else 2) ν' (if k = 0 then vp_updL fo 0 r.toInt64 else fo) := by
  intro sz
  refine kw_ofW (cc := cL_key) (maxL := 4) (ret := some .int) (hh := [(0, 9, 12, 13), (0, 9, 15, 15)]) (by decide) rfl ?_
  intro p e s m args below meth c s₁ B hml hv
  obtain ⟨rfl, hsz, ⟨hP, hK, hD0⟩, hXW, hNc⟩ := hv
  have hts := atoms_spec (ws := Cond.codeWith yL_key cL_key 4 (some .int) [(0, 9, 12, 13), (0, 9, 15, 15)] :: wg) B.pre
  subst hsz
  have htb := vx_table (x := yL_key) B (hts _ List.mem_cons_self)
  have hD := hD0.self (sz := s.heap.size)
  generalize hAe : va_A (w_w cI cL ρ q ν fo) s.heap.size = A at hD hXW ⊢
  have hA : ∀ z : Nat, s.heap.size ≤ z → A z := fun z h => by rw [← hAe]; exact Or.inr h
  have hS : va_S A s.heap s.heap [] := va_S.rf
  have F : CallFix p m c cL_key 4 s _ wg RL := ⟨B.exec, B.bytes, hml, findClass_of_methodNamed B.named, fun w hw => hts w (List.mem_cons_of_mem _ hw)⟩
  have hx := F.1
  have hb := F.2.1
  have hw := F.2.2.2.2
  have hown := F.2.2.2.1
  have hl := lv_entry ([.ref (ρ 0), .int p0, .ref q]) (n := 4) (Nat.le_of_ble_eq_true rfl)
  rw [lg_entry_eq]
  generalize (lg_sl ([.ref (ρ 0), .int p0, .ref q]) ++ List.replicate (4 - (lg_sl ([.ref (ρ 0), .int p0, .ref q])).length) Slot.unset).toArray = ls at hl ⊢
  have hl : lv_has ls 4 [(0, .ref (ρ 0)), (1, .int p0), (2, .ref q)] := hl
  refine lv_aload_n hx hb dL_key_0 rfl (lv_at hl 2 rfl) ?_
  refine lv_iconst (v := 0) hx hb dL_key_1 (by decide) ?_
  refine lv_aload_n hx hb dL_key_2 rfl (lv_at hl 0 rfl) ?_
  refine lv_iload_n hx hb dL_key_3 rfl (lv_at hl 1 rfl) ?_
  refine rw_call (As := [.int p0]) (rest := [.int 0, .ref q]) F hK hP hD hS hA hXW (c_S_key l D cI ρ hst 6 (Nat.le_refl _) h) gW_21 hdW_key ⟨by decide, by decide⟩ ⟨by decide, by decide⟩ hl.1 rfl (Nat.le_of_ble_eq_true rfl) dL_key_4 (fun H locs q9 ce hk0 hP hD hS hce hcv hcl => ?_) (fun H locs hk0 hP hD hS => ?_)
  · rcases hk with rfl | rfl | rfl
    · exact absurd rfl hk0
    · refine kc_catch (own := RL) (name := xn 1) hown [] ⟨0, 9, 12, 13⟩ [⟨0, 9, 15, 15⟩] (htb.trans rfl) (fun z hz => by cases hz) (by decide) (by decide) (hw _ wLX_1) (xw_cast hXW xg_c1) hce hcv hcl ?_
      refine lv_astore_n (lv' := [(3, .ref q9), (0, .ref (ρ 0)), (1, .int p0), (2, .ref q)]) hx hb dL_key_12 rfl hl (by decide) rfl (fun ls hl => ?_)
      refine lv_iconst (v := 1) hx hb dL_key_13 (by decide) ?_
      exact W.iret (v := 1) hx hb B.returns (fun t ht hW => ⟨⟨1, (ν', fo), rfl, ⟨rfl, rfl⟩, by rw [ht]; exact hP, va_K.moved hW.alike hK, hD.weaken (fun _ _ _ _ => trivial)⟩, hS.F ht⟩) hS.2.2 dL_key_14 B.notSynchronized
    · refine kc_catch (own := RL) (name := xn 2) hown [⟨0, 9, 12, 13⟩] ⟨0, 9, 15, 15⟩ [] (htb.trans rfl) (fun z hz => by rcases List.mem_singleton.mp hz with rfl; exact Or.inr ⟨by decide, _, hw _ wLX_1, hNc⟩) (by decide) (by decide) (hw _ wLX_2) (xw_cast hXW xg_c2) hce hcv hcl ?_
      refine lv_astore_n (lv' := [(3, .ref q9), (0, .ref (ρ 0)), (1, .int p0), (2, .ref q)]) hx hb dL_key_15 rfl hl (by decide) rfl (fun ls hl => ?_)
      refine lv_iconst (v := 2) hx hb dL_key_16 (by decide) ?_
      exact W.iret (v := 2) hx hb B.returns (fun t ht hW => ⟨⟨2, (ν', fo), rfl, ⟨rfl, rfl⟩, by rw [ht]; exact hP, va_K.moved hW.alike hK, hD.weaken (fun _ _ _ _ => trivial)⟩, hS.F ht⟩) hS.2.2 dL_key_17 B.notSynchronized
  · subst hk0
    refine lv_i2l hx hb dL_key_7 rfl ?_
    refine va_last (x := r.toInt64) hx hb hK hP hD hS 24 1 (show (w_w cI cL ρ q ν' fo)[24]? = some (oc cL q fo) from by rw [List.getElem?_append_right (by simp [pic])]; simp [pic]) rfl (vp_in_nI (n := 0) (N := 1) (by decide) (by decide)) dL_key_8 (fun H locs hP hD hS => ?_)
    rw [kw_set] at hP hD
    refine lv_goto (tgt := 18) hx hb dL_key_9 (by decide) ?_
    refine lv_iconst (v := 0) hx hb dL_key_18 (by decide) ?_
    exact W.iret (v := 0) hx hb B.returns (fun t ht hW => ⟨⟨0, (ν', vp_updL fo 0 r.toInt64), rfl, ⟨rfl, rfl⟩, by rw [ht]; exact hP, va_K.moved hW.alike hK, hD.weaken (fun _ _ _ _ => trivial)⟩, hS.F ht⟩) hS.2.2 dL_key_19 B.notSynchronized

theorem wCW_run : Cond.codeWith yL_run cL_run 4 (some .int) [(0, 9, 12, 13), (0, 9, 15, 15)] ∈ wg := wg_of (List.mem_of_getElem? (i := 563) (by decide +kernel)) (by decide +kernel)
theorem gW_25 : GoodIn wg (wsV RL 25 RX5 yX5_run (wm yX5_run cX5_run 2 (some .int))) := gi_V wM_L_25 wN_X5_run wV_X5_run wI_X5 wC_X5_run
theorem hdW_run : yX5_run.cls = RX5 ∧ yX5_run.cls ≠ "java/lang/invoke/MethodHandle" ∧ yX5_run.cls ≠ "java/lang/invoke/VarHandle" ∧ (parseMethodDescriptor yX5_run.desc).map (fun d => d.parameters.length) = some 1 := by decide +kernel
set_option maxHeartbeats 4000000 in
set_option maxRecDepth 100000 in
theorem c_L_run (l : Launch) (hst : l.stackTraces = false) (D : va_G) (cI cL : ClassId) (ρ : Nat → Nat) (q : Nat) {N : Nat} {p0 : Int32} {ν ν' : St} {fo : Nat → Int64} {k : Nat} {r : Int32} (hk : k = 0 ∨ k = 1 ∨ k = 2) (h : f_S_run N p0 ν = some (k, r, ν')) : CW l yL_run cL_run 4 [(0, 9, 12, 13), (0, 9, 15, 15)] 8 cI cL D ρ q [.ref (ρ 0), .int p0, .ref q] ν fo (if k = 0 then (0 : Int32) else if k = 1 then 1 else 2) ν' (if k = 0 then vp_updL fo 0 r.toInt64 else fo) := by
  intro sz
  refine kw_ofW (cc := cL_run) (maxL := 4) (ret := some .int) (hh := [(0, 9, 12, 13), (0, 9, 15, 15)]) (by decide) rfl ?_
  intro p e s m args below meth c s₁ B hml hv
  obtain ⟨rfl, hsz, ⟨hP, hK, hD0⟩, hXW, hNc⟩ := hv
  have hts := atoms_spec (ws := Cond.codeWith yL_run cL_run 4 (some .int) [(0, 9, 12, 13), (0, 9, 15, 15)] :: wg) B.pre
  subst hsz
  have htb := vx_table (x := yL_run) B (hts _ List.mem_cons_self)
  have hD := hD0.self (sz := s.heap.size)
  generalize hAe : va_A (w_w cI cL ρ q ν fo) s.heap.size = A at hD hXW ⊢
  have hA : ∀ z : Nat, s.heap.size ≤ z → A z := fun z h => by rw [← hAe]; exact Or.inr h
  have hS : va_S A s.heap s.heap [] := va_S.rf
  have F : CallFix p m c cL_run 4 s _ wg RL := ⟨B.exec, B.bytes, hml, findClass_of_methodNamed B.named, fun w hw => hts w (List.mem_cons_of_mem _ hw)⟩
  have hx := F.1
  have hb := F.2.1
  have hw := F.2.2.2.2
  have hown := F.2.2.2.1
  have hl := lv_entry ([.ref (ρ 0), .int p0, .ref q]) (n := 4) (Nat.le_of_ble_eq_true rfl)
  rw [lg_entry_eq]
  generalize (lg_sl ([.ref (ρ 0), .int p0, .ref q]) ++ List.replicate (4 - (lg_sl ([.ref (ρ 0), .int p0, .ref q])).length) Slot.unset).toArray = ls at hl ⊢
  have hl : lv_has ls 4 [(0, .ref (ρ 0)), (1, .int p0), (2, .ref q)] := hl
  refine lv_aload_n hx hb dL_run_0 rfl (lv_at hl 2 rfl) ?_
  refine lv_iconst (v := 0) hx hb dL_run_1 (by decide) ?_
  refine lv_aload_n hx hb dL_run_2 rfl (lv_at hl 0 rfl) ?_
  refine lv_iload_n hx hb dL_run_3 rfl (lv_at hl 1 rfl) ?_
  refine rw_call (As := [.int p0]) (rest := [.int 0, .ref q]) F hK hP hD hS hA hXW (c_S_run l D cI ρ hst 7 (Nat.le_refl _) h) gW_25 hdW_run ⟨by decide, by decide⟩ ⟨by decide, by decide⟩ hl.1 rfl (Nat.le_of_ble_eq_true rfl) dL_run_4 (fun H locs q9 ce hk0 hP hD hS hce hcv hcl => ?_) (fun H locs hk0 hP hD hS => ?_)
  · rcases hk with rfl | rfl | rfl
    · exact absurd rfl hk0
    · refine kc_catch (own := RL) (name := xn 1) hown [] ⟨0, 9, 12, 13⟩ [⟨0, 9, 15, 15⟩] (htb.trans rfl) (fun z hz => by cases hz) (by decide) (by decide) (hw _ wLX_1) (xw_cast hXW xg_c1) hce hcv hcl ?_
      refine lv_astore_n (lv' := [(3, .ref q9), (0, .ref (ρ 0)), (1, .int p0), (2, .ref q)]) hx hb dL_run_12 rfl hl (by decide) rfl (fun ls hl => ?_)
      refine lv_iconst (v := 1) hx hb dL_run_13 (by decide) ?_
      exact W.iret (v := 1) hx hb B.returns (fun t ht hW => ⟨⟨1, (ν', fo), rfl, ⟨rfl, rfl⟩, by rw [ht]; exact hP, va_K.moved hW.alike hK, hD.weaken (fun _ _ _ _ => trivial)⟩, hS.F ht⟩) hS.2.2 dL_run_14 B.notSynchronized
    · refine kc_catch (own := RL) (name := xn 2) hown [⟨0, 9, 12, 13⟩] ⟨0, 9, 15, 15⟩ [] (htb.trans rfl) (fun z hz => by rcases List.mem_singleton.mp hz with rfl; exact Or.inr ⟨by decide, _, hw _ wLX_1, hNc⟩) (by decide) (by decide) (hw _ wLX_2) (xw_cast hXW xg_c2) hce hcv hcl ?_
      refine lv_astore_n (lv' := [(3, .ref q9), (0, .ref (ρ 0)), (1, .int p0), (2, .ref q)]) hx hb dL_run_15 rfl hl (by decide) rfl (fun ls hl => ?_)
      refine lv_iconst (v := 2) hx hb dL_run_16 (by decide) ?_
      exact W.iret (v := 2) hx hb B.returns (fun t ht hW => ⟨⟨2, (ν', fo), rfl, ⟨rfl, rfl⟩, by rw [ht]; exact hP, va_K.moved hW.alike hK, hD.weaken (fun _ _ _ _ => trivial)⟩, hS.F ht⟩) hS.2.2 dL_run_17 B.notSynchronized
  · subst hk0
    refine lv_i2l hx hb dL_run_7 rfl ?_
    refine va_last (x := r.toInt64) hx hb hK hP hD hS 24 1 (show (w_w cI cL ρ q ν' fo)[24]? = some (oc cL q fo) from by rw [List.getElem?_append_right (by simp [pic])]; simp [pic]) rfl (vp_in_nI (n := 0) (N := 1) (by decide) (by decide)) dL_run_8 (fun H locs hP hD hS => ?_)
    rw [kw_set] at hP hD
    refine lv_goto (tgt := 18) hx hb dL_run_9 (by decide) ?_
    refine lv_iconst (v := 0) hx hb dL_run_18 (by decide) ?_
    exact W.iret (v := 0) hx hb B.returns (fun t ht hW => ⟨⟨0, (ν', vp_updL fo 0 r.toInt64), rfl, ⟨rfl, rfl⟩, by rw [ht]; exact hP, va_K.moved hW.alike hK, hD.weaken (fun _ _ _ _ => trivial)⟩, hS.F ht⟩) hS.2.2 dL_run_19 B.notSynchronized

theorem wCW_shown : Cond.codeWith yL_shown cL_shown 4 (some .int) [(0, 9, 12, 31)] ∈ wg := wg_of (List.mem_of_getElem? (i := 650) (by decide +kernel)) (by decide +kernel)
theorem gW_28 : GoodIn wg (wsV RL 28 RX5 yX5_shown (wm yX5_shown cX5_shown 2 (some .int))) := gi_V wM_L_28 wN_X5_shown wV_X5_shown wI_X5 wC_X5_shown
theorem hdW_shown : yX5_shown.cls = RX5 ∧ yX5_shown.cls ≠ "java/lang/invoke/MethodHandle" ∧ yX5_shown.cls ≠ "java/lang/invoke/VarHandle" ∧ (parseMethodDescriptor yX5_shown.desc).map (fun d => d.parameters.length) = some 1 := by decide +kernel
set_option maxHeartbeats 4000000 in
set_option maxRecDepth 100000 in
theorem c_L_shown (l : Launch) (hst : l.stackTraces = false) (D : va_G) (cI cL : ClassId) (ρ : Nat → Nat) (q : Nat) {p0 : Int32} {ν ν' : St} {fo : Nat → Int64} {k : Nat} {r : Int32} (hk : k = 0 ∨ k = 3) (h : f_S_shown p0 ν = some (k, r, ν')) : CW l yL_shown cL_shown 4 [(0, 9, 12, 31)] 7 cI cL D ρ q [.ref (ρ 0), .int p0, .ref q] ν fo (if k = 0 then (0 : Int32) else 1) ν' (if k = 0 then vp_updL fo 0 r.toInt64 else fo) := by
  intro sz
  refine kw_ofW (cc := cL_shown) (maxL := 4) (ret := some .int) (hh := [(0, 9, 12, 31)]) (by decide) rfl ?_
  intro p e s m args below meth c s₁ B hml hv
  obtain ⟨rfl, hsz, ⟨hP, hK, hD0⟩, hXW, hNc⟩ := hv
  have hts := atoms_spec (ws := Cond.codeWith yL_shown cL_shown 4 (some .int) [(0, 9, 12, 31)] :: wg) B.pre
  subst hsz
  have htb := vx_table (x := yL_shown) B (hts _ List.mem_cons_self)
  have hD := hD0.self (sz := s.heap.size)
  generalize hAe : va_A (w_w cI cL ρ q ν fo) s.heap.size = A at hD hXW ⊢
  have hA : ∀ z : Nat, s.heap.size ≤ z → A z := fun z h => by rw [← hAe]; exact Or.inr h
  have hS : va_S A s.heap s.heap [] := va_S.rf
  have F : CallFix p m c cL_shown 4 s _ wg RL := ⟨B.exec, B.bytes, hml, findClass_of_methodNamed B.named, fun w hw => hts w (List.mem_cons_of_mem _ hw)⟩
  have hx := F.1
  have hb := F.2.1
  have hw := F.2.2.2.2
  have hown := F.2.2.2.1
  have hl := lv_entry ([.ref (ρ 0), .int p0, .ref q]) (n := 4) (Nat.le_of_ble_eq_true rfl)
  rw [lg_entry_eq]
  generalize (lg_sl ([.ref (ρ 0), .int p0, .ref q]) ++ List.replicate (4 - (lg_sl ([.ref (ρ 0), .int p0, .ref q])).length) Slot.unset).toArray = ls at hl ⊢
  have hl : lv_has ls 4 [(0, .ref (ρ 0)), (1, .int p0), (2, .ref q)] := hl
  refine lv_aload_n hx hb dL_shown_0 rfl (lv_at hl 2 rfl) ?_
  refine lv_iconst (v := 0) hx hb dL_shown_1 (by decide) ?_
  refine lv_aload_n hx hb dL_shown_2 rfl (lv_at hl 0 rfl) ?_
  refine lv_iload_n hx hb dL_shown_3 rfl (lv_at hl 1 rfl) ?_
  refine rw_call (As := [.int p0]) (rest := [.int 0, .ref q]) F hK hP hD hS hA hXW (c_S_shown l D cI ρ hst 6 (Nat.le_refl _) h) gW_28 hdW_shown ⟨by decide, by decide⟩ ⟨by decide, by decide⟩ hl.1 rfl (Nat.le_of_ble_eq_true rfl) dL_shown_4 (fun H locs q9 ce hk0 hP hD hS hce hcv hcl => ?_) (fun H locs hk0 hP hD hS => ?_)
  · rcases hk with rfl | rfl
    · exact absurd rfl hk0
    · refine kc_catch (own := RL) (name := xn 3) hown [] ⟨0, 9, 12, 31⟩ [] (htb.trans rfl) (fun z hz => by cases hz) (by decide) (by decide) (hw _ wLX_3) (xw_cast hXW xg_c3) hce hcv hcl ?_
      refine lv_astore_n (lv' := [(3, .ref q9), (0, .ref (ρ 0)), (1, .int p0), (2, .ref q)]) hx hb dL_shown_12 rfl hl (by decide) rfl (fun ls hl => ?_)
      refine lv_iconst (v := 1) hx hb dL_shown_13 (by decide) ?_
      exact W.iret (v := 1) hx hb B.returns (fun t ht hW => ⟨⟨1, (ν', fo), rfl, ⟨rfl, rfl⟩, by rw [ht]; exact hP, va_K.moved hW.alike hK, hD.weaken (fun _ _ _ _ => trivial)⟩, hS.F ht⟩) hS.2.2 dL_shown_14 B.notSynchronized
  · subst hk0
    refine lv_i2l hx hb dL_shown_7 rfl ?_
    refine va_last (x := r.toInt64) hx hb hK hP hD hS 24 1 (show (w_w cI cL ρ q ν' fo)[24]? = some (oc cL q fo) from by rw [List.getElem?_append_right (by simp [pic])]; simp [pic]) rfl (vp_in_nI (n := 0) (N := 1) (by decide) (by decide)) dL_shown_8 (fun H locs hP hD hS => ?_)
    rw [kw_set] at hP hD
    refine lv_goto (tgt := 15) hx hb dL_shown_9 (by decide) ?_
    refine lv_iconst (v := 0) hx hb dL_shown_15 (by decide) ?_
    exact W.iret (v := 0) hx hb B.returns (fun t ht hW => ⟨⟨0, (ν', vp_updL fo 0 r.toInt64), rfl, ⟨rfl, rfl⟩, by rw [ht]; exact hP, va_K.moved hW.alike hK, hD.weaken (fun _ _ _ _ => trivial)⟩, hS.F ht⟩) hS.2.2 dL_shown_16 B.notSynchronized

theorem wCW_global : Cond.codeWith yL_global cL_global 4 (some .int) [(0, 9, 12, 31)] ∈ wg := wg_of (List.mem_of_getElem? (i := 682) (by decide +kernel)) (by decide +kernel)
theorem gW_33 : GoodIn wg (wsV RL 33 RX5 yX5_global (wm yX5_global cX5_global 2 (some .int))) := gi_V wM_L_33 wN_X5_global wV_X5_global wI_X5 wC_X5_global
theorem hdW_global : yX5_global.cls = RX5 ∧ yX5_global.cls ≠ "java/lang/invoke/MethodHandle" ∧ yX5_global.cls ≠ "java/lang/invoke/VarHandle" ∧ (parseMethodDescriptor yX5_global.desc).map (fun d => d.parameters.length) = some 1 := by decide +kernel
set_option maxHeartbeats 4000000 in
set_option maxRecDepth 100000 in
theorem c_L_global (l : Launch) (hst : l.stackTraces = false) (D : va_G) (cI cL : ClassId) (ρ : Nat → Nat) (q : Nat) {p0 : Int32} {ν ν' : St} {fo : Nat → Int64} {k : Nat} {r : Int32} (hk : k = 0 ∨ k = 3) (h : f_S_global p0 ν = some (k, r, ν')) : CW l yL_global cL_global 4 [(0, 9, 12, 31)] 7 cI cL D ρ q [.ref (ρ 0), .int p0, .ref q] ν fo (if k = 0 then (0 : Int32) else 1) ν' (if k = 0 then vp_updL fo 0 r.toInt64 else fo) := by
  intro sz
  refine kw_ofW (cc := cL_global) (maxL := 4) (ret := some .int) (hh := [(0, 9, 12, 31)]) (by decide) rfl ?_
  intro p e s m args below meth c s₁ B hml hv
  obtain ⟨rfl, hsz, ⟨hP, hK, hD0⟩, hXW, hNc⟩ := hv
  have hts := atoms_spec (ws := Cond.codeWith yL_global cL_global 4 (some .int) [(0, 9, 12, 31)] :: wg) B.pre
  subst hsz
  have htb := vx_table (x := yL_global) B (hts _ List.mem_cons_self)
  have hD := hD0.self (sz := s.heap.size)
  generalize hAe : va_A (w_w cI cL ρ q ν fo) s.heap.size = A at hD hXW ⊢
  have hA : ∀ z : Nat, s.heap.size ≤ z → A z := fun z h => by rw [← hAe]; exact Or.inr h
  have hS : va_S A s.heap s.heap [] := va_S.rf
  have F : CallFix p m c cL_global 4 s _ wg RL := ⟨B.exec, B.bytes, hml, findClass_of_methodNamed B.named, fun w hw => hts w (List.mem_cons_of_mem _ hw)⟩
  have hx := F.1
  have hb := F.2.1
  have hw := F.2.2.2.2
  have hown := F.2.2.2.1
  have hl := lv_entry ([.ref (ρ 0), .int p0, .ref q]) (n := 4) (Nat.le_of_ble_eq_true rfl)
  rw [lg_entry_eq]
  generalize (lg_sl ([.ref (ρ 0), .int p0, .ref q]) ++ List.replicate (4 - (lg_sl ([.ref (ρ 0), .int p0, .ref q])).length) Slot.unset).toArray = ls at hl ⊢
  have hl : lv_has ls 4 [(0, .ref (ρ 0)), (1, .int p0), (2, .ref q)] := hl
  refine lv_aload_n hx hb dL_global_0 rfl (lv_at hl 2 rfl) ?_
  refine lv_iconst (v := 0) hx hb dL_global_1 (by decide) ?_
  refine lv_aload_n hx hb dL_global_2 rfl (lv_at hl 0 rfl) ?_
  refine lv_iload_n hx hb dL_global_3 rfl (lv_at hl 1 rfl) ?_
  refine rw_call (As := [.int p0]) (rest := [.int 0, .ref q]) F hK hP hD hS hA hXW (c_S_global l D cI ρ hst 6 (Nat.le_refl _) h) gW_33 hdW_global ⟨by decide, by decide⟩ ⟨by decide, by decide⟩ hl.1 rfl (Nat.le_of_ble_eq_true rfl) dL_global_4 (fun H locs q9 ce hk0 hP hD hS hce hcv hcl => ?_) (fun H locs hk0 hP hD hS => ?_)
  · rcases hk with rfl | rfl
    · exact absurd rfl hk0
    · refine kc_catch (own := RL) (name := xn 3) hown [] ⟨0, 9, 12, 31⟩ [] (htb.trans rfl) (fun z hz => by cases hz) (by decide) (by decide) (hw _ wLX_3) (xw_cast hXW xg_c3) hce hcv hcl ?_
      refine lv_astore_n (lv' := [(3, .ref q9), (0, .ref (ρ 0)), (1, .int p0), (2, .ref q)]) hx hb dL_global_12 rfl hl (by decide) rfl (fun ls hl => ?_)
      refine lv_iconst (v := 1) hx hb dL_global_13 (by decide) ?_
      exact W.iret (v := 1) hx hb B.returns (fun t ht hW => ⟨⟨1, (ν', fo), rfl, ⟨rfl, rfl⟩, by rw [ht]; exact hP, va_K.moved hW.alike hK, hD.weaken (fun _ _ _ _ => trivial)⟩, hS.F ht⟩) hS.2.2 dL_global_14 B.notSynchronized
  · subst hk0
    refine lv_i2l hx hb dL_global_7 rfl ?_
    refine va_last (x := r.toInt64) hx hb hK hP hD hS 24 1 (show (w_w cI cL ρ q ν' fo)[24]? = some (oc cL q fo) from by rw [List.getElem?_append_right (by simp [pic])]; simp [pic]) rfl (vp_in_nI (n := 0) (N := 1) (by decide) (by decide)) dL_global_8 (fun H locs hP hD hS => ?_)
    rw [kw_set] at hP hD
    refine lv_goto (tgt := 15) hx hb dL_global_9 (by decide) ?_
    refine lv_iconst (v := 0) hx hb dL_global_15 (by decide) ?_
    exact W.iret (v := 0) hx hb B.returns (fun t ht hW => ⟨⟨0, (ν', vp_updL fo 0 r.toInt64), rfl, ⟨rfl, rfl⟩, by rw [ht]; exact hP, va_K.moved hW.alike hK, hD.weaken (fun _ _ _ _ => trivial)⟩, hS.F ht⟩) hS.2.2 dL_global_16 B.notSynchronized

theorem wCW_array : Cond.codeWith yL_array cL_array 5 (some .int) [(0, 10, 13, 31)] ∈ wg := wg_of (List.mem_of_getElem? (i := 691) (by decide +kernel)) (by decide +kernel)
theorem gW_36 : GoodIn wg (wsV RL 36 RX5 yX5_array (wm yX5_array cX5_array 3 (some .int))) := gi_V wM_L_36 wN_X5_array wV_X5_array wI_X5 wC_X5_array
theorem hdW_array : yX5_array.cls = RX5 ∧ yX5_array.cls ≠ "java/lang/invoke/MethodHandle" ∧ yX5_array.cls ≠ "java/lang/invoke/VarHandle" ∧ (parseMethodDescriptor yX5_array.desc).map (fun d => d.parameters.length) = some 2 := by decide +kernel
set_option maxHeartbeats 4000000 in
set_option maxRecDepth 100000 in
theorem c_L_array (l : Launch) (hst : l.stackTraces = false) (D : va_G) (cI cL : ClassId) (ρ : Nat → Nat) (q : Nat) {p0 : Int32} {p1 : Int32} {ν ν' : St} {fo : Nat → Int64} {k : Nat} {r : Int32} (hk : k = 0 ∨ k = 3) (h : f_S_array p0 p1 ν = some (k, r, ν')) : CW l yL_array cL_array 5 [(0, 10, 13, 31)] 7 cI cL D ρ q [.ref (ρ 0), .int p0, .int p1, .ref q] ν fo (if k = 0 then (0 : Int32) else 1) ν' (if k = 0 then vp_updL fo 0 r.toInt64 else fo) := by
  intro sz
  refine kw_ofW (cc := cL_array) (maxL := 5) (ret := some .int) (hh := [(0, 10, 13, 31)]) (by decide) rfl ?_
  intro p e s m args below meth c s₁ B hml hv
  obtain ⟨rfl, hsz, ⟨hP, hK, hD0⟩, hXW, hNc⟩ := hv
  have hts := atoms_spec (ws := Cond.codeWith yL_array cL_array 5 (some .int) [(0, 10, 13, 31)] :: wg) B.pre
  subst hsz
  have htb := vx_table (x := yL_array) B (hts _ List.mem_cons_self)
  have hD := hD0.self (sz := s.heap.size)
  generalize hAe : va_A (w_w cI cL ρ q ν fo) s.heap.size = A at hD hXW ⊢
  have hA : ∀ z : Nat, s.heap.size ≤ z → A z := fun z h => by rw [← hAe]; exact Or.inr h
  have hS : va_S A s.heap s.heap [] := va_S.rf
  have F : CallFix p m c cL_array 5 s _ wg RL := ⟨B.exec, B.bytes, hml, findClass_of_methodNamed B.named, fun w hw => hts w (List.mem_cons_of_mem _ hw)⟩
  have hx := F.1
  have hb := F.2.1
  have hw := F.2.2.2.2
  have hown := F.2.2.2.1
  have hl := lv_entry ([.ref (ρ 0), .int p0, .int p1, .ref q]) (n := 5) (Nat.le_of_ble_eq_true rfl)
  rw [lg_entry_eq]
  generalize (lg_sl ([.ref (ρ 0), .int p0, .int p1, .ref q]) ++ List.replicate (5 - (lg_sl ([.ref (ρ 0), .int p0, .int p1, .ref q])).length) Slot.unset).toArray = ls at hl ⊢
  have hl : lv_has ls 5 [(0, .ref (ρ 0)), (1, .int p0), (2, .int p1), (3, .ref q)] := hl
  refine lv_aload_n hx hb dL_array_0 rfl (lv_at hl 3 rfl) ?_
  refine lv_iconst (v := 0) hx hb dL_array_1 (by decide) ?_
  refine lv_aload_n hx hb dL_array_2 rfl (lv_at hl 0 rfl) ?_
  refine lv_iload_n hx hb dL_array_3 rfl (lv_at hl 1 rfl) ?_
  refine lv_iload_n hx hb dL_array_4 rfl (lv_at hl 2 rfl) ?_
  refine rw_call (As := [.int p0, .int p1]) (rest := [.int 0, .ref q]) F hK hP hD hS hA hXW (c_S_array l D cI ρ hst 6 (Nat.le_refl _) h) gW_36 hdW_array ⟨by decide, by decide⟩ ⟨by decide, by decide⟩ hl.1 rfl (Nat.le_of_ble_eq_true rfl) dL_array_5 (fun H locs q9 ce hk0 hP hD hS hce hcv hcl => ?_) (fun H locs hk0 hP hD hS => ?_)
  · rcases hk with rfl | rfl
    · exact absurd rfl hk0
    · refine kc_catch (own := RL) (name := xn 3) hown [] ⟨0, 10, 13, 31⟩ [] (htb.trans rfl) (fun z hz => by cases hz) (by decide) (by decide) (hw _ wLX_3) (xw_cast hXW xg_c3) hce hcv hcl ?_
      refine lv_astore (lv' := [(4, .ref q9), (0, .ref (ρ 0)), (1, .int p0), (2, .int p1), (3, .ref q)]) hx hb dL_array_13 hl (by decide) rfl (fun ls hl => ?_)
      refine lv_iconst (v := 1) hx hb dL_array_15 (by decide) ?_
      exact W.iret (v := 1) hx hb B.returns (fun t ht hW => ⟨⟨1, (ν', fo), rfl, ⟨rfl, rfl⟩, by rw [ht]; exact hP, va_K.moved hW.alike hK, hD.weaken (fun _ _ _ _ => trivial)⟩, hS.F ht⟩) hS.2.2 dL_array_16 B.notSynchronized
  · subst hk0
    refine lv_i2l hx hb dL_array_8 rfl ?_
    refine va_last (x := r.toInt64) hx hb hK hP hD hS 24 1 (show (w_w cI cL ρ q ν' fo)[24]? = some (oc cL q fo) from by rw [List.getElem?_append_right (by simp [pic])]; simp [pic]) rfl (vp_in_nI (n := 0) (N := 1) (by decide) (by decide)) dL_array_9 (fun H locs hP hD hS => ?_)
    rw [kw_set] at hP hD
    refine lv_goto (tgt := 17) hx hb dL_array_10 (by decide) ?_
    refine lv_iconst (v := 0) hx hb dL_array_17 (by decide) ?_
    exact W.iret (v := 0) hx hb B.returns (fun t ht hW => ⟨⟨0, (ν', vp_updL fo 0 r.toInt64), rfl, ⟨rfl, rfl⟩, by rw [ht]; exact hP, va_K.moved hW.alike hK, hD.weaken (fun _ _ _ _ => trivial)⟩, hS.F ht⟩) hS.2.2 dL_array_18 B.notSynchronized

