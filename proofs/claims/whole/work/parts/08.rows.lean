/-! a row an instruction, over pictures -/
section RB
variable {p : Program} {l : Launch} {e : Env} {R : Room} {s : State} {m : MethodId} {args : Array Value} {below : List Frame} {meth : Method} {c : Code} {H : Heap} {locs : List Loc} {cells slots : Nat} {Q : State → Prop} {cc : ByteArray} {nL : Nat} {own : String} {D : va_G} {cI : ClassId} {T : List q_Cd} {A : Nat → Prop} {H0 : Heap} {ρ : Nat → Nat} {μ : St} {pc : Nat} {ls : Array Slot} {rest : List Value}
theorem rg_top {x y : Int32} (h : x = y) (k : W p l e R s m args below meth c H locs cells slots Q (F0 m pc ls (.int x :: rest))) : W p l e R s m args below meth c H locs cells slots Q (F0 m pc ls (.int y :: rest)) := h ▸ k
theorem rg_get (X : Cx p s m args c cc nL own D cI) (hI : RI T cI D A H0 ρ μ H locs) {o j k ci N index : Nat} {fs : List q_Fd} {C : String} {TT : u_T} (hT : T[o]? = some (.inl (ci, fs))) (hf : fs[j]? = some (true, k)) (hc : vwCl[ci]? = some (C, TT, N)) (hin : ∀ w ∈ u_ws C TT N, w ∈ wg) (hj : j < N) (h1 : (TT j).1 = C) (hlink : Cond.fieldLink own index C (TT j).2.1 (TT j).2.2.1 ∈ wg) (hdg : decode cc pc = .ok (.getfield index, 3))
    (kk : W p l e R s m args below meth c H locs cells slots Q (F0 m (pc + 3) ls (.int (μ k 0) :: rest))) : W p l e R s m args below meth c H locs cells slots Q (F0 m pc ls (.ref (ρ o) :: rest)) :=
  va_get (D := D) (ci := ci) (v := .int (μ k 0)) X.1.1 X.1.2.1 X.1.2.2.2.2 hin X.1.2.2.2.1 X.2 hI.1 o (show (pic T cI ρ μ)[o]? = some (ρ o, .inr (ci, fs.map (fv ρ μ))) from pic_get hT) hc j hj (X.1.2.2.2.2 _ hlink) (fun x h => by rw [h1] at h; exact h) (by simp [hf, fv]) hdg kk
theorem rg_getR (X : Cx p s m args c cc nL own D cI) (hI : RI T cI D A H0 ρ μ H locs) {o j k ci N index : Nat} {fs : List q_Fd} {C : String} {TT : u_T} (hT : T[o]? = some (.inl (ci, fs))) (hf : fs[j]? = some (false, k)) (hc : vwCl[ci]? = some (C, TT, N)) (hin : ∀ w ∈ u_ws C TT N, w ∈ wg) (hj : j < N) (h1 : (TT j).1 = C) (hlink : Cond.fieldLink own index C (TT j).2.1 (TT j).2.2.1 ∈ wg) (hdg : decode cc pc = .ok (.getfield index, 3))
    (kk : W p l e R s m args below meth c H locs cells slots Q (F0 m (pc + 3) ls (.ref (ρ k) :: rest))) : W p l e R s m args below meth c H locs cells slots Q (F0 m pc ls (.ref (ρ o) :: rest)) :=
  va_get (D := D) (ci := ci) (v := .ref (ρ k)) X.1.1 X.1.2.1 X.1.2.2.2.2 hin X.1.2.2.2.1 X.2 hI.1 o (show (pic T cI ρ μ)[o]? = some (ρ o, .inr (ci, fs.map (fv ρ μ))) from pic_get hT) hc j hj (X.1.2.2.2.2 _ hlink) (fun x h => by rw [h1] at h; exact h) (by simp [hf, fv]) hdg kk
theorem rg_put (X : Cx p s m args c cc nL own D cI) (hI : RI T cI D A H0 ρ μ H locs) {o j k ci N index : Nat} {fs : List q_Fd} {C : String} {TT : u_T} (hT : T[o]? = some (.inl (ci, fs))) (hf : fs[j]? = some (true, k)) (hu : onlyF T o j k = true) (hc : vwCl[ci]? = some (C, TT, N)) (hin : ∀ w ∈ u_ws C TT N, w ∈ wg) (ty0 : Nat → FieldType) (hty : ∀ k, k < N → parseFieldDescriptor (TT k).2.2.1 = some (ty0 k)) (hnm : ∀ a, a < N → ∀ b, b < N → a ≠ b → (TT a).2.1 ≠ (TT b).2.1) (hj : j < N) (h1 : (TT j).1 = C) (hlink : Cond.fieldLink own index C (TT j).2.1 (TT j).2.2.1 ∈ wg) (hfin : (TT j).2.2.2 = false) {ty : FieldType} {v : Int32} (hd : ty0 j = ty) (hn : narrow ty (.int v) = .int v) (hfit : fits ty (.int v) = true) (hdg : decode cc pc = .ok (.putfield index, 3))
    (kk : ∀ (H1 : Heap) (locs1 : List Loc), RI T cI D A H0 ρ (st μ k 0 v) H1 locs1 → W p l e R s m args below meth c H1 locs1 cells slots Q (F0 m (pc + 3) ls rest)) : W p l e R s m args below meth c H locs cells slots Q (F0 m pc ls (.int v :: .ref (ρ o) :: rest)) := by
  refine va_put (D := D) (ci := ci) (ty := ty) X.1.1 X.1.2.1 X.1.2.2.2.2 hin ty0 hty hnm X.1.2.2.2.1 X.2 hI.1 hI.2.1 hI.2.2.1 o (show (pic T cI ρ μ)[o]? = some (ρ o, .inr (ci, fs.map (fv ρ μ))) from pic_get hT) hc j hj (X.1.2.2.2.2 _ hlink) (fun x h => by rw [h1] at h; exact h) hfin (by rw [hty j hj, hd]) hn hfit (by simpa using (List.getElem?_eq_some_iff.mp hf).1) hdg (fun H1 locs1 hP hD hS => kk H1 locs1 ?_)
  rw [pic_putF hT hf hu] at hP hD
  exact ⟨hP, hD, hS, hI.2.2.2⟩
theorem rg_ald (X : Cx p s m args c cc nL own D cI) (hI : RI T cI D A H0 ρ μ H locs) {o n k : Nat} {i : Int32} (hT : T[o]? = some (.inr (n, k))) (hin : inb i n = true) (hdg : decode cc pc = .ok (.iaload, 1))
    (kk : W p l e R s m args below meth c H locs cells slots Q (F0 m (pc + 1) ls (.int (μ k i.toNatClampNeg) :: rest))) : W p l e R s m args below meth c H locs cells slots Q (F0 m pc ls (.int i :: .ref (ρ o) :: rest)) :=
  va_iald X.1.1 X.1.2.1 X.2 hI.1 o 0 (show (pic T cI ρ μ)[o]? = some (ρ o, .inl (cI, n, .inl (μ k))) from pic_get hT) rfl (inb_in hin) hdg kk
theorem rg_ast (X : Cx p s m args c cc nL own D cI) (hI : RI T cI D A H0 ρ μ H locs) {o n k : Nat} {i x : Int32} (hT : T[o]? = some (.inr (n, k))) (hu : onlyA T o k = true) (hin : inb i n = true) (hdg : decode cc pc = .ok (.iastore, 1))
    (kk : ∀ (H1 : Heap) (locs1 : List Loc), RI T cI D A H0 ρ (st μ k i.toNatClampNeg x) H1 locs1 → W p l e R s m args below meth c H1 locs1 cells slots Q (F0 m (pc + 1) ls rest)) : W p l e R s m args below meth c H locs cells slots Q (F0 m pc ls (.int x :: .int i :: .ref (ρ o) :: rest)) := by
  refine va_iast X.1.1 X.1.2.1 X.2 hI.1 hI.2.1 hI.2.2.1 o 0 (show (pic T cI ρ μ)[o]? = some (ρ o, .inl (cI, n, .inl (μ k))) from pic_get hT) rfl (inb_in hin) hdg (fun H1 locs1 hP hD hS => kk H1 locs1 ?_)
  rw [pic_putA hT hu] at hP hD
  exact ⟨hP, hD, hS, hI.2.2.2⟩
theorem rg_len (X : Cx p s m args c cc nL own D cI) (hI : RI T cI D A H0 ρ μ H locs) {o n k : Nat} {v : Int32} (hT : T[o]? = some (.inr (n, k))) (hv : Int32.ofNat n = v) (hdg : decode cc pc = .ok (.arraylength, 1))
    (kk : W p l e R s m args below meth c H locs cells slots Q (F0 m (pc + 1) ls (.int v :: rest))) : W p l e R s m args below meth c H locs cells slots Q (F0 m pc ls (.ref (ρ o) :: rest)) :=
  va_alen X.1.1 X.1.2.1 X.2 hI.1 o 0 (show (pic T cI ρ μ)[o]? = some (ρ o, .inl (cI, n, .inl (μ k))) from pic_get hT) rfl hv hdg kk
/-- the word's room -/
theorem rm_ok {h h' n' : Nat} (hn' : n' ≤ 21) (hh : h' + 1 ≤ h) : (rmL h').frames + 1 ≤ (rmL h).frames ∧ 8 + (n' + 11) + (rmL h').locals ≤ (rmL h).locals := ⟨hh, by show 8 + (n' + 11) + 40 * h' ≤ 40 * h; omega⟩
theorem ri_free (hI : RI T cI D A H0 ρ μ H locs) : ∀ q, va_A (pic T cI ρ μ) H.size q → A q := by
  rintro q (⟨k, e, hk⟩ | hq)
  · exact hI.2.1.2 k _ hk
  · exact hI.2.2.2 q (Nat.le_trans hI.2.2.1.1 hq)
section RC
variable {h h' o ci N n' idx : Nat} {fs : List q_Fd} {C : String} {TT : u_T} {y : MethodName} {cc' : ByteArray} {ret : Option FieldType} {r : Int32} {ν : St} {As st0 : List Value}
theorem rc_vi (X : Cx p s m args c cc nL own D cI) (hI : RI T cI D A s.heap ρ μ H locs) (hM : CI l y cc' n' ret h' T cI D ρ (.ref (ρ o) :: As) μ r ν) (hT : T[o]? = some (.inl (ci, fs))) (hc : vwCl[ci]? = some (C, TT, N)) (g : GoodIn wg (wsV own idx C y (wm y cc' n' ret))) (hd : y.cls = C ∧ y.cls ≠ "java/lang/invoke/MethodHandle" ∧ y.cls ≠ "java/lang/invoke/VarHandle" ∧ (parseMethodDescriptor y.desc).map (fun d => d.parameters.length) = some As.length) (hn' : n' ≤ 21) (hh : h' + 1 ≤ h) (hl : ls.size = nL) (hst : st0 = As.reverse ++ .ref (ρ o) :: rest) (hW : (rest.map fun v => v.category).sum ≤ 8) (hdg : decode cc pc = .ok (.invokevirtual idx, 3))
    (kk : ∀ (H1 : Heap) (locs1 : List Loc), RI T cI D A s.heap ρ ν H1 locs1 → W p l e (rmL h) s m args below meth c H1 locs1 0 0 Q (F0 m (pc + 3) ls (.int r :: rest))) : W p l e (rmL h) s m args below meth c H locs 0 0 Q (F0 m pc ls st0) := by
  subst hst
  have hFc := ri_free hI
  refine va_calli (va_runV (As := As) (rest := rest) X.1 (hM H.size) (cwV As.length X.1.2.2.2.2 g rfl rfl rfl hd (rm_ok hn' hh)) ⟨PcT_blind, va_recv X.2 hI.1 hc (show (pic T cI ρ μ)[o]? = some (ρ o, .inr (ci, fs.map (fv ρ μ))) from pic_get hT), fun U hU hW => ⟨rfl, by rw [hU], by rw [hU]; exact hI.1, va_K.moved hW.alike X.2, hI.2.1.weaken (fun _ _ _ _ => trivial)⟩⟩ rfl rfl hl rfl (lv_room hW) hdg ⟨Nat.le_refl _, Nat.le_refl _⟩) hI.2.2.1 (fun q _ h => hFc q h) hFc (fun r' u t H1 locs1 ht hvm hw hB hz1 hk1 hS => ?_)
  obtain ⟨rfl, rfl⟩ := hw
  exact kk H1 locs1 ⟨by rw [← ht]; exact hB.1, pic_D hI.2.1, hS, hI.2.2.2⟩
theorem rc_vv (X : Cx p s m args c cc nL own D cI) (hI : RI T cI D A s.heap ρ μ H locs) (hM : CV l y cc' n' h' T cI D ρ (.ref (ρ o) :: As) μ ν) (hT : T[o]? = some (.inl (ci, fs))) (hc : vwCl[ci]? = some (C, TT, N)) (g : GoodIn wg (wsV own idx C y (wm y cc' n' none))) (hd : y.cls = C ∧ y.cls ≠ "java/lang/invoke/MethodHandle" ∧ y.cls ≠ "java/lang/invoke/VarHandle" ∧ (parseMethodDescriptor y.desc).map (fun d => d.parameters.length) = some As.length) (hn' : n' ≤ 21) (hh : h' + 1 ≤ h) (hl : ls.size = nL) (hst : st0 = As.reverse ++ .ref (ρ o) :: rest) (hW : (rest.map fun v => v.category).sum ≤ 8) (hdg : decode cc pc = .ok (.invokevirtual idx, 3))
    (kk : ∀ (H1 : Heap) (locs1 : List Loc), RI T cI D A s.heap ρ ν H1 locs1 → W p l e (rmL h) s m args below meth c H1 locs1 0 0 Q (F0 m (pc + 3) ls rest)) : W p l e (rmL h) s m args below meth c H locs 0 0 Q (F0 m pc ls st0) := by
  subst hst
  have hFc := ri_free hI
  refine va_callv (va_runV (As := As) (rest := rest) X.1 (hM H.size) (cwV As.length X.1.2.2.2.2 g rfl rfl rfl hd (rm_ok hn' hh)) ⟨PcT_blind, va_recv X.2 hI.1 hc (show (pic T cI ρ μ)[o]? = some (ρ o, .inr (ci, fs.map (fv ρ μ))) from pic_get hT), fun U hU hW => ⟨rfl, by rw [hU], by rw [hU]; exact hI.1, va_K.moved hW.alike X.2, hI.2.1.weaken (fun _ _ _ _ => trivial)⟩⟩ rfl rfl hl rfl (lv_room hW) hdg ⟨Nat.le_refl _, Nat.le_refl _⟩) hI.2.2.1 (fun q _ h => hFc q h) hFc (fun u t H1 locs1 ht hvm hw hB hz1 hk1 hS => ?_)
  obtain rfl := hw
  exact kk H1 locs1 ⟨by rw [← ht]; exact hB.1, pic_D hI.2.1, hS, hI.2.2.2⟩
theorem rc_si (X : Cx p s m args c cc nL own D cI) (hI : RI T cI D A s.heap ρ μ H locs) (hM : CI l y cc' n' ret h' T cI D ρ As μ r ν) (g : GoodIn wg (wsS own idx y (wm y cc' n' ret))) (hd : y.cls = own ∧ y.cls ≠ "java/lang/invoke/MethodHandle" ∧ y.cls ≠ "java/lang/invoke/VarHandle" ∧ (parseMethodDescriptor y.desc).map (fun d => d.parameters.length) = some As.length) (hn' : n' ≤ 21) (hh : h' + 1 ≤ h) (hl : ls.size = nL) (hst : st0 = As.reverse ++ rest) (hW : (rest.map fun v => v.category).sum ≤ 8) (hdg : decode cc pc = .ok (.invokestatic idx, 3))
    (kk : ∀ (H1 : Heap) (locs1 : List Loc), RI T cI D A s.heap ρ ν H1 locs1 → W p l e (rmL h) s m args below meth c H1 locs1 0 0 Q (F0 m (pc + 3) ls (.int r :: rest))) : W p l e (rmL h) s m args below meth c H locs 0 0 Q (F0 m pc ls st0) := by
  subst hst
  have hFc := ri_free hI
  refine va_calli (va_runS (As := As) (rest := rest) X.1 (hM H.size) (cwS As.length X.1.2.2.2.2 g rfl rfl rfl hd (rm_ok hn' hh)) ⟨PcT_blind, fun U hU hW => ⟨rfl, by rw [hU], by rw [hU]; exact hI.1, va_K.moved hW.alike X.2, hI.2.1.weaken (fun _ _ _ _ => trivial)⟩⟩ rfl rfl hl rfl (lv_room hW) hdg ⟨Nat.le_refl _, Nat.le_refl _⟩) hI.2.2.1 (fun q _ h => hFc q h) hFc (fun r' u t H1 locs1 ht hvm hw hB hz1 hk1 hS => ?_)
  obtain ⟨rfl, rfl⟩ := hw
  exact kk H1 locs1 ⟨by rw [← ht]; exact hB.1, pic_D hI.2.1, hS, hI.2.2.2⟩
end RC
theorem rr_i {μ0 : St} {r : Int32} (X : Cx p s m args c cc nL own D cI) (hr : meth.sig.returnType = some .int) (hlk : meth.locks = false) (hI : RI T cI D (va_A (pic T cI ρ μ0) s.heap.size) s.heap ρ μ H locs) (hdg : decode cc pc = .ok (.ireturn, 1)) :
    W p l e R s m args below meth c H locs 0 0 (MQ below (QiT T cI D ρ μ0 s.heap.size r μ) args s 0 0 (va_A (pic T cI ρ μ0) s.heap.size)) (F0 m pc ls [.int r]) :=
  W.iret (v := r) X.1.1 X.1.2.1 hr (fun t ht hW => ⟨⟨r, μ, rfl, ⟨rfl, rfl⟩, by rw [ht]; exact hI.1, va_K.moved hW.alike X.2, hI.2.1.weaken (fun _ _ _ _ => trivial)⟩, hI.2.2.1.F ht⟩) hI.2.2.1.2.2 hdg hlk
theorem rr_z {μ0 : St} {r : Int32} (X : Cx p s m args c cc nL own D cI) (hr : meth.sig.returnType = some .boolean) (hlk : meth.locks = false) (hn : narrow .boolean (.int r) = .int r) (hI : RI T cI D (va_A (pic T cI ρ μ0) s.heap.size) s.heap ρ μ H locs) (hdg : decode cc pc = .ok (.ireturn, 1)) :
    W p l e R s m args below meth c H locs 0 0 (MQ below (QiT T cI D ρ μ0 s.heap.size r μ) args s 0 0 (va_A (pic T cI ρ μ0) s.heap.size)) (F0 m pc ls [.int r]) :=
  W.zret (v := r) X.1.1 X.1.2.1 hr hn (fun t ht hW => ⟨⟨r, μ, rfl, ⟨rfl, rfl⟩, by rw [ht]; exact hI.1, va_K.moved hW.alike X.2, hI.2.1.weaken (fun _ _ _ _ => trivial)⟩, hI.2.2.1.F ht⟩) hI.2.2.1.2.2 hdg hlk
theorem rr_v {μ0 : St} (X : Cx p s m args c cc nL own D cI) (hr : meth.sig.returnType = none) (hlk : meth.locks = false) (hI : RI T cI D (va_A (pic T cI ρ μ0) s.heap.size) s.heap ρ μ H locs) (hdg : decode cc pc = .ok (.return_, 1)) :
    W p l e R s m args below meth c H locs 0 0 (MQ below (QvT T cI D ρ μ0 s.heap.size μ) args s 0 0 (va_A (pic T cI ρ μ0) s.heap.size)) (F0 m pc ls []) :=
  W.vret X.1.1 X.1.2.1 hr (fun t ht hW => ⟨⟨μ, rfl, rfl, by rw [ht]; exact hI.1, va_K.moved hW.alike X.2, hI.2.1.weaken (fun _ _ _ _ => trivial)⟩, hI.2.2.1.F ht⟩) hI.2.2.1.2.2 hdg hlk
end RB
section RE
variable {l : Launch} {y : MethodName} {cc : ByteArray} {n h : Nat} {ret : Option FieldType} {T : List q_Cd} {cI : ClassId} {D : va_G} {ρ : Nat → Nat} {as : List Value} {μ ν : St} {r : Int32} {own : String}
theorem CI_of (hy : plainName y.cls = true) (hown : y.cls = own) (hlen : (lg_sl as).length ≤ n) (hret : ret = some .int)
    (body : ∀ (p : Program) (e : Env) (s : State) (m : MethodId) (args : Array Value) (below : List Frame) (meth : Method) (c : Code) (Q : State → Prop) (A : Nat → Prop) (H0 : Heap) (locs0 : List Loc), Cx p s m args c cc n own D cI → RI T cI D A s.heap ρ μ H0 locs0 →
      (∀ (H : Heap) (locs : List Loc) (pc : Nat) (ls : Array Slot), RI T cI D A s.heap ρ ν H locs → decode cc pc = .ok (.ireturn, 1) → W p l e (rmL h) s m args below meth c H locs 0 0 Q (F0 m pc ls [.int r])) → ∀ ls : Array Slot, lv_has ls n (lv_args 0 as) →
      W p l e (rmL h) s m args below meth c H0 locs0 0 0 Q (F0 m 0 ls [])) : CI l y cc n ret h T cI D ρ as μ r ν := by
  intro sz
  refine Met.ofW (cc := cc) (maxL := n) (ret := ret) hy rfl ?_
  intro p e s m args below meth c s₁ B hml hv
  obtain ⟨rfl, hsz, hP, hK, hD⟩ := hv
  subst hsz
  have hts := atoms_spec (ws := wm y cc n ret) B.pre
  have hl := lv_entry as (n := n) hlen
  rw [lg_entry_eq]
  have X : Cx p s m as.toArray c cc n own D cI := ⟨⟨B.exec, B.bytes, hml, hown ▸ findClass_of_methodNamed B.named, fun w hw => hts w (List.mem_cons_of_mem _ hw)⟩, hK⟩
  exact body p e s m _ below meth c _ (va_A (pic T cI ρ μ) s.heap.size) s.heap [] X ⟨hP, hD.self, va_S.rf, fun q h => Or.inr h⟩ (fun H locs pc ls hI hdg => rr_i X (B.returns.trans hret) B.notSynchronized hI hdg) _ hl
theorem CZ_of (hy : plainName y.cls = true) (hown : y.cls = own) (hlen : (lg_sl as).length ≤ n) (hret : ret = some .boolean)
    (body : ∀ (p : Program) (e : Env) (s : State) (m : MethodId) (args : Array Value) (below : List Frame) (meth : Method) (c : Code) (Q : State → Prop) (A : Nat → Prop) (H0 : Heap) (locs0 : List Loc), Cx p s m args c cc n own D cI → RI T cI D A s.heap ρ μ H0 locs0 →
      (∀ (H : Heap) (locs : List Loc) (pc : Nat) (ls : Array Slot), narrow .boolean (.int r) = .int r → RI T cI D A s.heap ρ ν H locs → decode cc pc = .ok (.ireturn, 1) → W p l e (rmL h) s m args below meth c H locs 0 0 Q (F0 m pc ls [.int r])) → ∀ ls : Array Slot, lv_has ls n (lv_args 0 as) →
      W p l e (rmL h) s m args below meth c H0 locs0 0 0 Q (F0 m 0 ls [])) : CI l y cc n ret h T cI D ρ as μ r ν := by
  intro sz
  refine Met.ofW (cc := cc) (maxL := n) (ret := ret) hy rfl ?_
  intro p e s m args below meth c s₁ B hml hv
  obtain ⟨rfl, hsz, hP, hK, hD⟩ := hv
  subst hsz
  have hts := atoms_spec (ws := wm y cc n ret) B.pre
  have hl := lv_entry as (n := n) hlen
  rw [lg_entry_eq]
  have X : Cx p s m as.toArray c cc n own D cI := ⟨⟨B.exec, B.bytes, hml, hown ▸ findClass_of_methodNamed B.named, fun w hw => hts w (List.mem_cons_of_mem _ hw)⟩, hK⟩
  exact body p e s m _ below meth c _ (va_A (pic T cI ρ μ) s.heap.size) s.heap [] X ⟨hP, hD.self, va_S.rf, fun q h => Or.inr h⟩ (fun H locs pc ls hn hI hdg => rr_z X (B.returns.trans hret) B.notSynchronized hn hI hdg) _ hl
theorem CV_of (hy : plainName y.cls = true) (hown : y.cls = own) (hlen : (lg_sl as).length ≤ n)
    (body : ∀ (p : Program) (e : Env) (s : State) (m : MethodId) (args : Array Value) (below : List Frame) (meth : Method) (c : Code) (Q : State → Prop) (A : Nat → Prop) (H0 : Heap) (locs0 : List Loc), Cx p s m args c cc n own D cI → RI T cI D A s.heap ρ μ H0 locs0 →
      (∀ (H : Heap) (locs : List Loc) (pc : Nat) (ls : Array Slot), RI T cI D A s.heap ρ ν H locs → decode cc pc = .ok (.return_, 1) → W p l e (rmL h) s m args below meth c H locs 0 0 Q (F0 m pc ls [])) → ∀ ls : Array Slot, lv_has ls n (lv_args 0 as) →
      W p l e (rmL h) s m args below meth c H0 locs0 0 0 Q (F0 m 0 ls [])) : CV l y cc n h T cI D ρ as μ ν := by
  intro sz
  refine Met.ofW (cc := cc) (maxL := n) (ret := none) hy rfl ?_
  intro p e s m args below meth c s₁ B hml hv
  obtain ⟨rfl, hsz, hP, hK, hD⟩ := hv
  subst hsz
  have hts := atoms_spec (ws := wm y cc n none) B.pre
  have hl := lv_entry as (n := n) hlen
  rw [lg_entry_eq]
  have X : Cx p s m as.toArray c cc n own D cI := ⟨⟨B.exec, B.bytes, hml, hown ▸ findClass_of_methodNamed B.named, fun w hw => hts w (List.mem_cons_of_mem _ hw)⟩, hK⟩
  exact body p e s m _ below meth c _ (va_A (pic T cI ρ μ) s.heap.size) s.heap [] X ⟨hP, hD.self, va_S.rf, fun q h => Or.inr h⟩ (fun H locs pc ls hI hdg => rr_v X B.returns B.notSynchronized hI hdg) _ hl
end RE
theorem rg_lookF {ps : List (Int × Int)} {x : Int} (h : ps.all (fun q => q.1 != x) = true) : ps.find? (fun q => q.1 == x) = none := by
  induction ps with
  | nil => rfl
  | cons a t ih =>
    simp only [List.all_cons, Bool.and_eq_true, bne_iff_ne, ne_eq] at h
    simp only [List.find?_cons]
    rw [show (a.1 == x) = false from by simpa using h.1]
    exact ih h.2
theorem rg_lookD {ps : List (Int × Int)} {x d : Int} (h : ps.all (fun q => q.1 != x) = true) : Op.lookupswitch.offset ps d x = d := Op.lookupswitch.offset_none (rg_lookF h)
