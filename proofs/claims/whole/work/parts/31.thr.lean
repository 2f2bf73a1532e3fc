/-! methods that return or throw: their contract CX, its start, its throwing leaf; calls in any room -/
def xg : List Cond := lw_tbl.filter (fun w => match w with | .castable _ _ => true | .declares _ => true | _ => false)
def xs5 : List (Nat × String) := [(53, "n is not 1 .. 4"), (62, "a token is above 191"), (70, "the text would have more than 160 tokens"), (91, "there is no program"), (96, "a key is not -32768 .. 32767"), (102, "there are 8 keys"), (108, "n is not 1 .. 200"), (113, "nothing was started"), (125, "no such number was shown"), (131, "a global is not 0 .. 7"), (136, "an array is not 0 .. 3, or a place not 0 .. 7")]
/-- what a throw needs of the world: two statics of Throwable, the texts, words on classes -/
def XW (A : Nat → Prop) (U : State) (H : Heap) : Prop := vx_Zq Bundle.tN "UNASSIGNED_STACK" Bundle.steD A U H ∧ vx_Zq Bundle.tN "SUPPRESSED_SENTINEL" Bundle.listD A U H ∧ (∀ q ∈ xs5, ∃ sa, vk_R RX5 q.1 q.2 sa U) ∧ ∀ w ∈ xg, va_Nw w U
theorem xg_warm {s U : State} (hW : s.WarmedH U.vm) (h : ∀ w ∈ xg, va_Nw w s) : ∀ w ∈ xg, va_Nw w U := by
  intro w hw
  have h2 := (List.mem_filter.mp hw).2
  have h1 := h w hw
  match w, h1, h2 with
  | .castable a b, h1, _ => exact va_Nw.warmC hW h1
  | .declares a, h1, _ => exact va_Nw.warmD hW h1
theorem xg_tab {w : Cond} (h : w ∈ xg) : w.onTables = true := by
  have h2 := (List.mem_filter.mp h).2
  match w, h2 with
  | .castable a b, _ => rfl
  | .declares a, _ => rfl
theorem XW.call {A B : Nat → Prop} {s U : State} {H H1 : Heap} (h : XW A s H) (hW : s.WarmedH U.vm) (hq : ∀ a : Nat, a < H.size → ¬ A a → H1[a]? = H[a]?) (hAB : ∀ q, B q → A q) : XW B U H1 :=
  ⟨((h.1.moved hW.alike).kept hq).narrow hAB, ((h.2.1.moved hW.alike).kept hq).narrow hAB, fun q hm => by obtain ⟨sa, h3⟩ := h.2.2.1 q hm; exact ⟨sa, h3.warm hW⟩, xg_warm hW h.2.2.2⟩
theorem XW.same {A : Nat → Prop} {s U : State} {H : Heap} (h : XW A s H) (hv : U.vm = s.vm) : XW A U H :=
  ⟨h.1.moved (by rw [hv]; exact Vm.Alike.refl _), h.2.1.moved (by rw [hv]; exact Vm.Alike.refl _), fun q hm => by obtain ⟨sa, h3⟩ := h.2.2.1 q hm; exact ⟨sa, h3.same hv⟩, fun w hw => va_Nw.same (xg_tab hw) hv.symm (h.2.2.2 w hw)⟩
def xn (k : Nat) : String := match k with
  | 1 => "java/lang/IllegalArgumentException"
  | 2 => "java/lang/IllegalStateException"
  | _ => "java/lang/IndexOutOfBoundsException"
abbrev xnm : List String := ["java/lang/RuntimeException", "java/lang/Exception"]
abbrev rmX (h : Nat) : Room := { frames := h, cells := 1, slots := 6, locals := 40 * h }
/-- what the throwing site (ik, ic) of class ShortMill needs for the exception k -/
def xsite (k ik ic : Nat) : Prop := Bundle.fit (xn k) = true ∧ Cond.classLink RX5 ik (xn k) ∈ wg ∧ Cond.initialized (xn k) ∈ wg ∧ (∀ w ∈ (vx_atS RX5 ic (xn k) xnm).filter goodWord, w ∈ wg) ∧ (∀ w ∈ (vx_atS RX5 ic (xn k) xnm).filter (fun w => !goodWord w), w ∈ xg) ∧ ∀ w ∈ Cond.classLink RX5 ik (xn k) :: Cond.initialized (xn k) :: vx_atS RX5 ic (xn k) xnm, vx_ot w = true
theorem xsite_1 : xsite 1 51 55 := ⟨by decide +kernel, by decide +kernel, by decide +kernel, by decide +kernel, by decide +kernel, by decide +kernel⟩
theorem xsite_2 : xsite 2 68 72 := ⟨by decide +kernel, by decide +kernel, by decide +kernel, by decide +kernel, by decide +kernel, by decide +kernel⟩
theorem xsite_3 : xsite 3 123 127 := ⟨by decide +kernel, by decide +kernel, by decide +kernel, by decide +kernel, by decide +kernel, by decide +kernel⟩
def PcX (T : List q_Cd) (cI : ClassId) (D : va_G) (ρ : Nat → Nat) (μ : St) (as : List Value) (sz : Nat) : Array Value → State → Prop :=
  va_Pc as (fun U => U.heap.size = sz ∧ pw T cI D ρ μ U ∧ XW (va_A (pic T cI ρ μ) sz) U U.heap)
def QxT (T : List q_Cd) (cI : ClassId) (D : va_G) (ρ : Nat → Nat) (μ : St) (sz : Nat) (k : Nat) (r : Int32) (ν : St) : Array Value → State → Outcome → State → Prop :=
  va_Qi (fun (r' : Int32) (u : St) => k = 0 ∧ r' = r ∧ u = ν) (fun u t => pw T cI D ρ u t) (va_A (pic T cI ρ μ) sz)
def XcT (T : List q_Cd) (cI : ClassId) (D : va_G) (ρ : Nat → Nat) (μ : St) (sz : Nat) (k : Nat) (ν : St) : String → State → State → Prop :=
  vx_X (fun u : St => k ≠ 0 ∧ u = ν) (fun E u t => E = xn k ∧ pw T cI D ρ u t) (va_A (pic T cI ρ μ) sz)
/-- THE CONTRACT of a method that returns (k = 0: r, the picture of ν) or throws (the exception k, the picture of ν) -/
def CX (l : Launch) (y : MethodName) (cc : ByteArray) (n : Nat) (ret : Option FieldType) (h : Nat) (T : List q_Cd) (cI : ClassId) (D : va_G) (ρ : Nat → Nat) (as : List Value) (μ : St) (k : Nat) (r : Int32) (ν : St) : Prop :=
  ∀ sz, vx_Met l y (wm y cc n ret) (rmX h) (PcX T cI D ρ μ as sz) (QxT T cI D ρ μ sz k r ν) (XcT T cI D ρ μ sz k ν) 1 6 (va_A (pic T cI ρ μ) sz)
theorem PcX_blind {T : List q_Cd} {cI : ClassId} {D : va_G} {ρ : Nat → Nat} {μ : St} {as : List Value} {sz : Nat} : FrameBlind (PcX T cI D ρ μ as sz) := by
  intro a U g mk q
  obtain ⟨q0, q1, ⟨qP, qK, qD⟩, qX⟩ := q
  exact ⟨q0, q1, ⟨qP, va_K.moved (u := U) (U := U.calling g mk a) (Vm.Alike.refl U.vm) qK, qD⟩, XW.same (U := U.calling g mk a) qX rfl⟩
section RQ
variable {p : Program} {l : Launch} {e : Env} {R : Room} {s : State} {m : MethodId} {args : Array Value} {below : List Frame} {meth : Method} {c : Code} {H : Heap} {locs : List Loc} {cells slots : Nat} {Q : State → Prop} {cc : ByteArray} {nL : Nat} {own : String} {D : va_G} {cI : ClassId} {T : List q_Cd} {A : Nat → Prop} {ρ : Nat → Nat} {μ : St} {pc : Nat} {ls : Array Slot} {rest : List Value}
variable {h' o ci N n' idx : Nat} {fs : List q_Fd} {C : String} {TT : u_T} {y : MethodName} {cc' : ByteArray} {ret : Option FieldType} {r : Int32} {ν : St} {As st0 : List Value}
theorem rm_okX {h : Nat} (hn' : n' ≤ 21) (hh : h' + 1 ≤ h) : (rmL h').frames + 1 ≤ (rmX h).frames ∧ 8 + (n' + 11) + (rmL h').locals ≤ (rmX h).locals := ⟨hh, by show 8 + (n' + 11) + 40 * h' ≤ 40 * h; omega⟩
theorem rq_vi (X : Cx p s m args c cc nL own D cI) (hI : RI T cI D A s.heap ρ μ H locs) (hM : CI l y cc' n' ret h' T cI D ρ (.ref (ρ o) :: As) μ r ν) (hT : T[o]? = some (.inl (ci, fs))) (hc : vwCl[ci]? = some (C, TT, N)) (g : GoodIn wg (wsV own idx C y (wm y cc' n' ret))) (hd : y.cls = C ∧ y.cls ≠ "java/lang/invoke/MethodHandle" ∧ y.cls ≠ "java/lang/invoke/VarHandle" ∧ (parseMethodDescriptor y.desc).map (fun d => d.parameters.length) = some As.length) (hR : (rmL h').frames + 1 ≤ R.frames ∧ 8 + (n' + 11) + (rmL h').locals ≤ R.locals) (hcs : cells ≤ R.cells ∧ slots ≤ R.slots) (hl : ls.size = nL) (hst : st0 = As.reverse ++ .ref (ρ o) :: rest) (hW : (rest.map fun v => v.category).sum ≤ 8) (hdg : decode cc pc = .ok (.invokevirtual idx, 3))
    (kk : ∀ (H1 : Heap) (locs1 : List Loc), RI T cI D A s.heap ρ ν H1 locs1 → W p l e R s m args below meth c H1 locs1 cells slots Q (F0 m (pc + 3) ls (.int r :: rest))) : W p l e R s m args below meth c H locs cells slots Q (F0 m pc ls st0) := by
  subst hst
  have hFc := ri_free hI
  refine va_calli (va_runV (As := As) (rest := rest) X.1 (hM H.size) (cwV As.length X.1.2.2.2.2 g rfl rfl rfl hd hR) ⟨PcT_blind, va_recv X.2 hI.1 hc (show (pic T cI ρ μ)[o]? = some (ρ o, .inr (ci, fs.map (fv ρ μ))) from pic_get hT), fun U hU hW => ⟨rfl, by rw [hU], by rw [hU]; exact hI.1, va_K.moved hW.alike X.2, hI.2.1.weaken (fun _ _ _ _ => trivial)⟩⟩ rfl rfl hl rfl (lv_room hW) hdg hcs) hI.2.2.1 (fun q _ h => hFc q h) hFc (fun r' u t H1 locs1 ht hvm hw hB hz1 hk1 hS => ?_)
  obtain ⟨rfl, rfl⟩ := hw
  exact kk H1 locs1 ⟨by rw [← ht]; exact hB.1, pic_D hI.2.1, hS, hI.2.2.2⟩
theorem rq_vv (X : Cx p s m args c cc nL own D cI) (hI : RI T cI D A s.heap ρ μ H locs) (hM : CV l y cc' n' h' T cI D ρ (.ref (ρ o) :: As) μ ν) (hT : T[o]? = some (.inl (ci, fs))) (hc : vwCl[ci]? = some (C, TT, N)) (g : GoodIn wg (wsV own idx C y (wm y cc' n' none))) (hd : y.cls = C ∧ y.cls ≠ "java/lang/invoke/MethodHandle" ∧ y.cls ≠ "java/lang/invoke/VarHandle" ∧ (parseMethodDescriptor y.desc).map (fun d => d.parameters.length) = some As.length) (hR : (rmL h').frames + 1 ≤ R.frames ∧ 8 + (n' + 11) + (rmL h').locals ≤ R.locals) (hcs : cells ≤ R.cells ∧ slots ≤ R.slots) (hl : ls.size = nL) (hst : st0 = As.reverse ++ .ref (ρ o) :: rest) (hW : (rest.map fun v => v.category).sum ≤ 8) (hdg : decode cc pc = .ok (.invokevirtual idx, 3))
    (kk : ∀ (H1 : Heap) (locs1 : List Loc), RI T cI D A s.heap ρ ν H1 locs1 → W p l e R s m args below meth c H1 locs1 cells slots Q (F0 m (pc + 3) ls rest)) : W p l e R s m args below meth c H locs cells slots Q (F0 m pc ls st0) := by
  subst hst
  have hFc := ri_free hI
  refine va_callv (va_runV (As := As) (rest := rest) X.1 (hM H.size) (cwV As.length X.1.2.2.2.2 g rfl rfl rfl hd hR) ⟨PcT_blind, va_recv X.2 hI.1 hc (show (pic T cI ρ μ)[o]? = some (ρ o, .inr (ci, fs.map (fv ρ μ))) from pic_get hT), fun U hU hW => ⟨rfl, by rw [hU], by rw [hU]; exact hI.1, va_K.moved hW.alike X.2, hI.2.1.weaken (fun _ _ _ _ => trivial)⟩⟩ rfl rfl hl rfl (lv_room hW) hdg hcs) hI.2.2.1 (fun q _ h => hFc q h) hFc (fun u t H1 locs1 ht hvm hw hB hz1 hk1 hS => ?_)
  obtain rfl := hw
  exact kk H1 locs1 ⟨by rw [← ht]; exact hB.1, pic_D hI.2.1, hS, hI.2.2.2⟩
theorem rq_si (X : Cx p s m args c cc nL own D cI) (hI : RI T cI D A s.heap ρ μ H locs) (hM : CI l y cc' n' ret h' T cI D ρ As μ r ν) (g : GoodIn wg (wsS own idx y (wm y cc' n' ret))) (hd : y.cls = own ∧ y.cls ≠ "java/lang/invoke/MethodHandle" ∧ y.cls ≠ "java/lang/invoke/VarHandle" ∧ (parseMethodDescriptor y.desc).map (fun d => d.parameters.length) = some As.length) (hR : (rmL h').frames + 1 ≤ R.frames ∧ 8 + (n' + 11) + (rmL h').locals ≤ R.locals) (hcs : cells ≤ R.cells ∧ slots ≤ R.slots) (hl : ls.size = nL) (hst : st0 = As.reverse ++ rest) (hW : (rest.map fun v => v.category).sum ≤ 8) (hdg : decode cc pc = .ok (.invokestatic idx, 3))
    (kk : ∀ (H1 : Heap) (locs1 : List Loc), RI T cI D A s.heap ρ ν H1 locs1 → W p l e R s m args below meth c H1 locs1 cells slots Q (F0 m (pc + 3) ls (.int r :: rest))) : W p l e R s m args below meth c H locs cells slots Q (F0 m pc ls st0) := by
  subst hst
  have hFc := ri_free hI
  refine va_calli (va_runS (As := As) (rest := rest) X.1 (hM H.size) (cwS As.length X.1.2.2.2.2 g rfl rfl rfl hd hR) ⟨PcT_blind, fun U hU hW => ⟨rfl, by rw [hU], by rw [hU]; exact hI.1, va_K.moved hW.alike X.2, hI.2.1.weaken (fun _ _ _ _ => trivial)⟩⟩ rfl rfl hl rfl (lv_room hW) hdg hcs) hI.2.2.1 (fun q _ h => hFc q h) hFc (fun r' u t H1 locs1 ht hvm hw hB hz1 hk1 hS => ?_)
  obtain ⟨rfl, rfl⟩ := hw
  exact kk H1 locs1 ⟨by rw [← ht]; exact hB.1, pic_D hI.2.1, hS, hI.2.2.2⟩
end RQ
section RX
variable {l : Launch} {y : MethodName} {cc : ByteArray} {n h : Nat} {ret : Option FieldType} {T : List q_Cd} {cI : ClassId} {D : va_G} {ρ : Nat → Nat} {as : List Value} {μ ν : St} {r : Int32} {k : Nat}
/-- the leaf that throws -/
theorem rt_throw {p : Program} {e : Env} {s : State} {m : MethodId} {args : Array Value} {below : List Frame} {meth : Method} {c : Code} {A : Nat → Prop} {H : Heap} {locs : List Loc} {pc ik is ic : Nat} {ls : Array Slot} {rest : List Value} {tx : String} (hst : l.stackTraces = false) (X : Cx p s m args c cc n RX5 D cI) (hlk : meth.locks = false) (htb : ∀ x ∈ c.exceptionTable.toList, False) (hA : va_A (pic T cI ρ μ) s.heap.size = A) (hX : XW A s s.heap) (hk : k ≠ 0)
    (hI : RI T cI D A s.heap ρ ν H locs) (hl : ls.size = n) (hr : (rest.map fun v => v.category).sum ≤ 8) (hs : xsite k ik ic) (ht : (is, tx) ∈ xs5) (hh : 6 ≤ h)
    (d0 : decode cc pc = .ok (.new ik, 3)) (d3 : decode cc (pc + 3) = .ok (.dup, 1)) (d4 : decode cc (pc + 4) = .ok (.ldc is, 2)) (d6 : decode cc (pc + 6) = .ok (.invokespecial ic, 3)) (d9 : decode cc (pc + 9) = .ok (.athrow, 1)) :
    W p l e (rmX h) s m args below meth c H locs 0 0 (vx_MQ below (QxT T cI D ρ μ s.heap.size k r ν) (XcT T cI D ρ μ s.heap.size k ν) args s 1 6 A) (F0 m pc ls rest) := by
  obtain ⟨sa, hsa⟩ := hX.2.2.1 _ ht
  refine vx_throwS (names := xnm) (A := A) (cls := xn k) (text := tx) (sa := sa) X.1.1 X.1.2.1 hst X.1.2.2.2.1 hs.1 (by decide) (X.1.2.2.2.2 _ hs.2.1) (X.1.2.2.2.2 _ hs.2.2.1) hsa (vx_hat (B := xg) (fun w hw => X.1.2.2.2.2 _ (hs.2.2.2.1 w hw)) hs.2.2.2.2.1 (fun w hw => va_Nw.use (xg_tab hw) (hX.2.2.2 w hw))) hs.2.2.2.2.2 hX.1 hX.2.1 hI.2.2.1 (by rw [X.1.2.2.1]; exact hl) d0 d3 d4 d6 d9 (fun x hx => (htb x hx).elim) (by show 2 + 3 < h; omega) (by show _ + (13 * (2 + 1) + 43) ≤ 40 * h; omega) (Nat.le_refl _) (Nat.le_refl _) hlk (fun t hal hz hq => ?_) hI.2.2.1.2.2 (Nat.le_refl _) (Nat.le_refl _)
  refine ⟨ν, ⟨hk, rfl⟩, ⟨rfl, va_P.kept hI.1 (fun j q hj => hq _ (hI.1 j q hj).lt), va_K.moved hal X.2, hI.2.1.weaken (fun _ _ _ _ => trivial)⟩, ?_, ?_⟩
  · exact Nat.le_trans hI.2.2.1.1 hz
  · intro q h1 h2
    rw [hA] at h2
    rw [hq q (Nat.lt_of_lt_of_le h1 hI.2.2.1.1), hI.2.2.1.2.1 q h1 h2]
theorem CX_of (hy : plainName y.cls = true) (hown : y.cls = RX5) (hlen : (lg_sl as).length ≤ n) (hret : ret = some .int) (hst : l.stackTraces = false) (hh : 6 ≤ h)
    (body : ∀ (p : Program) (e : Env) (s : State) (m : MethodId) (args : Array Value) (below : List Frame) (meth : Method) (c : Code) (Q : State → Prop) (A : Nat → Prop) (H0 : Heap) (locs0 : List Loc), Cx p s m args c cc n RX5 D cI → RI T cI D A s.heap ρ μ H0 locs0 →
      (∀ (H : Heap) (locs : List Loc) (pc : Nat) (ls : Array Slot), k = 0 → RI T cI D A s.heap ρ ν H locs → decode cc pc = .ok (.ireturn, 1) → W p l e (rmX h) s m args below meth c H locs 0 0 Q (F0 m pc ls [.int r])) →
      (∀ (H : Heap) (locs : List Loc) (pc ik is ic : Nat) (tx : String) (ls : Array Slot) (rest : List Value), k ≠ 0 → RI T cI D A s.heap ρ ν H locs → ls.size = n → (rest.map fun v => v.category).sum ≤ 8 → xsite k ik ic → (is, tx) ∈ xs5 → decode cc pc = .ok (.new ik, 3) → decode cc (pc + 3) = .ok (.dup, 1) → decode cc (pc + 4) = .ok (.ldc is, 2) → decode cc (pc + 6) = .ok (.invokespecial ic, 3) → decode cc (pc + 9) = .ok (.athrow, 1) → W p l e (rmX h) s m args below meth c H locs 0 0 Q (F0 m pc ls rest)) →
      ∀ ls : Array Slot, lv_has ls n (lv_args 0 as) → W p l e (rmX h) s m args below meth c H0 locs0 0 0 Q (F0 m 0 ls [])) : CX l y cc n ret h T cI D ρ as μ k r ν := by
  intro sz
  refine vx_ofW (cc := cc) (maxL := n) (ret := ret) hy rfl ?_
  intro p e s m args below meth c s₁ B hml htb hv
  obtain ⟨rfl, hsz, ⟨hP, hK, hD⟩, hX⟩ := hv
  subst hsz
  have hts := atoms_spec (ws := wm y cc n ret) B.pre
  have hl := lv_entry as (n := n) hlen
  rw [lg_entry_eq]
  have X : Cx p s m as.toArray c cc n RX5 D cI := ⟨⟨B.exec, B.bytes, hml, hown ▸ findClass_of_methodNamed B.named, fun w hw => hts w (List.mem_cons_of_mem _ hw)⟩, hK⟩
  refine body p e s m _ below meth c _ (va_A (pic T cI ρ μ) s.heap.size) s.heap [] X ⟨hP, hD.self, va_S.rf, fun q h => Or.inr h⟩ (fun H locs pc ls hk hI hdg => ?_) (fun H locs pc ik is ic tx ls rest hk hI h1 h2 h3 h4 d0 d3 d4 d6 d9 => rt_throw hst X B.notSynchronized htb rfl hX hk hI h1 h2 h3 h4 hh d0 d3 d4 d6 d9) _ hl
  refine W.widen (k := 1) (n := 6) (by omega) (by omega) (vx_ret ?_)
  exact W.iret (v := r) X.1.1 X.1.2.1 (B.returns.trans hret) (fun t ht hW => ⟨⟨r, ν, rfl, ⟨hk, rfl, rfl⟩, by rw [ht]; exact hI.1, va_K.moved hW.alike X.2, hI.2.1.weaken (fun _ _ _ _ => trivial)⟩, hI.2.2.1.F ht⟩) hI.2.2.1.2.2 hdg B.notSynchronized
theorem CXZ_of (hy : plainName y.cls = true) (hown : y.cls = RX5) (hlen : (lg_sl as).length ≤ n) (hret : ret = some .boolean) (hst : l.stackTraces = false) (hh : 6 ≤ h)
    (body : ∀ (p : Program) (e : Env) (s : State) (m : MethodId) (args : Array Value) (below : List Frame) (meth : Method) (c : Code) (Q : State → Prop) (A : Nat → Prop) (H0 : Heap) (locs0 : List Loc), Cx p s m args c cc n RX5 D cI → RI T cI D A s.heap ρ μ H0 locs0 →
      (∀ (H : Heap) (locs : List Loc) (pc : Nat) (ls : Array Slot), narrow .boolean (.int r) = .int r → k = 0 → RI T cI D A s.heap ρ ν H locs → decode cc pc = .ok (.ireturn, 1) → W p l e (rmX h) s m args below meth c H locs 0 0 Q (F0 m pc ls [.int r])) →
      (∀ (H : Heap) (locs : List Loc) (pc ik is ic : Nat) (tx : String) (ls : Array Slot) (rest : List Value), k ≠ 0 → RI T cI D A s.heap ρ ν H locs → ls.size = n → (rest.map fun v => v.category).sum ≤ 8 → xsite k ik ic → (is, tx) ∈ xs5 → decode cc pc = .ok (.new ik, 3) → decode cc (pc + 3) = .ok (.dup, 1) → decode cc (pc + 4) = .ok (.ldc is, 2) → decode cc (pc + 6) = .ok (.invokespecial ic, 3) → decode cc (pc + 9) = .ok (.athrow, 1) → W p l e (rmX h) s m args below meth c H locs 0 0 Q (F0 m pc ls rest)) →
      ∀ ls : Array Slot, lv_has ls n (lv_args 0 as) → W p l e (rmX h) s m args below meth c H0 locs0 0 0 Q (F0 m 0 ls [])) : CX l y cc n ret h T cI D ρ as μ k r ν := by
  intro sz
  refine vx_ofW (cc := cc) (maxL := n) (ret := ret) hy rfl ?_
  intro p e s m args below meth c s₁ B hml htb hv
  obtain ⟨rfl, hsz, ⟨hP, hK, hD⟩, hX⟩ := hv
  subst hsz
  have hts := atoms_spec (ws := wm y cc n ret) B.pre
  have hl := lv_entry as (n := n) hlen
  rw [lg_entry_eq]
  have X : Cx p s m as.toArray c cc n RX5 D cI := ⟨⟨B.exec, B.bytes, hml, hown ▸ findClass_of_methodNamed B.named, fun w hw => hts w (List.mem_cons_of_mem _ hw)⟩, hK⟩
  refine body p e s m _ below meth c _ (va_A (pic T cI ρ μ) s.heap.size) s.heap [] X ⟨hP, hD.self, va_S.rf, fun q h => Or.inr h⟩ (fun H locs pc ls hn hk hI hdg => ?_) (fun H locs pc ik is ic tx ls rest hk hI h1 h2 h3 h4 d0 d3 d4 d6 d9 => rt_throw hst X B.notSynchronized htb rfl hX hk hI h1 h2 h3 h4 hh d0 d3 d4 d6 d9) _ hl
  refine W.widen (k := 1) (n := 6) (by omega) (by omega) (vx_ret ?_)
  exact W.zret (v := r) X.1.1 X.1.2.1 (B.returns.trans hret) hn (fun t ht hW => ⟨⟨r, ν, rfl, ⟨hk, rfl, rfl⟩, by rw [ht]; exact hI.1, va_K.moved hW.alike X.2, hI.2.1.weaken (fun _ _ _ _ => trivial)⟩, hI.2.2.1.F ht⟩) hI.2.2.1.2.2 hdg B.notSynchronized
end RX
