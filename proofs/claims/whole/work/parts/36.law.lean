/-! the law: its world, its calls, its nine cases -/
abbrev lww (cI cL : ClassId) (ρC ρM : Nat → Nat) (q : Nat) (ν μ : St) (fo : Nat → Int64) : va_W := w_w cI cL ρC q ν fo ++ pic TM cI ρM μ
abbrev lA (s : State) : Nat → Prop := fun z => s.heap.size ≤ z
def LI (D : va_G) (cI cL : ClassId) (ρC ρM : Nat → Nat) (q : Nat) (s : State) (ν μ : St) (fo : Nat → Int64) (H : Heap) (locs : List Loc) : Prop := va_P D vwCl (lww cI cL ρC ρM q ν μ fo) H ∧ va_D (lA s) (lww cI cL ρC ρM q ν μ fo) ∧ va_S (lA s) s.heap H locs
def LC (p : Program) (s : State) (m : MethodId) (b L : Nat) (xs : Nat → Int32) (c : Code) (D : va_G) (cI cL : ClassId) : Prop :=
  CallFix p m c cL_law 7 s #[.ref b] wg RL ∧ va_K D vwCl [(cI, .int), (cL, .long)] s ∧ XN (lA s) s s.heap ∧ va_X b L xs s s.heap ∧ b < s.heap.size
section LW
variable {p : Program} {l : Launch} {e : Env} {s : State} {m : MethodId} {below : List Frame} {meth : Method} {c : Code} {H : Heap} {locs : List Loc} {cells slots : Nat} {Q : State → Prop} {D : va_G} {cI cL : ClassId} {ρC ρM : Nat → Nat} {q : Nat} {ν ν' μ μ' : St} {fo fo' : Nat → Int64} {pc : Nat} {ls : Array Slot} {rest : List Value} {h' n' idx b L : Nat} {xs : Nat → Int32} {y : MethodName} {cc' : ByteArray} {ret : Option FieldType} {r kr : Int32} {As st0 : List Value}
theorem lw_roomL (hn : n' ≤ 21) (hh : h' ≤ 1000) : (rmL h').frames + 1 ≤ room_1.frames ∧ 8 + (n' + 11) + (rmL h').locals ≤ room_1.locals := ⟨by show h' + 1 ≤ 2048; omega, by show 8 + (n' + 11) + 40 * h' ≤ 84000; omega⟩
theorem lw_roomX (hn : n' ≤ 21) (hh : h' ≤ 1000) : (rmX h').frames + 1 ≤ room_1.frames ∧ 8 + (n' + 11) + (rmX h').locals ≤ room_1.locals := ⟨by show h' + 1 ≤ 2048; omega, by show 8 + (n' + 11) + 40 * h' ≤ 84000; omega⟩
theorem lw_fstC : (lww cI cL ρC ρM q ν' μ fo').map Prod.fst = (lww cI cL ρC ρM q ν μ fo).map Prod.fst := by
  simp only [List.map_append, List.map_cons, List.map_nil]
  rw [pic_fst (ν := ν') (μ := ν)]
theorem lw_fstM : (lww cI cL ρC ρM q ν μ' fo).map Prod.fst = (lww cI cL ρC ρM q ν μ fo).map Prod.fst := by
  simp only [List.map_append]
  rw [pic_fst (ν := μ') (μ := μ)]
theorem lw_out : (lww cI cL ρC ρM q ν μ fo)[24]? = some (oc cL q fo) := by
  have h : (pic TC cI ρC ν).length = 24 := by simp [pic]
  rw [List.getElem?_append_left (by simp [h]), List.getElem?_append_right (by omega), h]
  rfl
theorem lw_assoc : lww cI cL ρC ρM q ν μ fo = pic TC cI ρC ν ++ ([oc cL q fo] ++ pic TM cI ρM μ) := List.append_assoc ..
/-- a wrapper -/
theorem lr_W {hh : List (Nat × Nat × Nat × Nat)} (C : LC p s m b L xs c D cI cL) (hI : LI D cI cL ρC ρM q s ν μ fo H locs) (hM : CW l y cc' n' hh h' cI cL D ρC q As ν fo kr ν' fo') (g : GoodIn wg (va_wsS RL idx y (Cond.codeWith y cc' n' (some .int) hh :: wg))) (hd : y.cls ≠ "java/lang/invoke/MethodHandle" ∧ y.cls ≠ "java/lang/invoke/VarHandle" ∧ (parseMethodDescriptor y.desc).map (fun d => d.parameters.length) = some As.length) (hn : n' ≤ 21) (hh' : h' ≤ 1000) (hcs : cells + 1 ≤ 600128 ∧ slots + 6 ≤ 7301098) (hl : ls.size = 7) (hst : st0 = As.reverse ++ rest) (hW : (rest.map fun v => v.category).sum ≤ 8) (hdg : decode cL_law pc = .ok (.invokestatic idx, 3))
    (kk : ∀ (H1 : Heap) (locs1 : List Loc), LI D cI cL ρC ρM q s ν' μ fo' H1 locs1 → W p l e room_1 s m #[.ref b] below meth c H1 locs1 (cells + 1) (slots + 6) Q (F0 m (pc + 3) ls (.int kr :: rest))) : W p l e room_1 s m #[.ref b] below meth c H locs cells slots Q (F0 m pc ls st0) := by
  subst hst
  obtain ⟨F, hK, ⟨hX, hNc⟩, -, -⟩ := C
  obtain ⟨hP, hD, hS⟩ := hI
  have hFc : ∀ z, va_A (w_w cI cL ρC q ν fo) H.size z → lA s z := fr_free hD hS (fun _ h => h)
  refine va_calli (vx_runSW (As := As) (rest := rest) F (hM H.size) (vx_cwSW As.length F.2.2.2.2 g rfl rfl rfl hd (lw_roomX hn hh')) ⟨PcW_blind, fun U hU hW => ⟨rfl, by rw [hU], ⟨by rw [hU]; exact fr_L hP, va_K.moved hW.alike hK, (fr_DL hD).weaken (fun _ _ _ _ => trivial)⟩, by rw [hU]; exact hX.call hW (fun a h1 h2 => hS.2.1 a h1 h2) hFc, va_Nc_moved hW.alike hNc⟩⟩ rfl rfl hl rfl (lv_room hW) hdg hcs) hS (fun z _ h => hFc z h) hFc (fun r' u t H1 locs1 ht hvm hw hB hz1 hk1 hS1 => ?_)
  obtain ⟨rfl, rfl⟩ := hw
  exact kk H1 locs1 ⟨fr_join hP hD (by rw [← ht]; exact hB.1) hk1, fr_D lw_fstC hD, hS1⟩
/-- a method of the class that doesn't throw -/
theorem lr_C (C : LC p s m b L xs c D cI cL) (hI : LI D cI cL ρC ρM q s ν μ fo H locs) (hM : CI l y cc' n' ret h' TC cI D ρC (.ref (ρC 0) :: As) ν r ν') (g : GoodIn wg (wsV RL idx RX5 y (wm y cc' n' ret))) (hd : y.cls = RX5 ∧ y.cls ≠ "java/lang/invoke/MethodHandle" ∧ y.cls ≠ "java/lang/invoke/VarHandle" ∧ (parseMethodDescriptor y.desc).map (fun d => d.parameters.length) = some As.length) (hn : n' ≤ 21) (hh' : h' ≤ 1000) (hcs : cells ≤ 600128 ∧ slots ≤ 7301098) (hl : ls.size = 7) (hst : st0 = As.reverse ++ .ref (ρC 0) :: rest) (hW : (rest.map fun v => v.category).sum ≤ 8) (hdg : decode cL_law pc = .ok (.invokevirtual idx, 3))
    (kk : ∀ (H1 : Heap) (locs1 : List Loc), LI D cI cL ρC ρM q s ν' μ fo H1 locs1 → W p l e room_1 s m #[.ref b] below meth c H1 locs1 cells slots Q (F0 m (pc + 3) ls (.int r :: rest))) : W p l e room_1 s m #[.ref b] below meth c H locs cells slots Q (F0 m pc ls st0) := by
  subst hst
  obtain ⟨F, hK, -, -, -⟩ := C
  obtain ⟨hP, hD, hS⟩ := hI
  have hKc := hK.sub (tys' := [(cI, .int)]) [0] rfl
  rw [lw_assoc] at hP hD
  have hFc : ∀ z, va_A (pic TC cI ρC ν) H.size z → lA s z := fr_free hD hS (fun _ h => h)
  refine va_calli (va_runV (As := As) (rest := rest) F (hM H.size) (cwV As.length F.2.2.2.2 g rfl rfl rfl hd (lw_roomL hn hh')) ⟨PcT_blind, va_recv hKc (fr_L hP) (ci := 5) (q := (RX5, TX5, 6)) rfl (pic_obj (T := TC) (i := 0) rfl), fun U hU hW => ⟨rfl, by rw [hU], by rw [hU]; exact fr_L hP, va_K.moved hW.alike hKc, (fr_DL hD).weaken (fun _ _ _ _ => trivial)⟩⟩ rfl rfl hl rfl (lv_room hW) hdg hcs) hS (fun z _ h => hFc z h) hFc (fun r' u t H1 locs1 ht hvm hw hB hz1 hk1 hS1 => ?_)
  obtain ⟨rfl, rfl⟩ := hw
  refine kk H1 locs1 ⟨?_, ?_, hS1⟩
  · have h1 := fr_join hP hD (by rw [← ht]; exact hB.1) hk1
    rw [lw_assoc]
    exact h1
  · rw [← lw_assoc] at hD
    exact fr_D lw_fstC hD
/-- a method of the reference -/
theorem lr_M (C : LC p s m b L xs c D cI cL) (hI : LI D cI cL ρC ρM q s ν μ fo H locs) (hM : CI l y cc' n' ret h' TM cI D ρM (.ref (ρM 0) :: As) μ r μ') (g : GoodIn wg (wsV RL idx RX6 y (wm y cc' n' ret))) (hd : y.cls = RX6 ∧ y.cls ≠ "java/lang/invoke/MethodHandle" ∧ y.cls ≠ "java/lang/invoke/VarHandle" ∧ (parseMethodDescriptor y.desc).map (fun d => d.parameters.length) = some As.length) (hn : n' ≤ 21) (hh' : h' ≤ 1000) (hcs : cells ≤ 600128 ∧ slots ≤ 7301098) (hl : ls.size = 7) (hst : st0 = As.reverse ++ .ref (ρM 0) :: rest) (hW : (rest.map fun v => v.category).sum ≤ 8) (hdg : decode cL_law pc = .ok (.invokevirtual idx, 3))
    (kk : ∀ (H1 : Heap) (locs1 : List Loc), LI D cI cL ρC ρM q s ν μ' fo H1 locs1 → W p l e room_1 s m #[.ref b] below meth c H1 locs1 cells slots Q (F0 m (pc + 3) ls (.int r :: rest))) : W p l e room_1 s m #[.ref b] below meth c H locs cells slots Q (F0 m pc ls st0) := by
  subst hst
  obtain ⟨F, hK, -, -, -⟩ := C
  obtain ⟨hP, hD, hS⟩ := hI
  have hKc := hK.sub (tys' := [(cI, .int)]) [0] rfl
  have hP2 := fr_swapP hP
  have hD2 := fr_swapD hD
  have hFc : ∀ z, va_A (pic TM cI ρM μ) H.size z → lA s z := fr_free hD2 hS (fun _ h => h)
  refine va_calli (va_runV (As := As) (rest := rest) F (hM H.size) (cwV As.length F.2.2.2.2 g rfl rfl rfl hd (lw_roomL hn hh')) ⟨PcT_blind, va_recv hKc (fr_L hP2) (ci := 6) (q := (RX6, TX6, 52)) rfl (pic_obj (T := TM) (i := 0) rfl), fun U hU hW => ⟨rfl, by rw [hU], by rw [hU]; exact fr_L hP2, va_K.moved hW.alike hKc, (fr_DL hD2).weaken (fun _ _ _ _ => trivial)⟩⟩ rfl rfl hl rfl (lv_room hW) hdg hcs) hS (fun z _ h => hFc z h) hFc (fun r' u t H1 locs1 ht hvm hw hB hz1 hk1 hS1 => ?_)
  obtain ⟨rfl, rfl⟩ := hw
  exact kk H1 locs1 ⟨fr_swapP (fr_join hP2 hD2 (by rw [← ht]; exact hB.1) hk1), fr_D lw_fstM hD, hS1⟩
end LW
theorem gi_SW {idx n : Nat} {y : MethodName} {cc : ByteArray} {hh : List (Nat × Nat × Nat × Nat)} (h1 : Cond.methodLink RL idx y ∈ wg) (h2 : Cond.static y ∈ wg) (h4 : Cond.initialized y.cls ∈ wg) (h5 : Cond.codeWith y cc n (some .int) hh ∈ wg) :
    GoodIn wg (va_wsS RL idx y (Cond.codeWith y cc n (some .int) hh :: wg)) := by
  intro w hw
  have : w ∈ wg := by
    rcases List.mem_append.mp hw with h | h
    · simp only [List.mem_cons, List.not_mem_nil, or_false] at h
      rcases h with rfl | rfl | rfl <;> assumption
    · rcases List.mem_cons.mp h with rfl | h
      · exact h5
      · exact h
  exact ⟨this, wg_good this⟩
theorem lg_eq (x : Int64) : lg_cmp x x = 0 := by simp [lg_cmp]
theorem gL_43 : GoodIn wg (va_wsS RL 43 yL_words (Cond.codeWith yL_words cL_words 5 (some .int) [(0, 10, 13, 13), (0, 10, 17, 15)] :: wg)) := gi_SW wM_L_43 wS_L_words wI_L wCW_words
theorem hdL_W_words : yL_words.cls ≠ "java/lang/invoke/MethodHandle" ∧ yL_words.cls ≠ "java/lang/invoke/VarHandle" ∧ (parseMethodDescriptor yL_words.desc).map (fun d => d.parameters.length) = some 4 := by decide +kernel
theorem gL_48 : GoodIn wg (wsV RL 48 RX6 yX6_words (wm yX6_words cX6_words 5 (some .int))) := gi_V wM_L_48 wN_X6_words wV_X6_words wI_X6 wC_X6_words
theorem hdL_M_words : yX6_words.cls = RX6 ∧ yX6_words.cls ≠ "java/lang/invoke/MethodHandle" ∧ yX6_words.cls ≠ "java/lang/invoke/VarHandle" ∧ (parseMethodDescriptor yX6_words.desc).map (fun d => d.parameters.length) = some 2 := by decide +kernel
theorem gL_49 : GoodIn wg (wsV RL 49 RX6 yX6_thrown (wm yX6_thrown cX6_thrown 1 (some .int))) := gi_V wM_L_49 wN_X6_thrown wV_X6_thrown wI_X6 wC_X6_thrown
theorem hdL_M_thrown : yX6_thrown.cls = RX6 ∧ yX6_thrown.cls ≠ "java/lang/invoke/MethodHandle" ∧ yX6_thrown.cls ≠ "java/lang/invoke/VarHandle" ∧ (parseMethodDescriptor yX6_thrown.desc).map (fun d => d.parameters.length) = some 0 := by decide +kernel
set_option maxHeartbeats 4000000 in
set_option maxRecDepth 100000 in
theorem law_words {p : Program} {l : Launch} {e : Env} {s : State} {m : MethodId} {below : List Frame} {meth : Method} {c : Code} {H : Heap} {locs : List Loc} {cells slots : Nat} {Q : State → Prop} {D : va_G} {cI cL : ClassId} {ρC ρM : Nat → Nat} {q : Nat} {ν ν' μ μ' : St} {fo fo' : Nat → Int64} {ls : Array Slot} {b L N : Nat} {xs : Nat → Int32} (C : LC p s m b L xs c D cI cL) {x4 p0 p1 : Int32} (h1 : vp_in (x4 + 1) L) (h2 : vp_in (x4 + 2) L) (e1 : p0 = xs (x4 + 1).toNatClampNeg) (e2 : p1 = xs (x4 + 2).toNatClampNeg) (hcs : cells + 1 ≤ 600128 ∧ slots + 6 ≤ 7301098) (hI : LI D cI cL ρC ρM q s ν μ fo H locs) (hl : lv_has ls 7 [(0, .ref b), (1, .ref (ρC 0)), (2, .ref (ρM 0)), (3, .ref q), (4, .int x4)]) {kr bv : Int32} (hW : CW l yL_words cL_words 5 [(0, 10, 13, 13), (0, 10, 17, 15)] 7 cI cL D ρC q [.ref (ρC 0), .int p0, .int p1, .ref q] ν fo kr ν' fo') (hB : f_M_words N p0 p1 μ = some (bv, μ')) (hT : f_M_thrown μ' = some kr) (hO : kr = 0 → fo' 0 = bv.toInt64) (hnext : ∀ (H : Heap) (locs : List Loc) (ls : Array Slot), LI D cI cL ρC ρM q s ν' μ' fo' H locs → lv_has ls 7 [(0, .ref b), (1, .ref (ρC 0)), (2, .ref (ρM 0)), (3, .ref q), (4, .int x4)] → W p l e room_1 s m #[.ref b] below meth c H locs (cells + 1) (slots + 6) Q (F0 m 537 ls [])) : W p l e room_1 s m #[.ref b] below meth c H locs cells slots Q (F0 m 88 ls []) := by
  have hx := C.1.1
  have hb := C.1.2.1
  have hK := C.2.1
  have hX := C.2.2.2.1
  have hbl := C.2.2.2.2
  have hbA : ¬ lA s b := Nat.not_le.mpr hbl
  have hcs0 : cells ≤ 600128 ∧ slots ≤ 7301098 := ⟨by omega, by omega⟩
  refine lv_aload_n hx hb dL_law_88 rfl (lv_at hl 1 rfl) ?_
  refine lv_aload_n hx hb dL_law_89 rfl (lv_at hl 0 rfl) ?_
  refine lv_iload hx hb dL_law_90 (lv_at hl 4 rfl) ?_
  refine lv_iconst (v := 1) hx hb dL_law_92 (by decide) ?_
  refine lv_iadd hx hb dL_law_93 ?_
  refine va_sld hx hb hX hbl hbA hI.2.2 h1 dL_law_94 ?_
  refine rg_top e1 ?_
  refine lv_aload_n hx hb dL_law_95 rfl (lv_at hl 0 rfl) ?_
  refine lv_iload hx hb dL_law_96 (lv_at hl 4 rfl) ?_
  refine lv_iconst (v := 2) hx hb dL_law_98 (by decide) ?_
  refine lv_iadd hx hb dL_law_99 ?_
  refine va_sld hx hb hX hbl hbA hI.2.2 h2 dL_law_100 ?_
  refine rg_top e2 ?_
  refine lv_aload_n hx hb dL_law_101 rfl (lv_at hl 3 rfl) ?_
  refine lr_W (As := [.ref (ρC 0), .int p0, .int p1, .ref q]) (rest := []) C hI hW gL_43 hdL_W_words (by decide) (by decide) hcs hl.1 rfl (Nat.le_of_ble_eq_true rfl) dL_law_102 (fun H locs hI => ?_)
  refine lv_istore (lv' := [(5, .int kr), (0, .ref b), (1, .ref (ρC 0)), (2, .ref (ρM 0)), (3, .ref q), (4, .int x4)]) hx hb dL_law_105 hl (by decide) rfl (fun ls hl => ?_)
  refine lv_aload_n hx hb dL_law_107 rfl (lv_at hl 3 rfl) ?_
  refine lv_aload_n hx hb dL_law_108 rfl (lv_at hl 1 rfl) ?_
  refine lv_iload hx hb dL_law_109 (lv_at hl 5 rfl) ?_
  refine lv_iconst (v := 1) hx hb dL_law_111 (by decide) ?_
  refine lv_iadd hx hb dL_law_112 ?_
  refine va_sld hx hb hX hbl hbA hI.2.2 h1 dL_law_113 ?_
  refine rg_top e1 ?_
  refine lv_aload_n hx hb dL_law_114 rfl (lv_at hl 1 rfl) ?_
  refine lv_iload hx hb dL_law_115 (lv_at hl 5 rfl) ?_
  refine lv_iconst (v := 2) hx hb dL_law_117 (by decide) ?_
  refine lv_iadd hx hb dL_law_118 ?_
  refine va_sld hx hb hX hbl hbA hI.2.2 h2 dL_law_119 ?_
  refine rg_top e2 ?_
  refine lr_M (As := [.int p0, .int p1]) (rest := []) C hI (c_M_words l D cI ρM 1 (by decide) hB) gL_48 hdL_M_words (by decide) (by decide) ⟨by omega, by omega⟩ hl.1 rfl (Nat.le_of_ble_eq_true rfl) dL_law_120 (fun H locs hI => ?_)
  refine lv_istore (lv' := [(6, .int bv), (5, .int kr), (0, .ref b), (1, .ref (ρC 0)), (2, .ref (ρM 0)), (3, .ref q), (4, .int x4)]) hx hb dL_law_123 hl (by decide) rfl (fun ls hl => ?_)
  refine lv_aload_n hx hb dL_law_125 rfl (lv_at hl 4 rfl) ?_
  refine lr_M (As := []) (rest := []) C hI (c_M_thrown l D cI ρM 1 (by decide) hT) gL_49 hdL_M_thrown (by decide) (by decide) ⟨by omega, by omega⟩ hl.1 rfl (Nat.le_of_ble_eq_true rfl) dL_law_126 (fun H locs hI => ?_)
  refine lv_iload hx hb dL_law_129 (lv_at hl 1 rfl) ?_
  refine lv_icmp_eq (tgt := 136) hx hb dL_law_131 (by decide) (fun _ => ?_) (fun c1 => absurd rfl c1)
  refine lv_iload hx hb dL_law_136 (lv_at hl 1 rfl) ?_
  refine lv_if_ne (tgt := 153) hx hb dL_law_138 (by decide) (fun c1 => ?_) (fun c1 => ?_)
  · refine lv_goto (tgt := 537) hx hb dL_law_153 (by decide) ?_
    exact hnext H locs ls hI (lv_sub hl [2, 3, 4, 5, 6] rfl)
  · have hO := hO c1
    refine lv_aload_n hx hb dL_law_141 rfl (lv_at hl 5 rfl) ?_
    refine lv_iconst (v := 0) hx hb dL_law_142 (by decide) ?_
    refine va_lald hx hb hK hI.1 24 1 lw_out rfl (vp_in_nI (n := 0) (N := 1) (by decide) (by decide)) dL_law_143 ?_
    refine lv_iload hx hb dL_law_144 (lv_at hl 0 rfl) ?_
    refine lv_i2l hx hb dL_law_146 rfl ?_
    refine W.lcmp hx hb dL_law_147 ?_
    rw [show fo' (0 : Int32).toNatClampNeg = bv.toInt64 from hO, lg_eq]
    refine lv_if_eq (tgt := 153) hx hb dL_law_148 (by decide) (fun _ => ?_) (fun c3 => absurd rfl c3)
    refine lv_goto (tgt := 537) hx hb dL_law_153 (by decide) ?_
    exact hnext H locs ls hI (lv_sub hl [2, 3, 4, 5, 6] rfl)

theorem gL_53 : GoodIn wg (wsV RL 53 RX5 yX5_compile (wm yX5_compile cX5_compile 2 (some .int))) := gi_V wM_L_53 wN_X5_compile wV_X5_compile wI_X5 wC_X5_compile
theorem hdL_C_compile : yX5_compile.cls = RX5 ∧ yX5_compile.cls ≠ "java/lang/invoke/MethodHandle" ∧ yX5_compile.cls ≠ "java/lang/invoke/VarHandle" ∧ (parseMethodDescriptor yX5_compile.desc).map (fun d => d.parameters.length) = some 0 := by decide +kernel
theorem gL_56 : GoodIn wg (wsV RL 56 RX6 yX6_compile (wm yX6_compile cX6_compile 2 (some .int))) := gi_V wM_L_56 wN_X6_compile wV_X6_compile wI_X6 wC_X6_compile
theorem hdL_M_compile : yX6_compile.cls = RX6 ∧ yX6_compile.cls ≠ "java/lang/invoke/MethodHandle" ∧ yX6_compile.cls ≠ "java/lang/invoke/VarHandle" ∧ (parseMethodDescriptor yX6_compile.desc).map (fun d => d.parameters.length) = some 0 := by decide +kernel
set_option maxHeartbeats 4000000 in
set_option maxRecDepth 100000 in
theorem law_compile {p : Program} {l : Launch} {e : Env} {s : State} {m : MethodId} {below : List Frame} {meth : Method} {c : Code} {H : Heap} {locs : List Loc} {cells slots : Nat} {Q : State → Prop} {D : va_G} {cI cL : ClassId} {ρC ρM : Nat → Nat} {q : Nat} {ν ν' μ μ' : St} {fo fo' : Nat → Int64} {ls : Array Slot} {b L N : Nat} {xs : Nat → Int32} (C : LC p s m b L xs c D cI cL) {x4 p0 p1 : Int32} (h1 : vp_in (x4 + 1) L) (h2 : vp_in (x4 + 2) L) (e1 : p0 = xs (x4 + 1).toNatClampNeg) (e2 : p1 = xs (x4 + 2).toNatClampNeg) (hcs : cells + 1 ≤ 600128 ∧ slots + 6 ≤ 7301098) (hI : LI D cI cL ρC ρM q s ν μ fo H locs) (hl : lv_has ls 7 [(0, .ref b), (1, .ref (ρC 0)), (2, .ref (ρM 0)), (3, .ref q), (4, .int x4)]) {r : Int32} (hA : f_S_compile N ν = some (r, ν')) (hB : f_M_compile N μ = some (r, μ')) (hnext : ∀ (H : Heap) (locs : List Loc) (ls : Array Slot), LI D cI cL ρC ρM q s ν' μ' fo H locs → lv_has ls 7 [(0, .ref b), (1, .ref (ρC 0)), (2, .ref (ρM 0)), (3, .ref q), (4, .int x4)] → W p l e room_1 s m #[.ref b] below meth c H locs (cells + 1) (slots + 6) Q (F0 m 537 ls [])) : W p l e room_1 s m #[.ref b] below meth c H locs cells slots Q (F0 m 156 ls []) := by
  have hx := C.1.1
  have hb := C.1.2.1
  have hK := C.2.1
  have hX := C.2.2.2.1
  have hbl := C.2.2.2.2
  have hbA : ¬ lA s b := Nat.not_le.mpr hbl
  have hcs0 : cells ≤ 600128 ∧ slots ≤ 7301098 := ⟨by omega, by omega⟩
  refine lv_aload_n hx hb dL_law_156 rfl (lv_at hl 1 rfl) ?_
  refine lr_C (As := []) (rest := []) C hI (c_S_compile l D cI ρC 125 (by decide) hA) gL_53 hdL_C_compile (by decide) (by decide) hcs0 hl.1 rfl (Nat.le_of_ble_eq_true rfl) dL_law_157 (fun H locs hI => ?_)
  refine lv_aload_n hx hb dL_law_160 rfl (lv_at hl 2 rfl) ?_
  refine lr_M (As := []) (rest := [.int r]) C hI (c_M_compile l D cI ρM 7 (by decide) hB) gL_56 hdL_M_compile (by decide) (by decide) ⟨by omega, by omega⟩ hl.1 rfl (Nat.le_of_ble_eq_true rfl) dL_law_161 (fun H locs hI => ?_)
  refine lv_icmp_eq (tgt := 537) hx hb dL_law_164 (by decide) (fun _ => ?_) (fun c1 => absurd rfl c1)
  refine W.widen (k := cells + 1) (n := slots + 6) (by omega) (by omega) ?_
  exact hnext H locs ls hI hl

theorem gL_57 : GoodIn wg (va_wsS RL 57 yL_start (Cond.codeWith yL_start cL_start 3 (some .int) [(0, 15, 18, 15)] :: wg)) := gi_SW wM_L_57 wS_L_start wI_L wCW_start
theorem hdL_W_start : yL_start.cls ≠ "java/lang/invoke/MethodHandle" ∧ yL_start.cls ≠ "java/lang/invoke/VarHandle" ∧ (parseMethodDescriptor yL_start.desc).map (fun d => d.parameters.length) = some 2 := by decide +kernel
theorem gL_60 : GoodIn wg (wsV RL 60 RX6 yX6_start (wm yX6_start cX6_start 1 (some .boolean))) := gi_V wM_L_60 wN_X6_start wV_X6_start wI_X6 wC_X6_start
theorem hdL_M_start : yX6_start.cls = RX6 ∧ yX6_start.cls ≠ "java/lang/invoke/MethodHandle" ∧ yX6_start.cls ≠ "java/lang/invoke/VarHandle" ∧ (parseMethodDescriptor yX6_start.desc).map (fun d => d.parameters.length) = some 0 := by decide +kernel
set_option maxHeartbeats 4000000 in
set_option maxRecDepth 100000 in
theorem law_start {p : Program} {l : Launch} {e : Env} {s : State} {m : MethodId} {below : List Frame} {meth : Method} {c : Code} {H : Heap} {locs : List Loc} {cells slots : Nat} {Q : State → Prop} {D : va_G} {cI cL : ClassId} {ρC ρM : Nat → Nat} {q : Nat} {ν ν' μ μ' : St} {fo fo' : Nat → Int64} {ls : Array Slot} {b L N : Nat} {xs : Nat → Int32} (C : LC p s m b L xs c D cI cL) {x4 p0 p1 : Int32} (h1 : vp_in (x4 + 1) L) (h2 : vp_in (x4 + 2) L) (e1 : p0 = xs (x4 + 1).toNatClampNeg) (e2 : p1 = xs (x4 + 2).toNatClampNeg) (hcs : cells + 1 ≤ 600128 ∧ slots + 6 ≤ 7301098) (hI : LI D cI cL ρC ρM q s ν μ fo H locs) (hl : lv_has ls 7 [(0, .ref b), (1, .ref (ρC 0)), (2, .ref (ρM 0)), (3, .ref q), (4, .int x4)]) {kr bv : Int32} (hW : CW l yL_start cL_start 3 [(0, 15, 18, 15)] 7 cI cL D ρC q [.ref (ρC 0), .ref q] ν fo kr ν' fo') (hB : f_M_start N μ = some (bv, μ')) (hT : f_M_thrown μ' = some kr) (hO : kr = 0 → fo' 0 = (if bv = 0 then 0 else 1)) (hnext : ∀ (H : Heap) (locs : List Loc) (ls : Array Slot), LI D cI cL ρC ρM q s ν' μ' fo' H locs → lv_has ls 7 [(0, .ref b), (1, .ref (ρC 0)), (2, .ref (ρM 0)), (3, .ref q), (4, .int x4)] → W p l e room_1 s m #[.ref b] below meth c H locs (cells + 1) (slots + 6) Q (F0 m 537 ls [])) : W p l e room_1 s m #[.ref b] below meth c H locs cells slots Q (F0 m 169 ls []) := by
  have hx := C.1.1
  have hb := C.1.2.1
  have hK := C.2.1
  have hX := C.2.2.2.1
  have hbl := C.2.2.2.2
  have hbA : ¬ lA s b := Nat.not_le.mpr hbl
  have hcs0 : cells ≤ 600128 ∧ slots ≤ 7301098 := ⟨by omega, by omega⟩
  refine lv_aload_n hx hb dL_law_169 rfl (lv_at hl 1 rfl) ?_
  refine lv_aload_n hx hb dL_law_170 rfl (lv_at hl 3 rfl) ?_
  refine lr_W (As := [.ref (ρC 0), .ref q]) (rest := []) C hI hW gL_57 hdL_W_start (by decide) (by decide) hcs hl.1 rfl (Nat.le_of_ble_eq_true rfl) dL_law_171 (fun H locs hI => ?_)
  refine lv_istore (lv' := [(5, .int kr), (0, .ref b), (1, .ref (ρC 0)), (2, .ref (ρM 0)), (3, .ref q), (4, .int x4)]) hx hb dL_law_174 hl (by decide) rfl (fun ls hl => ?_)
  refine lv_aload_n hx hb dL_law_176 rfl (lv_at hl 3 rfl) ?_
  refine lr_M (As := []) (rest := []) C hI (c_M_start l D cI ρM 2 (by decide) hB) gL_60 hdL_M_start (by decide) (by decide) ⟨by omega, by omega⟩ hl.1 rfl (Nat.le_of_ble_eq_true rfl) dL_law_177 (fun H locs hI => ?_)
  refine lv_istore (lv' := [(6, .int bv), (5, .int kr), (0, .ref b), (1, .ref (ρC 0)), (2, .ref (ρM 0)), (3, .ref q), (4, .int x4)]) hx hb dL_law_180 hl (by decide) rfl (fun ls hl => ?_)
  refine lv_aload_n hx hb dL_law_182 rfl (lv_at hl 4 rfl) ?_
  refine lr_M (As := []) (rest := []) C hI (c_M_thrown l D cI ρM 1 (by decide) hT) gL_49 hdL_M_thrown (by decide) (by decide) ⟨by omega, by omega⟩ hl.1 rfl (Nat.le_of_ble_eq_true rfl) dL_law_183 (fun H locs hI => ?_)
  refine lv_iload hx hb dL_law_186 (lv_at hl 1 rfl) ?_
  refine lv_icmp_eq (tgt := 193) hx hb dL_law_188 (by decide) (fun _ => ?_) (fun c1 => absurd rfl c1)
  refine lv_iload hx hb dL_law_193 (lv_at hl 1 rfl) ?_
  refine lv_if_ne (tgt := 217) hx hb dL_law_195 (by decide) (fun c1 => ?_) (fun c1 => ?_)
  · refine lv_goto (tgt := 537) hx hb dL_law_217 (by decide) ?_
    exact hnext H locs ls hI (lv_sub hl [2, 3, 4, 5, 6] rfl)
  · have hO := hO c1
    refine lv_aload_n hx hb dL_law_198 rfl (lv_at hl 5 rfl) ?_
    refine lv_iconst (v := 0) hx hb dL_law_199 (by decide) ?_
    refine va_lald hx hb hK hI.1 24 1 lw_out rfl (vp_in_nI (n := 0) (N := 1) (by decide) (by decide)) dL_law_200 ?_
    refine lv_iload hx hb dL_law_201 (lv_at hl 0 rfl) ?_
    refine lv_if_eq (tgt := 210) hx hb dL_law_203 (by decide) (fun c2 => ?_) (fun c2 => ?_)
    · rw [if_pos c2] at hO
      refine lv_lconst (v := 0) hx hb dL_law_210 rfl ?_
      refine W.lcmp hx hb dL_law_211 ?_
      rw [show fo' (0 : Int32).toNatClampNeg = 0 from hO, lg_eq]
      refine lv_if_eq (tgt := 217) hx hb dL_law_212 (by decide) (fun _ => ?_) (fun c3 => absurd rfl c3)
      refine lv_goto (tgt := 537) hx hb dL_law_217 (by decide) ?_
      exact hnext H locs ls hI (lv_sub hl [2, 3, 4, 5, 6] rfl)
    · rw [if_neg c2] at hO
      refine lv_lconst (v := 1) hx hb dL_law_206 rfl ?_
      refine lv_goto (tgt := 211) hx hb dL_law_207 (by decide) ?_
      refine W.lcmp hx hb dL_law_211 ?_
      rw [show fo' (0 : Int32).toNatClampNeg = 1 from hO, lg_eq]
      refine lv_if_eq (tgt := 217) hx hb dL_law_212 (by decide) (fun _ => ?_) (fun c3 => absurd rfl c3)
      refine lv_goto (tgt := 537) hx hb dL_law_217 (by decide) ?_
      exact hnext H locs ls hI (lv_sub hl [2, 3, 4, 5, 6] rfl)

theorem gL_61 : GoodIn wg (va_wsS RL 61 yL_key (Cond.codeWith yL_key cL_key 4 (some .int) [(0, 9, 12, 13), (0, 9, 15, 15)] :: wg)) := gi_SW wM_L_61 wS_L_key wI_L wCW_key
theorem hdL_W_key : yL_key.cls ≠ "java/lang/invoke/MethodHandle" ∧ yL_key.cls ≠ "java/lang/invoke/VarHandle" ∧ (parseMethodDescriptor yL_key.desc).map (fun d => d.parameters.length) = some 3 := by decide +kernel
theorem gL_64 : GoodIn wg (wsV RL 64 RX6 yX6_key (wm yX6_key cX6_key 2 (some .int))) := gi_V wM_L_64 wN_X6_key wV_X6_key wI_X6 wC_X6_key
theorem hdL_M_key : yX6_key.cls = RX6 ∧ yX6_key.cls ≠ "java/lang/invoke/MethodHandle" ∧ yX6_key.cls ≠ "java/lang/invoke/VarHandle" ∧ (parseMethodDescriptor yX6_key.desc).map (fun d => d.parameters.length) = some 1 := by decide +kernel
set_option maxHeartbeats 4000000 in
set_option maxRecDepth 100000 in
theorem law_key {p : Program} {l : Launch} {e : Env} {s : State} {m : MethodId} {below : List Frame} {meth : Method} {c : Code} {H : Heap} {locs : List Loc} {cells slots : Nat} {Q : State → Prop} {D : va_G} {cI cL : ClassId} {ρC ρM : Nat → Nat} {q : Nat} {ν ν' μ μ' : St} {fo fo' : Nat → Int64} {ls : Array Slot} {b L N : Nat} {xs : Nat → Int32} (C : LC p s m b L xs c D cI cL) {x4 p0 p1 : Int32} (h1 : vp_in (x4 + 1) L) (h2 : vp_in (x4 + 2) L) (e1 : p0 = xs (x4 + 1).toNatClampNeg) (e2 : p1 = xs (x4 + 2).toNatClampNeg) (hcs : cells + 1 ≤ 600128 ∧ slots + 6 ≤ 7301098) (hI : LI D cI cL ρC ρM q s ν μ fo H locs) (hl : lv_has ls 7 [(0, .ref b), (1, .ref (ρC 0)), (2, .ref (ρM 0)), (3, .ref q), (4, .int x4)]) {kr bv : Int32} (hW : CW l yL_key cL_key 4 [(0, 9, 12, 13), (0, 9, 15, 15)] 7 cI cL D ρC q [.ref (ρC 0), .int p0, .ref q] ν fo kr ν' fo') (hB : f_M_key p0 μ = some (bv, μ')) (hT : f_M_thrown μ' = some kr) (hO : kr = 0 → fo' 0 = bv.toInt64) (hnext : ∀ (H : Heap) (locs : List Loc) (ls : Array Slot), LI D cI cL ρC ρM q s ν' μ' fo' H locs → lv_has ls 7 [(0, .ref b), (1, .ref (ρC 0)), (2, .ref (ρM 0)), (3, .ref q), (4, .int x4)] → W p l e room_1 s m #[.ref b] below meth c H locs (cells + 1) (slots + 6) Q (F0 m 537 ls [])) : W p l e room_1 s m #[.ref b] below meth c H locs cells slots Q (F0 m 220 ls []) := by
  have hx := C.1.1
  have hb := C.1.2.1
  have hK := C.2.1
  have hX := C.2.2.2.1
  have hbl := C.2.2.2.2
  have hbA : ¬ lA s b := Nat.not_le.mpr hbl
  have hcs0 : cells ≤ 600128 ∧ slots ≤ 7301098 := ⟨by omega, by omega⟩
  refine lv_aload_n hx hb dL_law_220 rfl (lv_at hl 1 rfl) ?_
  refine lv_aload_n hx hb dL_law_221 rfl (lv_at hl 0 rfl) ?_
  refine lv_iload hx hb dL_law_222 (lv_at hl 4 rfl) ?_
  refine lv_iconst (v := 1) hx hb dL_law_224 (by decide) ?_
  refine lv_iadd hx hb dL_law_225 ?_
  refine va_sld hx hb hX hbl hbA hI.2.2 h1 dL_law_226 ?_
  refine rg_top e1 ?_
  refine lv_aload_n hx hb dL_law_227 rfl (lv_at hl 3 rfl) ?_
  refine lr_W (As := [.ref (ρC 0), .int p0, .ref q]) (rest := []) C hI hW gL_61 hdL_W_key (by decide) (by decide) hcs hl.1 rfl (Nat.le_of_ble_eq_true rfl) dL_law_228 (fun H locs hI => ?_)
  refine lv_istore (lv' := [(5, .int kr), (0, .ref b), (1, .ref (ρC 0)), (2, .ref (ρM 0)), (3, .ref q), (4, .int x4)]) hx hb dL_law_231 hl (by decide) rfl (fun ls hl => ?_)
  refine lv_aload_n hx hb dL_law_233 rfl (lv_at hl 3 rfl) ?_
  refine lv_aload_n hx hb dL_law_234 rfl (lv_at hl 1 rfl) ?_
  refine lv_iload hx hb dL_law_235 (lv_at hl 5 rfl) ?_
  refine lv_iconst (v := 1) hx hb dL_law_237 (by decide) ?_
  refine lv_iadd hx hb dL_law_238 ?_
  refine va_sld hx hb hX hbl hbA hI.2.2 h1 dL_law_239 ?_
  refine rg_top e1 ?_
  refine lr_M (As := [.int p0]) (rest := []) C hI (c_M_key l D cI ρM 1 (by decide) hB) gL_64 hdL_M_key (by decide) (by decide) ⟨by omega, by omega⟩ hl.1 rfl (Nat.le_of_ble_eq_true rfl) dL_law_240 (fun H locs hI => ?_)
  refine lv_istore (lv' := [(6, .int bv), (5, .int kr), (0, .ref b), (1, .ref (ρC 0)), (2, .ref (ρM 0)), (3, .ref q), (4, .int x4)]) hx hb dL_law_243 hl (by decide) rfl (fun ls hl => ?_)
  refine lv_aload_n hx hb dL_law_245 rfl (lv_at hl 4 rfl) ?_
  refine lr_M (As := []) (rest := []) C hI (c_M_thrown l D cI ρM 1 (by decide) hT) gL_49 hdL_M_thrown (by decide) (by decide) ⟨by omega, by omega⟩ hl.1 rfl (Nat.le_of_ble_eq_true rfl) dL_law_246 (fun H locs hI => ?_)
  refine lv_iload hx hb dL_law_249 (lv_at hl 1 rfl) ?_
  refine lv_icmp_eq (tgt := 256) hx hb dL_law_251 (by decide) (fun _ => ?_) (fun c1 => absurd rfl c1)
  refine lv_iload hx hb dL_law_256 (lv_at hl 1 rfl) ?_
  refine lv_if_ne (tgt := 273) hx hb dL_law_258 (by decide) (fun c1 => ?_) (fun c1 => ?_)
  · refine lv_goto (tgt := 537) hx hb dL_law_273 (by decide) ?_
    exact hnext H locs ls hI (lv_sub hl [2, 3, 4, 5, 6] rfl)
  · have hO := hO c1
    refine lv_aload_n hx hb dL_law_261 rfl (lv_at hl 5 rfl) ?_
    refine lv_iconst (v := 0) hx hb dL_law_262 (by decide) ?_
    refine va_lald hx hb hK hI.1 24 1 lw_out rfl (vp_in_nI (n := 0) (N := 1) (by decide) (by decide)) dL_law_263 ?_
    refine lv_iload hx hb dL_law_264 (lv_at hl 0 rfl) ?_
    refine lv_i2l hx hb dL_law_266 rfl ?_
    refine W.lcmp hx hb dL_law_267 ?_
    rw [show fo' (0 : Int32).toNatClampNeg = bv.toInt64 from hO, lg_eq]
    refine lv_if_eq (tgt := 273) hx hb dL_law_268 (by decide) (fun _ => ?_) (fun c3 => absurd rfl c3)
    refine lv_goto (tgt := 537) hx hb dL_law_273 (by decide) ?_
    exact hnext H locs ls hI (lv_sub hl [2, 3, 4, 5, 6] rfl)

theorem gL_65 : GoodIn wg (va_wsS RL 65 yL_run (Cond.codeWith yL_run cL_run 4 (some .int) [(0, 9, 12, 13), (0, 9, 15, 15)] :: wg)) := gi_SW wM_L_65 wS_L_run wI_L wCW_run
theorem hdL_W_run : yL_run.cls ≠ "java/lang/invoke/MethodHandle" ∧ yL_run.cls ≠ "java/lang/invoke/VarHandle" ∧ (parseMethodDescriptor yL_run.desc).map (fun d => d.parameters.length) = some 3 := by decide +kernel
theorem gL_67 : GoodIn wg (wsV RL 67 RX6 yX6_run (wm yX6_run cX6_run 4 (some .int))) := gi_V wM_L_67 wN_X6_run wV_X6_run wI_X6 wC_X6_run
theorem hdL_M_run : yX6_run.cls = RX6 ∧ yX6_run.cls ≠ "java/lang/invoke/MethodHandle" ∧ yX6_run.cls ≠ "java/lang/invoke/VarHandle" ∧ (parseMethodDescriptor yX6_run.desc).map (fun d => d.parameters.length) = some 1 := by decide +kernel
set_option maxHeartbeats 4000000 in
set_option maxRecDepth 100000 in
theorem law_run {p : Program} {l : Launch} {e : Env} {s : State} {m : MethodId} {below : List Frame} {meth : Method} {c : Code} {H : Heap} {locs : List Loc} {cells slots : Nat} {Q : State → Prop} {D : va_G} {cI cL : ClassId} {ρC ρM : Nat → Nat} {q : Nat} {ν ν' μ μ' : St} {fo fo' : Nat → Int64} {ls : Array Slot} {b L N : Nat} {xs : Nat → Int32} (C : LC p s m b L xs c D cI cL) {x4 p0 p1 : Int32} (h1 : vp_in (x4 + 1) L) (h2 : vp_in (x4 + 2) L) (e1 : p0 = xs (x4 + 1).toNatClampNeg) (e2 : p1 = xs (x4 + 2).toNatClampNeg) (hcs : cells + 1 ≤ 600128 ∧ slots + 6 ≤ 7301098) (hI : LI D cI cL ρC ρM q s ν μ fo H locs) (hl : lv_has ls 7 [(0, .ref b), (1, .ref (ρC 0)), (2, .ref (ρM 0)), (3, .ref q), (4, .int x4)]) {kr bv : Int32} (hW : CW l yL_run cL_run 4 [(0, 9, 12, 13), (0, 9, 15, 15)] 8 cI cL D ρC q [.ref (ρC 0), .int p0, .ref q] ν fo kr ν' fo') (hB : f_M_run N p0 μ = some (bv, μ')) (hT : f_M_thrown μ' = some kr) (hO : kr = 0 → fo' 0 = bv.toInt64) (hnext : ∀ (H : Heap) (locs : List Loc) (ls : Array Slot), LI D cI cL ρC ρM q s ν' μ' fo' H locs → lv_has ls 7 [(0, .ref b), (1, .ref (ρC 0)), (2, .ref (ρM 0)), (3, .ref q), (4, .int x4)] → W p l e room_1 s m #[.ref b] below meth c H locs (cells + 1) (slots + 6) Q (F0 m 537 ls [])) : W p l e room_1 s m #[.ref b] below meth c H locs cells slots Q (F0 m 276 ls []) := by
  have hx := C.1.1
  have hb := C.1.2.1
  have hK := C.2.1
  have hX := C.2.2.2.1
  have hbl := C.2.2.2.2
  have hbA : ¬ lA s b := Nat.not_le.mpr hbl
  have hcs0 : cells ≤ 600128 ∧ slots ≤ 7301098 := ⟨by omega, by omega⟩
  refine lv_aload_n hx hb dL_law_276 rfl (lv_at hl 1 rfl) ?_
  refine lv_aload_n hx hb dL_law_277 rfl (lv_at hl 0 rfl) ?_
  refine lv_iload hx hb dL_law_278 (lv_at hl 4 rfl) ?_
  refine lv_iconst (v := 1) hx hb dL_law_280 (by decide) ?_
  refine lv_iadd hx hb dL_law_281 ?_
  refine va_sld hx hb hX hbl hbA hI.2.2 h1 dL_law_282 ?_
  refine rg_top e1 ?_
  refine lv_aload_n hx hb dL_law_283 rfl (lv_at hl 3 rfl) ?_
  refine lr_W (As := [.ref (ρC 0), .int p0, .ref q]) (rest := []) C hI hW gL_65 hdL_W_run (by decide) (by decide) hcs hl.1 rfl (Nat.le_of_ble_eq_true rfl) dL_law_284 (fun H locs hI => ?_)
  refine lv_istore (lv' := [(5, .int kr), (0, .ref b), (1, .ref (ρC 0)), (2, .ref (ρM 0)), (3, .ref q), (4, .int x4)]) hx hb dL_law_287 hl (by decide) rfl (fun ls hl => ?_)
  refine lv_aload_n hx hb dL_law_289 rfl (lv_at hl 3 rfl) ?_
  refine lv_aload_n hx hb dL_law_290 rfl (lv_at hl 1 rfl) ?_
  refine lv_iload hx hb dL_law_291 (lv_at hl 5 rfl) ?_
  refine lv_iconst (v := 1) hx hb dL_law_293 (by decide) ?_
  refine lv_iadd hx hb dL_law_294 ?_
  refine va_sld hx hb hX hbl hbA hI.2.2 h1 dL_law_295 ?_
  refine rg_top e1 ?_
  refine lr_M (As := [.int p0]) (rest := []) C hI (c_M_run l D cI ρM 5 (by decide) hB) gL_67 hdL_M_run (by decide) (by decide) ⟨by omega, by omega⟩ hl.1 rfl (Nat.le_of_ble_eq_true rfl) dL_law_296 (fun H locs hI => ?_)
  refine lv_istore (lv' := [(6, .int bv), (5, .int kr), (0, .ref b), (1, .ref (ρC 0)), (2, .ref (ρM 0)), (3, .ref q), (4, .int x4)]) hx hb dL_law_299 hl (by decide) rfl (fun ls hl => ?_)
  refine lv_aload_n hx hb dL_law_301 rfl (lv_at hl 4 rfl) ?_
  refine lr_M (As := []) (rest := []) C hI (c_M_thrown l D cI ρM 1 (by decide) hT) gL_49 hdL_M_thrown (by decide) (by decide) ⟨by omega, by omega⟩ hl.1 rfl (Nat.le_of_ble_eq_true rfl) dL_law_302 (fun H locs hI => ?_)
  refine lv_iload hx hb dL_law_305 (lv_at hl 1 rfl) ?_
  refine lv_icmp_eq (tgt := 312) hx hb dL_law_307 (by decide) (fun _ => ?_) (fun c1 => absurd rfl c1)
  refine lv_iload hx hb dL_law_312 (lv_at hl 1 rfl) ?_
  refine lv_if_ne (tgt := 329) hx hb dL_law_314 (by decide) (fun c1 => ?_) (fun c1 => ?_)
  · refine lv_goto (tgt := 537) hx hb dL_law_329 (by decide) ?_
    exact hnext H locs ls hI (lv_sub hl [2, 3, 4, 5, 6] rfl)
  · have hO := hO c1
    refine lv_aload_n hx hb dL_law_317 rfl (lv_at hl 5 rfl) ?_
    refine lv_iconst (v := 0) hx hb dL_law_318 (by decide) ?_
    refine va_lald hx hb hK hI.1 24 1 lw_out rfl (vp_in_nI (n := 0) (N := 1) (by decide) (by decide)) dL_law_319 ?_
    refine lv_iload hx hb dL_law_320 (lv_at hl 0 rfl) ?_
    refine lv_i2l hx hb dL_law_322 rfl ?_
    refine W.lcmp hx hb dL_law_323 ?_
    rw [show fo' (0 : Int32).toNatClampNeg = bv.toInt64 from hO, lg_eq]
    refine lv_if_eq (tgt := 329) hx hb dL_law_324 (by decide) (fun _ => ?_) (fun c3 => absurd rfl c3)
    refine lv_goto (tgt := 537) hx hb dL_law_329 (by decide) ?_
    exact hnext H locs ls hI (lv_sub hl [2, 3, 4, 5, 6] rfl)

theorem gL_68 : GoodIn wg (va_wsS RL 68 yL_shown (Cond.codeWith yL_shown cL_shown 4 (some .int) [(0, 9, 12, 31)] :: wg)) := gi_SW wM_L_68 wS_L_shown wI_L wCW_shown
theorem hdL_W_shown : yL_shown.cls ≠ "java/lang/invoke/MethodHandle" ∧ yL_shown.cls ≠ "java/lang/invoke/VarHandle" ∧ (parseMethodDescriptor yL_shown.desc).map (fun d => d.parameters.length) = some 3 := by decide +kernel
theorem gL_70 : GoodIn wg (wsV RL 70 RX6 yX6_shown (wm yX6_shown cX6_shown 2 (some .int))) := gi_V wM_L_70 wN_X6_shown wV_X6_shown wI_X6 wC_X6_shown
theorem hdL_M_shown : yX6_shown.cls = RX6 ∧ yX6_shown.cls ≠ "java/lang/invoke/MethodHandle" ∧ yX6_shown.cls ≠ "java/lang/invoke/VarHandle" ∧ (parseMethodDescriptor yX6_shown.desc).map (fun d => d.parameters.length) = some 1 := by decide +kernel
set_option maxHeartbeats 4000000 in
set_option maxRecDepth 100000 in
theorem law_shown {p : Program} {l : Launch} {e : Env} {s : State} {m : MethodId} {below : List Frame} {meth : Method} {c : Code} {H : Heap} {locs : List Loc} {cells slots : Nat} {Q : State → Prop} {D : va_G} {cI cL : ClassId} {ρC ρM : Nat → Nat} {q : Nat} {ν ν' μ μ' : St} {fo fo' : Nat → Int64} {ls : Array Slot} {b L N : Nat} {xs : Nat → Int32} (C : LC p s m b L xs c D cI cL) {x4 p0 p1 : Int32} (h1 : vp_in (x4 + 1) L) (h2 : vp_in (x4 + 2) L) (e1 : p0 = xs (x4 + 1).toNatClampNeg) (e2 : p1 = xs (x4 + 2).toNatClampNeg) (hcs : cells + 1 ≤ 600128 ∧ slots + 6 ≤ 7301098) (hI : LI D cI cL ρC ρM q s ν μ fo H locs) (hl : lv_has ls 7 [(0, .ref b), (1, .ref (ρC 0)), (2, .ref (ρM 0)), (3, .ref q), (4, .int x4)]) {kr bv : Int32} (hW : CW l yL_shown cL_shown 4 [(0, 9, 12, 31)] 7 cI cL D ρC q [.ref (ρC 0), .int p0, .ref q] ν fo kr ν' fo') (hB : f_M_shown p0 μ = some (bv, μ')) (hT : f_M_thrown μ' = some kr) (hO : kr = 0 → fo' 0 = bv.toInt64) (hnext : ∀ (H : Heap) (locs : List Loc) (ls : Array Slot), LI D cI cL ρC ρM q s ν' μ' fo' H locs → lv_has ls 7 [(0, .ref b), (1, .ref (ρC 0)), (2, .ref (ρM 0)), (3, .ref q), (4, .int x4)] → W p l e room_1 s m #[.ref b] below meth c H locs (cells + 1) (slots + 6) Q (F0 m 537 ls [])) : W p l e room_1 s m #[.ref b] below meth c H locs cells slots Q (F0 m 332 ls []) := by
  have hx := C.1.1
  have hb := C.1.2.1
  have hK := C.2.1
  have hX := C.2.2.2.1
  have hbl := C.2.2.2.2
  have hbA : ¬ lA s b := Nat.not_le.mpr hbl
  have hcs0 : cells ≤ 600128 ∧ slots ≤ 7301098 := ⟨by omega, by omega⟩
  refine lv_aload_n hx hb dL_law_332 rfl (lv_at hl 1 rfl) ?_
  refine lv_aload_n hx hb dL_law_333 rfl (lv_at hl 0 rfl) ?_
  refine lv_iload hx hb dL_law_334 (lv_at hl 4 rfl) ?_
  refine lv_iconst (v := 1) hx hb dL_law_336 (by decide) ?_
  refine lv_iadd hx hb dL_law_337 ?_
  refine va_sld hx hb hX hbl hbA hI.2.2 h1 dL_law_338 ?_
  refine rg_top e1 ?_
  refine lv_aload_n hx hb dL_law_339 rfl (lv_at hl 3 rfl) ?_
  refine lr_W (As := [.ref (ρC 0), .int p0, .ref q]) (rest := []) C hI hW gL_68 hdL_W_shown (by decide) (by decide) hcs hl.1 rfl (Nat.le_of_ble_eq_true rfl) dL_law_340 (fun H locs hI => ?_)
  refine lv_istore (lv' := [(5, .int kr), (0, .ref b), (1, .ref (ρC 0)), (2, .ref (ρM 0)), (3, .ref q), (4, .int x4)]) hx hb dL_law_343 hl (by decide) rfl (fun ls hl => ?_)
  refine lv_aload_n hx hb dL_law_345 rfl (lv_at hl 3 rfl) ?_
  refine lv_aload_n hx hb dL_law_346 rfl (lv_at hl 1 rfl) ?_
  refine lv_iload hx hb dL_law_347 (lv_at hl 5 rfl) ?_
  refine lv_iconst (v := 1) hx hb dL_law_349 (by decide) ?_
  refine lv_iadd hx hb dL_law_350 ?_
  refine va_sld hx hb hX hbl hbA hI.2.2 h1 dL_law_351 ?_
  refine rg_top e1 ?_
  refine lr_M (As := [.int p0]) (rest := []) C hI (c_M_shown l D cI ρM 1 (by decide) hB) gL_70 hdL_M_shown (by decide) (by decide) ⟨by omega, by omega⟩ hl.1 rfl (Nat.le_of_ble_eq_true rfl) dL_law_352 (fun H locs hI => ?_)
  refine lv_istore (lv' := [(6, .int bv), (5, .int kr), (0, .ref b), (1, .ref (ρC 0)), (2, .ref (ρM 0)), (3, .ref q), (4, .int x4)]) hx hb dL_law_355 hl (by decide) rfl (fun ls hl => ?_)
  refine lv_aload_n hx hb dL_law_357 rfl (lv_at hl 4 rfl) ?_
  refine lr_M (As := []) (rest := []) C hI (c_M_thrown l D cI ρM 1 (by decide) hT) gL_49 hdL_M_thrown (by decide) (by decide) ⟨by omega, by omega⟩ hl.1 rfl (Nat.le_of_ble_eq_true rfl) dL_law_358 (fun H locs hI => ?_)
  refine lv_iload hx hb dL_law_361 (lv_at hl 1 rfl) ?_
  refine lv_icmp_eq (tgt := 368) hx hb dL_law_363 (by decide) (fun _ => ?_) (fun c1 => absurd rfl c1)
  refine lv_iload hx hb dL_law_368 (lv_at hl 1 rfl) ?_
  refine lv_if_ne (tgt := 385) hx hb dL_law_370 (by decide) (fun c1 => ?_) (fun c1 => ?_)
  · refine lv_goto (tgt := 537) hx hb dL_law_385 (by decide) ?_
    exact hnext H locs ls hI (lv_sub hl [2, 3, 4, 5, 6] rfl)
  · have hO := hO c1
    refine lv_aload_n hx hb dL_law_373 rfl (lv_at hl 5 rfl) ?_
    refine lv_iconst (v := 0) hx hb dL_law_374 (by decide) ?_
    refine va_lald hx hb hK hI.1 24 1 lw_out rfl (vp_in_nI (n := 0) (N := 1) (by decide) (by decide)) dL_law_375 ?_
    refine lv_iload hx hb dL_law_376 (lv_at hl 0 rfl) ?_
    refine lv_i2l hx hb dL_law_378 rfl ?_
    refine W.lcmp hx hb dL_law_379 ?_
    rw [show fo' (0 : Int32).toNatClampNeg = bv.toInt64 from hO, lg_eq]
    refine lv_if_eq (tgt := 385) hx hb dL_law_380 (by decide) (fun _ => ?_) (fun c3 => absurd rfl c3)
    refine lv_goto (tgt := 537) hx hb dL_law_385 (by decide) ?_
    exact hnext H locs ls hI (lv_sub hl [2, 3, 4, 5, 6] rfl)

theorem gL_71 : GoodIn wg (va_wsS RL 71 yL_global (Cond.codeWith yL_global cL_global 4 (some .int) [(0, 9, 12, 31)] :: wg)) := gi_SW wM_L_71 wS_L_global wI_L wCW_global
theorem hdL_W_global : yL_global.cls ≠ "java/lang/invoke/MethodHandle" ∧ yL_global.cls ≠ "java/lang/invoke/VarHandle" ∧ (parseMethodDescriptor yL_global.desc).map (fun d => d.parameters.length) = some 3 := by decide +kernel
theorem gL_73 : GoodIn wg (wsV RL 73 RX6 yX6_global (wm yX6_global cX6_global 2 (some .int))) := gi_V wM_L_73 wN_X6_global wV_X6_global wI_X6 wC_X6_global
theorem hdL_M_global : yX6_global.cls = RX6 ∧ yX6_global.cls ≠ "java/lang/invoke/MethodHandle" ∧ yX6_global.cls ≠ "java/lang/invoke/VarHandle" ∧ (parseMethodDescriptor yX6_global.desc).map (fun d => d.parameters.length) = some 1 := by decide +kernel
set_option maxHeartbeats 4000000 in
set_option maxRecDepth 100000 in
theorem law_global {p : Program} {l : Launch} {e : Env} {s : State} {m : MethodId} {below : List Frame} {meth : Method} {c : Code} {H : Heap} {locs : List Loc} {cells slots : Nat} {Q : State → Prop} {D : va_G} {cI cL : ClassId} {ρC ρM : Nat → Nat} {q : Nat} {ν ν' μ μ' : St} {fo fo' : Nat → Int64} {ls : Array Slot} {b L N : Nat} {xs : Nat → Int32} (C : LC p s m b L xs c D cI cL) {x4 p0 p1 : Int32} (h1 : vp_in (x4 + 1) L) (h2 : vp_in (x4 + 2) L) (e1 : p0 = xs (x4 + 1).toNatClampNeg) (e2 : p1 = xs (x4 + 2).toNatClampNeg) (hcs : cells + 1 ≤ 600128 ∧ slots + 6 ≤ 7301098) (hI : LI D cI cL ρC ρM q s ν μ fo H locs) (hl : lv_has ls 7 [(0, .ref b), (1, .ref (ρC 0)), (2, .ref (ρM 0)), (3, .ref q), (4, .int x4)]) {kr bv : Int32} (hW : CW l yL_global cL_global 4 [(0, 9, 12, 31)] 7 cI cL D ρC q [.ref (ρC 0), .int p0, .ref q] ν fo kr ν' fo') (hB : f_M_global p0 μ = some (bv, μ')) (hT : f_M_thrown μ' = some kr) (hO : kr = 0 → fo' 0 = bv.toInt64) (hnext : ∀ (H : Heap) (locs : List Loc) (ls : Array Slot), LI D cI cL ρC ρM q s ν' μ' fo' H locs → lv_has ls 7 [(0, .ref b), (1, .ref (ρC 0)), (2, .ref (ρM 0)), (3, .ref q), (4, .int x4)] → W p l e room_1 s m #[.ref b] below meth c H locs (cells + 1) (slots + 6) Q (F0 m 537 ls [])) : W p l e room_1 s m #[.ref b] below meth c H locs cells slots Q (F0 m 388 ls []) := by
  have hx := C.1.1
  have hb := C.1.2.1
  have hK := C.2.1
  have hX := C.2.2.2.1
  have hbl := C.2.2.2.2
  have hbA : ¬ lA s b := Nat.not_le.mpr hbl
  have hcs0 : cells ≤ 600128 ∧ slots ≤ 7301098 := ⟨by omega, by omega⟩
  refine lv_aload_n hx hb dL_law_388 rfl (lv_at hl 1 rfl) ?_
  refine lv_aload_n hx hb dL_law_389 rfl (lv_at hl 0 rfl) ?_
  refine lv_iload hx hb dL_law_390 (lv_at hl 4 rfl) ?_
  refine lv_iconst (v := 1) hx hb dL_law_392 (by decide) ?_
  refine lv_iadd hx hb dL_law_393 ?_
  refine va_sld hx hb hX hbl hbA hI.2.2 h1 dL_law_394 ?_
  refine rg_top e1 ?_
  refine lv_aload_n hx hb dL_law_395 rfl (lv_at hl 3 rfl) ?_
  refine lr_W (As := [.ref (ρC 0), .int p0, .ref q]) (rest := []) C hI hW gL_71 hdL_W_global (by decide) (by decide) hcs hl.1 rfl (Nat.le_of_ble_eq_true rfl) dL_law_396 (fun H locs hI => ?_)
  refine lv_istore (lv' := [(5, .int kr), (0, .ref b), (1, .ref (ρC 0)), (2, .ref (ρM 0)), (3, .ref q), (4, .int x4)]) hx hb dL_law_399 hl (by decide) rfl (fun ls hl => ?_)
  refine lv_aload_n hx hb dL_law_401 rfl (lv_at hl 3 rfl) ?_
  refine lv_aload_n hx hb dL_law_402 rfl (lv_at hl 1 rfl) ?_
  refine lv_iload hx hb dL_law_403 (lv_at hl 5 rfl) ?_
  refine lv_iconst (v := 1) hx hb dL_law_405 (by decide) ?_
  refine lv_iadd hx hb dL_law_406 ?_
  refine va_sld hx hb hX hbl hbA hI.2.2 h1 dL_law_407 ?_
  refine rg_top e1 ?_
  refine lr_M (As := [.int p0]) (rest := []) C hI (c_M_global l D cI ρM 1 (by decide) hB) gL_73 hdL_M_global (by decide) (by decide) ⟨by omega, by omega⟩ hl.1 rfl (Nat.le_of_ble_eq_true rfl) dL_law_408 (fun H locs hI => ?_)
  refine lv_istore (lv' := [(6, .int bv), (5, .int kr), (0, .ref b), (1, .ref (ρC 0)), (2, .ref (ρM 0)), (3, .ref q), (4, .int x4)]) hx hb dL_law_411 hl (by decide) rfl (fun ls hl => ?_)
  refine lv_aload_n hx hb dL_law_413 rfl (lv_at hl 4 rfl) ?_
  refine lr_M (As := []) (rest := []) C hI (c_M_thrown l D cI ρM 1 (by decide) hT) gL_49 hdL_M_thrown (by decide) (by decide) ⟨by omega, by omega⟩ hl.1 rfl (Nat.le_of_ble_eq_true rfl) dL_law_414 (fun H locs hI => ?_)
  refine lv_iload hx hb dL_law_417 (lv_at hl 1 rfl) ?_
  refine lv_icmp_eq (tgt := 424) hx hb dL_law_419 (by decide) (fun _ => ?_) (fun c1 => absurd rfl c1)
  refine lv_iload hx hb dL_law_424 (lv_at hl 1 rfl) ?_
  refine lv_if_ne (tgt := 441) hx hb dL_law_426 (by decide) (fun c1 => ?_) (fun c1 => ?_)
  · refine lv_goto (tgt := 537) hx hb dL_law_441 (by decide) ?_
    exact hnext H locs ls hI (lv_sub hl [2, 3, 4, 5, 6] rfl)
  · have hO := hO c1
    refine lv_aload_n hx hb dL_law_429 rfl (lv_at hl 5 rfl) ?_
    refine lv_iconst (v := 0) hx hb dL_law_430 (by decide) ?_
    refine va_lald hx hb hK hI.1 24 1 lw_out rfl (vp_in_nI (n := 0) (N := 1) (by decide) (by decide)) dL_law_431 ?_
    refine lv_iload hx hb dL_law_432 (lv_at hl 0 rfl) ?_
    refine lv_i2l hx hb dL_law_434 rfl ?_
    refine W.lcmp hx hb dL_law_435 ?_
    rw [show fo' (0 : Int32).toNatClampNeg = bv.toInt64 from hO, lg_eq]
    refine lv_if_eq (tgt := 441) hx hb dL_law_436 (by decide) (fun _ => ?_) (fun c3 => absurd rfl c3)
    refine lv_goto (tgt := 537) hx hb dL_law_441 (by decide) ?_
    exact hnext H locs ls hI (lv_sub hl [2, 3, 4, 5, 6] rfl)

theorem gL_74 : GoodIn wg (va_wsS RL 74 yL_array (Cond.codeWith yL_array cL_array 5 (some .int) [(0, 10, 13, 31)] :: wg)) := gi_SW wM_L_74 wS_L_array wI_L wCW_array
theorem hdL_W_array : yL_array.cls ≠ "java/lang/invoke/MethodHandle" ∧ yL_array.cls ≠ "java/lang/invoke/VarHandle" ∧ (parseMethodDescriptor yL_array.desc).map (fun d => d.parameters.length) = some 4 := by decide +kernel
theorem gL_76 : GoodIn wg (wsV RL 76 RX6 yX6_array (wm yX6_array cX6_array 3 (some .int))) := gi_V wM_L_76 wN_X6_array wV_X6_array wI_X6 wC_X6_array
theorem hdL_M_array : yX6_array.cls = RX6 ∧ yX6_array.cls ≠ "java/lang/invoke/MethodHandle" ∧ yX6_array.cls ≠ "java/lang/invoke/VarHandle" ∧ (parseMethodDescriptor yX6_array.desc).map (fun d => d.parameters.length) = some 2 := by decide +kernel
set_option maxHeartbeats 4000000 in
set_option maxRecDepth 100000 in
theorem law_array {p : Program} {l : Launch} {e : Env} {s : State} {m : MethodId} {below : List Frame} {meth : Method} {c : Code} {H : Heap} {locs : List Loc} {cells slots : Nat} {Q : State → Prop} {D : va_G} {cI cL : ClassId} {ρC ρM : Nat → Nat} {q : Nat} {ν ν' μ μ' : St} {fo fo' : Nat → Int64} {ls : Array Slot} {b L N : Nat} {xs : Nat → Int32} (C : LC p s m b L xs c D cI cL) {x4 p0 p1 : Int32} (h1 : vp_in (x4 + 1) L) (h2 : vp_in (x4 + 2) L) (e1 : p0 = xs (x4 + 1).toNatClampNeg) (e2 : p1 = xs (x4 + 2).toNatClampNeg) (hcs : cells + 1 ≤ 600128 ∧ slots + 6 ≤ 7301098) (hI : LI D cI cL ρC ρM q s ν μ fo H locs) (hl : lv_has ls 7 [(0, .ref b), (1, .ref (ρC 0)), (2, .ref (ρM 0)), (3, .ref q), (4, .int x4)]) {kr bv : Int32} (hW : CW l yL_array cL_array 5 [(0, 10, 13, 31)] 7 cI cL D ρC q [.ref (ρC 0), .int p0, .int p1, .ref q] ν fo kr ν' fo') (hB : f_M_array p0 p1 μ = some (bv, μ')) (hT : f_M_thrown μ' = some kr) (hO : kr = 0 → fo' 0 = bv.toInt64) (hnext : ∀ (H : Heap) (locs : List Loc) (ls : Array Slot), LI D cI cL ρC ρM q s ν' μ' fo' H locs → lv_has ls 7 [(0, .ref b), (1, .ref (ρC 0)), (2, .ref (ρM 0)), (3, .ref q), (4, .int x4)] → W p l e room_1 s m #[.ref b] below meth c H locs (cells + 1) (slots + 6) Q (F0 m 537 ls [])) : W p l e room_1 s m #[.ref b] below meth c H locs cells slots Q (F0 m 444 ls []) := by
  have hx := C.1.1
  have hb := C.1.2.1
  have hK := C.2.1
  have hX := C.2.2.2.1
  have hbl := C.2.2.2.2
  have hbA : ¬ lA s b := Nat.not_le.mpr hbl
  have hcs0 : cells ≤ 600128 ∧ slots ≤ 7301098 := ⟨by omega, by omega⟩
  refine lv_aload_n hx hb dL_law_444 rfl (lv_at hl 1 rfl) ?_
  refine lv_aload_n hx hb dL_law_445 rfl (lv_at hl 0 rfl) ?_
  refine lv_iload hx hb dL_law_446 (lv_at hl 4 rfl) ?_
  refine lv_iconst (v := 1) hx hb dL_law_448 (by decide) ?_
  refine lv_iadd hx hb dL_law_449 ?_
  refine va_sld hx hb hX hbl hbA hI.2.2 h1 dL_law_450 ?_
  refine rg_top e1 ?_
  refine lv_aload_n hx hb dL_law_451 rfl (lv_at hl 0 rfl) ?_
  refine lv_iload hx hb dL_law_452 (lv_at hl 4 rfl) ?_
  refine lv_iconst (v := 2) hx hb dL_law_454 (by decide) ?_
  refine lv_iadd hx hb dL_law_455 ?_
  refine va_sld hx hb hX hbl hbA hI.2.2 h2 dL_law_456 ?_
  refine rg_top e2 ?_
  refine lv_aload_n hx hb dL_law_457 rfl (lv_at hl 3 rfl) ?_
  refine lr_W (As := [.ref (ρC 0), .int p0, .int p1, .ref q]) (rest := []) C hI hW gL_74 hdL_W_array (by decide) (by decide) hcs hl.1 rfl (Nat.le_of_ble_eq_true rfl) dL_law_458 (fun H locs hI => ?_)
  refine lv_istore (lv' := [(5, .int kr), (0, .ref b), (1, .ref (ρC 0)), (2, .ref (ρM 0)), (3, .ref q), (4, .int x4)]) hx hb dL_law_461 hl (by decide) rfl (fun ls hl => ?_)
  refine lv_aload_n hx hb dL_law_463 rfl (lv_at hl 3 rfl) ?_
  refine lv_aload_n hx hb dL_law_464 rfl (lv_at hl 1 rfl) ?_
  refine lv_iload hx hb dL_law_465 (lv_at hl 5 rfl) ?_
  refine lv_iconst (v := 1) hx hb dL_law_467 (by decide) ?_
  refine lv_iadd hx hb dL_law_468 ?_
  refine va_sld hx hb hX hbl hbA hI.2.2 h1 dL_law_469 ?_
  refine rg_top e1 ?_
  refine lv_aload_n hx hb dL_law_470 rfl (lv_at hl 1 rfl) ?_
  refine lv_iload hx hb dL_law_471 (lv_at hl 5 rfl) ?_
  refine lv_iconst (v := 2) hx hb dL_law_473 (by decide) ?_
  refine lv_iadd hx hb dL_law_474 ?_
  refine va_sld hx hb hX hbl hbA hI.2.2 h2 dL_law_475 ?_
  refine rg_top e2 ?_
  refine lr_M (As := [.int p0, .int p1]) (rest := []) C hI (c_M_array l D cI ρM 1 (by decide) hB) gL_76 hdL_M_array (by decide) (by decide) ⟨by omega, by omega⟩ hl.1 rfl (Nat.le_of_ble_eq_true rfl) dL_law_476 (fun H locs hI => ?_)
  refine lv_istore (lv' := [(6, .int bv), (5, .int kr), (0, .ref b), (1, .ref (ρC 0)), (2, .ref (ρM 0)), (3, .ref q), (4, .int x4)]) hx hb dL_law_479 hl (by decide) rfl (fun ls hl => ?_)
  refine lv_aload_n hx hb dL_law_481 rfl (lv_at hl 4 rfl) ?_
  refine lr_M (As := []) (rest := []) C hI (c_M_thrown l D cI ρM 1 (by decide) hT) gL_49 hdL_M_thrown (by decide) (by decide) ⟨by omega, by omega⟩ hl.1 rfl (Nat.le_of_ble_eq_true rfl) dL_law_482 (fun H locs hI => ?_)
  refine lv_iload hx hb dL_law_485 (lv_at hl 1 rfl) ?_
  refine lv_icmp_eq (tgt := 492) hx hb dL_law_487 (by decide) (fun _ => ?_) (fun c1 => absurd rfl c1)
  refine lv_iload hx hb dL_law_492 (lv_at hl 1 rfl) ?_
  refine lv_if_ne (tgt := 509) hx hb dL_law_494 (by decide) (fun c1 => ?_) (fun c1 => ?_)
  · refine lv_goto (tgt := 537) hx hb dL_law_509 (by decide) ?_
    exact hnext H locs ls hI (lv_sub hl [2, 3, 4, 5, 6] rfl)
  · have hO := hO c1
    refine lv_aload_n hx hb dL_law_497 rfl (lv_at hl 5 rfl) ?_
    refine lv_iconst (v := 0) hx hb dL_law_498 (by decide) ?_
    refine va_lald hx hb hK hI.1 24 1 lw_out rfl (vp_in_nI (n := 0) (N := 1) (by decide) (by decide)) dL_law_499 ?_
    refine lv_iload hx hb dL_law_500 (lv_at hl 0 rfl) ?_
    refine lv_i2l hx hb dL_law_502 rfl ?_
    refine W.lcmp hx hb dL_law_503 ?_
    rw [show fo' (0 : Int32).toNatClampNeg = bv.toInt64 from hO, lg_eq]
    refine lv_if_eq (tgt := 509) hx hb dL_law_504 (by decide) (fun _ => ?_) (fun c3 => absurd rfl c3)
    refine lv_goto (tgt := 537) hx hb dL_law_509 (by decide) ?_
    exact hnext H locs ls hI (lv_sub hl [2, 3, 4, 5, 6] rfl)

theorem gL_77 : GoodIn wg (wsV RL 77 RX5 yX5_about (wm yX5_about cX5_about 2 (some .int))) := gi_V wM_L_77 wN_X5_about wV_X5_about wI_X5 wC_X5_about
theorem hdL_C_about : yX5_about.cls = RX5 ∧ yX5_about.cls ≠ "java/lang/invoke/MethodHandle" ∧ yX5_about.cls ≠ "java/lang/invoke/VarHandle" ∧ (parseMethodDescriptor yX5_about.desc).map (fun d => d.parameters.length) = some 1 := by decide +kernel
theorem gL_80 : GoodIn wg (wsV RL 80 RX6 yX6_about (wm yX6_about cX6_about 2 (some .int))) := gi_V wM_L_80 wN_X6_about wV_X6_about wI_X6 wC_X6_about
theorem hdL_M_about : yX6_about.cls = RX6 ∧ yX6_about.cls ≠ "java/lang/invoke/MethodHandle" ∧ yX6_about.cls ≠ "java/lang/invoke/VarHandle" ∧ (parseMethodDescriptor yX6_about.desc).map (fun d => d.parameters.length) = some 1 := by decide +kernel
set_option maxHeartbeats 4000000 in
set_option maxRecDepth 100000 in
theorem law_about {p : Program} {l : Launch} {e : Env} {s : State} {m : MethodId} {below : List Frame} {meth : Method} {c : Code} {H : Heap} {locs : List Loc} {cells slots : Nat} {Q : State → Prop} {D : va_G} {cI cL : ClassId} {ρC ρM : Nat → Nat} {q : Nat} {ν ν' μ μ' : St} {fo fo' : Nat → Int64} {ls : Array Slot} {b L N : Nat} {xs : Nat → Int32} (C : LC p s m b L xs c D cI cL) {x4 p0 p1 : Int32} (h1 : vp_in (x4 + 1) L) (h2 : vp_in (x4 + 2) L) (e1 : p0 = xs (x4 + 1).toNatClampNeg) (e2 : p1 = xs (x4 + 2).toNatClampNeg) (hcs : cells + 1 ≤ 600128 ∧ slots + 6 ≤ 7301098) (hI : LI D cI cL ρC ρM q s ν μ fo H locs) (hl : lv_has ls 7 [(0, .ref b), (1, .ref (ρC 0)), (2, .ref (ρM 0)), (3, .ref q), (4, .int x4)]) {r : Int32} (hv : ν' = ν) (hA : f_S_about p0 ν = some r) (hB : f_M_about p0 μ = some (r, μ')) (hnext : ∀ (H : Heap) (locs : List Loc) (ls : Array Slot), LI D cI cL ρC ρM q s ν' μ' fo H locs → lv_has ls 7 [(0, .ref b), (1, .ref (ρC 0)), (2, .ref (ρM 0)), (3, .ref q), (4, .int x4)] → W p l e room_1 s m #[.ref b] below meth c H locs (cells + 1) (slots + 6) Q (F0 m 537 ls [])) : W p l e room_1 s m #[.ref b] below meth c H locs cells slots Q (F0 m 512 ls []) := by
  have hx := C.1.1
  have hb := C.1.2.1
  have hK := C.2.1
  have hX := C.2.2.2.1
  have hbl := C.2.2.2.2
  have hbA : ¬ lA s b := Nat.not_le.mpr hbl
  have hcs0 : cells ≤ 600128 ∧ slots ≤ 7301098 := ⟨by omega, by omega⟩
  subst hv
  refine lv_aload_n hx hb dL_law_512 rfl (lv_at hl 1 rfl) ?_
  refine lv_aload_n hx hb dL_law_513 rfl (lv_at hl 0 rfl) ?_
  refine lv_iload hx hb dL_law_514 (lv_at hl 4 rfl) ?_
  refine lv_iconst (v := 1) hx hb dL_law_516 (by decide) ?_
  refine lv_iadd hx hb dL_law_517 ?_
  refine va_sld hx hb hX hbl hbA hI.2.2 h1 dL_law_518 ?_
  refine rg_top e1 ?_
  refine lr_C (As := [.int p0]) (rest := []) C hI (c_S_about l D cI ρC 2 (by decide) hA) gL_77 hdL_C_about (by decide) (by decide) hcs0 hl.1 rfl (Nat.le_of_ble_eq_true rfl) dL_law_519 (fun H locs hI => ?_)
  refine lv_aload_n hx hb dL_law_522 rfl (lv_at hl 2 rfl) ?_
  refine lv_aload_n hx hb dL_law_523 rfl (lv_at hl 0 rfl) ?_
  refine lv_iload hx hb dL_law_524 (lv_at hl 4 rfl) ?_
  refine lv_iconst (v := 1) hx hb dL_law_526 (by decide) ?_
  refine lv_iadd hx hb dL_law_527 ?_
  refine va_sld hx hb hX hbl hbA hI.2.2 h1 dL_law_528 ?_
  refine rg_top e1 ?_
  refine lr_M (As := [.int p0]) (rest := [.int r]) C hI (c_M_about l D cI ρM 1 (by decide) hB) gL_80 hdL_M_about (by decide) (by decide) ⟨by omega, by omega⟩ hl.1 rfl (Nat.le_of_ble_eq_true rfl) dL_law_529 (fun H locs hI => ?_)
  refine lv_icmp_eq (tgt := 537) hx hb dL_law_532 (by decide) (fun _ => ?_) (fun c1 => absurd rfl c1)
  refine W.widen (k := cells + 1) (n := slots + 6) (by omega) (by omega) ?_
  exact hnext H locs ls hI hl

