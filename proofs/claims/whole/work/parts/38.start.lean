/-! the law from its entry, over an open pure side -/
theorem fr_joinD {D : va_G} {cl : List vw_C} {A : Nat → Prop} {a a' b : va_W} {H : Heap} (hP : va_P D cl (a ++ b) H) (hD : va_D A (a ++ b)) (hD1 : va_D (va_A a H.size) a') (hF : ∀ q, va_A a H.size q → A q) : va_D A (a' ++ b) := by
  have cross : ∀ {i j : Nat} {p q : Nat × va_E}, a'[i]? = some p → b[j]? = some q → p.1 ≠ q.1 := by
    intro i j p q hi hj he
    rcases hD1.2 i p hi with ⟨k, e, hk⟩ | hle
    · exact fr_apart hD hk hj he
    · have := ((fr_R hP) j q hj).lt
      omega
  have hDb : va_D A b := fr_DL (fr_swapD hD)
  have split : ∀ {k : Nat} {q : Nat × va_E}, (a' ++ b)[k]? = some q → (k < a'.length ∧ a'[k]? = some q) ∨ (a'.length ≤ k ∧ b[k - a'.length]? = some q) := by
    intro k q hk
    by_cases hl : k < a'.length
    · rw [List.getElem?_append_left hl] at hk; exact Or.inl ⟨hl, hk⟩
    · rw [List.getElem?_append_right (Nat.le_of_not_lt hl)] at hk; exact Or.inr ⟨Nat.le_of_not_lt hl, hk⟩
  refine ⟨fun i j p q hi hj he => ?_, fun k q hk => ?_⟩
  · rcases split hi with ⟨l1, h1⟩ | ⟨l1, h1⟩ <;> rcases split hj with ⟨l2, h2⟩ | ⟨l2, h2⟩
    · exact hD1.1 i j p q h1 h2 he
    · exact absurd he (cross h1 h2)
    · exact absurd he.symm (cross h2 h1)
    · have := hDb.1 _ _ p q h1 h2 he
      omega
  · rcases split hk with ⟨l1, h1⟩ | ⟨l1, h1⟩
    · exact hF _ (hD1.2 k q h1)
    · exact hDb.2 _ q h1
theorem xs5_in : ∀ q ∈ xs5, Cond.stringRef RX5 q.1 q.2 ∈ lw_tbl ∧ Cond.exactly (.string RX5 q.1) "java/lang/String" ∈ flatC (Jvm.Cond.and given_1 narrow_1) := by decide +kernel
theorem ws_U : Cond.laysStatic Bundle.tN "UNASSIGNED_STACK" Bundle.steD ∈ lw_tbl ∧ Cond.laysStatic Bundle.tN "SUPPRESSED_SENTINEL" Bundle.listD ∈ lw_tbl ∧ Cond.initialized Bundle.tN ∈ lw_tbl := ⟨by decide +kernel, by decide +kernel, by decide +kernel⟩
theorem ws_R : Cond.isRef (.static Bundle.tN "UNASSIGNED_STACK" Bundle.steD) ∈ flatC (Jvm.Cond.and given_1 narrow_1) ∧ Cond.isRef (.static Bundle.tN "SUPPRESSED_SENTINEL" Bundle.listD) ∈ flatC (Jvm.Cond.and given_1 narrow_1) ∧ Cond.not (.castable (xn 2) (xn 1)) ∈ flatC (Jvm.Cond.and given_1 narrow_1) := ⟨by decide +kernel, by decide +kernel, by decide +kernel⟩
theorem ws_arr {args : Array Value} {s : State} {ty : FieldType} (h : (Cond.arrayClass ty).before args s = true) : ∃ cA, ArrOfT s cA ty ∧ s.vm.findClass ("[" ++ ty.toString) = some cA := by
  obtain ⟨cA, kA, comp, h1, h2, h3⟩ := Cond.arrayClass_spec h
  exact ⟨cA, fun n z => ⟨fun k h => (by cases h), kA, h2, comp, h3⟩, h1⟩
set_option maxHeartbeats 4000000 in
set_option maxRecDepth 100000 in
theorem whole_open {p : Program} {e : Env} {s : State} {m : MethodId} {below : List Frame} {meth : Method} {c : Code} (l : Launch) (hst : l.stackTraces = false) {N : Nat} {Rel : Nat → St → St → Prop} (PO : PureOK N Rel) {b L : Nat} {xs : Nat → Int32} (hL : L ≤ 192) (C0 : lw_At p s m meth c b L xs) : W p l e room_1 s m #[Value.ref b] below meth c s.heap [] 0 0 (lw_Z below #[Value.ref b] s) (entryFrame m ([Value.ref b] : List Value).toArray 7) := by
  obtain ⟨hx, hb, hr, hml, hown, hts, hX, hbl, hlocks, hgv⟩ := id C0
  have hw : ∀ w ∈ wg, w.before #[.ref b] s = true := fun w h => hts w (List.mem_filter.mp h).1
  have hfl := flat_of_before _ hgv
  have hb : c.code = cL_law := hb
  have hown : s.vm.findClass RL = some m.cls := hown
  have F : CallFix p m c cL_law 7 s #[.ref b] wg RL := ⟨hx, hb, hml, hown, hw⟩
  have hA : ∀ z : Nat, s.heap.size ≤ z → lA s z := fun _ h => h
  obtain ⟨c0, i0, hK0⟩ := u_known (C := RX0) (T := TX0) (N := 6) (n := 6) hw inG0 (hw _ wT_X0)
  obtain ⟨c1, i1, hK1⟩ := u_known (C := RX1) (T := TX1) (N := 3) (n := 3) hw inG1 (hw _ wT_X1)
  obtain ⟨c2, i2, hK2⟩ := u_known (C := RX2) (T := TX2) (N := 14) (n := 14) hw inG2 (hw _ wT_X2)
  obtain ⟨c3, i3, hK3⟩ := u_known (C := RX3) (T := TX3) (N := 6) (n := 6) hw inG3 (hw _ wT_X3)
  obtain ⟨c4, i4, hK4⟩ := u_known (C := RX4) (T := TX4) (N := 2) (n := 2) hw inG4 (hw _ wT_X4)
  obtain ⟨c5, i5, hK5⟩ := u_known (C := RX5) (T := TX5) (N := 6) (n := 6) hw inG5 (hw _ wT_X5)
  obtain ⟨c6, i6, hK6⟩ := u_known (C := RX6) (T := TX6) (N := 52) (n := 52) hw inG6 (hw _ wT_X6)
  obtain ⟨D, hKc⟩ : ∃ D : va_G, ∀ (k : Nat) (q : vw_C), vwCl[k]? = some q → u_Kn s q.1 q.2.1 q.2.2 (D.1 k) (D.2 k) := by
    refine ⟨(fun k => [c0, c1, c2, c3, c4, c5, c6].getD k c0, fun k => [i0, i1, i2, i3, i4, i5, i6].getD k i0), ?_⟩
    intro k q hq
    match k, hq with
    | 0, hq => cases hq; exact hK0
    | 1, hq => cases hq; exact hK1
    | 2, hq => cases hq; exact hK2
    | 3, hq => cases hq; exact hK3
    | 4, hq => cases hq; exact hK4
    | 5, hq => cases hq; exact hK5
    | 6, hq => cases hq; exact hK6
    | k + 7, hq => simp [vwCl] at hq
  obtain ⟨cI, hAI, hNI⟩ := ws_arr (hw _ wA_int)
  have hK : va_K D vwCl [(cI, .int)] s := ⟨hKc, fun k q h => by
    match k, h with
    | 0, h => cases h; exact ⟨hAI, hNI⟩
    | k + 1, h => simp at h⟩
  have hXW : XW (lA s) s s.heap := ⟨vx_Zqof (hts _ ws_U.1) (hts _ ws_U.2.2) (hfl _ ws_R.1) (fun a h => Nat.not_le.mpr h), vx_Zqof (hts _ ws_U.2.1) (hts _ ws_U.2.2) (hfl _ ws_R.2.1) (fun a h => Nat.not_le.mpr h), fun q hq => by
    obtain ⟨h1, h2⟩ := xs5_in q hq
    obtain ⟨a, -, -, -, he, -⟩ := Cond.exactly_spec (hfl _ h2)
    exact ⟨a, vk_R.of (hts _ h1) he⟩, fun w hw => va_Nw.of (xg_tab hw) (hts w (List.mem_filter.mp hw).1)⟩
  have hNc : va_Nc (xn 2) (xn 1) s := va_Nc.of (hfl _ ws_R.2.2)
  have hnest : ∀ w ∈ xn5, va_Nw w s := fun w hw => va_Nw.of (xn5_tab hw) (hts w (xn5_in w hw))
  have hS : va_S (lA s) s.heap s.heap [] := va_S.rf
  have hP : va_P D vwCl [] s.heap := fun k q h => by simp at h
  have hD : va_D (lA s) [] := ⟨fun i j p q h => by simp at h, fun k q h => by simp at h⟩
  have hl := lv_entry ([.ref b]) (n := 7) (Nat.le_of_ble_eq_true rfl)
  rw [lg_entry_eq]
  generalize (lg_sl ([.ref b]) ++ List.replicate (7 - (lg_sl ([.ref b])).length) Slot.unset).toArray = ls at hl ⊢
  have hl : lv_has ls 7 [(0, .ref b)] := hl
  refine va_new (ci := 5) (fs := [.null, .null, .null, .null, .null, .null]) (C := RX5) (T := TX5) (N := 6) hx hb hw inG5 tyX5 tyX5_ok hown (hw _ wL_L_8) (hw _ wT_X5) (hw _ wI_X5) hK hP hD hS hA rfl (fun j hj => by rcases (show j = 0 ∨ j = 1 ∨ j = 2 ∨ j = 3 ∨ j = 4 ∨ j = 5 by omega) with rfl | rfl | rfl | rfl | rfl | rfl <;> rfl) (Nat.le_of_ble_eq_true rfl) (Nat.le_of_ble_eq_true rfl) dL_law_0 (fun h0 H hP hD hS => ?_)
  have hP : va_P D vwCl [(h0, .inr (5, [.null, .null, .null, .null, .null, .null]))] H := hP
  have hD : va_D (lA s) [(h0, .inr (5, [.null, .null, .null, .null, .null, .null]))] := hD
  refine W.widen (k := 1) (n := 6) (by decide) (by decide) ?_
  refine lv_dup hx hb dL_law_3 rfl ?_
  have hFc := va_free (wc := [(h0, .inr (5, [.null, .null, .null, .null, .null, .null]))]) hD hS hA [0] rfl
  refine va_callv (va_runI (As := []) (rest := [.ref h0]) F (k_X5_init l D cI h0 H.size) (cwI 0 hw (gi_I wC_X5_init) rfl rfl rfl (hw _ wI_X5) (hw _ wM_L_39) (hw _ wN_X5_init) rfl (by decide +kernel) ⟨by decide, by decide⟩) ⟨fun a U g mk z => by obtain ⟨z0, z1, zP, zK, zD, zN⟩ := z; exact ⟨z0, z1, zP, va_K.moved (u := U) (U := U.calling g mk a) (Vm.Alike.refl U.vm) zK, zD, fun w hw => va_Nw.same (u := U) (U := U.calling g mk a) (xn5_tab hw) rfl (zN w hw)⟩, fun U hU hW => ⟨rfl, by rw [hU], by rw [hU]; exact hP, va_K.moved hW.alike hK, hD.weaken (fun _ _ _ _ => trivial), xn5_warm hW hnest⟩⟩ rfl rfl hl.1 rfl (lv_room (Nat.le_of_ble_eq_true rfl)) dL_law_4 ⟨by decide, by decide⟩) hS (fun z _ h => hFc z h) hFc (fun ρC t H1 locs ht hvm hw1 hB hz1 hk1 hS => ?_)
  obtain ⟨hP1, hK1, hD1⟩ := hB
  rw [ht] at hP1
  obtain ⟨hP, hD⟩ := va_join (wr := []) (w1 := pic TC cI ρC (fun _ _ => 0)) hP hD [0] [] rfl rfl (by decide) (by decide) hk1 hFc hP1 hD1
  generalize H1 = H at hP hS ⊢
  rw [List.nil_append] at hP hD
  have hPq := hP
  have hDq := hD
  have hSq := hS
  subst hw1
  have hP := hPq
  have hD := hDq
  have hS := hSq
  refine W.widen (k := 24) (n := 1709) (by decide) (by decide) ?_
  refine lv_astore_n (lv' := [(1, .ref (ρC 0)), (0, .ref b)]) hx hb dL_law_7 rfl hl (by decide) rfl (fun ls hl => ?_)
  refine va_new (ci := 6) (fs := [.int 0, .int 0, .null, .int 0, .int 0, .int 0, .int 0, .int 0, .int 0, .null, .null, .null, .null, .null, .null, .null, .null, .int 0, .int 0, .null, .null, .null, .int 0, .null, .null, .null, .int 0, .null, .null, .null, .null, .int 0, .null, .null, .int 0, .int 0, .int 0, .int 0, .int 0, .int 0, .int 0, .int 0, .null, .null, .null, .null, .int 0, .int 0, .null, .null, .null, .null]) (C := RX6) (T := TX6) (N := 52) hx hb hw inG6 tyX6 tyX6_ok hown (hw _ wL_L_40) (hw _ wT_X6) (hw _ wI_X6) hK hP hD hS hA rfl (fun j hj => by rcases (show j = 0 ∨ j = 1 ∨ j = 2 ∨ j = 3 ∨ j = 4 ∨ j = 5 ∨ j = 6 ∨ j = 7 ∨ j = 8 ∨ j = 9 ∨ j = 10 ∨ j = 11 ∨ j = 12 ∨ j = 13 ∨ j = 14 ∨ j = 15 ∨ j = 16 ∨ j = 17 ∨ j = 18 ∨ j = 19 ∨ j = 20 ∨ j = 21 ∨ j = 22 ∨ j = 23 ∨ j = 24 ∨ j = 25 ∨ j = 26 ∨ j = 27 ∨ j = 28 ∨ j = 29 ∨ j = 30 ∨ j = 31 ∨ j = 32 ∨ j = 33 ∨ j = 34 ∨ j = 35 ∨ j = 36 ∨ j = 37 ∨ j = 38 ∨ j = 39 ∨ j = 40 ∨ j = 41 ∨ j = 42 ∨ j = 43 ∨ j = 44 ∨ j = 45 ∨ j = 46 ∨ j = 47 ∨ j = 48 ∨ j = 49 ∨ j = 50 ∨ j = 51 by omega) with rfl | rfl | rfl | rfl | rfl | rfl | rfl | rfl | rfl | rfl | rfl | rfl | rfl | rfl | rfl | rfl | rfl | rfl | rfl | rfl | rfl | rfl | rfl | rfl | rfl | rfl | rfl | rfl | rfl | rfl | rfl | rfl | rfl | rfl | rfl | rfl | rfl | rfl | rfl | rfl | rfl | rfl | rfl | rfl | rfl | rfl | rfl | rfl | rfl | rfl | rfl | rfl <;> rfl) (Nat.le_of_ble_eq_true rfl) (Nat.le_of_ble_eq_true rfl) dL_law_8 (fun hm H hP hD hS => ?_)
  have hP := fr_swapP hP
  have hD := fr_swapD hD
  refine W.widen (k := 25) (n := 1761) (by decide) (by decide) ?_
  refine lv_dup hx hb dL_law_11 rfl ?_
  have hFc : ∀ z, va_A [(hm, .inr (6, [.int 0, .int 0, .null, .int 0, .int 0, .int 0, .int 0, .int 0, .int 0, .null, .null, .null, .null, .null, .null, .null, .null, .int 0, .int 0, .null, .null, .null, .int 0, .null, .null, .null, .int 0, .null, .null, .null, .null, .int 0, .null, .null, .int 0, .int 0, .int 0, .int 0, .int 0, .int 0, .int 0, .int 0, .null, .null, .null, .null, .int 0, .int 0, .null, .null, .null, .null]))] H.size z → lA s z := fr_free hD hS hA
  refine va_callv (va_runI (As := []) (rest := [.ref hm]) F (k_X6_init l D cI hm H.size) (cwI 0 hw (gi_I wC_X6_init) rfl rfl rfl (hw _ wI_X6) (hw _ wM_L_42) (hw _ wN_X6_init) rfl (by decide +kernel) ⟨by decide, by decide⟩) ⟨fun a U g mk z => by obtain ⟨z0, z1, zP, zK, zD⟩ := z; exact ⟨z0, z1, zP, va_K.moved (u := U) (U := U.calling g mk a) (Vm.Alike.refl U.vm) zK, zD⟩, fun U hU hW => ⟨rfl, by rw [hU], by rw [hU]; exact fr_L hP, va_K.moved hW.alike hK, (fr_DL hD).weaken (fun _ _ _ _ => trivial)⟩⟩ rfl rfl hl.1 rfl (lv_room (Nat.le_of_ble_eq_true rfl)) dL_law_12 ⟨by decide, by decide⟩) hS (fun z _ h => hFc z h) hFc (fun u2 t H1 locs ht hvm hw1 hB hz1 hk1 hS => ?_)
  obtain ⟨hP1, hK1, hD1⟩ := hB
  rw [ht] at hP1
  have hP0 := hP
  have hD0 := hD
  have hP := fr_join hP0 hD0 hP1 hk1
  have hD := fr_joinD hP0 hD0 hD1 hFc
  obtain ⟨ρM, e0, e1, e2, e3, e4, e5, e6, e7, e8, e9, e10, e11, e12, e13, e14, e15, e16, e17, e18, e19, e20, e21, e22, e23, e24, e25, e26, e27, e28, e29⟩ := addr30 hm (u2 0) (u2 1) (u2 2) (u2 3) (u2 4) (u2 5) (u2 6) (u2 7) (u2 8) (u2 9) (u2 10) (u2 11) (u2 12) (u2 13) (u2 14) (u2 15) (u2 16) (u2 17) (u2 18) (u2 19) (u2 20) (u2 21) (u2 22) (u2 23) (u2 24) (u2 25) (u2 26) (u2 27) (u2 28)
  have hw6 : w_X6 cI hm u2 = pic TM cI ρM (fun _ _ => 0) := by rw [pic_TM, e0, e1, e2, e3, e4, e5, e6, e7, e8, e9, e10, e11, e12, e13, e14, e15, e16, e17, e18, e19, e20, e21, e22, e23, e24, e25, e26, e27, e28, e29]
  rw [hw6] at hP hD
  refine W.widen (k := 54) (n := 6169) (by decide) (by decide) ?_
  have hPq2 := hP
  have hDq2 := hD
  have hSq2 := hS
  subst e0
  have hP := hPq2
  have hD := hDq2
  have hS := hSq2
  refine lv_astore_n (lv' := [(2, .ref (ρM 0)), (1, .ref (ρC 0)), (0, .ref b)]) hx hb dL_law_15 rfl hl (by decide) rfl (fun ls hl => ?_)
  refine lv_iconst (v := 1) hx hb dL_law_16 (by decide) ?_
  refine va_newa (atype := .long) (a0 := (1, .inr (.inl (fun _ => 0)))) (ty := .long) hx hb (hw _ wA_long) rfl hK hP hD hS hA (N' := 1) (fun cA => rfl) (by decide) (by decide) (by decide) (by decide) (by decide) dL_law_17 (fun q cL H hK hP hD hS => ?_)
  have hK : va_K D vwCl [(cI, .int), (cL, .long)] s := hK
  rw [List.append_assoc] at hP hD
  have hP := fr_swapP hP
  have hD := fr_swapD hD
  refine lv_astore_n (lv' := [(3, .ref q), (2, .ref (ρM 0)), (1, .ref (ρC 0)), (0, .ref b)]) hx hb dL_law_19 rfl hl (by decide) rfl (fun ls hl => ?_)
  refine lv_iconst (v := 0) hx hb dL_law_20 (by decide) ?_
  refine lv_istore (lv' := [(4, .int 0), (3, .ref q), (2, .ref (ρM 0)), (1, .ref (ρC 0)), (0, .ref b)]) hx hb dL_law_21 hl (by decide) rfl (fun ls hl => ?_)
  refine W.widen (k := 100 + 0) (n := 10000 + 6 * 0) (by decide) (by decide) ?_
  exact law_loop hst hL ⟨F, hK, ⟨hXW, hNc⟩, hX, hbl⟩ hr hlocks PO 65 0 (by decide) (Nat.zero_le _) _ _ _ H _ ls 0 nI_0.symm PO.1 ⟨hP, hD, hS⟩ (lv_sub hl [4, 3, 2, 1, 0] rfl)
