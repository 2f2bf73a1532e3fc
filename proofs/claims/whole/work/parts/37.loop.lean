/-! the law's loop and its start, over a relation of the two states: PureOK is what the pure side owes -/
def PureOK (N : Nat) (Rel : Nat → St → St → Prop) : Prop :=
  Rel 0 (fun _ _ => 0) (fun _ _ => 0) ∧
  (∀ (j : Nat) (ν μ : St) (p0 p1 : Int32), j < 64 → Rel j ν μ → ∃ (k : Nat) (r : Int32) (ν' : St) (bv : Int32) (μ' : St), (k = 0 ∨ k = 1 ∨ k = 2) ∧ f_S_words N p0 p1 ν = some (k, r, ν') ∧ f_M_words N p0 p1 μ = some (bv, μ') ∧ f_M_thrown μ' = some (if k = 0 then 0 else if k = 1 then 1 else 2) ∧ (k = 0 → bv = r) ∧ Rel (j + 1) ν' μ') ∧
  (∀ (j : Nat) (ν μ : St), j < 64 → Rel j ν μ → ∃ (r : Int32) (ν' μ' : St), f_S_compile N ν = some (r, ν') ∧ f_M_compile N μ = some (r, μ') ∧ Rel (j + 1) ν' μ') ∧
  (∀ (j : Nat) (ν μ : St), j < 64 → Rel j ν μ → ∃ (k : Nat) (r : Int32) (ν' : St) (bv : Int32) (μ' : St), (k = 0 ∨ k = 2) ∧ f_S_start N ν = some (k, r, ν') ∧ f_M_start N μ = some (bv, μ') ∧ f_M_thrown μ' = some (if k = 0 then 0 else 1) ∧ (k = 0 → bv = r) ∧ Rel (j + 1) ν' μ') ∧
  (∀ (j : Nat) (ν μ : St) (p0 : Int32), j < 64 → Rel j ν μ → ∃ (k : Nat) (r : Int32) (ν' : St) (bv : Int32) (μ' : St), (k = 0 ∨ k = 1 ∨ k = 2) ∧ f_S_key p0 ν = some (k, r, ν') ∧ f_M_key p0 μ = some (bv, μ') ∧ f_M_thrown μ' = some (if k = 0 then 0 else if k = 1 then 1 else 2) ∧ (k = 0 → bv = r) ∧ Rel (j + 1) ν' μ') ∧
  (∀ (j : Nat) (ν μ : St) (p0 : Int32), j < 64 → Rel j ν μ → ∃ (k : Nat) (r : Int32) (ν' : St) (bv : Int32) (μ' : St), (k = 0 ∨ k = 1 ∨ k = 2) ∧ f_S_run N p0 ν = some (k, r, ν') ∧ f_M_run N p0 μ = some (bv, μ') ∧ f_M_thrown μ' = some (if k = 0 then 0 else if k = 1 then 1 else 2) ∧ (k = 0 → bv = r) ∧ Rel (j + 1) ν' μ') ∧
  (∀ (j : Nat) (ν μ : St) (p0 : Int32), j < 64 → Rel j ν μ → ∃ (k : Nat) (r : Int32) (ν' : St) (bv : Int32) (μ' : St), (k = 0 ∨ k = 3) ∧ f_S_shown p0 ν = some (k, r, ν') ∧ f_M_shown p0 μ = some (bv, μ') ∧ f_M_thrown μ' = some (if k = 0 then 0 else 1) ∧ (k = 0 → bv = r) ∧ Rel (j + 1) ν' μ') ∧
  (∀ (j : Nat) (ν μ : St) (p0 : Int32), j < 64 → Rel j ν μ → ∃ (k : Nat) (r : Int32) (ν' : St) (bv : Int32) (μ' : St), (k = 0 ∨ k = 3) ∧ f_S_global p0 ν = some (k, r, ν') ∧ f_M_global p0 μ = some (bv, μ') ∧ f_M_thrown μ' = some (if k = 0 then 0 else 1) ∧ (k = 0 → bv = r) ∧ Rel (j + 1) ν' μ') ∧
  (∀ (j : Nat) (ν μ : St) (p0 p1 : Int32), j < 64 → Rel j ν μ → ∃ (k : Nat) (r : Int32) (ν' : St) (bv : Int32) (μ' : St), (k = 0 ∨ k = 3) ∧ f_S_array p0 p1 ν = some (k, r, ν') ∧ f_M_array p0 p1 μ = some (bv, μ') ∧ f_M_thrown μ' = some (if k = 0 then 0 else 1) ∧ (k = 0 → bv = r) ∧ Rel (j + 1) ν' μ') ∧
  (∀ (j : Nat) (ν μ : St) (p0 : Int32), j < 64 → Rel j ν μ → ∃ (r : Int32) (μ' : St), f_S_about p0 ν = some r ∧ f_M_about p0 μ = some (r, μ') ∧ Rel (j + 1) ν μ') ∧
  (∀ (j : Nat) (ν μ : St), j < 64 → Rel j ν μ → Rel (j + 1) ν μ)
theorem ll_lt {a b : Nat} (ha : a < 1000) (hb : b < 1000) : Int32.ofNat a - 3 < nI b ↔ a < b + 3 := by
  rw [Int32.lt_iff_toInt_lt, show (Int32.ofNat a - 3 : Int32) = nI a - nI 3 from rfl, pk_sub_toInt (by omega) (by decide), nI_toInt (by omega)]
  omega
theorem ll_in {a L : Nat} {x : Int32} (hx : x = nI a) (i : Nat) (h : a + i < L) (hL : L < 1000) : vp_in (x + nI i) L := by
  rw [hx, nI_add]
  exact vp_in_nI h (by omega)
set_option maxHeartbeats 4000000 in
set_option maxRecDepth 100000 in
theorem law_loop {p : Program} {l : Launch} {e : Env} {s : State} {m : MethodId} {below : List Frame} {meth : Method} {c : Code} {D : va_G} {cI cL : ClassId} {ρC ρM : Nat → Nat} {q b L N : Nat} {xs : Nat → Int32} {Rel : Nat → St → St → Prop} (hst : l.stackTraces = false) (hL : L ≤ 192) (C : LC p s m b L xs c D cI cL) (hr : meth.sig.returnType = ret) (hlocks : meth.locks = false) (PO : PureOK N Rel) :
    ∀ (n j : Nat), 65 ≤ j + n → 3 * j ≤ L → ∀ (ν μ : St) (fo : Nat → Int64) (H : Heap) (locs : List Loc) (ls : Array Slot) (x4 : Int32), x4 = nI (3 * j) → Rel j ν μ → LI D cI cL ρC ρM q s ν μ fo H locs → lv_has ls 7 [(0, .ref b), (1, .ref (ρC 0)), (2, .ref (ρM 0)), (3, .ref q), (4, .int x4)] →
      W p l e room_1 s m #[.ref b] below meth c H locs (100 + j) (10000 + 6 * j) (lw_Z below #[Value.ref b] s) (F0 m 23 ls []) := by
  have hx := C.1.1
  have hb := C.1.2.1
  have hX := C.2.2.2.1
  have hbl := C.2.2.2.2
  have hbA : ¬ lA s b := Nat.not_le.mpr hbl
  obtain ⟨-, Pwords, Pcompile, Pstart, Pkey, Prun, Pshown, Pglobal, Parray, Pabout, Pno⟩ := PO
  intro n
  induction n with
  | zero =>
    intro j h1 h2
    exact absurd h1 (by omega)
  | succ n ih =>
    intro j hjn hj3 ν μ fo H locs ls x4 ex hR hI hl
    refine lv_iload hx hb dL_law_23 (lv_at hl 4 rfl) ?_
    refine lv_aload_n hx hb dL_law_25 rfl (lv_at hl 0 rfl) ?_
    refine va_slen hx hb hX hbl hbA hI.2.2 dL_law_26 ?_
    refine lv_iconst (v := 3) hx hb dL_law_27 (by decide) ?_
    refine lv_isub hx hb dL_law_28 ?_
    refine lv_icmp_gt (tgt := 543) hx hb dL_law_29 (by decide) (fun c1 => ?_) (fun c1 => ?_)
    · refine lv_iconst (v := 1) hx hb dL_law_543 (by decide) ?_
      refine va_forget (fun z hz => hI.2.2.2.2 z hz) ?_
      refine W.widen (k := 600128) (n := 7301098) (by omega) (by omega) ?_
      exact lw_ret hx hb hr hlocks dL_law_544
    · have hlt : 3 * j + 3 ≤ L := by
        rw [ex, ll_lt (by omega) (by omega)] at c1
        omega
      have hj : j < 64 := by omega
      have h0 : vp_in x4 L := by rw [ex]; exact vp_in_nI (by omega) (by omega)
      have h1 : vp_in (x4 + 1) L := ll_in ex 1 (by omega) (by omega)
      have h2 : vp_in (x4 + 2) L := ll_in ex 2 (by omega) (by omega)
      obtain ⟨p0, e1⟩ : ∃ z, z = xs (x4 + 1).toNatClampNeg := ⟨_, rfl⟩
      obtain ⟨p1, e2⟩ : ∃ z, z = xs (x4 + 2).toNatClampNeg := ⟨_, rfl⟩
      have hcs : 100 + j + 1 ≤ 600128 ∧ 10000 + 6 * j + 6 ≤ 7301098 := ⟨by omega, by omega⟩
      have hgo : ∀ (ν' μ' : St) (fo' : Nat → Int64) (H : Heap) (locs : List Loc) (ls : Array Slot), Rel (j + 1) ν' μ' → LI D cI cL ρC ρM q s ν' μ' fo' H locs → lv_has ls 7 [(0, .ref b), (1, .ref (ρC 0)), (2, .ref (ρM 0)), (3, .ref q), (4, .int x4)] →
          W p l e room_1 s m #[.ref b] below meth c H locs (100 + j + 1) (10000 + 6 * j + 6) (lw_Z below #[Value.ref b] s) (F0 m 537 ls []) := by
        intro ν' μ' fo' H locs ls hR hI hl
        obtain ⟨x5, ex5⟩ : ∃ z, z = x4 + 3 := ⟨_, rfl⟩
        refine lv_iinc (v := x5) (lv' := [(4, .int x5), (0, .ref b), (1, .ref (ρC 0)), (2, .ref (ρM 0)), (3, .ref q)]) hx hb dL_law_537 hl (k := 4) rfl (by rw [ex5]; rfl) (by decide) rfl (fun ls hl => ?_)
        refine lv_goto (tgt := 23) hx hb dL_law_540 (by decide) ?_
        exact ih (j + 1) (by omega) (by omega) ν' μ' fo' H locs ls x5 (by rw [ex5, ex]; exact nI_add (3 * j) 3) hR hI (lv_sub hl [1, 2, 3, 4, 0] rfl)
      refine lv_aload_n hx hb dL_law_32 rfl (lv_at hl 0 rfl) ?_
      refine lv_iload hx hb dL_law_33 (lv_at hl 4 rfl) ?_
      refine va_sld hx hb hX hbl hbA hI.2.2 h0 dL_law_35 ?_
      refine lv_bipush (v := 15) hx hb dL_law_36 (by decide) ?_
      refine lv_iand hx hb dL_law_38 ?_
      refine lv_topi (fun cv ecv => ?_)
      by_cases v0 : cv = 0
      · refine rg_top v0.symm ?_
        refine lv_tableIn (off := 49) (tgt := 88) hx hb dL_law_39 (by decide) (by decide) (by decide) (by decide) ?_
        obtain ⟨k, r, ν', bv, μ', hk, hA, hB, hT, hO, hR'⟩ := Pwords j ν μ p0 p1 hj hR
        refine law_words (N := N) C h1 h2 e1 e2 hcs hI hl (c_L_words l hst D cI cL ρC q hk hA) hB hT (fun hz => ?_) (fun H locs ls hI hl => hgo ν' μ' _ H locs ls hR' hI hl)
        rcases hk with rfl | rfl | rfl
        · rw [hO rfl]; simp [vp_updL]
        · exact absurd hz (by decide)
        · exact absurd hz (by decide)
      by_cases v1 : cv = 1
      · refine rg_top v1.symm ?_
        refine lv_tableIn (off := 117) (tgt := 156) hx hb dL_law_39 (by decide) (by decide) (by decide) (by decide) ?_
        obtain ⟨r, ν', μ', hA, hB, hR'⟩ := Pcompile j ν μ hj hR
        exact law_compile (fo' := fo) C h1 h2 e1 e2 hcs hI hl hA hB (fun H locs ls hI hl => hgo ν' μ' fo H locs ls hR' hI hl)
      by_cases v2 : cv = 2
      · refine rg_top v2.symm ?_
        refine lv_tableIn (off := 130) (tgt := 169) hx hb dL_law_39 (by decide) (by decide) (by decide) (by decide) ?_
        obtain ⟨k, r, ν', bv, μ', hk, hA, hB, hT, hO, hR'⟩ := Pstart j ν μ hj hR
        refine law_start C h1 h2 e1 e2 hcs hI hl (c_L_start l hst D cI cL ρC q hk hA) hB hT (fun hz => ?_) (fun H locs ls hI hl => hgo ν' μ' _ H locs ls hR' hI hl)
        rcases hk with rfl | rfl
        · rw [hO rfl]; simp [vp_updL]
        · exact absurd hz (by decide)
      by_cases v3 : cv = 3
      · refine rg_top v3.symm ?_
        refine lv_tableIn (off := 181) (tgt := 220) hx hb dL_law_39 (by decide) (by decide) (by decide) (by decide) ?_
        obtain ⟨k, r, ν', bv, μ', hk, hA, hB, hT, hO, hR'⟩ := Pkey j ν μ p0 hj hR
        refine law_key (N := N) C h1 h2 e1 e2 hcs hI hl (c_L_key l hst D cI cL ρC q hk hA) hB hT (fun hz => ?_) (fun H locs ls hI hl => hgo ν' μ' _ H locs ls hR' hI hl)
        rcases hk with rfl | rfl | rfl
        · rw [hO rfl]; simp [vp_updL]
        · exact absurd hz (by decide)
        · exact absurd hz (by decide)
      by_cases v4 : cv = 4
      · refine rg_top v4.symm ?_
        refine lv_tableIn (off := 237) (tgt := 276) hx hb dL_law_39 (by decide) (by decide) (by decide) (by decide) ?_
        obtain ⟨k, r, ν', bv, μ', hk, hA, hB, hT, hO, hR'⟩ := Prun j ν μ p0 hj hR
        refine law_run (N := N) C h1 h2 e1 e2 hcs hI hl (c_L_run l hst D cI cL ρC q hk hA) hB hT (fun hz => ?_) (fun H locs ls hI hl => hgo ν' μ' _ H locs ls hR' hI hl)
        rcases hk with rfl | rfl | rfl
        · rw [hO rfl]; simp [vp_updL]
        · exact absurd hz (by decide)
        · exact absurd hz (by decide)
      by_cases v5 : cv = 5
      · refine rg_top v5.symm ?_
        refine lv_tableIn (off := 293) (tgt := 332) hx hb dL_law_39 (by decide) (by decide) (by decide) (by decide) ?_
        obtain ⟨k, r, ν', bv, μ', hk, hA, hB, hT, hO, hR'⟩ := Pshown j ν μ p0 hj hR
        refine law_shown (N := N) C h1 h2 e1 e2 hcs hI hl (c_L_shown l hst D cI cL ρC q hk hA) hB hT (fun hz => ?_) (fun H locs ls hI hl => hgo ν' μ' _ H locs ls hR' hI hl)
        rcases hk with rfl | rfl
        · rw [hO rfl]; simp [vp_updL]
        · exact absurd hz (by decide)
      by_cases v6 : cv = 6
      · refine rg_top v6.symm ?_
        refine lv_tableIn (off := 349) (tgt := 388) hx hb dL_law_39 (by decide) (by decide) (by decide) (by decide) ?_
        obtain ⟨k, r, ν', bv, μ', hk, hA, hB, hT, hO, hR'⟩ := Pglobal j ν μ p0 hj hR
        refine law_global (N := N) C h1 h2 e1 e2 hcs hI hl (c_L_global l hst D cI cL ρC q hk hA) hB hT (fun hz => ?_) (fun H locs ls hI hl => hgo ν' μ' _ H locs ls hR' hI hl)
        rcases hk with rfl | rfl
        · rw [hO rfl]; simp [vp_updL]
        · exact absurd hz (by decide)
      by_cases v7 : cv = 7
      · refine rg_top v7.symm ?_
        refine lv_tableIn (off := 405) (tgt := 444) hx hb dL_law_39 (by decide) (by decide) (by decide) (by decide) ?_
        obtain ⟨k, r, ν', bv, μ', hk, hA, hB, hT, hO, hR'⟩ := Parray j ν μ p0 p1 hj hR
        refine law_array (N := N) C h1 h2 e1 e2 hcs hI hl (c_L_array l hst D cI cL ρC q hk hA) hB hT (fun hz => ?_) (fun H locs ls hI hl => hgo ν' μ' _ H locs ls hR' hI hl)
        rcases hk with rfl | rfl
        · rw [hO rfl]; simp [vp_updL]
        · exact absurd hz (by decide)
      by_cases v8 : cv = 8
      · refine rg_top v8.symm ?_
        refine lv_tableIn (off := 473) (tgt := 512) hx hb dL_law_39 (by decide) (by decide) (by decide) (by decide) ?_
        obtain ⟨r, μ', hA, hB, hR'⟩ := Pabout j ν μ p0 hj hR
        exact law_about (N := 0) (fo' := fo) C h1 h2 e1 e2 hcs hI hl rfl hA hB (fun H locs ls hI hl => hgo ν μ' fo H locs ls hR' hI hl)
      have v0 := ne_toInt (z := 0) rfl v0
      have v1 := ne_toInt (z := 1) rfl v1
      have v2 := ne_toInt (z := 2) rfl v2
      have v3 := ne_toInt (z := 3) rfl v3
      have v4 := ne_toInt (z := 4) rfl v4
      have v5 := ne_toInt (z := 5) rfl v5
      have v6 := ne_toInt (z := 6) rfl v6
      have v7 := ne_toInt (z := 7) rfl v7
      have v8 := ne_toInt (z := 8) rfl v8
      refine lv_tableOut (tgt := 537) hx hb dL_law_39 (by omega) (by decide) ?_
      refine W.widen (k := 100 + j + 1) (n := 10000 + 6 * j + 6) (by omega) (by omega) ?_
      exact hgo ν μ fo H locs ls (Pno j ν μ hj hR) hI hl
