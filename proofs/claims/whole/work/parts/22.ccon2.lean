/-! the class: contracts -/
set_option maxHeartbeats 4000000 in
set_option maxRecDepth 100000 in
theorem c_G_isOf (l : Launch) (D : va_G) (cI : ClassId) (ρ : Nat → Nat) (hgt : Nat) (hh : 1 ≤ hgt) {a0 : Int32} {a1 : Int32} {a2 : Int32} {μ : St} {r : Int32} (h : f_G_isOf a0 a1 a2 = some r) : CI l yX0_isOf cX0_isOf 3 (some .boolean) hgt TC cI D ρ [.int a0, .int a1, .int a2] μ r μ := by
  obtain ⟨g, rfl⟩ : ∃ g, hgt = g + 1 := ⟨hgt - 1, by omega⟩
  unfold f_G_isOf at h
  refine CZ_of (own := RX0) (by decide) rfl (Nat.le_of_ble_eq_true rfl) rfl ?_
  intro p e s m args below meth c Q A H locs X hI hend ls hl
  have hx := X.1.1
  have hb := X.1.2.1
  have hl : lv_has ls 3 [(0, .int a0), (1, .int a1), (2, .int a2)] := hl
  refine lv_iload_n hx hb dX0_isOf_0 rfl (lv_at hl 0 rfl) ?_
  refine lv_iload_n hx hb dX0_isOf_1 rfl (lv_at hl 1 rfl) ?_
  obtain ⟨k2, ek2, h⟩ := jn_some h
  have hj3 : ∀ (ls : Array Slot), lv_has ls 3 [] → k2 = some r → W p l e (rmL (g + 1)) s m args below meth c H locs 0 0 Q (F0 m 16 ls []) := by
    intro ls hl h
    rw [ek2] at h
    refine lv_iconst (v := 0) hx hb dX0_isOf_16 (by decide) ?_
    cases h
    exact hend H locs _ _ (by decide) hI dX0_isOf_17
  refine lv_icmp_lt (tgt := 16) hx hb dX0_isOf_2 (by decide) (fun c4 => ?_) (fun c4 => ?_)
  · have h := it_pos c4 h
    exact hj3 ls (lv_sub hl [] rfl) h
  · have h := it_neg c4 h
    refine lv_iload_n hx hb dX0_isOf_5 rfl (lv_at hl 0 rfl) ?_
    refine lv_iload_n hx hb dX0_isOf_6 rfl (lv_at hl 1 rfl) ?_
    refine lv_iload_n hx hb dX0_isOf_7 rfl (lv_at hl 2 rfl) ?_
    refine lv_iadd hx hb dX0_isOf_8 ?_
    refine lv_icmp_ge (tgt := 16) hx hb dX0_isOf_9 (by decide) (fun c5 => ?_) (fun c5 => ?_)
    · have h := it_pos c5 h
      exact hj3 ls (lv_sub hl [] rfl) h
    · have h := it_neg c5 h
      refine lv_iconst (v := 1) hx hb dX0_isOf_12 (by decide) ?_
      refine lv_goto (tgt := 17) hx hb dX0_isOf_13 (by decide) ?_
      cases h
      exact hend H locs _ _ (by decide) hI dX0_isOf_17
set_option maxHeartbeats 4000000 in
set_option maxRecDepth 100000 in
theorem c_G_now (l : Launch) (D : va_G) (cI : ClassId) (ρ : Nat → Nat) (hgt : Nat) (hh : 2 ≤ hgt)  {μ : St} {r : Int32} (h : f_G_now μ = some r) : CI l yX0_now cX0_now 1 (some .int) hgt TC cI D ρ [.ref (ρ 5)] μ r μ := by
  obtain ⟨g, rfl⟩ : ∃ g, hgt = g + 1 := ⟨hgt - 1, by omega⟩
  unfold f_G_now at h
  refine CI_of (own := RX0) (by decide) rfl (Nat.le_of_ble_eq_true rfl) rfl ?_
  intro p e s m args below meth c Q A H locs X hI hend ls hl
  have hx := X.1.1
  have hb := X.1.2.1
  have hl : lv_has ls 1 [(0, .ref (ρ 5))] := hl
  refine lv_aload_n hx hb dX0_now_0 rfl (lv_at hl 0 rfl) ?_
  refine rg_getR X hI (o := 5) (j := 0) (k := 1) rfl rfl rfl inG0 (by decide) rfl wF_X0_25 dX0_now_1 ?_
  refine lv_aload_n hx hb dX0_now_4 rfl (lv_at hl 0 rfl) ?_
  refine rg_get X hI (o := 5) (j := 3) (k := 203) rfl rfl rfl inG0 (by decide) rfl wF_X0_15 dX0_now_5 ?_
  obtain ⟨x2, hc1, h⟩ := ca_some h
  refine rc_vi (o := 1) (As := [.int (μ 203 0)]) X hI (c_T_at l D cI ρ g (by omega) hc1) rfl rfl gV_X0_62 hd_X4_at (by decide) (Nat.le_refl _) hl.1 rfl (Nat.le_of_ble_eq_true rfl) dX0_now_8 (fun H locs hI => ?_)
  cases h
  exact hend H locs _ _ hI dX0_now_11
set_option maxHeartbeats 4000000 in
set_option maxRecDepth 100000 in
theorem c_G_next (l : Launch) (D : va_G) (cI : ClassId) (ρ : Nat → Nat) (hgt : Nat) (hh : 1 ≤ hgt)  {μ ν : St} (h : f_G_next μ = some ν) : CV l yX0_next cX0_next 1 hgt TC cI D ρ [.ref (ρ 5)] μ ν := by
  obtain ⟨g, rfl⟩ : ∃ g, hgt = g + 1 := ⟨hgt - 1, by omega⟩
  unfold f_G_next at h
  refine CV_of (own := RX0) (by decide) rfl (Nat.le_of_ble_eq_true rfl) ?_
  intro p e s m args below meth c Q A H locs X hI hend ls hl
  have hx := X.1.1
  have hb := X.1.2.1
  have hl : lv_has ls 1 [(0, .ref (ρ 5))] := hl
  refine lv_aload_n hx hb dX0_next_0 rfl (lv_at hl 0 rfl) ?_
  refine lv_dup hx hb dX0_next_1 rfl ?_
  refine rg_get X hI (o := 5) (j := 3) (k := 203) rfl rfl rfl inG0 (by decide) rfl wF_X0_15 dX0_next_2 ?_
  refine lv_iconst (v := 1) hx hb dX0_next_5 (by decide) ?_
  refine lv_iadd hx hb dX0_next_6 ?_
  refine rg_put X hI (o := 5) (j := 3) (k := 203) rfl rfl rfl rfl inG0 tyX0 tyX0_ok nmX0 (by decide) rfl wF_X0_15 rfl rfl rfl rfl dX0_next_7 (fun H locs hI => ?_)
  obtain ⟨μ1, eμ1, h⟩ := nm_some h
  rw [← eμ1] at hI
  cases h
  exact hend H locs _ _ hI dX0_next_10
set_option maxHeartbeats 4000000 in
set_option maxRecDepth 100000 in
theorem c_G_fail (l : Launch) (D : va_G) (cI : ClassId) (ρ : Nat → Nat) (hgt : Nat) (hh : 1 ≤ hgt) {a1 : Int32} {μ ν : St} (h : f_G_fail a1 μ = some ν) : CV l yX0_fail cX0_fail 2 hgt TC cI D ρ [.ref (ρ 5), .int a1] μ ν := by
  obtain ⟨g, rfl⟩ : ∃ g, hgt = g + 1 := ⟨hgt - 1, by omega⟩
  unfold f_G_fail at h
  refine CV_of (own := RX0) (by decide) rfl (Nat.le_of_ble_eq_true rfl) ?_
  intro p e s m args below meth c Q A H locs X hI hend ls hl
  have hx := X.1.1
  have hb := X.1.2.1
  have hl : lv_has ls 2 [(0, .ref (ρ 5)), (1, .int a1)] := hl
  refine lv_aload_n hx hb dX0_fail_0 rfl (lv_at hl 0 rfl) ?_
  refine rg_get X hI (o := 5) (j := 4) (k := 204) rfl rfl rfl inG0 (by decide) rfl wF_X0_19 dX0_fail_1 ?_
  refine lv_if_ne (tgt := 20) hx hb dX0_fail_4 (by decide) (fun c1 => ?_) (fun c1 => ?_)
  · have h := it_neg c1 h
    refine lv_aload_n hx hb dX0_fail_20 rfl (lv_at hl 0 rfl) ?_
    refine lv_sipush (v := 160) hx hb dX0_fail_21 (by decide) ?_
    refine rg_put X hI (o := 5) (j := 3) (k := 203) rfl rfl rfl rfl inG0 tyX0 tyX0_ok nmX0 (by decide) rfl wF_X0_15 rfl rfl rfl rfl dX0_fail_24 (fun H locs hI => ?_)
    obtain ⟨μ2, eμ2, h⟩ := nm_some h
    rw [← eμ2] at hI
    cases h
    exact hend H locs _ _ hI dX0_fail_27
  · have h := it_pos c1 h
    refine lv_aload_n hx hb dX0_fail_7 rfl (lv_at hl 0 rfl) ?_
    refine lv_iload_n hx hb dX0_fail_8 rfl (lv_at hl 1 rfl) ?_
    refine rg_put X hI (o := 5) (j := 4) (k := 204) rfl rfl rfl rfl inG0 tyX0 tyX0_ok nmX0 (by decide) rfl wF_X0_19 rfl rfl rfl rfl dX0_fail_9 (fun H locs hI => ?_)
    obtain ⟨μ3, eμ3, h⟩ := nm_some h
    rw [← eμ3] at hI
    refine lv_aload_n hx hb dX0_fail_12 rfl (lv_at hl 0 rfl) ?_
    refine lv_aload_n hx hb dX0_fail_13 rfl (lv_at hl 0 rfl) ?_
    refine rg_get X hI (o := 5) (j := 3) (k := 203) rfl rfl rfl inG0 (by decide) rfl wF_X0_15 dX0_fail_14 ?_
    refine rg_put X hI (o := 5) (j := 5) (k := 205) rfl rfl rfl rfl inG0 tyX0 tyX0_ok nmX0 (by decide) rfl wF_X0_22 rfl rfl rfl rfl dX0_fail_17 (fun H locs hI => ?_)
    obtain ⟨μ4, eμ4, h⟩ := nm_some h
    rw [← eμ4] at hI
    refine lv_aload_n hx hb dX0_fail_20 rfl (lv_at hl 0 rfl) ?_
    refine lv_sipush (v := 160) hx hb dX0_fail_21 (by decide) ?_
    refine rg_put X hI (o := 5) (j := 3) (k := 203) rfl rfl rfl rfl inG0 tyX0 tyX0_ok nmX0 (by decide) rfl wF_X0_15 rfl rfl rfl rfl dX0_fail_24 (fun H locs hI => ?_)
    obtain ⟨μ5, eμ5, h⟩ := nm_some h
    rw [← eμ5] at hI
    cases h
    exact hend H locs _ _ hI dX0_fail_27
set_option maxHeartbeats 4000000 in
set_option maxRecDepth 100000 in
theorem c_G_expect (l : Launch) (D : va_G) (cI : ClassId) (ρ : Nat → Nat) (hgt : Nat) (hh : 2 ≤ hgt) {a1 : Int32} {μ ν : St} (h : f_G_expect a1 μ = some ν) : CV l yX0_expect cX0_expect 2 hgt TC cI D ρ [.ref (ρ 5), .int a1] μ ν := by
  obtain ⟨g, rfl⟩ : ∃ g, hgt = g + 1 := ⟨hgt - 1, by omega⟩
  unfold f_G_expect at h
  refine CV_of (own := RX0) (by decide) rfl (Nat.le_of_ble_eq_true rfl) ?_
  intro p e s m args below meth c Q A H locs X hI hend ls hl
  have hx := X.1.1
  have hb := X.1.2.1
  have hl : lv_has ls 2 [(0, .ref (ρ 5)), (1, .int a1)] := hl
  refine lv_aload_n hx hb dX0_expect_0 rfl (lv_at hl 0 rfl) ?_
  refine rg_getR X hI (o := 5) (j := 0) (k := 1) rfl rfl rfl inG0 (by decide) rfl wF_X0_25 dX0_expect_1 ?_
  refine lv_aload_n hx hb dX0_expect_4 rfl (lv_at hl 0 rfl) ?_
  refine rg_get X hI (o := 5) (j := 3) (k := 203) rfl rfl rfl inG0 (by decide) rfl wF_X0_15 dX0_expect_5 ?_
  obtain ⟨x2, hc1, h⟩ := ca_some h
  refine rc_vi (o := 1) (As := [.int (μ 203 0)]) X hI (c_T_at l D cI ρ g (by omega) hc1) rfl rfl gV_X0_62 hd_X4_at (by decide) (Nat.le_refl _) hl.1 rfl (Nat.le_of_ble_eq_true rfl) dX0_expect_8 (fun H locs hI => ?_)
  refine lv_iload_n hx hb dX0_expect_11 rfl (lv_at hl 1 rfl) ?_
  refine lv_icmp_ne (tgt := 28) hx hb dX0_expect_12 (by decide) (fun c3 => ?_) (fun c3 => ?_)
  · have h := it_neg c3 h
    refine lv_aload_n hx hb dX0_expect_28 rfl (lv_at hl 0 rfl) ?_
    refine lv_iconst (v := 1) hx hb dX0_expect_29 (by decide) ?_
    obtain ⟨μ5, hc4, h⟩ := ca_some h
    refine rc_vv (o := 5) (As := [.int (1 : Int32)]) X hI (c_G_fail l D cI ρ g (by omega) hc4) rfl rfl gV_X0_57 hd_X0_fail (by decide) (Nat.le_refl _) hl.1 rfl (Nat.le_of_ble_eq_true rfl) dX0_expect_30 (fun H locs hI => ?_)
    cases h
    exact hend H locs _ _ hI dX0_expect_33
  · have h := it_pos c3 h
    refine lv_aload_n hx hb dX0_expect_15 rfl (lv_at hl 0 rfl) ?_
    refine lv_dup hx hb dX0_expect_16 rfl ?_
    refine rg_get X hI (o := 5) (j := 3) (k := 203) rfl rfl rfl inG0 (by decide) rfl wF_X0_15 dX0_expect_17 ?_
    refine lv_iconst (v := 1) hx hb dX0_expect_20 (by decide) ?_
    refine lv_iadd hx hb dX0_expect_21 ?_
    refine rg_put X hI (o := 5) (j := 3) (k := 203) rfl rfl rfl rfl inG0 tyX0 tyX0_ok nmX0 (by decide) rfl wF_X0_15 rfl rfl rfl rfl dX0_expect_22 (fun H locs hI => ?_)
    obtain ⟨μ6, eμ6, h⟩ := nm_some h
    rw [← eμ6] at hI
    refine lv_goto (tgt := 33) hx hb dX0_expect_25 (by decide) ?_
    cases h
    exact hend H locs _ _ hI dX0_expect_33
set_option maxHeartbeats 4000000 in
set_option maxRecDepth 100000 in
theorem c_G_clear (l : Launch) (D : va_G) (cI : ClassId) (ρ : Nat → Nat) {N : Nat} (hgt : Nat) (hh : 2 ≤ hgt)  {μ ν : St} (h : f_G_clear N μ = some ν) : CV l yX0_clear cX0_clear 2 hgt TC cI D ρ [.ref (ρ 5)] μ ν := by
  obtain ⟨g, rfl⟩ : ∃ g, hgt = g + 1 := ⟨hgt - 1, by omega⟩
  unfold f_G_clear at h
  refine CV_of (own := RX0) (by decide) rfl (Nat.le_of_ble_eq_true rfl) ?_
  intro p e s m args below meth c Q A H locs X hI hend ls hl
  have hx := X.1.1
  have hb := X.1.2.1
  have hl : lv_has ls 2 [(0, .ref (ρ 5))] := hl
  refine lv_aload_n hx hb dX0_clear_0 rfl (lv_at hl 0 rfl) ?_
  refine rg_getR X hI (o := 5) (j := 1) (k := 4) rfl rfl rfl inG0 (by decide) rfl wF_X0_29 dX0_clear_1 ?_
  obtain ⟨μ2, hc1, h⟩ := ca_some h
  refine rc_vv (o := 4) (As := []) X hI (c_D_clear l D cI ρ g (by omega) hc1) rfl rfl gV_X0_61 hd_X3_clear (by decide) (Nat.le_refl _) hl.1 rfl (Nat.le_of_ble_eq_true rfl) dX0_clear_4 (fun H locs hI => ?_)
  refine lv_iconst (v := 0) hx hb dX0_clear_7 (by decide) ?_
  refine lv_istore_n (lv' := [(1, .int (0 : Int32)), (0, .ref (ρ 5))]) hx hb dX0_clear_8 rfl hl (by decide) rfl (fun ls hl => ?_)
  refine lp_elim (fun (k5 : Int32 → St → Option St) => ∀ (x3 : Int32) (μ4 : St) (H : Heap) (locs : List Loc) (ls : Array Slot), lv_has ls 2 [(0, .ref (ρ 5)), (1, .int x3)] → RI TC cI D A s.heap ρ μ4 H locs → k5 x3 μ4 = some ν → W p l e (rmL (g + 1)) s m args below meth c H locs 0 0 Q (F0 m 9 ls [])) ?_ ?_ N (0 : Int32) μ2 H locs ls (lv_sub hl [1, 0] rfl) hI h
  · intro x3 μ4 H locs ls hl hI h
    cases h
  · intro k5 ih6 x3 μ4 H locs ls hl hI h
    try dsimp only at h
    refine lv_iload_n hx hb dX0_clear_9 rfl (lv_at hl 1 rfl) ?_
    refine lv_sipush (v := 160) hx hb dX0_clear_10 (by decide) ?_
    refine lv_icmp_ge (tgt := 29) hx hb dX0_clear_13 (by decide) (fun c7 => ?_) (fun c7 => ?_)
    · have h := it_pos c7 h
      refine lv_aload_n hx hb dX0_clear_29 rfl (lv_at hl 0 rfl) ?_
      refine lv_iconst (v := 0) hx hb dX0_clear_30 (by decide) ?_
      refine rg_put X hI (o := 5) (j := 3) (k := 203) rfl rfl rfl rfl inG0 tyX0 tyX0_ok nmX0 (by decide) rfl wF_X0_15 rfl rfl rfl rfl dX0_clear_31 (fun H locs hI => ?_)
      obtain ⟨μ8, eμ8, h⟩ := nm_some h
      rw [← eμ8] at hI
      refine lv_aload_n hx hb dX0_clear_34 rfl (lv_at hl 0 rfl) ?_
      refine lv_iconst (v := 0) hx hb dX0_clear_35 (by decide) ?_
      refine rg_put X hI (o := 5) (j := 4) (k := 204) rfl rfl rfl rfl inG0 tyX0 tyX0_ok nmX0 (by decide) rfl wF_X0_19 rfl rfl rfl rfl dX0_clear_36 (fun H locs hI => ?_)
      obtain ⟨μ9, eμ9, h⟩ := nm_some h
      rw [← eμ9] at hI
      refine lv_aload_n hx hb dX0_clear_39 rfl (lv_at hl 0 rfl) ?_
      refine lv_iconst (v := 0) hx hb dX0_clear_40 (by decide) ?_
      refine rg_put X hI (o := 5) (j := 5) (k := 205) rfl rfl rfl rfl inG0 tyX0 tyX0_ok nmX0 (by decide) rfl wF_X0_22 rfl rfl rfl rfl dX0_clear_41 (fun H locs hI => ?_)
      obtain ⟨μ10, eμ10, h⟩ := nm_some h
      rw [← eμ10] at hI
      cases h
      exact hend H locs _ _ hI dX0_clear_44
    · have h := it_neg c7 h
      refine lv_aload_n hx hb dX0_clear_16 rfl (lv_at hl 0 rfl) ?_
      refine rg_getR X hI (o := 5) (j := 2) (k := 17) rfl rfl rfl inG0 (by decide) rfl wF_X0_9 dX0_clear_17 ?_
      refine lv_iload_n hx hb dX0_clear_20 rfl (lv_at hl 1 rfl) ?_
      refine lv_iconst (v := -1) hx hb dX0_clear_21 (by decide) ?_
      obtain ⟨hn11, h⟩ := gd_some h
      refine rg_ast X hI (o := 17) rfl rfl hn11 dX0_clear_22 (fun H locs hI => ?_)
      obtain ⟨μ12, eμ12, h⟩ := nm_some h
      rw [← eμ12] at hI
      obtain ⟨x13, ex13, h⟩ := nm_some h
      refine lv_iinc (v := x13) (lv' := [(1, .int x13), (0, .ref (ρ 5))]) hx hb dX0_clear_23 hl (k := 1) rfl (by rw [ex13]; rfl) (by decide) rfl (fun ls hl => ?_)
      refine lv_goto (tgt := 9) hx hb dX0_clear_26 (by decide) ?_
      exact ih6 x13 μ12 H locs ls (lv_sub hl [1, 0] rfl) hI h
set_option maxHeartbeats 4000000 in
set_option maxRecDepth 100000 in
theorem c_G_readIndex (l : Launch) (D : va_G) (cI : ClassId) (ρ : Nat → Nat) {rv : Int32 → St → Option St} (hb : Nat) (hb0 : 16 ≤ hb) (hrv : ∀ (o : Int32) (μ ν : St), rv o μ = some ν → ∀ g : Nat, hb ≤ g → CV l yX0_readValue cX0_readValue 3 g TC cI D ρ [.ref (ρ 5), .int o] μ ν) (hgt : Nat) (hh : hb + 1 ≤ hgt) {a1 : Int32} {μ ν : St} (h : f_G_readIndex rv a1 μ = some ν) : CV l yX0_readIndex cX0_readIndex 2 hgt TC cI D ρ [.ref (ρ 5), .int a1] μ ν := by
  obtain ⟨g, rfl⟩ : ∃ g, hgt = g + 1 := ⟨hgt - 1, by omega⟩
  unfold f_G_readIndex at h
  refine CV_of (own := RX0) (by decide) rfl (Nat.le_of_ble_eq_true rfl) ?_
  intro p e s m args below meth c Q A H locs X hI hend ls hl
  have hx := X.1.1
  have hbb := X.1.2.1
  have hl : lv_has ls 2 [(0, .ref (ρ 5)), (1, .int a1)] := hl
  refine lv_aload_n hx hbb dX0_readIndex_0 rfl (lv_at hl 0 rfl) ?_
  refine lv_bipush (v := 21) hx hbb dX0_readIndex_1 (by decide) ?_
  obtain ⟨μ2, hc1, h⟩ := ca_some h
  refine rc_vv (o := 5) (As := [.int (21 : Int32)]) X hI (c_G_expect l D cI ρ g (by omega) hc1) rfl rfl gV_X0_65 hd_X0_expect (by decide) (Nat.le_refl _) hl.1 rfl (Nat.le_of_ble_eq_true rfl) dX0_readIndex_3 (fun H locs hI => ?_)
  refine lv_aload_n hx hbb dX0_readIndex_6 rfl (lv_at hl 0 rfl) ?_
  refine lv_iload_n hx hbb dX0_readIndex_7 rfl (lv_at hl 1 rfl) ?_
  obtain ⟨μ4, hc3, h⟩ := ca_some h
  refine rc_vv (o := 5) (As := [.int a1]) X hI (hrv _ _ _ hc3 g (by omega)) rfl rfl gV_X0_110 hd_X0_readValue (by decide) (Nat.le_refl _) hl.1 rfl (Nat.le_of_ble_eq_true rfl) dX0_readIndex_8 (fun H locs hI => ?_)
  refine lv_aload_n hx hbb dX0_readIndex_11 rfl (lv_at hl 0 rfl) ?_
  refine lv_bipush (v := 22) hx hbb dX0_readIndex_12 (by decide) ?_
  obtain ⟨μ6, hc5, h⟩ := ca_some h
  refine rc_vv (o := 5) (As := [.int (22 : Int32)]) X hI (c_G_expect l D cI ρ g (by omega) hc5) rfl rfl gV_X0_65 hd_X0_expect (by decide) (Nat.le_refl _) hl.1 rfl (Nat.le_of_ble_eq_true rfl) dX0_readIndex_14 (fun H locs hI => ?_)
  cases h
  exact hend H locs _ _ hI dX0_readIndex_17
set_option maxHeartbeats 4000000 in
set_option maxRecDepth 100000 in
theorem c_G_readCall (l : Launch) (D : va_G) (cI : ClassId) (ρ : Nat → Nat) {N : Nat} {rv : Int32 → St → Option St} (hb : Nat) (hb0 : 16 ≤ hb) (hrv : ∀ (o : Int32) (μ ν : St), rv o μ = some ν → ∀ g : Nat, hb ≤ g → CV l yX0_readValue cX0_readValue 3 g TC cI D ρ [.ref (ρ 5), .int o] μ ν) (hgt : Nat) (hh : hb + 1 ≤ hgt) {a1 : Int32} {μ ν : St} (h : f_G_readCall N rv a1 μ = some ν) : CV l yX0_readCall cX0_readCall 5 hgt TC cI D ρ [.ref (ρ 5), .int a1] μ ν := by
  obtain ⟨g, rfl⟩ : ∃ g, hgt = g + 1 := ⟨hgt - 1, by omega⟩
  unfold f_G_readCall at h
  refine CV_of (own := RX0) (by decide) rfl (Nat.le_of_ble_eq_true rfl) ?_
  intro p e s m args below meth c Q A H locs X hI hend ls hl
  have hx := X.1.1
  have hbb := X.1.2.1
  have hl : lv_has ls 5 [(0, .ref (ρ 5)), (1, .int a1)] := hl
  refine lv_aload_n hx hbb dX0_readCall_0 rfl (lv_at hl 0 rfl) ?_
  refine rg_get X hI (o := 5) (j := 3) (k := 203) rfl rfl rfl inG0 (by decide) rfl wF_X0_15 dX0_readCall_1 ?_
  obtain ⟨x1, ex1, h⟩ := nm_some h
  refine rg_top ex1 ?_
  refine lv_istore_n (lv' := [(2, .int x1), (0, .ref (ρ 5)), (1, .int a1)]) hx hbb dX0_readCall_4 rfl hl (by decide) rfl (fun ls hl => ?_)
  refine lv_aload_n hx hbb dX0_readCall_5 rfl (lv_at hl 1 rfl) ?_
  obtain ⟨x3, hc2, h⟩ := ca_some h
  refine rc_vi (o := 5) (As := []) X hI (c_G_now l D cI ρ g (by omega) hc2) rfl rfl gV_X0_36 hd_X0_now (by decide) (Nat.le_refl _) hl.1 rfl (Nat.le_of_ble_eq_true rfl) dX0_readCall_6 (fun H locs hI => ?_)
  refine lv_bipush (v := 52) hx hbb dX0_readCall_9 (by decide) ?_
  refine lv_isub hx hbb dX0_readCall_11 ?_
  obtain ⟨x4, ex4, h⟩ := nm_some h
  refine rg_top ex4 ?_
  refine lv_istore_n (lv' := [(3, .int x4), (2, .int x1), (0, .ref (ρ 5)), (1, .int a1)]) hx hbb dX0_readCall_12 rfl hl (by decide) rfl (fun ls hl => ?_)
  refine lv_aload_n hx hbb dX0_readCall_13 rfl (lv_at hl 2 rfl) ?_
  obtain ⟨μ6, hc5, h⟩ := ca_some h
  refine rc_vv (o := 5) (As := []) X hI (c_G_next l D cI ρ g (by omega) hc5) rfl rfl gV_X0_68 hd_X0_next (by decide) (Nat.le_refl _) hl.1 rfl (Nat.le_of_ble_eq_true rfl) dX0_readCall_14 (fun H locs hI => ?_)
  refine lv_aload_n hx hbb dX0_readCall_17 rfl (lv_at hl 2 rfl) ?_
  refine lv_bipush (v := 6) hx hbb dX0_readCall_18 (by decide) ?_
  obtain ⟨μ8, hc7, h⟩ := ca_some h
  refine rc_vv (o := 5) (As := [.int (6 : Int32)]) X hI (c_G_expect l D cI ρ g (by omega) hc7) rfl rfl gV_X0_65 hd_X0_expect (by decide) (Nat.le_refl _) hl.1 rfl (Nat.le_of_ble_eq_true rfl) dX0_readCall_20 (fun H locs hI => ?_)
  refine lv_iconst (v := 0) hx hbb dX0_readCall_23 (by decide) ?_
  refine lv_istore (lv' := [(4, .int (0 : Int32)), (3, .int x4), (2, .int x1), (0, .ref (ρ 5)), (1, .int a1)]) hx hbb dX0_readCall_24 hl (by decide) rfl (fun ls hl => ?_)
  refine lv_aload_n hx hbb dX0_readCall_26 rfl (lv_at hl 3 rfl) ?_
  obtain ⟨x10, hc9, h⟩ := ca_some h
  refine rc_vi (o := 5) (As := []) X hI (c_G_now l D cI ρ g (by omega) hc9) rfl rfl gV_X0_36 hd_X0_now (by decide) (Nat.le_refl _) hl.1 rfl (Nat.le_of_ble_eq_true rfl) dX0_readCall_27 (fun H locs hI => ?_)
  refine lv_bipush (v := 7) hx hbb dX0_readCall_30 (by decide) ?_
  obtain ⟨k13, ek13, h⟩ := jn_some h
  have hj14 : ∀ (x11 : Int32) (μ12 : St) (H : Heap) (locs : List Loc) (ls : Array Slot), lv_has ls 5 [(0, .ref (ρ 5)), (2, .int x1), (3, .int x4), (4, .int x11)] → RI TC cI D A s.heap ρ μ12 H locs → k13 x11 μ12 = some ν → W p l e (rmL (g + 1)) s m args below meth c H locs 0 0 Q (F0 m 75 ls []) := by
    intro x11 μ12 H locs ls hl hI h
    rw [ek13] at h
    try dsimp only at h
    refine lv_aload_n hx hbb dX0_readCall_75 rfl (lv_at hl 0 rfl) ?_
    refine lv_bipush (v := 7) hx hbb dX0_readCall_76 (by decide) ?_
    obtain ⟨μ16, hc15, h⟩ := ca_some h
    refine rc_vv (o := 5) (As := [.int (7 : Int32)]) X hI (c_G_expect l D cI ρ g (by omega) hc15) rfl rfl gV_X0_65 hd_X0_expect (by decide) (Nat.le_refl _) hl.1 rfl (Nat.le_of_ble_eq_true rfl) dX0_readCall_78 (fun H locs hI => ?_)
    refine lv_iload_n hx hbb dX0_readCall_81 rfl (lv_at hl 1 rfl) ?_
    obtain ⟨k18, ek18, h⟩ := jn_some h
    have hj19 : ∀ (μ17 : St) (H : Heap) (locs : List Loc) (ls : Array Slot), lv_has ls 5 [(0, .ref (ρ 5)), (3, .int x4)] → RI TC cI D A s.heap ρ μ17 H locs → k18 μ17 = some ν → W p l e (rmL (g + 1)) s m args below meth c H locs 0 0 Q (F0 m 102 ls []) := by
      intro μ17 H locs ls hl hI h
      rw [ek18] at h
      try dsimp only at h
      refine lv_aload_n hx hbb dX0_readCall_102 rfl (lv_at hl 0 rfl) ?_
      refine rg_getR X hI (o := 5) (j := 1) (k := 4) rfl rfl rfl inG0 (by decide) rfl wF_X0_29 dX0_readCall_103 ?_
      refine lv_bipush (v := 42) hx hbb dX0_readCall_106 (by decide) ?_
      refine lv_iload_n hx hbb dX0_readCall_108 rfl (lv_at hl 1 rfl) ?_
      obtain ⟨x21, μ22, hc20, h⟩ := ca2_some h
      refine rc_vi (o := 4) (As := [.int (42 : Int32), .int x4]) X hI (c_D_add l D cI ρ g (by omega) hc20) rfl rfl gV_X0_78 hd_X3_add (by decide) (Nat.le_refl _) hl.1 rfl (Nat.le_of_ble_eq_true rfl) dX0_readCall_109 (fun H locs hI => ?_)
      refine lv_pop hx hbb dX0_readCall_112 rfl ?_
      cases h
      exact hend H locs _ _ hI dX0_readCall_113
    refine lv_if_lt (tgt := 102) hx hbb dX0_readCall_82 (by decide) (fun c23 => ?_) (fun c23 => ?_)
    · have h := it_pos c23 h
      exact hj19 μ16 H locs ls (lv_sub hl [0, 2] rfl) hI h
    · have h := it_neg c23 h
      refine lv_iload_n hx hbb dX0_readCall_85 rfl (lv_at hl 1 rfl) ?_
      refine lv_aload_n hx hbb dX0_readCall_86 rfl (lv_at hl 0 rfl) ?_
      refine rg_getR X hI (o := 5) (j := 2) (k := 17) rfl rfl rfl inG0 (by decide) rfl wF_X0_9 dX0_readCall_87 ?_
      refine rg_len X hI (o := 17) (v := 160) rfl (by decide) dX0_readCall_90 ?_
      refine lv_icmp_ge (tgt := 102) hx hbb dX0_readCall_91 (by decide) (fun c24 => ?_) (fun c24 => ?_)
      · have h := it_pos c24 h
        exact hj19 μ16 H locs ls (lv_sub hl [0, 2] rfl) hI h
      · have h := it_neg c24 h
        refine lv_aload_n hx hbb dX0_readCall_94 rfl (lv_at hl 0 rfl) ?_
        refine rg_getR X hI (o := 5) (j := 2) (k := 17) rfl rfl rfl inG0 (by decide) rfl wF_X0_9 dX0_readCall_95 ?_
        refine lv_iload_n hx hbb dX0_readCall_98 rfl (lv_at hl 1 rfl) ?_
        refine lv_iload hx hbb dX0_readCall_99 (lv_at hl 3 rfl) ?_
        obtain ⟨hn25, h⟩ := gd_some h
        refine rg_ast X hI (o := 17) rfl rfl hn25 dX0_readCall_101 (fun H locs hI => ?_)
        obtain ⟨μ26, eμ26, h⟩ := nm_some h
        rw [← eμ26] at hI
        exact hj19 μ26 H locs ls (lv_sub hl [0, 2] rfl) hI h
  refine lv_icmp_eq (tgt := 75) hx hbb dX0_readCall_32 (by decide) (fun c27 => ?_) (fun c27 => ?_)
  · have h := it_pos c27 h
    exact hj14 (0 : Int32) μ8 H locs ls (lv_sub hl [3, 2, 1, 0] rfl) hI h
  · have h := it_neg c27 h
    refine lv_aload_n hx hbb dX0_readCall_35 rfl (lv_at hl 3 rfl) ?_
    refine lv_iload_n hx hbb dX0_readCall_36 rfl (lv_at hl 4 rfl) ?_
    obtain ⟨μ29, hc28, h⟩ := ca_some h
    refine rc_vv (o := 5) (As := [.int a1]) X hI (hrv _ _ _ hc28 g (by omega)) rfl rfl gV_X0_110 hd_X0_readValue (by decide) (Nat.le_refl _) hl.1 rfl (Nat.le_of_ble_eq_true rfl) dX0_readCall_37 (fun H locs hI => ?_)
    refine lv_iconst (v := 1) hx hbb dX0_readCall_40 (by decide) ?_
    refine lv_istore (lv' := [(4, .int (1 : Int32)), (3, .int x4), (2, .int x1), (0, .ref (ρ 5)), (1, .int a1)]) hx hbb dX0_readCall_41 hl (by decide) rfl (fun ls hl => ?_)
    refine lp_elim (fun (k32 : Int32 → St → Option St) => ∀ (x30 : Int32) (μ31 : St) (H : Heap) (locs : List Loc) (ls : Array Slot), lv_has ls 5 [(0, .ref (ρ 5)), (1, .int a1), (2, .int x1), (3, .int x4), (4, .int x30)] → RI TC cI D A s.heap ρ μ31 H locs → k32 x30 μ31 = some ν → W p l e (rmL (g + 1)) s m args below meth c H locs 0 0 Q (F0 m 43 ls [])) ?_ ?_ N (1 : Int32) μ29 H locs ls (lv_sub hl [3, 4, 2, 1, 0] rfl) hI h
    · intro x30 μ31 H locs ls hl hI h
      cases h
    · intro k32 ih33 x30 μ31 H locs ls hl hI h
      try dsimp only at h
      refine lv_iload hx hbb dX0_readCall_43 (lv_at hl 4 rfl) ?_
      refine lv_sipush (v := 160) hx hbb dX0_readCall_45 (by decide) ?_
      refine lv_icmp_ge (tgt := 75) hx hbb dX0_readCall_48 (by decide) (fun c34 => ?_) (fun c34 => ?_)
      · have h := it_pos c34 h
        exact hj14 x30 μ31 H locs ls (lv_sub hl [0, 2, 3, 4] rfl) hI h
      · have h := it_neg c34 h
        refine lv_aload_n hx hbb dX0_readCall_51 rfl (lv_at hl 0 rfl) ?_
        obtain ⟨x36, hc35, h⟩ := ca_some h
        refine rc_vi (o := 5) (As := []) X hI (c_G_now l D cI ρ g (by omega) hc35) rfl rfl gV_X0_36 hd_X0_now (by decide) (Nat.le_refl _) hl.1 rfl (Nat.le_of_ble_eq_true rfl) dX0_readCall_52 (fun H locs hI => ?_)
        refine lv_bipush (v := 11) hx hbb dX0_readCall_55 (by decide) ?_
        refine lv_icmp_ne (tgt := 75) hx hbb dX0_readCall_57 (by decide) (fun c37 => ?_) (fun c37 => ?_)
        · have h := it_neg c37 h
          exact hj14 x30 μ31 H locs ls (lv_sub hl [0, 2, 3, 4] rfl) hI h
        · have h := it_pos c37 h
          refine lv_aload_n hx hbb dX0_readCall_60 rfl (lv_at hl 0 rfl) ?_
          obtain ⟨μ39, hc38, h⟩ := ca_some h
          refine rc_vv (o := 5) (As := []) X hI (c_G_next l D cI ρ g (by omega) hc38) rfl rfl gV_X0_68 hd_X0_next (by decide) (Nat.le_refl _) hl.1 rfl (Nat.le_of_ble_eq_true rfl) dX0_readCall_61 (fun H locs hI => ?_)
          refine lv_aload_n hx hbb dX0_readCall_64 rfl (lv_at hl 0 rfl) ?_
          refine lv_iload_n hx hbb dX0_readCall_65 rfl (lv_at hl 1 rfl) ?_
          obtain ⟨μ41, hc40, h⟩ := ca_some h
          refine rc_vv (o := 5) (As := [.int a1]) X hI (hrv _ _ _ hc40 g (by omega)) rfl rfl gV_X0_110 hd_X0_readValue (by decide) (Nat.le_refl _) hl.1 rfl (Nat.le_of_ble_eq_true rfl) dX0_readCall_66 (fun H locs hI => ?_)
          obtain ⟨x42, ex42, h⟩ := nm_some h
          refine lv_iinc (v := x42) (lv' := [(4, .int x42), (0, .ref (ρ 5)), (1, .int a1), (2, .int x1), (3, .int x4)]) hx hbb dX0_readCall_69 hl (k := 4) rfl (by rw [ex42]; rfl) (by decide) rfl (fun ls hl => ?_)
          refine lv_goto (tgt := 43) hx hbb dX0_readCall_72 (by decide) ?_
          exact ih33 x42 μ41 H locs ls (lv_sub hl [1, 2, 3, 4, 0] rfl) hI h
set_option maxHeartbeats 4000000 in
set_option maxRecDepth 100000 in
theorem c_G_readSingle (l : Launch) (D : va_G) (cI : ClassId) (ρ : Nat → Nat) (hgt : Nat) (hh : 2 ≤ hgt) {a1 : Int32} {μ ν : St} (h : f_G_readSingle a1 μ = some ν) : CV l yX0_readSingle cX0_readSingle 2 hgt TC cI D ρ [.ref (ρ 5), .int a1] μ ν := by
  obtain ⟨g, rfl⟩ : ∃ g, hgt = g + 1 := ⟨hgt - 1, by omega⟩
  unfold f_G_readSingle at h
  refine CV_of (own := RX0) (by decide) rfl (Nat.le_of_ble_eq_true rfl) ?_
  intro p e s m args below meth c Q A H locs X hI hend ls hl
  have hx := X.1.1
  have hb := X.1.2.1
  have hl : lv_has ls 2 [(0, .ref (ρ 5)), (1, .int a1)] := hl
  refine lv_iload_n hx hb dX0_readSingle_0 rfl (lv_at hl 1 rfl) ?_
  refine lv_bipush (v := 64) hx hb dX0_readSingle_1 (by decide) ?_
  refine lv_sipush (v := 128) hx hb dX0_readSingle_3 (by decide) ?_
  obtain ⟨x2, hc1, h⟩ := ca_some h
  refine rc_si (As := [.int a1, .int (64 : Int32), .int (128 : Int32)]) X hI (c_G_isOf l D cI ρ g (by omega) hc1) gV_X0_94 hd_X0_isOf (by decide) (Nat.le_refl _) hl.1 rfl (Nat.le_of_ble_eq_true rfl) dX0_readSingle_6 (fun H locs hI => ?_)
  obtain ⟨k4, ek4, h⟩ := jn_some h
  have hj5 : ∀ (μ3 : St) (H : Heap) (locs : List Loc) (ls : Array Slot), lv_has ls 2 [(0, .ref (ρ 5))] → RI TC cI D A s.heap ρ μ3 H locs → k4 μ3 = some ν → W p l e (rmL (g + 1)) s m args below meth c H locs 0 0 Q (F0 m 110 ls []) := by
    intro μ3 H locs ls hl hI h
    rw [ek4] at h
    try dsimp only at h
    refine lv_aload_n hx hb dX0_readSingle_110 rfl (lv_at hl 0 rfl) ?_
    obtain ⟨μ7, hc6, h⟩ := ca_some h
    refine rc_vv (o := 5) (As := []) X hI (c_G_next l D cI ρ g (by omega) hc6) rfl rfl gV_X0_68 hd_X0_next (by decide) (Nat.le_refl _) hl.1 rfl (Nat.le_of_ble_eq_true rfl) dX0_readSingle_111 (fun H locs hI => ?_)
    cases h
    exact hend H locs _ _ hI dX0_readSingle_114
  refine lv_if_eq (tgt := 29) hx hb dX0_readSingle_9 (by decide) (fun c8 => ?_) (fun c8 => ?_)
  · have h := it_pos c8 h
    refine lv_iload_n hx hb dX0_readSingle_29 rfl (lv_at hl 1 rfl) ?_
    refine lv_iconst (v := 5) hx hb dX0_readSingle_30 (by decide) ?_
    refine lv_icmp_ne (tgt := 48) hx hb dX0_readSingle_31 (by decide) (fun c9 => ?_) (fun c9 => ?_)
    · have h := it_neg c9 h
      refine lv_iload_n hx hb dX0_readSingle_48 rfl (lv_at hl 1 rfl) ?_
      refine lv_bipush (v := 32) hx hb dX0_readSingle_49 (by decide) ?_
      refine lv_bipush (v := 8) hx hb dX0_readSingle_51 (by decide) ?_
      obtain ⟨x11, hc10, h⟩ := ca_some h
      refine rc_si (As := [.int a1, .int (32 : Int32), .int (8 : Int32)]) X hI (c_G_isOf l D cI ρ g (by omega) hc10) gV_X0_94 hd_X0_isOf (by decide) (Nat.le_refl _) hl.1 rfl (Nat.le_of_ble_eq_true rfl) dX0_readSingle_53 (fun H locs hI => ?_)
      refine lv_if_eq (tgt := 76) hx hb dX0_readSingle_56 (by decide) (fun c12 => ?_) (fun c12 => ?_)
      · have h := it_pos c12 h
        refine lv_iload_n hx hb dX0_readSingle_76 rfl (lv_at hl 1 rfl) ?_
        refine lv_bipush (v := 44) hx hb dX0_readSingle_77 (by decide) ?_
        refine lv_bipush (v := 8) hx hb dX0_readSingle_79 (by decide) ?_
        obtain ⟨x14, hc13, h⟩ := ca_some h
        refine rc_si (As := [.int a1, .int (44 : Int32), .int (8 : Int32)]) X hI (c_G_isOf l D cI ρ g (by omega) hc13) gV_X0_94 hd_X0_isOf (by decide) (Nat.le_refl _) hl.1 rfl (Nat.le_of_ble_eq_true rfl) dX0_readSingle_81 (fun H locs hI => ?_)
        refine lv_if_eq (tgt := 104) hx hb dX0_readSingle_84 (by decide) (fun c15 => ?_) (fun c15 => ?_)
        · have h := it_pos c15 h
          refine lv_aload_n hx hb dX0_readSingle_104 rfl (lv_at hl 0 rfl) ?_
          refine lv_iconst (v := 1) hx hb dX0_readSingle_105 (by decide) ?_
          obtain ⟨μ17, hc16, h⟩ := ca_some h
          refine rc_vv (o := 5) (As := [.int (1 : Int32)]) X hI (c_G_fail l D cI ρ g (by omega) hc16) rfl rfl gV_X0_57 hd_X0_fail (by decide) (Nat.le_refl _) hl.1 rfl (Nat.le_of_ble_eq_true rfl) dX0_readSingle_106 (fun H locs hI => ?_)
          cases h
          exact hend H locs _ _ hI dX0_readSingle_109
        · have h := it_neg c15 h
          refine lv_aload_n hx hb dX0_readSingle_87 rfl (lv_at hl 0 rfl) ?_
          refine rg_getR X hI (o := 5) (j := 1) (k := 4) rfl rfl rfl inG0 (by decide) rfl wF_X0_29 dX0_readSingle_88 ?_
          refine lv_bipush (v := 38) hx hb dX0_readSingle_91 (by decide) ?_
          refine lv_iload_n hx hb dX0_readSingle_93 rfl (lv_at hl 1 rfl) ?_
          refine lv_bipush (v := 44) hx hb dX0_readSingle_94 (by decide) ?_
          refine lv_isub hx hb dX0_readSingle_96 ?_
          obtain ⟨x19, μ20, hc18, h⟩ := ca2_some h
          refine rc_vi (o := 4) (As := [.int (38 : Int32), .int (a1 - (44 : Int32))]) X hI (c_D_add l D cI ρ g (by omega) hc18) rfl rfl gV_X0_78 hd_X3_add (by decide) (Nat.le_refl _) hl.1 rfl (Nat.le_of_ble_eq_true rfl) dX0_readSingle_97 (fun H locs hI => ?_)
          refine lv_pop hx hb dX0_readSingle_100 rfl ?_
          refine lv_goto (tgt := 110) hx hb dX0_readSingle_101 (by decide) ?_
          exact hj5 μ20 H locs ls (lv_sub hl [0] rfl) hI h
      · have h := it_neg c12 h
        refine lv_aload_n hx hb dX0_readSingle_59 rfl (lv_at hl 0 rfl) ?_
        refine rg_getR X hI (o := 5) (j := 1) (k := 4) rfl rfl rfl inG0 (by decide) rfl wF_X0_29 dX0_readSingle_60 ?_
        refine lv_bipush (v := 36) hx hb dX0_readSingle_63 (by decide) ?_
        refine lv_iload_n hx hb dX0_readSingle_65 rfl (lv_at hl 1 rfl) ?_
        refine lv_bipush (v := 32) hx hb dX0_readSingle_66 (by decide) ?_
        refine lv_isub hx hb dX0_readSingle_68 ?_
        obtain ⟨x22, μ23, hc21, h⟩ := ca2_some h
        refine rc_vi (o := 4) (As := [.int (36 : Int32), .int (a1 - (32 : Int32))]) X hI (c_D_add l D cI ρ g (by omega) hc21) rfl rfl gV_X0_78 hd_X3_add (by decide) (Nat.le_refl _) hl.1 rfl (Nat.le_of_ble_eq_true rfl) dX0_readSingle_69 (fun H locs hI => ?_)
        refine lv_pop hx hb dX0_readSingle_72 rfl ?_
        refine lv_goto (tgt := 110) hx hb dX0_readSingle_73 (by decide) ?_
        exact hj5 μ23 H locs ls (lv_sub hl [0] rfl) hI h
    · have h := it_pos c9 h
      refine lv_aload_n hx hb dX0_readSingle_34 rfl (lv_at hl 0 rfl) ?_
      refine rg_getR X hI (o := 5) (j := 1) (k := 4) rfl rfl rfl inG0 (by decide) rfl wF_X0_29 dX0_readSingle_35 ?_
      refine lv_bipush (v := 34) hx hb dX0_readSingle_38 (by decide) ?_
      refine lv_iconst (v := 0) hx hb dX0_readSingle_40 (by decide) ?_
      obtain ⟨x25, μ26, hc24, h⟩ := ca2_some h
      refine rc_vi (o := 4) (As := [.int (34 : Int32), .int (0 : Int32)]) X hI (c_D_add l D cI ρ g (by omega) hc24) rfl rfl gV_X0_78 hd_X3_add (by decide) (Nat.le_refl _) hl.1 rfl (Nat.le_of_ble_eq_true rfl) dX0_readSingle_41 (fun H locs hI => ?_)
      refine lv_pop hx hb dX0_readSingle_44 rfl ?_
      refine lv_goto (tgt := 110) hx hb dX0_readSingle_45 (by decide) ?_
      exact hj5 μ26 H locs ls (lv_sub hl [0] rfl) hI h
  · have h := it_neg c8 h
    refine lv_aload_n hx hb dX0_readSingle_12 rfl (lv_at hl 0 rfl) ?_
    refine rg_getR X hI (o := 5) (j := 1) (k := 4) rfl rfl rfl inG0 (by decide) rfl wF_X0_29 dX0_readSingle_13 ?_
    refine lv_bipush (v := 33) hx hb dX0_readSingle_16 (by decide) ?_
    refine lv_iload_n hx hb dX0_readSingle_18 rfl (lv_at hl 1 rfl) ?_
    refine lv_bipush (v := 64) hx hb dX0_readSingle_19 (by decide) ?_
    refine lv_isub hx hb dX0_readSingle_21 ?_
    obtain ⟨x28, μ29, hc27, h⟩ := ca2_some h
    refine rc_vi (o := 4) (As := [.int (33 : Int32), .int (a1 - (64 : Int32))]) X hI (c_D_add l D cI ρ g (by omega) hc27) rfl rfl gV_X0_78 hd_X3_add (by decide) (Nat.le_refl _) hl.1 rfl (Nat.le_of_ble_eq_true rfl) dX0_readSingle_22 (fun H locs hI => ?_)
    refine lv_pop hx hb dX0_readSingle_25 rfl ?_
    refine lv_goto (tgt := 110) hx hb dX0_readSingle_26 (by decide) ?_
    exact hj5 μ29 H locs ls (lv_sub hl [0] rfl) hI h
set_option maxHeartbeats 4000000 in
set_option maxRecDepth 100000 in
theorem c_G_readPiece (l : Launch) (D : va_G) (cI : ClassId) (ρ : Nat → Nat) {N : Nat} {rv : Int32 → St → Option St} (hb : Nat) (hb0 : 16 ≤ hb) (hrv : ∀ (o : Int32) (μ ν : St), rv o μ = some ν → ∀ g : Nat, hb ≤ g → CV l yX0_readValue cX0_readValue 3 g TC cI D ρ [.ref (ρ 5), .int o] μ ν) (hgt : Nat) (hh : hb + 2 ≤ hgt) {a1 : Int32} {μ ν : St} (h : f_G_readPiece N rv a1 μ = some ν) : CV l yX0_readPiece cX0_readPiece 3 hgt TC cI D ρ [.ref (ρ 5), .int a1] μ ν := by
  obtain ⟨g, rfl⟩ : ∃ g, hgt = g + 1 := ⟨hgt - 1, by omega⟩
  unfold f_G_readPiece at h
  refine CV_of (own := RX0) (by decide) rfl (Nat.le_of_ble_eq_true rfl) ?_
  intro p e s m args below meth c Q A H locs X hI hend ls hl
  have hx := X.1.1
  have hbb := X.1.2.1
  have hl : lv_has ls 3 [(0, .ref (ρ 5)), (1, .int a1)] := hl
  refine lv_aload_n hx hbb dX0_readPiece_0 rfl (lv_at hl 0 rfl) ?_
  obtain ⟨x2, hc1, h⟩ := ca_some h
  refine rc_vi (o := 5) (As := []) X hI (c_G_now l D cI ρ g (by omega) hc1) rfl rfl gV_X0_36 hd_X0_now (by decide) (Nat.le_refl _) hl.1 rfl (Nat.le_of_ble_eq_true rfl) dX0_readPiece_1 (fun H locs hI => ?_)
  refine lv_istore_n (lv' := [(2, .int x2), (0, .ref (ρ 5)), (1, .int a1)]) hx hbb dX0_readPiece_4 rfl hl (by decide) rfl (fun ls hl => ?_)
  refine lv_iload_n hx hbb dX0_readPiece_5 rfl (lv_at hl 0 rfl) ?_
  refine lv_bipush (v := 52) hx hbb dX0_readPiece_6 (by decide) ?_
  refine lv_bipush (v := 6) hx hbb dX0_readPiece_8 (by decide) ?_
  obtain ⟨x4, hc3, h⟩ := ca_some h
  refine rc_si (As := [.int x2, .int (52 : Int32), .int (6 : Int32)]) X hI (c_G_isOf l D cI ρ g (by omega) hc3) gV_X0_94 hd_X0_isOf (by decide) (Nat.le_refl _) hl.1 rfl (Nat.le_of_ble_eq_true rfl) dX0_readPiece_10 (fun H locs hI => ?_)
  refine lv_if_eq (tgt := 26) hx hbb dX0_readPiece_13 (by decide) (fun c5 => ?_) (fun c5 => ?_)
  · have h := it_pos c5 h
    refine lv_iload_n hx hbb dX0_readPiece_26 rfl (lv_at hl 0 rfl) ?_
    refine lv_bipush (v := 40) hx hbb dX0_readPiece_27 (by decide) ?_
    refine lv_iconst (v := 4) hx hbb dX0_readPiece_29 (by decide) ?_
    obtain ⟨x7, hc6, h⟩ := ca_some h
    refine rc_si (As := [.int x2, .int (40 : Int32), .int (4 : Int32)]) X hI (c_G_isOf l D cI ρ g (by omega) hc6) gV_X0_94 hd_X0_isOf (by decide) (Nat.le_refl _) hl.1 rfl (Nat.le_of_ble_eq_true rfl) dX0_readPiece_30 (fun H locs hI => ?_)
    refine lv_if_eq (tgt := 64) hx hbb dX0_readPiece_33 (by decide) (fun c8 => ?_) (fun c8 => ?_)
    · have h := it_pos c8 h
      refine lv_iload_n hx hbb dX0_readPiece_64 rfl (lv_at hl 0 rfl) ?_
      refine lv_bipush (v := 6) hx hbb dX0_readPiece_65 (by decide) ?_
      refine lv_icmp_ne (tgt := 90) hx hbb dX0_readPiece_67 (by decide) (fun c9 => ?_) (fun c9 => ?_)
      · have h := it_neg c9 h
        refine lv_aload_n hx hbb dX0_readPiece_90 rfl (lv_at hl 1 rfl) ?_
        refine lv_iload_n hx hbb dX0_readPiece_91 rfl (lv_at hl 0 rfl) ?_
        obtain ⟨μ11, hc10, h⟩ := ca_some h
        refine rc_vv (o := 5) (As := [.int x2]) X hI (c_G_readSingle l D cI ρ g (by omega) hc10) rfl rfl gV_X0_128 hd_X0_readSingle (by decide) (Nat.le_refl _) hl.1 rfl (Nat.le_of_ble_eq_true rfl) dX0_readPiece_92 (fun H locs hI => ?_)
        cases h
        exact hend H locs _ _ hI dX0_readPiece_95
      · have h := it_pos c9 h
        refine lv_aload_n hx hbb dX0_readPiece_70 rfl (lv_at hl 1 rfl) ?_
        obtain ⟨μ13, hc12, h⟩ := ca_some h
        refine rc_vv (o := 5) (As := []) X hI (c_G_next l D cI ρ g (by omega) hc12) rfl rfl gV_X0_68 hd_X0_next (by decide) (Nat.le_refl _) hl.1 rfl (Nat.le_of_ble_eq_true rfl) dX0_readPiece_71 (fun H locs hI => ?_)
        refine lv_aload_n hx hbb dX0_readPiece_74 rfl (lv_at hl 1 rfl) ?_
        refine lv_iload_n hx hbb dX0_readPiece_75 rfl (lv_at hl 2 rfl) ?_
        refine lv_iconst (v := 1) hx hbb dX0_readPiece_76 (by decide) ?_
        refine lv_iadd hx hbb dX0_readPiece_77 ?_
        obtain ⟨μ15, hc14, h⟩ := ca_some h
        refine rc_vv (o := 5) (As := [.int (a1 + (1 : Int32))]) X hI (hrv _ _ _ hc14 g (by omega)) rfl rfl gV_X0_110 hd_X0_readValue (by decide) (Nat.le_refl _) hl.1 rfl (Nat.le_of_ble_eq_true rfl) dX0_readPiece_78 (fun H locs hI => ?_)
        refine lv_aload_n hx hbb dX0_readPiece_81 rfl (lv_at hl 1 rfl) ?_
        refine lv_bipush (v := 7) hx hbb dX0_readPiece_82 (by decide) ?_
        obtain ⟨μ17, hc16, h⟩ := ca_some h
        refine rc_vv (o := 5) (As := [.int (7 : Int32)]) X hI (c_G_expect l D cI ρ g (by omega) hc16) rfl rfl gV_X0_65 hd_X0_expect (by decide) (Nat.le_refl _) hl.1 rfl (Nat.le_of_ble_eq_true rfl) dX0_readPiece_84 (fun H locs hI => ?_)
        refine lv_goto (tgt := 95) hx hbb dX0_readPiece_87 (by decide) ?_
        cases h
        exact hend H locs _ _ hI dX0_readPiece_95
    · have h := it_neg c8 h
      refine lv_aload_n hx hbb dX0_readPiece_36 rfl (lv_at hl 1 rfl) ?_
      obtain ⟨μ19, hc18, h⟩ := ca_some h
      refine rc_vv (o := 5) (As := []) X hI (c_G_next l D cI ρ g (by omega) hc18) rfl rfl gV_X0_68 hd_X0_next (by decide) (Nat.le_refl _) hl.1 rfl (Nat.le_of_ble_eq_true rfl) dX0_readPiece_37 (fun H locs hI => ?_)
      refine lv_aload_n hx hbb dX0_readPiece_40 rfl (lv_at hl 1 rfl) ?_
      refine lv_iload_n hx hbb dX0_readPiece_41 rfl (lv_at hl 2 rfl) ?_
      refine lv_iconst (v := 1) hx hbb dX0_readPiece_42 (by decide) ?_
      refine lv_iadd hx hbb dX0_readPiece_43 ?_
      obtain ⟨μ21, hc20, h⟩ := ca_some h
      refine rc_vv (o := 5) (As := [.int (a1 + (1 : Int32))]) X hI (c_G_readIndex l D cI ρ hb hb0 hrv g (by omega) hc20) rfl rfl gV_X0_113 hd_X0_readIndex (by decide) (Nat.le_refl _) hl.1 rfl (Nat.le_of_ble_eq_true rfl) dX0_readPiece_44 (fun H locs hI => ?_)
      refine lv_aload_n hx hbb dX0_readPiece_47 rfl (lv_at hl 1 rfl) ?_
      refine rg_getR X hI (o := 5) (j := 1) (k := 4) rfl rfl rfl inG0 (by decide) rfl wF_X0_29 dX0_readPiece_48 ?_
      refine lv_bipush (v := 40) hx hbb dX0_readPiece_51 (by decide) ?_
      refine lv_iload_n hx hbb dX0_readPiece_53 rfl (lv_at hl 0 rfl) ?_
      refine lv_bipush (v := 40) hx hbb dX0_readPiece_54 (by decide) ?_
      refine lv_isub hx hbb dX0_readPiece_56 ?_
      obtain ⟨x23, μ24, hc22, h⟩ := ca2_some h
      refine rc_vi (o := 4) (As := [.int (40 : Int32), .int (x2 - (40 : Int32))]) X hI (c_D_add l D cI ρ g (by omega) hc22) rfl rfl gV_X0_78 hd_X3_add (by decide) (Nat.le_refl _) hl.1 rfl (Nat.le_of_ble_eq_true rfl) dX0_readPiece_57 (fun H locs hI => ?_)
      refine lv_pop hx hbb dX0_readPiece_60 rfl ?_
      refine lv_goto (tgt := 95) hx hbb dX0_readPiece_61 (by decide) ?_
      cases h
      exact hend H locs _ _ hI dX0_readPiece_95
  · have h := it_neg c5 h
    refine lv_aload_n hx hbb dX0_readPiece_16 rfl (lv_at hl 1 rfl) ?_
    refine lv_iload_n hx hbb dX0_readPiece_17 rfl (lv_at hl 2 rfl) ?_
    refine lv_iconst (v := 1) hx hbb dX0_readPiece_18 (by decide) ?_
    refine lv_iadd hx hbb dX0_readPiece_19 ?_
    obtain ⟨μ26, hc25, h⟩ := ca_some h
    refine rc_vv (o := 5) (As := [.int (a1 + (1 : Int32))]) X hI (c_G_readCall l D cI ρ hb hb0 hrv g (by omega) hc25) rfl rfl gV_X0_98 hd_X0_readCall (by decide) (Nat.le_refl _) hl.1 rfl (Nat.le_of_ble_eq_true rfl) dX0_readPiece_20 (fun H locs hI => ?_)
    refine lv_goto (tgt := 95) hx hbb dX0_readPiece_23 (by decide) ?_
    cases h
    exact hend H locs _ _ hI dX0_readPiece_95
set_option maxHeartbeats 4000000 in
set_option maxRecDepth 100000 in
theorem c_G_readPart (l : Launch) (D : va_G) (cI : ClassId) (ρ : Nat → Nat) {N : Nat} {rv : Int32 → St → Option St} (hb : Nat) (hb0 : 16 ≤ hb) (hrv : ∀ (o : Int32) (μ ν : St), rv o μ = some ν → ∀ g : Nat, hb ≤ g → CV l yX0_readValue cX0_readValue 3 g TC cI D ρ [.ref (ρ 5), .int o] μ ν) (hgt : Nat) (hh : hb + 3 ≤ hgt) {a1 : Int32} {μ ν : St} (h : f_G_readPart N rv a1 μ = some ν) : CV l yX0_readPart cX0_readPart 3 hgt TC cI D ρ [.ref (ρ 5), .int a1] μ ν := by
  obtain ⟨g, rfl⟩ : ∃ g, hgt = g + 1 := ⟨hgt - 1, by omega⟩
  unfold f_G_readPart at h
  refine CV_of (own := RX0) (by decide) rfl (Nat.le_of_ble_eq_true rfl) ?_
  intro p e s m args below meth c Q A H locs X hI hend ls hl
  have hx := X.1.1
  have hbb := X.1.2.1
  have hl : lv_has ls 3 [(0, .ref (ρ 5)), (1, .int a1)] := hl
  refine lv_aload_n hx hbb dX0_readPart_0 rfl (lv_at hl 0 rfl) ?_
  obtain ⟨x2, hc1, h⟩ := ca_some h
  refine rc_vi (o := 5) (As := []) X hI (c_G_now l D cI ρ g (by omega) hc1) rfl rfl gV_X0_36 hd_X0_now (by decide) (Nat.le_refl _) hl.1 rfl (Nat.le_of_ble_eq_true rfl) dX0_readPart_1 (fun H locs hI => ?_)
  refine lv_istore_n (lv' := [(2, .int x2), (0, .ref (ρ 5)), (1, .int a1)]) hx hbb dX0_readPart_4 rfl hl (by decide) rfl (fun ls hl => ?_)
  refine lv_iload_n hx hbb dX0_readPart_5 rfl (lv_at hl 0 rfl) ?_
  refine lv_bipush (v := 14) hx hbb dX0_readPart_6 (by decide) ?_
  obtain ⟨k4, ek4, h⟩ := jn_some h
  have hj5 : ∀ (ls : Array Slot), lv_has ls 3 [(0, .ref (ρ 5)), (1, .int a1), (2, .int x2)] → k4 = some ν → W p l e (rmL (g + 1)) s m args below meth c H locs 0 0 Q (F0 m 17 ls []) := by
    intro ls hl h
    rw [ek4] at h
    refine lv_aload_n hx hbb dX0_readPart_17 rfl (lv_at hl 0 rfl) ?_
    obtain ⟨μ7, hc6, h⟩ := ca_some h
    refine rc_vv (o := 5) (As := []) X hI (c_G_next l D cI ρ g (by omega) hc6) rfl rfl gV_X0_68 hd_X0_next (by decide) (Nat.le_refl _) hl.1 rfl (Nat.le_of_ble_eq_true rfl) dX0_readPart_18 (fun H locs hI => ?_)
    refine lv_aload_n hx hbb dX0_readPart_21 rfl (lv_at hl 0 rfl) ?_
    refine lv_iload_n hx hbb dX0_readPart_22 rfl (lv_at hl 1 rfl) ?_
    obtain ⟨μ9, hc8, h⟩ := ca_some h
    refine rc_vv (o := 5) (As := [.int a1]) X hI (c_G_readPiece l D cI ρ hb hb0 hrv g (by omega) hc8) rfl rfl gV_X0_125 hd_X0_readPiece (by decide) (Nat.le_refl _) hl.1 rfl (Nat.le_of_ble_eq_true rfl) dX0_readPart_23 (fun H locs hI => ?_)
    refine lv_aload_n hx hbb dX0_readPart_26 rfl (lv_at hl 0 rfl) ?_
    refine rg_getR X hI (o := 5) (j := 1) (k := 4) rfl rfl rfl inG0 (by decide) rfl wF_X0_29 dX0_readPart_27 ?_
    refine lv_iload_n hx hbb dX0_readPart_30 rfl (lv_at hl 2 rfl) ?_
    refine lv_bipush (v := 14) hx hbb dX0_readPart_31 (by decide) ?_
    obtain ⟨k11, ek11, h⟩ := jn_some h
    have hj12 : ∀ (y13 : Int32) (ls : Array Slot), lv_has ls 3 [] → k11 y13 = some ν → W p l e (rmL (g + 1)) s m args below meth c H locs 0 0 Q (F0 m 43 ls [.int y13, .ref (ρ 4)]) := by
      intro y13 ls hl h
      rw [ek11] at h
      try dsimp only at h
      refine lv_iconst (v := 0) hx hbb dX0_readPart_43 (by decide) ?_
      obtain ⟨x15, μ16, hc14, h⟩ := ca2_some h
      refine rc_vi (o := 4) (As := [.int y13, .int (0 : Int32)]) X hI (c_D_add l D cI ρ g (by omega) hc14) rfl rfl gV_X0_78 hd_X3_add (by decide) (Nat.le_refl _) hl.1 rfl (Nat.le_of_ble_eq_true rfl) dX0_readPart_44 (fun H locs hI => ?_)
      refine lv_pop hx hbb dX0_readPart_47 rfl ?_
      refine lv_goto (tgt := 56) hx hbb dX0_readPart_48 (by decide) ?_
      cases h
      exact hend H locs _ _ hI dX0_readPart_56
    refine lv_icmp_ne (tgt := 41) hx hbb dX0_readPart_33 (by decide) (fun c17 => ?_) (fun c17 => ?_)
    · have h := it_neg c17 h
      refine lv_bipush (v := 20) hx hbb dX0_readPart_41 (by decide) ?_
      exact hj12 (20 : Int32) ls (lv_sub hl [] rfl) h
    · have h := it_pos c17 h
      refine lv_bipush (v := 35) hx hbb dX0_readPart_36 (by decide) ?_
      refine lv_goto (tgt := 43) hx hbb dX0_readPart_38 (by decide) ?_
      exact hj12 (35 : Int32) ls (lv_sub hl [] rfl) h
  refine lv_icmp_eq (tgt := 17) hx hbb dX0_readPart_8 (by decide) (fun c18 => ?_) (fun c18 => ?_)
  · have h := it_pos c18 h
    exact hj5 ls (lv_sub hl [1, 2, 0] rfl) h
  · have h := it_neg c18 h
    refine lv_iload_n hx hbb dX0_readPart_11 rfl (lv_at hl 0 rfl) ?_
    refine lv_bipush (v := 20) hx hbb dX0_readPart_12 (by decide) ?_
    refine lv_icmp_ne (tgt := 51) hx hbb dX0_readPart_14 (by decide) (fun c19 => ?_) (fun c19 => ?_)
    · have h := it_neg c19 h
      refine lv_aload_n hx hbb dX0_readPart_51 rfl (lv_at hl 1 rfl) ?_
      refine lv_iload_n hx hbb dX0_readPart_52 rfl (lv_at hl 2 rfl) ?_
      obtain ⟨μ21, hc20, h⟩ := ca_some h
      refine rc_vv (o := 5) (As := [.int a1]) X hI (c_G_readPiece l D cI ρ hb hb0 hrv g (by omega) hc20) rfl rfl gV_X0_125 hd_X0_readPiece (by decide) (Nat.le_refl _) hl.1 rfl (Nat.le_of_ble_eq_true rfl) dX0_readPart_53 (fun H locs hI => ?_)
      cases h
      exact hend H locs _ _ hI dX0_readPart_56
    · have h := it_pos c19 h
      exact hj5 ls (lv_sub hl [1, 2, 0] rfl) h
set_option maxHeartbeats 4000000 in
set_option maxRecDepth 100000 in
theorem c_G_readProduct (l : Launch) (D : va_G) (cI : ClassId) (ρ : Nat → Nat) {N : Nat} {rv : Int32 → St → Option St} (hb : Nat) (hb0 : 16 ≤ hb) (hrv : ∀ (o : Int32) (μ ν : St), rv o μ = some ν → ∀ g : Nat, hb ≤ g → CV l yX0_readValue cX0_readValue 3 g TC cI D ρ [.ref (ρ 5), .int o] μ ν) (hgt : Nat) (hh : hb + 4 ≤ hgt) {a1 : Int32} {μ ν : St} (h : f_G_readProduct N rv a1 μ = some ν) : CV l yX0_readProduct cX0_readProduct 4 hgt TC cI D ρ [.ref (ρ 5), .int a1] μ ν := by
  obtain ⟨g, rfl⟩ : ∃ g, hgt = g + 1 := ⟨hgt - 1, by omega⟩
  unfold f_G_readProduct at h
  refine CV_of (own := RX0) (by decide) rfl (Nat.le_of_ble_eq_true rfl) ?_
  intro p e s m args below meth c Q A H locs X hI hend ls hl
  have hx := X.1.1
  have hbb := X.1.2.1
  have hl : lv_has ls 4 [(0, .ref (ρ 5)), (1, .int a1)] := hl
  refine lv_aload_n hx hbb dX0_readProduct_0 rfl (lv_at hl 0 rfl) ?_
  refine lv_iload_n hx hbb dX0_readProduct_1 rfl (lv_at hl 1 rfl) ?_
  obtain ⟨μ2, hc1, h⟩ := ca_some h
  refine rc_vv (o := 5) (As := [.int a1]) X hI (c_G_readPart l D cI ρ hb hb0 hrv g (by omega) hc1) rfl rfl gV_X0_122 hd_X0_readPart (by decide) (Nat.le_refl _) hl.1 rfl (Nat.le_of_ble_eq_true rfl) dX0_readProduct_2 (fun H locs hI => ?_)
  refine lv_aload_n hx hbb dX0_readProduct_5 rfl (lv_at hl 0 rfl) ?_
  obtain ⟨x4, hc3, h⟩ := ca_some h
  refine rc_vi (o := 5) (As := []) X hI (c_G_now l D cI ρ g (by omega) hc3) rfl rfl gV_X0_36 hd_X0_now (by decide) (Nat.le_refl _) hl.1 rfl (Nat.le_of_ble_eq_true rfl) dX0_readProduct_6 (fun H locs hI => ?_)
  refine lv_istore_n (lv' := [(2, .int x4), (0, .ref (ρ 5)), (1, .int a1)]) hx hbb dX0_readProduct_9 rfl hl (by decide) rfl (fun ls hl => ?_)
  refine lv_iconst (v := 0) hx hbb dX0_readProduct_10 (by decide) ?_
  refine lv_istore_n (lv' := [(3, .int (0 : Int32)), (2, .int x4), (0, .ref (ρ 5)), (1, .int a1)]) hx hbb dX0_readProduct_11 rfl hl (by decide) rfl (fun ls hl => ?_)
  refine lp_elim (fun (k8 : Int32 → Int32 → St → Option St) => ∀ (x5 : Int32) (x6 : Int32) (μ7 : St) (H : Heap) (locs : List Loc) (ls : Array Slot), lv_has ls 4 [(0, .ref (ρ 5)), (1, .int a1), (2, .int x5), (3, .int x6)] → RI TC cI D A s.heap ρ μ7 H locs → k8 x5 x6 μ7 = some ν → W p l e (rmL (g + 1)) s m args below meth c H locs 0 0 Q (F0 m 12 ls [])) ?_ ?_ N x4 (0 : Int32) μ2 H locs ls (lv_sub hl [2, 3, 1, 0] rfl) hI h
  · intro x5 x6 μ7 H locs ls hl hI h
    cases h
  · intro k8 ih9 x5 x6 μ7 H locs ls hl hI h
    try dsimp only at h
    refine lv_iload_n hx hbb dX0_readProduct_12 rfl (lv_at hl 3 rfl) ?_
    refine lv_sipush (v := 160) hx hbb dX0_readProduct_13 (by decide) ?_
    refine lv_icmp_ge (tgt := 59) hx hbb dX0_readProduct_16 (by decide) (fun c10 => ?_) (fun c10 => ?_)
    · have h := it_pos c10 h
      cases h
      exact hend H locs _ _ hI dX0_readProduct_59
    · have h := it_neg c10 h
      refine lv_iload_n hx hbb dX0_readProduct_19 rfl (lv_at hl 2 rfl) ?_
      refine lv_bipush (v := 15) hx hbb dX0_readProduct_20 (by decide) ?_
      refine lv_iconst (v := 3) hx hbb dX0_readProduct_22 (by decide) ?_
      obtain ⟨x12, hc11, h⟩ := ca_some h
      refine rc_si (As := [.int x5, .int (15 : Int32), .int (3 : Int32)]) X hI (c_G_isOf l D cI ρ g (by omega) hc11) gV_X0_94 hd_X0_isOf (by decide) (Nat.le_refl _) hl.1 rfl (Nat.le_of_ble_eq_true rfl) dX0_readProduct_23 (fun H locs hI => ?_)
      refine lv_if_eq (tgt := 59) hx hbb dX0_readProduct_26 (by decide) (fun c13 => ?_) (fun c13 => ?_)
      · have h := it_pos c13 h
        cases h
        exact hend H locs _ _ hI dX0_readProduct_59
      · have h := it_neg c13 h
        refine lv_aload_n hx hbb dX0_readProduct_29 rfl (lv_at hl 0 rfl) ?_
        obtain ⟨μ15, hc14, h⟩ := ca_some h
        refine rc_vv (o := 5) (As := []) X hI (c_G_next l D cI ρ g (by omega) hc14) rfl rfl gV_X0_68 hd_X0_next (by decide) (Nat.le_refl _) hl.1 rfl (Nat.le_of_ble_eq_true rfl) dX0_readProduct_30 (fun H locs hI => ?_)
        refine lv_aload_n hx hbb dX0_readProduct_33 rfl (lv_at hl 0 rfl) ?_
        refine lv_iload_n hx hbb dX0_readProduct_34 rfl (lv_at hl 1 rfl) ?_
        obtain ⟨μ17, hc16, h⟩ := ca_some h
        refine rc_vv (o := 5) (As := [.int a1]) X hI (c_G_readPart l D cI ρ hb hb0 hrv g (by omega) hc16) rfl rfl gV_X0_122 hd_X0_readPart (by decide) (Nat.le_refl _) hl.1 rfl (Nat.le_of_ble_eq_true rfl) dX0_readProduct_35 (fun H locs hI => ?_)
        refine lv_aload_n hx hbb dX0_readProduct_38 rfl (lv_at hl 0 rfl) ?_
        refine rg_getR X hI (o := 5) (j := 1) (k := 4) rfl rfl rfl inG0 (by decide) rfl wF_X0_29 dX0_readProduct_39 ?_
        refine lv_iload_n hx hbb dX0_readProduct_42 rfl (lv_at hl 2 rfl) ?_
        refine lv_iconst (v := 0) hx hbb dX0_readProduct_43 (by decide) ?_
        obtain ⟨x19, μ20, hc18, h⟩ := ca2_some h
        refine rc_vi (o := 4) (As := [.int x5, .int (0 : Int32)]) X hI (c_D_add l D cI ρ g (by omega) hc18) rfl rfl gV_X0_78 hd_X3_add (by decide) (Nat.le_refl _) hl.1 rfl (Nat.le_of_ble_eq_true rfl) dX0_readProduct_44 (fun H locs hI => ?_)
        refine lv_pop hx hbb dX0_readProduct_47 rfl ?_
        refine lv_aload_n hx hbb dX0_readProduct_48 rfl (lv_at hl 0 rfl) ?_
        obtain ⟨x22, hc21, h⟩ := ca_some h
        refine rc_vi (o := 5) (As := []) X hI (c_G_now l D cI ρ g (by omega) hc21) rfl rfl gV_X0_36 hd_X0_now (by decide) (Nat.le_refl _) hl.1 rfl (Nat.le_of_ble_eq_true rfl) dX0_readProduct_49 (fun H locs hI => ?_)
        refine lv_istore_n (lv' := [(2, .int x22), (0, .ref (ρ 5)), (1, .int a1), (3, .int x6)]) hx hbb dX0_readProduct_52 rfl hl (by decide) rfl (fun ls hl => ?_)
        obtain ⟨x23, ex23, h⟩ := nm_some h
        refine lv_iinc (v := x23) (lv' := [(3, .int x23), (2, .int x22), (0, .ref (ρ 5)), (1, .int a1)]) hx hbb dX0_readProduct_53 hl (k := 3) rfl (by rw [ex23]; rfl) (by decide) rfl (fun ls hl => ?_)
        refine lv_goto (tgt := 12) hx hbb dX0_readProduct_56 (by decide) ?_
        exact ih9 x22 x23 μ20 H locs ls (lv_sub hl [2, 3, 1, 0] rfl) hI h
set_option maxHeartbeats 4000000 in
set_option maxRecDepth 100000 in
theorem c_G_readSum (l : Launch) (D : va_G) (cI : ClassId) (ρ : Nat → Nat) {N : Nat} {rv : Int32 → St → Option St} (hb : Nat) (hb0 : 16 ≤ hb) (hrv : ∀ (o : Int32) (μ ν : St), rv o μ = some ν → ∀ g : Nat, hb ≤ g → CV l yX0_readValue cX0_readValue 3 g TC cI D ρ [.ref (ρ 5), .int o] μ ν) (hgt : Nat) (hh : hb + 5 ≤ hgt) {a1 : Int32} {μ ν : St} (h : f_G_readSum N rv a1 μ = some ν) : CV l yX0_readSum cX0_readSum 4 hgt TC cI D ρ [.ref (ρ 5), .int a1] μ ν := by
  obtain ⟨g, rfl⟩ : ∃ g, hgt = g + 1 := ⟨hgt - 1, by omega⟩
  unfold f_G_readSum at h
  refine CV_of (own := RX0) (by decide) rfl (Nat.le_of_ble_eq_true rfl) ?_
  intro p e s m args below meth c Q A H locs X hI hend ls hl
  have hx := X.1.1
  have hbb := X.1.2.1
  have hl : lv_has ls 4 [(0, .ref (ρ 5)), (1, .int a1)] := hl
  refine lv_aload_n hx hbb dX0_readSum_0 rfl (lv_at hl 0 rfl) ?_
  refine lv_iload_n hx hbb dX0_readSum_1 rfl (lv_at hl 1 rfl) ?_
  obtain ⟨μ2, hc1, h⟩ := ca_some h
  refine rc_vv (o := 5) (As := [.int a1]) X hI (c_G_readProduct l D cI ρ hb hb0 hrv g (by omega) hc1) rfl rfl gV_X0_119 hd_X0_readProduct (by decide) (Nat.le_refl _) hl.1 rfl (Nat.le_of_ble_eq_true rfl) dX0_readSum_2 (fun H locs hI => ?_)
  refine lv_aload_n hx hbb dX0_readSum_5 rfl (lv_at hl 0 rfl) ?_
  obtain ⟨x4, hc3, h⟩ := ca_some h
  refine rc_vi (o := 5) (As := []) X hI (c_G_now l D cI ρ g (by omega) hc3) rfl rfl gV_X0_36 hd_X0_now (by decide) (Nat.le_refl _) hl.1 rfl (Nat.le_of_ble_eq_true rfl) dX0_readSum_6 (fun H locs hI => ?_)
  refine lv_istore_n (lv' := [(2, .int x4), (0, .ref (ρ 5)), (1, .int a1)]) hx hbb dX0_readSum_9 rfl hl (by decide) rfl (fun ls hl => ?_)
  refine lv_iconst (v := 0) hx hbb dX0_readSum_10 (by decide) ?_
  refine lv_istore_n (lv' := [(3, .int (0 : Int32)), (2, .int x4), (0, .ref (ρ 5)), (1, .int a1)]) hx hbb dX0_readSum_11 rfl hl (by decide) rfl (fun ls hl => ?_)
  refine lp_elim (fun (k8 : Int32 → Int32 → St → Option St) => ∀ (x5 : Int32) (x6 : Int32) (μ7 : St) (H : Heap) (locs : List Loc) (ls : Array Slot), lv_has ls 4 [(0, .ref (ρ 5)), (1, .int a1), (2, .int x5), (3, .int x6)] → RI TC cI D A s.heap ρ μ7 H locs → k8 x5 x6 μ7 = some ν → W p l e (rmL (g + 1)) s m args below meth c H locs 0 0 Q (F0 m 12 ls [])) ?_ ?_ N x4 (0 : Int32) μ2 H locs ls (lv_sub hl [2, 3, 1, 0] rfl) hI h
  · intro x5 x6 μ7 H locs ls hl hI h
    cases h
  · intro k8 ih9 x5 x6 μ7 H locs ls hl hI h
    try dsimp only at h
    refine lv_iload_n hx hbb dX0_readSum_12 rfl (lv_at hl 3 rfl) ?_
    refine lv_sipush (v := 160) hx hbb dX0_readSum_13 (by decide) ?_
    refine lv_icmp_ge (tgt := 61) hx hbb dX0_readSum_16 (by decide) (fun c10 => ?_) (fun c10 => ?_)
    · have h := it_pos c10 h
      cases h
      exact hend H locs _ _ hI dX0_readSum_61
    · have h := it_neg c10 h
      refine lv_iload_n hx hbb dX0_readSum_19 rfl (lv_at hl 2 rfl) ?_
      refine lv_bipush (v := 13) hx hbb dX0_readSum_20 (by decide) ?_
      obtain ⟨k12, ek12, h⟩ := jn_some h
      have hj13 : ∀ (ls : Array Slot), lv_has ls 4 [(0, .ref (ρ 5)), (1, .int a1), (2, .int x5), (3, .int x6)] → k12 = some ν → W p l e (rmL (g + 1)) s m args below meth c H locs 0 0 Q (F0 m 31 ls []) := by
        intro ls hl h
        rw [ek12] at h
        refine lv_aload_n hx hbb dX0_readSum_31 rfl (lv_at hl 0 rfl) ?_
        obtain ⟨μ15, hc14, h⟩ := ca_some h
        refine rc_vv (o := 5) (As := []) X hI (c_G_next l D cI ρ g (by omega) hc14) rfl rfl gV_X0_68 hd_X0_next (by decide) (Nat.le_refl _) hl.1 rfl (Nat.le_of_ble_eq_true rfl) dX0_readSum_32 (fun H locs hI => ?_)
        refine lv_aload_n hx hbb dX0_readSum_35 rfl (lv_at hl 0 rfl) ?_
        refine lv_iload_n hx hbb dX0_readSum_36 rfl (lv_at hl 1 rfl) ?_
        obtain ⟨μ17, hc16, h⟩ := ca_some h
        refine rc_vv (o := 5) (As := [.int a1]) X hI (c_G_readProduct l D cI ρ hb hb0 hrv g (by omega) hc16) rfl rfl gV_X0_119 hd_X0_readProduct (by decide) (Nat.le_refl _) hl.1 rfl (Nat.le_of_ble_eq_true rfl) dX0_readSum_37 (fun H locs hI => ?_)
        refine lv_aload_n hx hbb dX0_readSum_40 rfl (lv_at hl 0 rfl) ?_
        refine rg_getR X hI (o := 5) (j := 1) (k := 4) rfl rfl rfl inG0 (by decide) rfl wF_X0_29 dX0_readSum_41 ?_
        refine lv_iload_n hx hbb dX0_readSum_44 rfl (lv_at hl 2 rfl) ?_
        refine lv_iconst (v := 0) hx hbb dX0_readSum_45 (by decide) ?_
        obtain ⟨x19, μ20, hc18, h⟩ := ca2_some h
        refine rc_vi (o := 4) (As := [.int x5, .int (0 : Int32)]) X hI (c_D_add l D cI ρ g (by omega) hc18) rfl rfl gV_X0_78 hd_X3_add (by decide) (Nat.le_refl _) hl.1 rfl (Nat.le_of_ble_eq_true rfl) dX0_readSum_46 (fun H locs hI => ?_)
        refine lv_pop hx hbb dX0_readSum_49 rfl ?_
        refine lv_aload_n hx hbb dX0_readSum_50 rfl (lv_at hl 0 rfl) ?_
        obtain ⟨x22, hc21, h⟩ := ca_some h
        refine rc_vi (o := 5) (As := []) X hI (c_G_now l D cI ρ g (by omega) hc21) rfl rfl gV_X0_36 hd_X0_now (by decide) (Nat.le_refl _) hl.1 rfl (Nat.le_of_ble_eq_true rfl) dX0_readSum_51 (fun H locs hI => ?_)
        refine lv_istore_n (lv' := [(2, .int x22), (0, .ref (ρ 5)), (1, .int a1), (3, .int x6)]) hx hbb dX0_readSum_54 rfl hl (by decide) rfl (fun ls hl => ?_)
        obtain ⟨x23, ex23, h⟩ := nm_some h
        refine lv_iinc (v := x23) (lv' := [(3, .int x23), (2, .int x22), (0, .ref (ρ 5)), (1, .int a1)]) hx hbb dX0_readSum_55 hl (k := 3) rfl (by rw [ex23]; rfl) (by decide) rfl (fun ls hl => ?_)
        refine lv_goto (tgt := 12) hx hbb dX0_readSum_58 (by decide) ?_
        exact ih9 x22 x23 μ20 H locs ls (lv_sub hl [2, 3, 1, 0] rfl) hI h
      refine lv_icmp_eq (tgt := 31) hx hbb dX0_readSum_22 (by decide) (fun c24 => ?_) (fun c24 => ?_)
      · have h := it_pos c24 h
        exact hj13 ls (lv_sub hl [0, 1, 2, 3] rfl) h
      · have h := it_neg c24 h
        refine lv_iload_n hx hbb dX0_readSum_25 rfl (lv_at hl 2 rfl) ?_
        refine lv_bipush (v := 14) hx hbb dX0_readSum_26 (by decide) ?_
        refine lv_icmp_ne (tgt := 61) hx hbb dX0_readSum_28 (by decide) (fun c25 => ?_) (fun c25 => ?_)
        · have h := it_neg c25 h
          cases h
          exact hend H locs _ _ hI dX0_readSum_61
        · have h := it_pos c25 h
          exact hj13 ls (lv_sub hl [0, 1, 2, 3] rfl) h
set_option maxHeartbeats 4000000 in
set_option maxRecDepth 100000 in
theorem c_G_readValueB (l : Launch) (D : va_G) (cI : ClassId) (ρ : Nat → Nat) {N : Nat} {rv : Int32 → St → Option St} (hb : Nat) (hb0 : 16 ≤ hb) (hrv : ∀ (o : Int32) (μ ν : St), rv o μ = some ν → ∀ g : Nat, hb ≤ g → CV l yX0_readValue cX0_readValue 3 g TC cI D ρ [.ref (ρ 5), .int o] μ ν) (hgt : Nat) (hh : hb + 6 ≤ hgt) {a1 : Int32} {μ ν : St} (h : f_G_readValueB N rv a1 μ = some ν) : CV l yX0_readValue cX0_readValue 3 hgt TC cI D ρ [.ref (ρ 5), .int a1] μ ν := by
  obtain ⟨g, rfl⟩ : ∃ g, hgt = g + 1 := ⟨hgt - 1, by omega⟩
  unfold f_G_readValueB at h
  refine CV_of (own := RX0) (by decide) rfl (Nat.le_of_ble_eq_true rfl) ?_
  intro p e s m args below meth c Q A H locs X hI hend ls hl
  have hx := X.1.1
  have hbb := X.1.2.1
  have hl : lv_has ls 3 [(0, .ref (ρ 5)), (1, .int a1)] := hl
  refine lv_iload_n hx hbb dX0_readValue_0 rfl (lv_at hl 1 rfl) ?_
  refine lv_iconst (v := 3) hx hbb dX0_readValue_1 (by decide) ?_
  refine lv_icmp_le (tgt := 11) hx hbb dX0_readValue_2 (by decide) (fun c1 => ?_) (fun c1 => ?_)
  · have h := it_pos c1 h
    refine lv_aload_n hx hbb dX0_readValue_11 rfl (lv_at hl 0 rfl) ?_
    refine lv_iload_n hx hbb dX0_readValue_12 rfl (lv_at hl 1 rfl) ?_
    obtain ⟨μ3, hc2, h⟩ := ca_some h
    refine rc_vv (o := 5) (As := [.int a1]) X hI (c_G_readSum l D cI ρ hb hb0 hrv g (by omega) hc2) rfl rfl gV_X0_116 hd_X0_readSum (by decide) (Nat.le_refl _) hl.1 rfl (Nat.le_of_ble_eq_true rfl) dX0_readValue_13 (fun H locs hI => ?_)
    refine lv_aload_n hx hbb dX0_readValue_16 rfl (lv_at hl 0 rfl) ?_
    obtain ⟨x5, hc4, h⟩ := ca_some h
    refine rc_vi (o := 5) (As := []) X hI (c_G_now l D cI ρ g (by omega) hc4) rfl rfl gV_X0_36 hd_X0_now (by decide) (Nat.le_refl _) hl.1 rfl (Nat.le_of_ble_eq_true rfl) dX0_readValue_17 (fun H locs hI => ?_)
    refine lv_istore_n (lv' := [(2, .int x5), (0, .ref (ρ 5)), (1, .int a1)]) hx hbb dX0_readValue_20 rfl hl (by decide) rfl (fun ls hl => ?_)
    refine lv_iload_n hx hbb dX0_readValue_21 rfl (lv_at hl 0 rfl) ?_
    refine lv_bipush (v := 18) hx hbb dX0_readValue_22 (by decide) ?_
    obtain ⟨k7, ek7, h⟩ := jn_some h
    have hj8 : ∀ (ls : Array Slot), lv_has ls 3 [(0, .ref (ρ 5)), (1, .int a1), (2, .int x5)] → k7 = some ν → W p l e (rmL (g + 1)) s m args below meth c H locs 0 0 Q (F0 m 33 ls []) := by
      intro ls hl h
      rw [ek7] at h
      refine lv_aload_n hx hbb dX0_readValue_33 rfl (lv_at hl 0 rfl) ?_
      obtain ⟨μ10, hc9, h⟩ := ca_some h
      refine rc_vv (o := 5) (As := []) X hI (c_G_next l D cI ρ g (by omega) hc9) rfl rfl gV_X0_68 hd_X0_next (by decide) (Nat.le_refl _) hl.1 rfl (Nat.le_of_ble_eq_true rfl) dX0_readValue_34 (fun H locs hI => ?_)
      refine lv_aload_n hx hbb dX0_readValue_37 rfl (lv_at hl 0 rfl) ?_
      refine lv_iload_n hx hbb dX0_readValue_38 rfl (lv_at hl 1 rfl) ?_
      obtain ⟨μ12, hc11, h⟩ := ca_some h
      refine rc_vv (o := 5) (As := [.int a1]) X hI (c_G_readSum l D cI ρ hb hb0 hrv g (by omega) hc11) rfl rfl gV_X0_116 hd_X0_readSum (by decide) (Nat.le_refl _) hl.1 rfl (Nat.le_of_ble_eq_true rfl) dX0_readValue_39 (fun H locs hI => ?_)
      refine lv_aload_n hx hbb dX0_readValue_42 rfl (lv_at hl 0 rfl) ?_
      refine rg_getR X hI (o := 5) (j := 1) (k := 4) rfl rfl rfl inG0 (by decide) rfl wF_X0_29 dX0_readValue_43 ?_
      refine lv_iload_n hx hbb dX0_readValue_46 rfl (lv_at hl 2 rfl) ?_
      refine lv_iconst (v := 0) hx hbb dX0_readValue_47 (by decide) ?_
      obtain ⟨x14, μ15, hc13, h⟩ := ca2_some h
      refine rc_vi (o := 4) (As := [.int x5, .int (0 : Int32)]) X hI (c_D_add l D cI ρ g (by omega) hc13) rfl rfl gV_X0_78 hd_X3_add (by decide) (Nat.le_refl _) hl.1 rfl (Nat.le_of_ble_eq_true rfl) dX0_readValue_48 (fun H locs hI => ?_)
      refine lv_pop hx hbb dX0_readValue_51 rfl ?_
      cases h
      exact hend H locs _ _ hI dX0_readValue_52
    refine lv_icmp_eq (tgt := 33) hx hbb dX0_readValue_24 (by decide) (fun c16 => ?_) (fun c16 => ?_)
    · have h := it_pos c16 h
      exact hj8 ls (lv_sub hl [1, 2, 0] rfl) h
    · have h := it_neg c16 h
      refine lv_iload_n hx hbb dX0_readValue_27 rfl (lv_at hl 0 rfl) ?_
      refine lv_bipush (v := 19) hx hbb dX0_readValue_28 (by decide) ?_
      refine lv_icmp_ne (tgt := 52) hx hbb dX0_readValue_30 (by decide) (fun c17 => ?_) (fun c17 => ?_)
      · have h := it_neg c17 h
        cases h
        exact hend H locs _ _ hI dX0_readValue_52
      · have h := it_pos c17 h
        exact hj8 ls (lv_sub hl [1, 2, 0] rfl) h
  · have h := it_neg c1 h
    refine lv_aload_n hx hbb dX0_readValue_5 rfl (lv_at hl 0 rfl) ?_
    refine lv_iconst (v := 3) hx hbb dX0_readValue_6 (by decide) ?_
    obtain ⟨μ19, hc18, h⟩ := ca_some h
    refine rc_vv (o := 5) (As := [.int (3 : Int32)]) X hI (c_G_fail l D cI ρ g (by omega) hc18) rfl rfl gV_X0_57 hd_X0_fail (by decide) (Nat.le_refl _) hl.1 rfl (Nat.le_of_ble_eq_true rfl) dX0_readValue_7 (fun H locs hI => ?_)
    cases h
    exact hend H locs _ _ hI dX0_readValue_10
theorem c_G_readValue (l : Launch) (D : va_G) (cI : ClassId) (ρ : Nat → Nat) {N : Nat} (d : Nat) : ∀ (hgt : Nat) (hh : 16 + 8 * d ≤ hgt) {a : Int32} {μ ν : St} (h : f_G_readValue N d a μ = some ν), CV l yX0_readValue cX0_readValue 3 hgt TC cI D ρ [.ref (ρ 5), .int a] μ ν := by
  induction d with
  | zero =>
    intro hgt hh a μ ν h
    cases h
  | succ d ih =>
    intro hgt hh a μ ν h
    exact c_G_readValueB l D cI ρ (16 + 8 * d) (by omega) (fun _ _ _ h1 g1 h2 => ih g1 h2 h1) hgt (by omega) h
set_option maxHeartbeats 4000000 in
set_option maxRecDepth 100000 in
theorem c_G_readChoice (l : Launch) (D : va_G) (cI : ClassId) (ρ : Nat → Nat) {N : Nat} (hgt : Nat) (hh : 81 ≤ hgt)  {μ ν : St} (h : f_G_readChoice N μ = some ν) : CV l yX0_readChoice cX0_readChoice 1 hgt TC cI D ρ [.ref (ρ 5)] μ ν := by
  obtain ⟨g, rfl⟩ : ∃ g, hgt = g + 1 := ⟨hgt - 1, by omega⟩
  unfold f_G_readChoice at h
  refine CV_of (own := RX0) (by decide) rfl (Nat.le_of_ble_eq_true rfl) ?_
  intro p e s m args below meth c Q A H locs X hI hend ls hl
  have hx := X.1.1
  have hb := X.1.2.1
  have hl : lv_has ls 1 [(0, .ref (ρ 5))] := hl
  refine lv_aload_n hx hb dX0_readChoice_0 rfl (lv_at hl 0 rfl) ?_
  refine lv_bipush (v := 6) hx hb dX0_readChoice_1 (by decide) ?_
  obtain ⟨μ2, hc1, h⟩ := ca_some h
  refine rc_vv (o := 5) (As := [.int (6 : Int32)]) X hI (c_G_expect l D cI ρ g (by omega) hc1) rfl rfl gV_X0_65 hd_X0_expect (by decide) (Nat.le_refl _) hl.1 rfl (Nat.le_of_ble_eq_true rfl) dX0_readChoice_3 (fun H locs hI => ?_)
  refine lv_aload_n hx hb dX0_readChoice_6 rfl (lv_at hl 0 rfl) ?_
  refine lv_iconst (v := 0) hx hb dX0_readChoice_7 (by decide) ?_
  obtain ⟨μ4, hc3, h⟩ := ca_some h
  refine rc_vv (o := 5) (As := [.int (0 : Int32)]) X hI (c_G_readValue l D cI ρ 8 g (by omega) hc3) rfl rfl gV_X0_110 hd_X0_readValue (by decide) (Nat.le_refl _) hl.1 rfl (Nat.le_of_ble_eq_true rfl) dX0_readChoice_8 (fun H locs hI => ?_)
  refine lv_aload_n hx hb dX0_readChoice_11 rfl (lv_at hl 0 rfl) ?_
  refine lv_bipush (v := 7) hx hb dX0_readChoice_12 (by decide) ?_
  obtain ⟨μ6, hc5, h⟩ := ca_some h
  refine rc_vv (o := 5) (As := [.int (7 : Int32)]) X hI (c_G_expect l D cI ρ g (by omega) hc5) rfl rfl gV_X0_65 hd_X0_expect (by decide) (Nat.le_refl _) hl.1 rfl (Nat.le_of_ble_eq_true rfl) dX0_readChoice_14 (fun H locs hI => ?_)
  cases h
  exact hend H locs _ _ hI dX0_readChoice_17
set_option maxHeartbeats 4000000 in
set_option maxRecDepth 100000 in
theorem c_G_readWord (l : Launch) (D : va_G) (cI : ClassId) (ρ : Nat → Nat) {N : Nat} (hgt : Nat) (hh : 81 ≤ hgt) {a1 : Int32} {μ ν : St} (h : f_G_readWord N a1 μ = some ν) : CV l yX0_readWord cX0_readWord 2 hgt TC cI D ρ [.ref (ρ 5), .int a1] μ ν := by
  obtain ⟨g, rfl⟩ : ∃ g, hgt = g + 1 := ⟨hgt - 1, by omega⟩
  unfold f_G_readWord at h
  refine CV_of (own := RX0) (by decide) rfl (Nat.le_of_ble_eq_true rfl) ?_
  intro p e s m args below meth c Q A H locs X hI hend ls hl
  have hx := X.1.1
  have hb := X.1.2.1
  have hl : lv_has ls 2 [(0, .ref (ρ 5)), (1, .int a1)] := hl
  refine lv_aload_n hx hb dX0_readWord_0 rfl (lv_at hl 0 rfl) ?_
  obtain ⟨μ2, hc1, h⟩ := ca_some h
  refine rc_vv (o := 5) (As := []) X hI (c_G_next l D cI ρ g (by omega) hc1) rfl rfl gV_X0_68 hd_X0_next (by decide) (Nat.le_refl _) hl.1 rfl (Nat.le_of_ble_eq_true rfl) dX0_readWord_1 (fun H locs hI => ?_)
  refine lv_aload_n hx hb dX0_readWord_4 rfl (lv_at hl 0 rfl) ?_
  refine lv_iconst (v := 0) hx hb dX0_readWord_5 (by decide) ?_
  obtain ⟨μ4, hc3, h⟩ := ca_some h
  refine rc_vv (o := 5) (As := [.int (0 : Int32)]) X hI (c_G_readValue l D cI ρ 8 g (by omega) hc3) rfl rfl gV_X0_110 hd_X0_readValue (by decide) (Nat.le_refl _) hl.1 rfl (Nat.le_of_ble_eq_true rfl) dX0_readWord_6 (fun H locs hI => ?_)
  refine lv_aload_n hx hb dX0_readWord_9 rfl (lv_at hl 0 rfl) ?_
  refine rg_getR X hI (o := 5) (j := 1) (k := 4) rfl rfl rfl inG0 (by decide) rfl wF_X0_29 dX0_readWord_10 ?_
  refine lv_iload_n hx hb dX0_readWord_13 rfl (lv_at hl 1 rfl) ?_
  refine lv_iconst (v := 0) hx hb dX0_readWord_14 (by decide) ?_
  obtain ⟨x6, μ7, hc5, h⟩ := ca2_some h
  refine rc_vi (o := 4) (As := [.int a1, .int (0 : Int32)]) X hI (c_D_add l D cI ρ g (by omega) hc5) rfl rfl gV_X0_78 hd_X3_add (by decide) (Nat.le_refl _) hl.1 rfl (Nat.le_of_ble_eq_true rfl) dX0_readWord_15 (fun H locs hI => ?_)
  refine lv_pop hx hb dX0_readWord_18 rfl ?_
  refine lv_aload_n hx hb dX0_readWord_19 rfl (lv_at hl 0 rfl) ?_
  refine lv_bipush (v := 10) hx hb dX0_readWord_20 (by decide) ?_
  obtain ⟨μ9, hc8, h⟩ := ca_some h
  refine rc_vv (o := 5) (As := [.int (10 : Int32)]) X hI (c_G_expect l D cI ρ g (by omega) hc8) rfl rfl gV_X0_65 hd_X0_expect (by decide) (Nat.le_refl _) hl.1 rfl (Nat.le_of_ble_eq_true rfl) dX0_readWord_22 (fun H locs hI => ?_)
  cases h
  exact hend H locs _ _ hI dX0_readWord_25
set_option maxHeartbeats 4000000 in
set_option maxRecDepth 100000 in
theorem c_G_readSetting (l : Launch) (D : va_G) (cI : ClassId) (ρ : Nat → Nat) {N : Nat} (hgt : Nat) (hh : 82 ≤ hgt) {a1 : Int32} {μ ν : St} (h : f_G_readSetting N a1 μ = some ν) : CV l yX0_readSetting cX0_readSetting 5 hgt TC cI D ρ [.ref (ρ 5), .int a1] μ ν := by
  obtain ⟨g, rfl⟩ : ∃ g, hgt = g + 1 := ⟨hgt - 1, by omega⟩
  unfold f_G_readSetting at h
  refine CV_of (own := RX0) (by decide) rfl (Nat.le_of_ble_eq_true rfl) ?_
  intro p e s m args below meth c Q A H locs X hI hend ls hl
  have hx := X.1.1
  have hb := X.1.2.1
  have hl : lv_has ls 5 [(0, .ref (ρ 5)), (1, .int a1)] := hl
  refine lv_iload_n hx hb dX0_readSetting_0 rfl (lv_at hl 1 rfl) ?_
  refine lv_bipush (v := 32) hx hb dX0_readSetting_1 (by decide) ?_
  refine lv_bipush (v := 8) hx hb dX0_readSetting_3 (by decide) ?_
  obtain ⟨x2, hc1, h⟩ := ca_some h
  refine rc_si (As := [.int a1, .int (32 : Int32), .int (8 : Int32)]) X hI (c_G_isOf l D cI ρ g (by omega) hc1) gV_X0_94 hd_X0_isOf (by decide) (Nat.le_refl _) hl.1 rfl (Nat.le_of_ble_eq_true rfl) dX0_readSetting_5 (fun H locs hI => ?_)
  refine lv_istore_n (lv' := [(2, .int x2), (0, .ref (ρ 5)), (1, .int a1)]) hx hb dX0_readSetting_8 rfl hl (by decide) rfl (fun ls hl => ?_)
  refine lv_iload_n hx hb dX0_readSetting_9 rfl (lv_at hl 2 rfl) ?_
  refine lv_bipush (v := 44) hx hb dX0_readSetting_10 (by decide) ?_
  refine lv_bipush (v := 8) hx hb dX0_readSetting_12 (by decide) ?_
  obtain ⟨x4, hc3, h⟩ := ca_some h
  refine rc_si (As := [.int a1, .int (44 : Int32), .int (8 : Int32)]) X hI (c_G_isOf l D cI ρ g (by omega) hc3) gV_X0_94 hd_X0_isOf (by decide) (Nat.le_refl _) hl.1 rfl (Nat.le_of_ble_eq_true rfl) dX0_readSetting_14 (fun H locs hI => ?_)
  refine lv_istore_n (lv' := [(3, .int x4), (2, .int x2), (0, .ref (ρ 5)), (1, .int a1)]) hx hb dX0_readSetting_17 rfl hl (by decide) rfl (fun ls hl => ?_)
  refine lv_iload_n hx hb dX0_readSetting_18 rfl (lv_at hl 3 rfl) ?_
  refine lv_bipush (v := 40) hx hb dX0_readSetting_19 (by decide) ?_
  refine lv_iconst (v := 4) hx hb dX0_readSetting_21 (by decide) ?_
  obtain ⟨x6, hc5, h⟩ := ca_some h
  refine rc_si (As := [.int a1, .int (40 : Int32), .int (4 : Int32)]) X hI (c_G_isOf l D cI ρ g (by omega) hc5) gV_X0_94 hd_X0_isOf (by decide) (Nat.le_refl _) hl.1 rfl (Nat.le_of_ble_eq_true rfl) dX0_readSetting_22 (fun H locs hI => ?_)
  refine lv_istore (lv' := [(4, .int x6), (3, .int x4), (2, .int x2), (0, .ref (ρ 5)), (1, .int a1)]) hx hb dX0_readSetting_25 hl (by decide) rfl (fun ls hl => ?_)
  refine lv_iload_n hx hb dX0_readSetting_27 rfl (lv_at hl 2 rfl) ?_
  obtain ⟨k8, ek8, h⟩ := jn_some h
  have hj9 : ∀ (ls : Array Slot), lv_has ls 5 [(0, .ref (ρ 5)), (1, .int a1), (2, .int x2), (3, .int x4), (4, .int x6)] → k8 = some ν → W p l e (rmL (g + 1)) s m args below meth c H locs 0 0 Q (F0 m 46 ls []) := by
    intro ls hl h
    rw [ek8] at h
    refine lv_aload_n hx hb dX0_readSetting_46 rfl (lv_at hl 0 rfl) ?_
    obtain ⟨μ11, hc10, h⟩ := ca_some h
    refine rc_vv (o := 5) (As := []) X hI (c_G_next l D cI ρ g (by omega) hc10) rfl rfl gV_X0_68 hd_X0_next (by decide) (Nat.le_refl _) hl.1 rfl (Nat.le_of_ble_eq_true rfl) dX0_readSetting_47 (fun H locs hI => ?_)
    refine lv_iload hx hb dX0_readSetting_50 (lv_at hl 4 rfl) ?_
    obtain ⟨k13, ek13, h⟩ := jn_some h
    have hj14 : ∀ (μ12 : St) (H : Heap) (locs : List Loc) (ls : Array Slot), lv_has ls 5 [(0, .ref (ρ 5)), (1, .int a1), (2, .int x2), (3, .int x4)] → RI TC cI D A s.heap ρ μ12 H locs → k13 μ12 = some ν → W p l e (rmL (g + 1)) s m args below meth c H locs 0 0 Q (F0 m 60 ls []) := by
      intro μ12 H locs ls hl hI h
      rw [ek13] at h
      try dsimp only at h
      refine lv_aload_n hx hb dX0_readSetting_60 rfl (lv_at hl 0 rfl) ?_
      refine lv_bipush (v := 12) hx hb dX0_readSetting_61 (by decide) ?_
      obtain ⟨μ16, hc15, h⟩ := ca_some h
      refine rc_vv (o := 5) (As := [.int (12 : Int32)]) X hI (c_G_expect l D cI ρ g (by omega) hc15) rfl rfl gV_X0_65 hd_X0_expect (by decide) (Nat.le_refl _) hl.1 rfl (Nat.le_of_ble_eq_true rfl) dX0_readSetting_63 (fun H locs hI => ?_)
      refine lv_aload_n hx hb dX0_readSetting_66 rfl (lv_at hl 0 rfl) ?_
      refine lv_iconst (v := 0) hx hb dX0_readSetting_67 (by decide) ?_
      obtain ⟨μ18, hc17, h⟩ := ca_some h
      refine rc_vv (o := 5) (As := [.int (0 : Int32)]) X hI (c_G_readValue l D cI ρ 8 g (by omega) hc17) rfl rfl gV_X0_110 hd_X0_readValue (by decide) (Nat.le_refl _) hl.1 rfl (Nat.le_of_ble_eq_true rfl) dX0_readSetting_68 (fun H locs hI => ?_)
      refine lv_aload_n hx hb dX0_readSetting_71 rfl (lv_at hl 0 rfl) ?_
      refine lv_bipush (v := 10) hx hb dX0_readSetting_72 (by decide) ?_
      obtain ⟨μ20, hc19, h⟩ := ca_some h
      refine rc_vv (o := 5) (As := [.int (10 : Int32)]) X hI (c_G_expect l D cI ρ g (by omega) hc19) rfl rfl gV_X0_65 hd_X0_expect (by decide) (Nat.le_refl _) hl.1 rfl (Nat.le_of_ble_eq_true rfl) dX0_readSetting_74 (fun H locs hI => ?_)
      refine lv_iload_n hx hb dX0_readSetting_77 rfl (lv_at hl 2 rfl) ?_
      refine lv_if_eq (tgt := 98) hx hb dX0_readSetting_78 (by decide) (fun c21 => ?_) (fun c21 => ?_)
      · have h := it_pos c21 h
        refine lv_iload_n hx hb dX0_readSetting_98 rfl (lv_at hl 3 rfl) ?_
        refine lv_if_eq (tgt := 119) hx hb dX0_readSetting_99 (by decide) (fun c22 => ?_) (fun c22 => ?_)
        · have h := it_pos c22 h
          refine lv_aload_n hx hb dX0_readSetting_119 rfl (lv_at hl 0 rfl) ?_
          refine rg_getR X hI (o := 5) (j := 1) (k := 4) rfl rfl rfl inG0 (by decide) rfl wF_X0_29 dX0_readSetting_120 ?_
          refine lv_bipush (v := 41) hx hb dX0_readSetting_123 (by decide) ?_
          refine lv_iload_n hx hb dX0_readSetting_125 rfl (lv_at hl 1 rfl) ?_
          refine lv_bipush (v := 40) hx hb dX0_readSetting_126 (by decide) ?_
          refine lv_isub hx hb dX0_readSetting_128 ?_
          obtain ⟨x24, μ25, hc23, h⟩ := ca2_some h
          refine rc_vi (o := 4) (As := [.int (41 : Int32), .int (a1 - (40 : Int32))]) X hI (c_D_add l D cI ρ g (by omega) hc23) rfl rfl gV_X0_78 hd_X3_add (by decide) (Nat.le_refl _) hl.1 rfl (Nat.le_of_ble_eq_true rfl) dX0_readSetting_129 (fun H locs hI => ?_)
          refine lv_pop hx hb dX0_readSetting_132 rfl ?_
          cases h
          exact hend H locs _ _ hI dX0_readSetting_133
        · have h := it_neg c22 h
          refine lv_aload_n hx hb dX0_readSetting_102 rfl (lv_at hl 0 rfl) ?_
          refine rg_getR X hI (o := 5) (j := 1) (k := 4) rfl rfl rfl inG0 (by decide) rfl wF_X0_29 dX0_readSetting_103 ?_
          refine lv_bipush (v := 39) hx hb dX0_readSetting_106 (by decide) ?_
          refine lv_iload_n hx hb dX0_readSetting_108 rfl (lv_at hl 1 rfl) ?_
          refine lv_bipush (v := 44) hx hb dX0_readSetting_109 (by decide) ?_
          refine lv_isub hx hb dX0_readSetting_111 ?_
          obtain ⟨x27, μ28, hc26, h⟩ := ca2_some h
          refine rc_vi (o := 4) (As := [.int (39 : Int32), .int (a1 - (44 : Int32))]) X hI (c_D_add l D cI ρ g (by omega) hc26) rfl rfl gV_X0_78 hd_X3_add (by decide) (Nat.le_refl _) hl.1 rfl (Nat.le_of_ble_eq_true rfl) dX0_readSetting_112 (fun H locs hI => ?_)
          refine lv_pop hx hb dX0_readSetting_115 rfl ?_
          refine lv_goto (tgt := 133) hx hb dX0_readSetting_116 (by decide) ?_
          cases h
          exact hend H locs _ _ hI dX0_readSetting_133
      · have h := it_neg c21 h
        refine lv_aload_n hx hb dX0_readSetting_81 rfl (lv_at hl 0 rfl) ?_
        refine rg_getR X hI (o := 5) (j := 1) (k := 4) rfl rfl rfl inG0 (by decide) rfl wF_X0_29 dX0_readSetting_82 ?_
        refine lv_bipush (v := 37) hx hb dX0_readSetting_85 (by decide) ?_
        refine lv_iload_n hx hb dX0_readSetting_87 rfl (lv_at hl 1 rfl) ?_
        refine lv_bipush (v := 32) hx hb dX0_readSetting_88 (by decide) ?_
        refine lv_isub hx hb dX0_readSetting_90 ?_
        obtain ⟨x30, μ31, hc29, h⟩ := ca2_some h
        refine rc_vi (o := 4) (As := [.int (37 : Int32), .int (a1 - (32 : Int32))]) X hI (c_D_add l D cI ρ g (by omega) hc29) rfl rfl gV_X0_78 hd_X3_add (by decide) (Nat.le_refl _) hl.1 rfl (Nat.le_of_ble_eq_true rfl) dX0_readSetting_91 (fun H locs hI => ?_)
        refine lv_pop hx hb dX0_readSetting_94 rfl ?_
        refine lv_goto (tgt := 133) hx hb dX0_readSetting_95 (by decide) ?_
        cases h
        exact hend H locs _ _ hI dX0_readSetting_133
    refine lv_if_eq (tgt := 60) hx hb dX0_readSetting_52 (by decide) (fun c32 => ?_) (fun c32 => ?_)
    · have h := it_pos c32 h
      exact hj14 μ11 H locs ls (lv_sub hl [0, 1, 2, 3] rfl) hI h
    · have h := it_neg c32 h
      refine lv_aload_n hx hb dX0_readSetting_55 rfl (lv_at hl 0 rfl) ?_
      refine lv_iconst (v := 0) hx hb dX0_readSetting_56 (by decide) ?_
      obtain ⟨μ34, hc33, h⟩ := ca_some h
      refine rc_vv (o := 5) (As := [.int (0 : Int32)]) X hI (c_G_readIndex l D cI ρ 80 (by decide) (fun _ _ _ h1 g1 h2 => c_G_readValue l D cI ρ 8 g1 h2 h1) g (by omega) hc33) rfl rfl gV_X0_113 hd_X0_readIndex (by decide) (Nat.le_refl _) hl.1 rfl (Nat.le_of_ble_eq_true rfl) dX0_readSetting_57 (fun H locs hI => ?_)
      exact hj14 μ34 H locs ls (lv_sub hl [0, 1, 2, 3] rfl) hI h
  refine lv_if_ne (tgt := 46) hx hb dX0_readSetting_28 (by decide) (fun c35 => ?_) (fun c35 => ?_)
  · have h := it_neg c35 h
    exact hj9 ls (lv_sub hl [3, 4, 2, 1, 0] rfl) h
  · have h := it_pos c35 h
    refine lv_iload_n hx hb dX0_readSetting_31 rfl (lv_at hl 1 rfl) ?_
    refine lv_if_ne (tgt := 46) hx hb dX0_readSetting_32 (by decide) (fun c36 => ?_) (fun c36 => ?_)
    · have h := it_neg c36 h
      exact hj9 ls (lv_sub hl [3, 4, 2, 1, 0] rfl) h
    · have h := it_pos c36 h
      refine lv_iload hx hb dX0_readSetting_35 (lv_at hl 0 rfl) ?_
      refine lv_if_ne (tgt := 46) hx hb dX0_readSetting_37 (by decide) (fun c37 => ?_) (fun c37 => ?_)
      · have h := it_neg c37 h
        exact hj9 ls (lv_sub hl [3, 4, 2, 1, 0] rfl) h
      · have h := it_pos c37 h
        refine lv_aload_n hx hb dX0_readSetting_40 rfl (lv_at hl 3 rfl) ?_
        refine lv_iconst (v := 1) hx hb dX0_readSetting_41 (by decide) ?_
        obtain ⟨μ39, hc38, h⟩ := ca_some h
        refine rc_vv (o := 5) (As := [.int (1 : Int32)]) X hI (c_G_fail l D cI ρ g (by omega) hc38) rfl rfl gV_X0_57 hd_X0_fail (by decide) (Nat.le_refl _) hl.1 rfl (Nat.le_of_ble_eq_true rfl) dX0_readSetting_42 (fun H locs hI => ?_)
        cases h
        exact hend H locs _ _ hI dX0_readSetting_45
