/-! the class: contracts -/
set_option maxHeartbeats 4000000 in
set_option maxRecDepth 100000 in
theorem c_T_length (l : Launch) (D : va_G) (cI : ClassId) (ρ : Nat → Nat) (hgt : Nat) (hh : 1 ≤ hgt)  {μ : St} {r : Int32} (h : f_T_length μ = some r) : CI l yX4_length cX4_length 1 (some .int) hgt TC cI D ρ [.ref (ρ 1)] μ r μ := by
  obtain ⟨g, rfl⟩ : ∃ g, hgt = g + 1 := ⟨hgt - 1, by omega⟩
  unfold f_T_length at h
  refine CI_of (own := RX4) (by decide) rfl (Nat.le_of_ble_eq_true rfl) rfl ?_
  intro p e s m args below meth c Q A H locs X hI hend ls hl
  have hx := X.1.1
  have hb := X.1.2.1
  have hl : lv_has ls 1 [(0, .ref (ρ 1))] := hl
  refine lv_aload_n hx hb dX4_length_0 rfl (lv_at hl 0 rfl) ?_
  refine rg_get X hI (o := 1) (j := 1) (k := 121) rfl rfl rfl inG4 (by decide) rfl wF_X4_15 dX4_length_1 ?_
  cases h
  exact hend H locs _ _ hI dX4_length_4
set_option maxHeartbeats 4000000 in
set_option maxRecDepth 100000 in
theorem c_T_at (l : Launch) (D : va_G) (cI : ClassId) (ρ : Nat → Nat) (hgt : Nat) (hh : 1 ≤ hgt) {a1 : Int32} {μ : St} {r : Int32} (h : f_T_at a1 μ = some r) : CI l yX4_at cX4_at 2 (some .int) hgt TC cI D ρ [.ref (ρ 1), .int a1] μ r μ := by
  obtain ⟨g, rfl⟩ : ∃ g, hgt = g + 1 := ⟨hgt - 1, by omega⟩
  unfold f_T_at at h
  refine CI_of (own := RX4) (by decide) rfl (Nat.le_of_ble_eq_true rfl) rfl ?_
  intro p e s m args below meth c Q A H locs X hI hend ls hl
  have hx := X.1.1
  have hb := X.1.2.1
  have hl : lv_has ls 2 [(0, .ref (ρ 1)), (1, .int a1)] := hl
  refine lv_iload_n hx hb dX4_at_0 rfl (lv_at hl 1 rfl) ?_
  obtain ⟨k2, ek2, h⟩ := jn_some h
  have hj3 : ∀ (ls : Array Slot), lv_has ls 2 [] → k2 = some r → W p l e (rmL (g + 1)) s m args below meth c H locs 0 0 Q (F0 m 30 ls []) := by
    intro ls hl h
    rw [ek2] at h
    refine lv_iconst (v := -1) hx hb dX4_at_30 (by decide) ?_
    cases h
    exact hend H locs _ _ hI dX4_at_31
  refine lv_if_lt (tgt := 30) hx hb dX4_at_1 (by decide) (fun c4 => ?_) (fun c4 => ?_)
  · have h := it_pos c4 h
    exact hj3 ls (lv_sub hl [] rfl) h
  · have h := it_neg c4 h
    refine lv_iload_n hx hb dX4_at_4 rfl (lv_at hl 1 rfl) ?_
    refine lv_aload_n hx hb dX4_at_5 rfl (lv_at hl 0 rfl) ?_
    refine rg_get X hI (o := 1) (j := 1) (k := 121) rfl rfl rfl inG4 (by decide) rfl wF_X4_15 dX4_at_6 ?_
    refine lv_icmp_ge (tgt := 30) hx hb dX4_at_9 (by decide) (fun c5 => ?_) (fun c5 => ?_)
    · have h := it_pos c5 h
      exact hj3 ls (lv_sub hl [] rfl) h
    · have h := it_neg c5 h
      refine lv_iload_n hx hb dX4_at_12 rfl (lv_at hl 1 rfl) ?_
      refine lv_aload_n hx hb dX4_at_13 rfl (lv_at hl 0 rfl) ?_
      refine rg_getR X hI (o := 1) (j := 0) (k := 7) rfl rfl rfl inG4 (by decide) rfl wF_X4_9 dX4_at_14 ?_
      refine rg_len X hI (o := 7) (v := 160) rfl (by decide) dX4_at_17 ?_
      refine lv_icmp_ge (tgt := 30) hx hb dX4_at_18 (by decide) (fun c6 => ?_) (fun c6 => ?_)
      · have h := it_pos c6 h
        exact hj3 ls (lv_sub hl [] rfl) h
      · have h := it_neg c6 h
        refine lv_aload_n hx hb dX4_at_21 rfl (lv_at hl 0 rfl) ?_
        refine rg_getR X hI (o := 1) (j := 0) (k := 7) rfl rfl rfl inG4 (by decide) rfl wF_X4_9 dX4_at_22 ?_
        refine lv_iload_n hx hb dX4_at_25 rfl (lv_at hl 1 rfl) ?_
        obtain ⟨hn7, h⟩ := gd_some h
        refine rg_ald X hI (o := 7) rfl hn7 dX4_at_26 ?_
        obtain ⟨x8, ex8, h⟩ := nm_some h
        refine rg_top ex8 ?_
        refine lv_goto (tgt := 31) hx hb dX4_at_27 (by decide) ?_
        cases h
        exact hend H locs _ _ hI dX4_at_31
set_option maxHeartbeats 4000000 in
set_option maxRecDepth 100000 in
theorem c_T_add (l : Launch) (D : va_G) (cI : ClassId) (ρ : Nat → Nat) (hgt : Nat) (hh : 1 ≤ hgt) {a1 : Int32} {μ ν : St} (h : f_T_add a1 μ = some ν) : CV l yX4_add cX4_add 2 hgt TC cI D ρ [.ref (ρ 1), .int a1] μ ν := by
  obtain ⟨g, rfl⟩ : ∃ g, hgt = g + 1 := ⟨hgt - 1, by omega⟩
  unfold f_T_add at h
  refine CV_of (own := RX4) (by decide) rfl (Nat.le_of_ble_eq_true rfl) ?_
  intro p e s m args below meth c Q A H locs X hI hend ls hl
  have hx := X.1.1
  have hb := X.1.2.1
  have hl : lv_has ls 2 [(0, .ref (ρ 1)), (1, .int a1)] := hl
  refine lv_aload_n hx hb dX4_add_0 rfl (lv_at hl 0 rfl) ?_
  refine rg_get X hI (o := 1) (j := 1) (k := 121) rfl rfl rfl inG4 (by decide) rfl wF_X4_15 dX4_add_1 ?_
  refine lv_if_lt (tgt := 39) hx hb dX4_add_4 (by decide) (fun c1 => ?_) (fun c1 => ?_)
  · have h := it_pos c1 h
    cases h
    exact hend H locs _ _ hI dX4_add_39
  · have h := it_neg c1 h
    refine lv_aload_n hx hb dX4_add_7 rfl (lv_at hl 0 rfl) ?_
    refine rg_get X hI (o := 1) (j := 1) (k := 121) rfl rfl rfl inG4 (by decide) rfl wF_X4_15 dX4_add_8 ?_
    refine lv_aload_n hx hb dX4_add_11 rfl (lv_at hl 0 rfl) ?_
    refine rg_getR X hI (o := 1) (j := 0) (k := 7) rfl rfl rfl inG4 (by decide) rfl wF_X4_9 dX4_add_12 ?_
    refine rg_len X hI (o := 7) (v := 160) rfl (by decide) dX4_add_15 ?_
    refine lv_icmp_ge (tgt := 39) hx hb dX4_add_16 (by decide) (fun c2 => ?_) (fun c2 => ?_)
    · have h := it_pos c2 h
      cases h
      exact hend H locs _ _ hI dX4_add_39
    · have h := it_neg c2 h
      refine lv_aload_n hx hb dX4_add_19 rfl (lv_at hl 0 rfl) ?_
      refine rg_getR X hI (o := 1) (j := 0) (k := 7) rfl rfl rfl inG4 (by decide) rfl wF_X4_9 dX4_add_20 ?_
      refine lv_aload_n hx hb dX4_add_23 rfl (lv_at hl 0 rfl) ?_
      refine rg_get X hI (o := 1) (j := 1) (k := 121) rfl rfl rfl inG4 (by decide) rfl wF_X4_15 dX4_add_24 ?_
      refine lv_iload_n hx hb dX4_add_27 rfl (lv_at hl 1 rfl) ?_
      obtain ⟨hn3, h⟩ := gd_some h
      refine rg_ast X hI (o := 7) rfl rfl hn3 dX4_add_28 (fun H locs hI => ?_)
      obtain ⟨μ4, eμ4, h⟩ := nm_some h
      rw [← eμ4] at hI
      refine lv_aload_n hx hb dX4_add_29 rfl (lv_at hl 0 rfl) ?_
      refine lv_dup hx hb dX4_add_30 rfl ?_
      refine rg_get X hI (o := 1) (j := 1) (k := 121) rfl rfl rfl inG4 (by decide) rfl wF_X4_15 dX4_add_31 ?_
      refine lv_iconst (v := 1) hx hb dX4_add_34 (by decide) ?_
      refine lv_iadd hx hb dX4_add_35 ?_
      refine rg_put X hI (o := 1) (j := 1) (k := 121) rfl rfl rfl rfl inG4 tyX4 tyX4_ok nmX4 (by decide) rfl wF_X4_15 rfl rfl rfl rfl dX4_add_36 (fun H locs hI => ?_)
      obtain ⟨μ5, eμ5, h⟩ := nm_some h
      rw [← eμ5] at hI
      cases h
      exact hend H locs _ _ hI dX4_add_39
set_option maxHeartbeats 4000000 in
set_option maxRecDepth 100000 in
theorem c_T_clear (l : Launch) (D : va_G) (cI : ClassId) (ρ : Nat → Nat) (hgt : Nat) (hh : 1 ≤ hgt)  {μ ν : St} (h : f_T_clear μ = some ν) : CV l yX4_clear cX4_clear 1 hgt TC cI D ρ [.ref (ρ 1)] μ ν := by
  obtain ⟨g, rfl⟩ : ∃ g, hgt = g + 1 := ⟨hgt - 1, by omega⟩
  unfold f_T_clear at h
  refine CV_of (own := RX4) (by decide) rfl (Nat.le_of_ble_eq_true rfl) ?_
  intro p e s m args below meth c Q A H locs X hI hend ls hl
  have hx := X.1.1
  have hb := X.1.2.1
  have hl : lv_has ls 1 [(0, .ref (ρ 1))] := hl
  refine lv_aload_n hx hb dX4_clear_0 rfl (lv_at hl 0 rfl) ?_
  refine lv_iconst (v := 0) hx hb dX4_clear_1 (by decide) ?_
  refine rg_put X hI (o := 1) (j := 1) (k := 121) rfl rfl rfl rfl inG4 tyX4 tyX4_ok nmX4 (by decide) rfl wF_X4_15 rfl rfl rfl rfl dX4_clear_2 (fun H locs hI => ?_)
  obtain ⟨μ1, eμ1, h⟩ := nm_some h
  rw [← eμ1] at hI
  cases h
  exact hend H locs _ _ hI dX4_clear_5
set_option maxHeartbeats 4000000 in
set_option maxRecDepth 100000 in
theorem c_K_count (l : Launch) (D : va_G) (cI : ClassId) (ρ : Nat → Nat) (hgt : Nat) (hh : 1 ≤ hgt)  {μ : St} {r : Int32} (h : f_K_count μ = some r) : CI l yX1_count cX1_count 1 (some .int) hgt TC cI D ρ [.ref (ρ 2)] μ r μ := by
  obtain ⟨g, rfl⟩ : ∃ g, hgt = g + 1 := ⟨hgt - 1, by omega⟩
  unfold f_K_count at h
  refine CI_of (own := RX1) (by decide) rfl (Nat.le_of_ble_eq_true rfl) rfl ?_
  intro p e s m args below meth c Q A H locs X hI hend ls hl
  have hx := X.1.1
  have hb := X.1.2.1
  have hl : lv_has ls 1 [(0, .ref (ρ 2))] := hl
  refine lv_aload_n hx hb dX1_count_0 rfl (lv_at hl 0 rfl) ?_
  refine rg_get X hI (o := 2) (j := 2) (k := 142) rfl rfl rfl inG1 (by decide) rfl wF_X1_17 dX1_count_1 ?_
  cases h
  exact hend H locs _ _ hI dX1_count_4
set_option maxHeartbeats 4000000 in
set_option maxRecDepth 100000 in
theorem c_K_full (l : Launch) (D : va_G) (cI : ClassId) (ρ : Nat → Nat) (hgt : Nat) (hh : 1 ≤ hgt)  {μ : St} {r : Int32} (h : f_K_full μ = some r) : CI l yX1_full cX1_full 1 (some .boolean) hgt TC cI D ρ [.ref (ρ 2)] μ r μ := by
  obtain ⟨g, rfl⟩ : ∃ g, hgt = g + 1 := ⟨hgt - 1, by omega⟩
  unfold f_K_full at h
  refine CZ_of (own := RX1) (by decide) rfl (Nat.le_of_ble_eq_true rfl) rfl ?_
  intro p e s m args below meth c Q A H locs X hI hend ls hl
  have hx := X.1.1
  have hb := X.1.2.1
  have hl : lv_has ls 1 [(0, .ref (ρ 2))] := hl
  refine lv_aload_n hx hb dX1_full_0 rfl (lv_at hl 0 rfl) ?_
  refine rg_get X hI (o := 2) (j := 2) (k := 142) rfl rfl rfl inG1 (by decide) rfl wF_X1_17 dX1_full_1 ?_
  refine lv_bipush (v := 8) hx hb dX1_full_4 (by decide) ?_
  refine lv_icmp_lt (tgt := 13) hx hb dX1_full_6 (by decide) (fun c1 => ?_) (fun c1 => ?_)
  · have h := it_pos c1 h
    refine lv_iconst (v := 0) hx hb dX1_full_13 (by decide) ?_
    cases h
    exact hend H locs _ _ (by decide) hI dX1_full_14
  · have h := it_neg c1 h
    refine lv_iconst (v := 1) hx hb dX1_full_9 (by decide) ?_
    refine lv_goto (tgt := 14) hx hb dX1_full_10 (by decide) ?_
    cases h
    exact hend H locs _ _ (by decide) hI dX1_full_14
set_option maxHeartbeats 4000000 in
set_option maxRecDepth 100000 in
theorem c_K_add (l : Launch) (D : va_G) (cI : ClassId) (ρ : Nat → Nat) (hgt : Nat) (hh : 1 ≤ hgt) {a1 : Int32} {μ ν : St} (h : f_K_add a1 μ = some ν) : CV l yX1_add cX1_add 2 hgt TC cI D ρ [.ref (ρ 2), .int a1] μ ν := by
  obtain ⟨g, rfl⟩ : ∃ g, hgt = g + 1 := ⟨hgt - 1, by omega⟩
  unfold f_K_add at h
  refine CV_of (own := RX1) (by decide) rfl (Nat.le_of_ble_eq_true rfl) ?_
  intro p e s m args below meth c Q A H locs X hI hend ls hl
  have hx := X.1.1
  have hb := X.1.2.1
  have hl : lv_has ls 2 [(0, .ref (ρ 2)), (1, .int a1)] := hl
  refine lv_aload_n hx hb dX1_add_0 rfl (lv_at hl 0 rfl) ?_
  refine rg_get X hI (o := 2) (j := 2) (k := 142) rfl rfl rfl inG1 (by decide) rfl wF_X1_17 dX1_add_1 ?_
  refine lv_bipush (v := 8) hx hb dX1_add_4 (by decide) ?_
  refine lv_icmp_ge (tgt := 37) hx hb dX1_add_6 (by decide) (fun c1 => ?_) (fun c1 => ?_)
  · have h := it_pos c1 h
    cases h
    exact hend H locs _ _ hI dX1_add_37
  · have h := it_neg c1 h
    refine lv_aload_n hx hb dX1_add_9 rfl (lv_at hl 0 rfl) ?_
    refine rg_getR X hI (o := 2) (j := 0) (k := 8) rfl rfl rfl inG1 (by decide) rfl wF_X1_9 dX1_add_10 ?_
    refine lv_aload_n hx hb dX1_add_13 rfl (lv_at hl 0 rfl) ?_
    refine rg_get X hI (o := 2) (j := 1) (k := 141) rfl rfl rfl inG1 (by decide) rfl wF_X1_13 dX1_add_14 ?_
    refine lv_aload_n hx hb dX1_add_17 rfl (lv_at hl 0 rfl) ?_
    refine rg_get X hI (o := 2) (j := 2) (k := 142) rfl rfl rfl inG1 (by decide) rfl wF_X1_17 dX1_add_18 ?_
    refine lv_iadd hx hb dX1_add_21 ?_
    refine lv_bipush (v := 7) hx hb dX1_add_22 (by decide) ?_
    refine lv_iand hx hb dX1_add_24 ?_
    refine lv_iload_n hx hb dX1_add_25 rfl (lv_at hl 1 rfl) ?_
    obtain ⟨hn2, h⟩ := gd_some h
    refine rg_ast X hI (o := 8) rfl rfl hn2 dX1_add_26 (fun H locs hI => ?_)
    obtain ⟨μ3, eμ3, h⟩ := nm_some h
    rw [← eμ3] at hI
    refine lv_aload_n hx hb dX1_add_27 rfl (lv_at hl 0 rfl) ?_
    refine lv_dup hx hb dX1_add_28 rfl ?_
    refine rg_get X hI (o := 2) (j := 2) (k := 142) rfl rfl rfl inG1 (by decide) rfl wF_X1_17 dX1_add_29 ?_
    refine lv_iconst (v := 1) hx hb dX1_add_32 (by decide) ?_
    refine lv_iadd hx hb dX1_add_33 ?_
    refine rg_put X hI (o := 2) (j := 2) (k := 142) rfl rfl rfl rfl inG1 tyX1 tyX1_ok nmX1 (by decide) rfl wF_X1_17 rfl rfl rfl rfl dX1_add_34 (fun H locs hI => ?_)
    obtain ⟨μ4, eμ4, h⟩ := nm_some h
    rw [← eμ4] at hI
    cases h
    exact hend H locs _ _ hI dX1_add_37
set_option maxHeartbeats 4000000 in
set_option maxRecDepth 100000 in
theorem c_K_take (l : Launch) (D : va_G) (cI : ClassId) (ρ : Nat → Nat) (hgt : Nat) (hh : 1 ≤ hgt)  {μ ν : St} {r : Int32} (h : f_K_take μ = some (r, ν)) : CI l yX1_take cX1_take 2 (some .int) hgt TC cI D ρ [.ref (ρ 2)] μ r ν := by
  obtain ⟨g, rfl⟩ : ∃ g, hgt = g + 1 := ⟨hgt - 1, by omega⟩
  unfold f_K_take at h
  refine CI_of (own := RX1) (by decide) rfl (Nat.le_of_ble_eq_true rfl) rfl ?_
  intro p e s m args below meth c Q A H locs X hI hend ls hl
  have hx := X.1.1
  have hb := X.1.2.1
  have hl : lv_has ls 2 [(0, .ref (ρ 2))] := hl
  refine lv_aload_n hx hb dX1_take_0 rfl (lv_at hl 0 rfl) ?_
  refine rg_get X hI (o := 2) (j := 2) (k := 142) rfl rfl rfl inG1 (by decide) rfl wF_X1_17 dX1_take_1 ?_
  refine lv_if_ne (tgt := 9) hx hb dX1_take_4 (by decide) (fun c1 => ?_) (fun c1 => ?_)
  · have h := it_neg c1 h
    refine lv_aload_n hx hb dX1_take_9 rfl (lv_at hl 0 rfl) ?_
    refine rg_getR X hI (o := 2) (j := 0) (k := 8) rfl rfl rfl inG1 (by decide) rfl wF_X1_9 dX1_take_10 ?_
    refine lv_aload_n hx hb dX1_take_13 rfl (lv_at hl 0 rfl) ?_
    refine rg_get X hI (o := 2) (j := 1) (k := 141) rfl rfl rfl inG1 (by decide) rfl wF_X1_13 dX1_take_14 ?_
    refine lv_bipush (v := 7) hx hb dX1_take_17 (by decide) ?_
    refine lv_iand hx hb dX1_take_19 ?_
    obtain ⟨hn2, h⟩ := gd_some h
    refine rg_ald X hI (o := 8) rfl hn2 dX1_take_20 ?_
    obtain ⟨x3, ex3, h⟩ := nm_some h
    refine rg_top ex3 ?_
    refine lv_istore_n (lv' := [(1, .int x3), (0, .ref (ρ 2))]) hx hb dX1_take_21 rfl hl (by decide) rfl (fun ls hl => ?_)
    refine lv_aload_n hx hb dX1_take_22 rfl (lv_at hl 1 rfl) ?_
    refine lv_aload_n hx hb dX1_take_23 rfl (lv_at hl 1 rfl) ?_
    refine rg_get X hI (o := 2) (j := 1) (k := 141) rfl rfl rfl inG1 (by decide) rfl wF_X1_13 dX1_take_24 ?_
    refine lv_iconst (v := 1) hx hb dX1_take_27 (by decide) ?_
    refine lv_iadd hx hb dX1_take_28 ?_
    refine lv_bipush (v := 7) hx hb dX1_take_29 (by decide) ?_
    refine lv_iand hx hb dX1_take_31 ?_
    refine rg_put X hI (o := 2) (j := 1) (k := 141) rfl rfl rfl rfl inG1 tyX1 tyX1_ok nmX1 (by decide) rfl wF_X1_13 rfl rfl rfl rfl dX1_take_32 (fun H locs hI => ?_)
    obtain ⟨μ4, eμ4, h⟩ := nm_some h
    rw [← eμ4] at hI
    refine lv_aload_n hx hb dX1_take_35 rfl (lv_at hl 1 rfl) ?_
    refine lv_dup hx hb dX1_take_36 rfl ?_
    refine rg_get X hI (o := 2) (j := 2) (k := 142) rfl rfl rfl inG1 (by decide) rfl wF_X1_17 dX1_take_37 ?_
    refine lv_iconst (v := 1) hx hb dX1_take_40 (by decide) ?_
    refine lv_isub hx hb dX1_take_41 ?_
    refine rg_put X hI (o := 2) (j := 2) (k := 142) rfl rfl rfl rfl inG1 tyX1 tyX1_ok nmX1 (by decide) rfl wF_X1_17 rfl rfl rfl rfl dX1_take_42 (fun H locs hI => ?_)
    obtain ⟨μ5, eμ5, h⟩ := nm_some h
    rw [← eμ5] at hI
    refine lv_iload_n hx hb dX1_take_45 rfl (lv_at hl 0 rfl) ?_
    cases h
    exact hend H locs _ _ hI dX1_take_46
  · have h := it_pos c1 h
    refine lv_iconst (v := 0) hx hb dX1_take_7 (by decide) ?_
    cases h
    exact hend H locs _ _ hI dX1_take_8
set_option maxHeartbeats 4000000 in
set_option maxRecDepth 100000 in
theorem c_P_functions (l : Launch) (D : va_G) (cI : ClassId) (ρ : Nat → Nat) (hgt : Nat) (hh : 1 ≤ hgt)  {μ : St} {r : Int32} (h : f_P_functions μ = some r) : CI l yX3_functions cX3_functions 1 (some .int) hgt TC cI D ρ [.ref (ρ 3)] μ r μ := by
  obtain ⟨g, rfl⟩ : ∃ g, hgt = g + 1 := ⟨hgt - 1, by omega⟩
  unfold f_P_functions at h
  refine CI_of (own := RX3) (by decide) rfl (Nat.le_of_ble_eq_true rfl) rfl ?_
  intro p e s m args below meth c Q A H locs X hI hend ls hl
  have hx := X.1.1
  have hb := X.1.2.1
  have hl : lv_has ls 1 [(0, .ref (ρ 3))] := hl
  refine lv_aload_n hx hb dX3_functions_0 rfl (lv_at hl 0 rfl) ?_
  refine rg_get X hI (o := 3) (j := 5) (k := 165) rfl rfl rfl inG3 (by decide) rfl wF_X3_28 dX3_functions_1 ?_
  cases h
  exact hend H locs _ _ hI dX3_functions_4
set_option maxHeartbeats 4000000 in
set_option maxRecDepth 100000 in
theorem c_P_stepAt (l : Launch) (D : va_G) (cI : ClassId) (ρ : Nat → Nat) (hgt : Nat) (hh : 1 ≤ hgt) {a1 : Int32} {μ : St} {r : Int32} (h : f_P_stepAt a1 μ = some r) : CI l yX3_stepAt cX3_stepAt 2 (some .int) hgt TC cI D ρ [.ref (ρ 3), .int a1] μ r μ := by
  obtain ⟨g, rfl⟩ : ∃ g, hgt = g + 1 := ⟨hgt - 1, by omega⟩
  unfold f_P_stepAt at h
  refine CI_of (own := RX3) (by decide) rfl (Nat.le_of_ble_eq_true rfl) rfl ?_
  intro p e s m args below meth c Q A H locs X hI hend ls hl
  have hx := X.1.1
  have hb := X.1.2.1
  have hl : lv_has ls 2 [(0, .ref (ρ 3)), (1, .int a1)] := hl
  refine lv_iload_n hx hb dX3_stepAt_0 rfl (lv_at hl 1 rfl) ?_
  obtain ⟨k2, ek2, h⟩ := jn_some h
  have hj3 : ∀ (ls : Array Slot), lv_has ls 2 [] → k2 = some r → W p l e (rmL (g + 1)) s m args below meth c H locs 0 0 Q (F0 m 22 ls []) := by
    intro ls hl h
    rw [ek2] at h
    refine lv_iconst (v := 0) hx hb dX3_stepAt_22 (by decide) ?_
    cases h
    exact hend H locs _ _ hI dX3_stepAt_23
  refine lv_if_lt (tgt := 22) hx hb dX3_stepAt_1 (by decide) (fun c4 => ?_) (fun c4 => ?_)
  · have h := it_pos c4 h
    exact hj3 ls (lv_sub hl [] rfl) h
  · have h := it_neg c4 h
    refine lv_iload_n hx hb dX3_stepAt_4 rfl (lv_at hl 1 rfl) ?_
    refine lv_aload_n hx hb dX3_stepAt_5 rfl (lv_at hl 0 rfl) ?_
    refine rg_getR X hI (o := 3) (j := 0) (k := 9) rfl rfl rfl inG3 (by decide) rfl wF_X3_9 dX3_stepAt_6 ?_
    refine rg_len X hI (o := 9) (v := 160) rfl (by decide) dX3_stepAt_9 ?_
    refine lv_icmp_ge (tgt := 22) hx hb dX3_stepAt_10 (by decide) (fun c5 => ?_) (fun c5 => ?_)
    · have h := it_pos c5 h
      exact hj3 ls (lv_sub hl [] rfl) h
    · have h := it_neg c5 h
      refine lv_aload_n hx hb dX3_stepAt_13 rfl (lv_at hl 0 rfl) ?_
      refine rg_getR X hI (o := 3) (j := 0) (k := 9) rfl rfl rfl inG3 (by decide) rfl wF_X3_9 dX3_stepAt_14 ?_
      refine lv_iload_n hx hb dX3_stepAt_17 rfl (lv_at hl 1 rfl) ?_
      obtain ⟨hn6, h⟩ := gd_some h
      refine rg_ald X hI (o := 9) rfl hn6 dX3_stepAt_18 ?_
      obtain ⟨x7, ex7, h⟩ := nm_some h
      refine rg_top ex7 ?_
      refine lv_goto (tgt := 23) hx hb dX3_stepAt_19 (by decide) ?_
      cases h
      exact hend H locs _ _ hI dX3_stepAt_23
set_option maxHeartbeats 4000000 in
set_option maxRecDepth 100000 in
theorem c_P_operandAt (l : Launch) (D : va_G) (cI : ClassId) (ρ : Nat → Nat) (hgt : Nat) (hh : 1 ≤ hgt) {a1 : Int32} {μ : St} {r : Int32} (h : f_P_operandAt a1 μ = some r) : CI l yX3_operandAt cX3_operandAt 2 (some .int) hgt TC cI D ρ [.ref (ρ 3), .int a1] μ r μ := by
  obtain ⟨g, rfl⟩ : ∃ g, hgt = g + 1 := ⟨hgt - 1, by omega⟩
  unfold f_P_operandAt at h
  refine CI_of (own := RX3) (by decide) rfl (Nat.le_of_ble_eq_true rfl) rfl ?_
  intro p e s m args below meth c Q A H locs X hI hend ls hl
  have hx := X.1.1
  have hb := X.1.2.1
  have hl : lv_has ls 2 [(0, .ref (ρ 3)), (1, .int a1)] := hl
  refine lv_iload_n hx hb dX3_operandAt_0 rfl (lv_at hl 1 rfl) ?_
  obtain ⟨k2, ek2, h⟩ := jn_some h
  have hj3 : ∀ (ls : Array Slot), lv_has ls 2 [] → k2 = some r → W p l e (rmL (g + 1)) s m args below meth c H locs 0 0 Q (F0 m 22 ls []) := by
    intro ls hl h
    rw [ek2] at h
    refine lv_iconst (v := 0) hx hb dX3_operandAt_22 (by decide) ?_
    cases h
    exact hend H locs _ _ hI dX3_operandAt_23
  refine lv_if_lt (tgt := 22) hx hb dX3_operandAt_1 (by decide) (fun c4 => ?_) (fun c4 => ?_)
  · have h := it_pos c4 h
    exact hj3 ls (lv_sub hl [] rfl) h
  · have h := it_neg c4 h
    refine lv_iload_n hx hb dX3_operandAt_4 rfl (lv_at hl 1 rfl) ?_
    refine lv_aload_n hx hb dX3_operandAt_5 rfl (lv_at hl 0 rfl) ?_
    refine rg_getR X hI (o := 3) (j := 1) (k := 10) rfl rfl rfl inG3 (by decide) rfl wF_X3_15 dX3_operandAt_6 ?_
    refine rg_len X hI (o := 10) (v := 160) rfl (by decide) dX3_operandAt_9 ?_
    refine lv_icmp_ge (tgt := 22) hx hb dX3_operandAt_10 (by decide) (fun c5 => ?_) (fun c5 => ?_)
    · have h := it_pos c5 h
      exact hj3 ls (lv_sub hl [] rfl) h
    · have h := it_neg c5 h
      refine lv_aload_n hx hb dX3_operandAt_13 rfl (lv_at hl 0 rfl) ?_
      refine rg_getR X hI (o := 3) (j := 1) (k := 10) rfl rfl rfl inG3 (by decide) rfl wF_X3_15 dX3_operandAt_14 ?_
      refine lv_iload_n hx hb dX3_operandAt_17 rfl (lv_at hl 1 rfl) ?_
      obtain ⟨hn6, h⟩ := gd_some h
      refine rg_ald X hI (o := 10) rfl hn6 dX3_operandAt_18 ?_
      obtain ⟨x7, ex7, h⟩ := nm_some h
      refine rg_top ex7 ?_
      refine lv_goto (tgt := 23) hx hb dX3_operandAt_19 (by decide) ?_
      cases h
      exact hend H locs _ _ hI dX3_operandAt_23
set_option maxHeartbeats 4000000 in
set_option maxRecDepth 100000 in
theorem c_P_entryOf (l : Launch) (D : va_G) (cI : ClassId) (ρ : Nat → Nat) (hgt : Nat) (hh : 1 ≤ hgt) {a1 : Int32} {μ : St} {r : Int32} (h : f_P_entryOf a1 μ = some r) : CI l yX3_entryOf cX3_entryOf 2 (some .int) hgt TC cI D ρ [.ref (ρ 3), .int a1] μ r μ := by
  obtain ⟨g, rfl⟩ : ∃ g, hgt = g + 1 := ⟨hgt - 1, by omega⟩
  unfold f_P_entryOf at h
  refine CI_of (own := RX3) (by decide) rfl (Nat.le_of_ble_eq_true rfl) rfl ?_
  intro p e s m args below meth c Q A H locs X hI hend ls hl
  have hx := X.1.1
  have hb := X.1.2.1
  have hl : lv_has ls 2 [(0, .ref (ρ 3)), (1, .int a1)] := hl
  refine lv_iload_n hx hb dX3_entryOf_0 rfl (lv_at hl 1 rfl) ?_
  obtain ⟨k2, ek2, h⟩ := jn_some h
  have hj3 : ∀ (ls : Array Slot), lv_has ls 2 [] → k2 = some r → W p l e (rmL (g + 1)) s m args below meth c H locs 0 0 Q (F0 m 22 ls []) := by
    intro ls hl h
    rw [ek2] at h
    refine lv_iconst (v := 0) hx hb dX3_entryOf_22 (by decide) ?_
    cases h
    exact hend H locs _ _ hI dX3_entryOf_23
  refine lv_if_lt (tgt := 22) hx hb dX3_entryOf_1 (by decide) (fun c4 => ?_) (fun c4 => ?_)
  · have h := it_pos c4 h
    exact hj3 ls (lv_sub hl [] rfl) h
  · have h := it_neg c4 h
    refine lv_iload_n hx hb dX3_entryOf_4 rfl (lv_at hl 1 rfl) ?_
    refine lv_aload_n hx hb dX3_entryOf_5 rfl (lv_at hl 0 rfl) ?_
    refine rg_getR X hI (o := 3) (j := 2) (k := 11) rfl rfl rfl inG3 (by decide) rfl wF_X3_18 dX3_entryOf_6 ?_
    refine rg_len X hI (o := 11) (v := 6) rfl (by decide) dX3_entryOf_9 ?_
    refine lv_icmp_ge (tgt := 22) hx hb dX3_entryOf_10 (by decide) (fun c5 => ?_) (fun c5 => ?_)
    · have h := it_pos c5 h
      exact hj3 ls (lv_sub hl [] rfl) h
    · have h := it_neg c5 h
      refine lv_aload_n hx hb dX3_entryOf_13 rfl (lv_at hl 0 rfl) ?_
      refine rg_getR X hI (o := 3) (j := 2) (k := 11) rfl rfl rfl inG3 (by decide) rfl wF_X3_18 dX3_entryOf_14 ?_
      refine lv_iload_n hx hb dX3_entryOf_17 rfl (lv_at hl 1 rfl) ?_
      obtain ⟨hn6, h⟩ := gd_some h
      refine rg_ald X hI (o := 11) rfl hn6 dX3_entryOf_18 ?_
      obtain ⟨x7, ex7, h⟩ := nm_some h
      refine rg_top ex7 ?_
      refine lv_goto (tgt := 23) hx hb dX3_entryOf_19 (by decide) ?_
      cases h
      exact hend H locs _ _ hI dX3_entryOf_23
set_option maxHeartbeats 4000000 in
set_option maxRecDepth 100000 in
theorem c_P_parametersOf (l : Launch) (D : va_G) (cI : ClassId) (ρ : Nat → Nat) (hgt : Nat) (hh : 1 ≤ hgt) {a1 : Int32} {μ : St} {r : Int32} (h : f_P_parametersOf a1 μ = some r) : CI l yX3_parametersOf cX3_parametersOf 2 (some .int) hgt TC cI D ρ [.ref (ρ 3), .int a1] μ r μ := by
  obtain ⟨g, rfl⟩ : ∃ g, hgt = g + 1 := ⟨hgt - 1, by omega⟩
  unfold f_P_parametersOf at h
  refine CI_of (own := RX3) (by decide) rfl (Nat.le_of_ble_eq_true rfl) rfl ?_
  intro p e s m args below meth c Q A H locs X hI hend ls hl
  have hx := X.1.1
  have hb := X.1.2.1
  have hl : lv_has ls 2 [(0, .ref (ρ 3)), (1, .int a1)] := hl
  refine lv_iload_n hx hb dX3_parametersOf_0 rfl (lv_at hl 1 rfl) ?_
  obtain ⟨k2, ek2, h⟩ := jn_some h
  have hj3 : ∀ (ls : Array Slot), lv_has ls 2 [] → k2 = some r → W p l e (rmL (g + 1)) s m args below meth c H locs 0 0 Q (F0 m 24 ls []) := by
    intro ls hl h
    rw [ek2] at h
    refine lv_iconst (v := -1) hx hb dX3_parametersOf_24 (by decide) ?_
    cases h
    exact hend H locs _ _ hI dX3_parametersOf_25
  refine lv_if_lt (tgt := 24) hx hb dX3_parametersOf_1 (by decide) (fun c4 => ?_) (fun c4 => ?_)
  · have h := it_pos c4 h
    exact hj3 ls (lv_sub hl [] rfl) h
  · have h := it_neg c4 h
    refine lv_iload_n hx hb dX3_parametersOf_4 rfl (lv_at hl 1 rfl) ?_
    refine lv_aload_n hx hb dX3_parametersOf_5 rfl (lv_at hl 0 rfl) ?_
    refine rg_getR X hI (o := 3) (j := 3) (k := 12) rfl rfl rfl inG3 (by decide) rfl wF_X3_21 dX3_parametersOf_6 ?_
    refine rg_len X hI (o := 12) (v := 6) rfl (by decide) dX3_parametersOf_9 ?_
    refine lv_icmp_ge (tgt := 24) hx hb dX3_parametersOf_10 (by decide) (fun c5 => ?_) (fun c5 => ?_)
    · have h := it_pos c5 h
      exact hj3 ls (lv_sub hl [] rfl) h
    · have h := it_neg c5 h
      refine lv_aload_n hx hb dX3_parametersOf_13 rfl (lv_at hl 0 rfl) ?_
      refine rg_getR X hI (o := 3) (j := 3) (k := 12) rfl rfl rfl inG3 (by decide) rfl wF_X3_21 dX3_parametersOf_14 ?_
      refine lv_iload_n hx hb dX3_parametersOf_17 rfl (lv_at hl 1 rfl) ?_
      obtain ⟨hn6, h⟩ := gd_some h
      refine rg_ald X hI (o := 12) rfl hn6 dX3_parametersOf_18 ?_
      obtain ⟨x7, ex7, h⟩ := nm_some h
      refine rg_top ex7 ?_
      refine lv_iconst (v := 1) hx hb dX3_parametersOf_19 (by decide) ?_
      refine lv_isub hx hb dX3_parametersOf_20 ?_
      refine lv_goto (tgt := 25) hx hb dX3_parametersOf_21 (by decide) ?_
      cases h
      exact hend H locs _ _ hI dX3_parametersOf_25
set_option maxHeartbeats 4000000 in
set_option maxRecDepth 100000 in
theorem c_P_copy (l : Launch) (D : va_G) (cI : ClassId) (ρ : Nat → Nat) {N : Nat} (hgt : Nat) (hh : 1 ≤ hgt)  {μ ν : St} (h : f_P_copy N μ = some ν) : CV l yX3_copy cX3_copy 3 hgt TC cI D ρ [.ref (ρ 3), .ref (ρ 4)] μ ν := by
  obtain ⟨g, rfl⟩ : ∃ g, hgt = g + 1 := ⟨hgt - 1, by omega⟩
  unfold f_P_copy at h
  refine CV_of (own := RX3) (by decide) rfl (Nat.le_of_ble_eq_true rfl) ?_
  intro p e s m args below meth c Q A H locs X hI hend ls hl
  have hx := X.1.1
  have hb := X.1.2.1
  have hl : lv_has ls 3 [(0, .ref (ρ 3)), (1, .ref (ρ 4))] := hl
  refine lv_iconst (v := 0) hx hb dX3_copy_0 (by decide) ?_
  refine lv_istore_n (lv' := [(2, .int (0 : Int32)), (0, .ref (ρ 3)), (1, .ref (ρ 4))]) hx hb dX3_copy_1 rfl hl (by decide) rfl (fun ls hl => ?_)
  refine lp_elim (fun (k3 : Int32 → St → Option St) => ∀ (x1 : Int32) (μ2 : St) (H : Heap) (locs : List Loc) (ls : Array Slot), lv_has ls 3 [(0, .ref (ρ 3)), (1, .ref (ρ 4)), (2, .int x1)] → RI TC cI D A s.heap ρ μ2 H locs → k3 x1 μ2 = some ν → W p l e (rmL (g + 1)) s m args below meth c H locs 0 0 Q (F0 m 2 ls [])) ?_ ?_ N (0 : Int32) μ H locs ls (lv_sub hl [1, 2, 0] rfl) hI h
  · intro x1 μ2 H locs ls hl hI h
    cases h
  · intro k3 ih4 x1 μ2 H locs ls hl hI h
    try dsimp only at h
    refine lv_iload_n hx hb dX3_copy_2 rfl (lv_at hl 2 rfl) ?_
    refine lv_sipush (v := 160) hx hb dX3_copy_3 (by decide) ?_
    refine lv_icmp_ge (tgt := 39) hx hb dX3_copy_6 (by decide) (fun c5 => ?_) (fun c5 => ?_)
    · have h := it_pos c5 h
      refine lv_iconst (v := 0) hx hb dX3_copy_39 (by decide) ?_
      refine lv_istore_n (lv' := [(2, .int (0 : Int32)), (0, .ref (ρ 3)), (1, .ref (ρ 4))]) hx hb dX3_copy_40 rfl hl (by decide) rfl (fun ls hl => ?_)
      refine lp_elim (fun (k8 : Int32 → St → Option St) => ∀ (x6 : Int32) (μ7 : St) (H : Heap) (locs : List Loc) (ls : Array Slot), lv_has ls 3 [(0, .ref (ρ 3)), (1, .ref (ρ 4)), (2, .int x6)] → RI TC cI D A s.heap ρ μ7 H locs → k8 x6 μ7 = some ν → W p l e (rmL (g + 1)) s m args below meth c H locs 0 0 Q (F0 m 41 ls [])) ?_ ?_ N (0 : Int32) μ2 H locs ls (lv_sub hl [1, 2, 0] rfl) hI h
      · intro x6 μ7 H locs ls hl hI h
        cases h
      · intro k8 ih9 x6 μ7 H locs ls hl hI h
        try dsimp only at h
        refine lv_iload_n hx hb dX3_copy_41 rfl (lv_at hl 2 rfl) ?_
        refine lv_bipush (v := 6) hx hb dX3_copy_42 (by decide) ?_
        refine lv_icmp_ge (tgt := 77) hx hb dX3_copy_44 (by decide) (fun c10 => ?_) (fun c10 => ?_)
        · have h := it_pos c10 h
          refine lv_aload_n hx hb dX3_copy_77 rfl (lv_at hl 0 rfl) ?_
          refine lv_aload_n hx hb dX3_copy_78 rfl (lv_at hl 1 rfl) ?_
          refine rg_get X hI (o := 4) (j := 4) (k := 184) rfl rfl rfl inG3 (by decide) rfl wF_X3_24 dX3_copy_79 ?_
          refine rg_put X hI (o := 3) (j := 4) (k := 164) rfl rfl rfl rfl inG3 tyX3 tyX3_ok nmX3 (by decide) rfl wF_X3_24 rfl rfl rfl rfl dX3_copy_82 (fun H locs hI => ?_)
          obtain ⟨μ11, eμ11, h⟩ := nm_some h
          rw [← eμ11] at hI
          refine lv_aload_n hx hb dX3_copy_85 rfl (lv_at hl 0 rfl) ?_
          refine lv_aload_n hx hb dX3_copy_86 rfl (lv_at hl 1 rfl) ?_
          refine rg_get X hI (o := 4) (j := 5) (k := 185) rfl rfl rfl inG3 (by decide) rfl wF_X3_28 dX3_copy_87 ?_
          refine rg_put X hI (o := 3) (j := 5) (k := 165) rfl rfl rfl rfl inG3 tyX3 tyX3_ok nmX3 (by decide) rfl wF_X3_28 rfl rfl rfl rfl dX3_copy_90 (fun H locs hI => ?_)
          obtain ⟨μ12, eμ12, h⟩ := nm_some h
          rw [← eμ12] at hI
          cases h
          exact hend H locs _ _ hI dX3_copy_93
        · have h := it_neg c10 h
          refine lv_aload_n hx hb dX3_copy_47 rfl (lv_at hl 0 rfl) ?_
          refine rg_getR X hI (o := 3) (j := 2) (k := 11) rfl rfl rfl inG3 (by decide) rfl wF_X3_18 dX3_copy_48 ?_
          refine lv_iload_n hx hb dX3_copy_51 rfl (lv_at hl 2 rfl) ?_
          refine lv_aload_n hx hb dX3_copy_52 rfl (lv_at hl 1 rfl) ?_
          refine rg_getR X hI (o := 4) (j := 2) (k := 15) rfl rfl rfl inG3 (by decide) rfl wF_X3_18 dX3_copy_53 ?_
          refine lv_iload_n hx hb dX3_copy_56 rfl (lv_at hl 2 rfl) ?_
          obtain ⟨hn13, h⟩ := gd_some h
          refine rg_ald X hI (o := 15) rfl hn13 dX3_copy_57 ?_
          obtain ⟨x14, ex14, h⟩ := nm_some h
          refine rg_top ex14 ?_
          obtain ⟨hn15, h⟩ := gd_some h
          refine rg_ast X hI (o := 11) rfl rfl hn15 dX3_copy_58 (fun H locs hI => ?_)
          obtain ⟨μ16, eμ16, h⟩ := nm_some h
          rw [← eμ16] at hI
          refine lv_aload_n hx hb dX3_copy_59 rfl (lv_at hl 0 rfl) ?_
          refine rg_getR X hI (o := 3) (j := 3) (k := 12) rfl rfl rfl inG3 (by decide) rfl wF_X3_21 dX3_copy_60 ?_
          refine lv_iload_n hx hb dX3_copy_63 rfl (lv_at hl 2 rfl) ?_
          refine lv_aload_n hx hb dX3_copy_64 rfl (lv_at hl 1 rfl) ?_
          refine rg_getR X hI (o := 4) (j := 3) (k := 16) rfl rfl rfl inG3 (by decide) rfl wF_X3_21 dX3_copy_65 ?_
          refine lv_iload_n hx hb dX3_copy_68 rfl (lv_at hl 2 rfl) ?_
          obtain ⟨hn17, h⟩ := gd_some h
          refine rg_ald X hI (o := 16) rfl hn17 dX3_copy_69 ?_
          obtain ⟨x18, ex18, h⟩ := nm_some h
          refine rg_top ex18 ?_
          obtain ⟨hn19, h⟩ := gd_some h
          refine rg_ast X hI (o := 12) rfl rfl hn19 dX3_copy_70 (fun H locs hI => ?_)
          obtain ⟨μ20, eμ20, h⟩ := nm_some h
          rw [← eμ20] at hI
          obtain ⟨x21, ex21, h⟩ := nm_some h
          refine lv_iinc (v := x21) (lv' := [(2, .int x21), (0, .ref (ρ 3)), (1, .ref (ρ 4))]) hx hb dX3_copy_71 hl (k := 2) rfl (by rw [ex21]; rfl) (by decide) rfl (fun ls hl => ?_)
          refine lv_goto (tgt := 41) hx hb dX3_copy_74 (by decide) ?_
          exact ih9 x21 μ20 H locs ls (lv_sub hl [1, 2, 0] rfl) hI h
    · have h := it_neg c5 h
      refine lv_aload_n hx hb dX3_copy_9 rfl (lv_at hl 0 rfl) ?_
      refine rg_getR X hI (o := 3) (j := 0) (k := 9) rfl rfl rfl inG3 (by decide) rfl wF_X3_9 dX3_copy_10 ?_
      refine lv_iload_n hx hb dX3_copy_13 rfl (lv_at hl 2 rfl) ?_
      refine lv_aload_n hx hb dX3_copy_14 rfl (lv_at hl 1 rfl) ?_
      refine rg_getR X hI (o := 4) (j := 0) (k := 13) rfl rfl rfl inG3 (by decide) rfl wF_X3_9 dX3_copy_15 ?_
      refine lv_iload_n hx hb dX3_copy_18 rfl (lv_at hl 2 rfl) ?_
      obtain ⟨hn22, h⟩ := gd_some h
      refine rg_ald X hI (o := 13) rfl hn22 dX3_copy_19 ?_
      obtain ⟨x23, ex23, h⟩ := nm_some h
      refine rg_top ex23 ?_
      obtain ⟨hn24, h⟩ := gd_some h
      refine rg_ast X hI (o := 9) rfl rfl hn24 dX3_copy_20 (fun H locs hI => ?_)
      obtain ⟨μ25, eμ25, h⟩ := nm_some h
      rw [← eμ25] at hI
      refine lv_aload_n hx hb dX3_copy_21 rfl (lv_at hl 0 rfl) ?_
      refine rg_getR X hI (o := 3) (j := 1) (k := 10) rfl rfl rfl inG3 (by decide) rfl wF_X3_15 dX3_copy_22 ?_
      refine lv_iload_n hx hb dX3_copy_25 rfl (lv_at hl 2 rfl) ?_
      refine lv_aload_n hx hb dX3_copy_26 rfl (lv_at hl 1 rfl) ?_
      refine rg_getR X hI (o := 4) (j := 1) (k := 14) rfl rfl rfl inG3 (by decide) rfl wF_X3_15 dX3_copy_27 ?_
      refine lv_iload_n hx hb dX3_copy_30 rfl (lv_at hl 2 rfl) ?_
      obtain ⟨hn26, h⟩ := gd_some h
      refine rg_ald X hI (o := 14) rfl hn26 dX3_copy_31 ?_
      obtain ⟨x27, ex27, h⟩ := nm_some h
      refine rg_top ex27 ?_
      obtain ⟨hn28, h⟩ := gd_some h
      refine rg_ast X hI (o := 10) rfl rfl hn28 dX3_copy_32 (fun H locs hI => ?_)
      obtain ⟨μ29, eμ29, h⟩ := nm_some h
      rw [← eμ29] at hI
      obtain ⟨x30, ex30, h⟩ := nm_some h
      refine lv_iinc (v := x30) (lv' := [(2, .int x30), (0, .ref (ρ 3)), (1, .ref (ρ 4))]) hx hb dX3_copy_33 hl (k := 2) rfl (by rw [ex30]; rfl) (by decide) rfl (fun ls hl => ?_)
      refine lv_goto (tgt := 2) hx hb dX3_copy_36 (by decide) ?_
      exact ih4 x30 μ29 H locs ls (lv_sub hl [1, 2, 0] rfl) hI h
set_option maxHeartbeats 4000000 in
set_option maxRecDepth 100000 in
theorem c_D_clear (l : Launch) (D : va_G) (cI : ClassId) (ρ : Nat → Nat) {N : Nat} (hgt : Nat) (hh : 1 ≤ hgt)  {μ ν : St} (h : f_D_clear N μ = some ν) : CV l yX3_clear cX3_clear 2 hgt TC cI D ρ [.ref (ρ 4)] μ ν := by
  obtain ⟨g, rfl⟩ : ∃ g, hgt = g + 1 := ⟨hgt - 1, by omega⟩
  unfold f_D_clear at h
  refine CV_of (own := RX3) (by decide) rfl (Nat.le_of_ble_eq_true rfl) ?_
  intro p e s m args below meth c Q A H locs X hI hend ls hl
  have hx := X.1.1
  have hb := X.1.2.1
  have hl : lv_has ls 2 [(0, .ref (ρ 4))] := hl
  refine lv_iconst (v := 0) hx hb dX3_clear_0 (by decide) ?_
  refine lv_istore_n (lv' := [(1, .int (0 : Int32)), (0, .ref (ρ 4))]) hx hb dX3_clear_1 rfl hl (by decide) rfl (fun ls hl => ?_)
  refine lp_elim (fun (k3 : Int32 → St → Option St) => ∀ (x1 : Int32) (μ2 : St) (H : Heap) (locs : List Loc) (ls : Array Slot), lv_has ls 2 [(0, .ref (ρ 4)), (1, .int x1)] → RI TC cI D A s.heap ρ μ2 H locs → k3 x1 μ2 = some ν → W p l e (rmL (g + 1)) s m args below meth c H locs 0 0 Q (F0 m 2 ls [])) ?_ ?_ N (0 : Int32) μ H locs ls (lv_sub hl [1, 0] rfl) hI h
  · intro x1 μ2 H locs ls hl hI h
    cases h
  · intro k3 ih4 x1 μ2 H locs ls hl hI h
    try dsimp only at h
    refine lv_iload_n hx hb dX3_clear_2 rfl (lv_at hl 1 rfl) ?_
    refine lv_bipush (v := 6) hx hb dX3_clear_3 (by decide) ?_
    refine lv_icmp_ge (tgt := 21) hx hb dX3_clear_5 (by decide) (fun c5 => ?_) (fun c5 => ?_)
    · have h := it_pos c5 h
      refine lv_aload_n hx hb dX3_clear_21 rfl (lv_at hl 0 rfl) ?_
      refine lv_iconst (v := 0) hx hb dX3_clear_22 (by decide) ?_
      refine rg_put X hI (o := 4) (j := 4) (k := 184) rfl rfl rfl rfl inG3 tyX3 tyX3_ok nmX3 (by decide) rfl wF_X3_24 rfl rfl rfl rfl dX3_clear_23 (fun H locs hI => ?_)
      obtain ⟨μ6, eμ6, h⟩ := nm_some h
      rw [← eμ6] at hI
      refine lv_aload_n hx hb dX3_clear_26 rfl (lv_at hl 0 rfl) ?_
      refine lv_iconst (v := 0) hx hb dX3_clear_27 (by decide) ?_
      refine rg_put X hI (o := 4) (j := 5) (k := 185) rfl rfl rfl rfl inG3 tyX3 tyX3_ok nmX3 (by decide) rfl wF_X3_28 rfl rfl rfl rfl dX3_clear_28 (fun H locs hI => ?_)
      obtain ⟨μ7, eμ7, h⟩ := nm_some h
      rw [← eμ7] at hI
      cases h
      exact hend H locs _ _ hI dX3_clear_31
    · have h := it_neg c5 h
      refine lv_aload_n hx hb dX3_clear_8 rfl (lv_at hl 0 rfl) ?_
      refine rg_getR X hI (o := 4) (j := 3) (k := 16) rfl rfl rfl inG3 (by decide) rfl wF_X3_21 dX3_clear_9 ?_
      refine lv_iload_n hx hb dX3_clear_12 rfl (lv_at hl 1 rfl) ?_
      refine lv_iconst (v := 0) hx hb dX3_clear_13 (by decide) ?_
      obtain ⟨hn8, h⟩ := gd_some h
      refine rg_ast X hI (o := 16) rfl rfl hn8 dX3_clear_14 (fun H locs hI => ?_)
      obtain ⟨μ9, eμ9, h⟩ := nm_some h
      rw [← eμ9] at hI
      obtain ⟨x10, ex10, h⟩ := nm_some h
      refine lv_iinc (v := x10) (lv' := [(1, .int x10), (0, .ref (ρ 4))]) hx hb dX3_clear_15 hl (k := 1) rfl (by rw [ex10]; rfl) (by decide) rfl (fun ls hl => ?_)
      refine lv_goto (tgt := 2) hx hb dX3_clear_18 (by decide) ?_
      exact ih4 x10 μ9 H locs ls (lv_sub hl [1, 0] rfl) hI h
set_option maxHeartbeats 4000000 in
set_option maxRecDepth 100000 in
theorem c_D_addFunction (l : Launch) (D : va_G) (cI : ClassId) (ρ : Nat → Nat) (hgt : Nat) (hh : 1 ≤ hgt) {a1 : Int32} {a2 : Int32} {μ ν : St} (h : f_D_addFunction a1 a2 μ = some ν) : CV l yX3_addFunction cX3_addFunction 3 hgt TC cI D ρ [.ref (ρ 4), .int a1, .int a2] μ ν := by
  obtain ⟨g, rfl⟩ : ∃ g, hgt = g + 1 := ⟨hgt - 1, by omega⟩
  unfold f_D_addFunction at h
  refine CV_of (own := RX3) (by decide) rfl (Nat.le_of_ble_eq_true rfl) ?_
  intro p e s m args below meth c Q A H locs X hI hend ls hl
  have hx := X.1.1
  have hb := X.1.2.1
  have hl : lv_has ls 3 [(0, .ref (ρ 4)), (1, .int a1), (2, .int a2)] := hl
  refine lv_iload_n hx hb dX3_addFunction_0 rfl (lv_at hl 1 rfl) ?_
  refine lv_if_lt (tgt := 39) hx hb dX3_addFunction_1 (by decide) (fun c1 => ?_) (fun c1 => ?_)
  · have h := it_pos c1 h
    cases h
    exact hend H locs _ _ hI dX3_addFunction_39
  · have h := it_neg c1 h
    refine lv_iload_n hx hb dX3_addFunction_4 rfl (lv_at hl 1 rfl) ?_
    refine lv_bipush (v := 6) hx hb dX3_addFunction_5 (by decide) ?_
    refine lv_icmp_ge (tgt := 39) hx hb dX3_addFunction_7 (by decide) (fun c2 => ?_) (fun c2 => ?_)
    · have h := it_pos c2 h
      cases h
      exact hend H locs _ _ hI dX3_addFunction_39
    · have h := it_neg c2 h
      refine lv_aload_n hx hb dX3_addFunction_10 rfl (lv_at hl 0 rfl) ?_
      refine rg_getR X hI (o := 4) (j := 2) (k := 15) rfl rfl rfl inG3 (by decide) rfl wF_X3_18 dX3_addFunction_11 ?_
      refine lv_iload_n hx hb dX3_addFunction_14 rfl (lv_at hl 1 rfl) ?_
      refine lv_aload_n hx hb dX3_addFunction_15 rfl (lv_at hl 0 rfl) ?_
      refine rg_get X hI (o := 4) (j := 4) (k := 184) rfl rfl rfl inG3 (by decide) rfl wF_X3_24 dX3_addFunction_16 ?_
      obtain ⟨hn3, h⟩ := gd_some h
      refine rg_ast X hI (o := 15) rfl rfl hn3 dX3_addFunction_19 (fun H locs hI => ?_)
      obtain ⟨μ4, eμ4, h⟩ := nm_some h
      rw [← eμ4] at hI
      refine lv_aload_n hx hb dX3_addFunction_20 rfl (lv_at hl 0 rfl) ?_
      refine rg_getR X hI (o := 4) (j := 3) (k := 16) rfl rfl rfl inG3 (by decide) rfl wF_X3_21 dX3_addFunction_21 ?_
      refine lv_iload_n hx hb dX3_addFunction_24 rfl (lv_at hl 1 rfl) ?_
      refine lv_iload_n hx hb dX3_addFunction_25 rfl (lv_at hl 2 rfl) ?_
      refine lv_iconst (v := 1) hx hb dX3_addFunction_26 (by decide) ?_
      refine lv_iadd hx hb dX3_addFunction_27 ?_
      obtain ⟨hn5, h⟩ := gd_some h
      refine rg_ast X hI (o := 16) rfl rfl hn5 dX3_addFunction_28 (fun H locs hI => ?_)
      obtain ⟨μ6, eμ6, h⟩ := nm_some h
      rw [← eμ6] at hI
      refine lv_aload_n hx hb dX3_addFunction_29 rfl (lv_at hl 0 rfl) ?_
      refine lv_dup hx hb dX3_addFunction_30 rfl ?_
      refine rg_get X hI (o := 4) (j := 5) (k := 185) rfl rfl rfl inG3 (by decide) rfl wF_X3_28 dX3_addFunction_31 ?_
      refine lv_iconst (v := 1) hx hb dX3_addFunction_34 (by decide) ?_
      refine lv_iadd hx hb dX3_addFunction_35 ?_
      refine rg_put X hI (o := 4) (j := 5) (k := 185) rfl rfl rfl rfl inG3 tyX3 tyX3_ok nmX3 (by decide) rfl wF_X3_28 rfl rfl rfl rfl dX3_addFunction_36 (fun H locs hI => ?_)
      obtain ⟨μ7, eμ7, h⟩ := nm_some h
      rw [← eμ7] at hI
      cases h
      exact hend H locs _ _ hI dX3_addFunction_39
set_option maxHeartbeats 4000000 in
set_option maxRecDepth 100000 in
theorem c_D_add (l : Launch) (D : va_G) (cI : ClassId) (ρ : Nat → Nat) (hgt : Nat) (hh : 1 ≤ hgt) {a1 : Int32} {a2 : Int32} {μ ν : St} {r : Int32} (h : f_D_add a1 a2 μ = some (r, ν)) : CI l yX3_add cX3_add 4 (some .int) hgt TC cI D ρ [.ref (ρ 4), .int a1, .int a2] μ r ν := by
  obtain ⟨g, rfl⟩ : ∃ g, hgt = g + 1 := ⟨hgt - 1, by omega⟩
  unfold f_D_add at h
  refine CI_of (own := RX3) (by decide) rfl (Nat.le_of_ble_eq_true rfl) rfl ?_
  intro p e s m args below meth c Q A H locs X hI hend ls hl
  have hx := X.1.1
  have hb := X.1.2.1
  have hl : lv_has ls 4 [(0, .ref (ρ 4)), (1, .int a1), (2, .int a2)] := hl
  refine lv_aload_n hx hb dX3_add_0 rfl (lv_at hl 0 rfl) ?_
  refine rg_get X hI (o := 4) (j := 4) (k := 184) rfl rfl rfl inG3 (by decide) rfl wF_X3_24 dX3_add_1 ?_
  obtain ⟨x1, ex1, h⟩ := nm_some h
  refine rg_top ex1 ?_
  refine lv_istore_n (lv' := [(3, .int x1), (0, .ref (ρ 4)), (1, .int a1), (2, .int a2)]) hx hb dX3_add_4 rfl hl (by decide) rfl (fun ls hl => ?_)
  refine lv_iload_n hx hb dX3_add_5 rfl (lv_at hl 0 rfl) ?_
  refine lv_if_lt (tgt := 51) hx hb dX3_add_6 (by decide) (fun c2 => ?_) (fun c2 => ?_)
  · have h := it_pos c2 h
    refine lv_iload_n hx hb dX3_add_51 rfl (lv_at hl 0 rfl) ?_
    cases h
    exact hend H locs _ _ hI dX3_add_52
  · have h := it_neg c2 h
    refine lv_iload_n hx hb dX3_add_9 rfl (lv_at hl 0 rfl) ?_
    refine lv_aload_n hx hb dX3_add_10 rfl (lv_at hl 1 rfl) ?_
    refine rg_getR X hI (o := 4) (j := 0) (k := 13) rfl rfl rfl inG3 (by decide) rfl wF_X3_9 dX3_add_11 ?_
    refine rg_len X hI (o := 13) (v := 160) rfl (by decide) dX3_add_14 ?_
    refine lv_icmp_ge (tgt := 51) hx hb dX3_add_15 (by decide) (fun c3 => ?_) (fun c3 => ?_)
    · have h := it_pos c3 h
      refine lv_iload_n hx hb dX3_add_51 rfl (lv_at hl 0 rfl) ?_
      cases h
      exact hend H locs _ _ hI dX3_add_52
    · have h := it_neg c3 h
      refine lv_iload_n hx hb dX3_add_18 rfl (lv_at hl 0 rfl) ?_
      refine lv_aload_n hx hb dX3_add_19 rfl (lv_at hl 1 rfl) ?_
      refine rg_getR X hI (o := 4) (j := 1) (k := 14) rfl rfl rfl inG3 (by decide) rfl wF_X3_15 dX3_add_20 ?_
      refine rg_len X hI (o := 14) (v := 160) rfl (by decide) dX3_add_23 ?_
      refine lv_icmp_ge (tgt := 51) hx hb dX3_add_24 (by decide) (fun c4 => ?_) (fun c4 => ?_)
      · have h := it_pos c4 h
        refine lv_iload_n hx hb dX3_add_51 rfl (lv_at hl 0 rfl) ?_
        cases h
        exact hend H locs _ _ hI dX3_add_52
      · have h := it_neg c4 h
        refine lv_aload_n hx hb dX3_add_27 rfl (lv_at hl 1 rfl) ?_
        refine rg_getR X hI (o := 4) (j := 0) (k := 13) rfl rfl rfl inG3 (by decide) rfl wF_X3_9 dX3_add_28 ?_
        refine lv_iload_n hx hb dX3_add_31 rfl (lv_at hl 0 rfl) ?_
        refine lv_iload_n hx hb dX3_add_32 rfl (lv_at hl 2 rfl) ?_
        obtain ⟨hn5, h⟩ := gd_some h
        refine rg_ast X hI (o := 13) rfl rfl hn5 dX3_add_33 (fun H locs hI => ?_)
        obtain ⟨μ6, eμ6, h⟩ := nm_some h
        rw [← eμ6] at hI
        refine lv_aload_n hx hb dX3_add_34 rfl (lv_at hl 1 rfl) ?_
        refine rg_getR X hI (o := 4) (j := 1) (k := 14) rfl rfl rfl inG3 (by decide) rfl wF_X3_15 dX3_add_35 ?_
        refine lv_iload_n hx hb dX3_add_38 rfl (lv_at hl 0 rfl) ?_
        refine lv_iload_n hx hb dX3_add_39 rfl (lv_at hl 3 rfl) ?_
        obtain ⟨hn7, h⟩ := gd_some h
        refine rg_ast X hI (o := 14) rfl rfl hn7 dX3_add_40 (fun H locs hI => ?_)
        obtain ⟨μ8, eμ8, h⟩ := nm_some h
        rw [← eμ8] at hI
        refine lv_aload_n hx hb dX3_add_41 rfl (lv_at hl 1 rfl) ?_
        refine lv_dup hx hb dX3_add_42 rfl ?_
        refine rg_get X hI (o := 4) (j := 4) (k := 184) rfl rfl rfl inG3 (by decide) rfl wF_X3_24 dX3_add_43 ?_
        refine lv_iconst (v := 1) hx hb dX3_add_46 (by decide) ?_
        refine lv_iadd hx hb dX3_add_47 ?_
        refine rg_put X hI (o := 4) (j := 4) (k := 184) rfl rfl rfl rfl inG3 tyX3 tyX3_ok nmX3 (by decide) rfl wF_X3_24 rfl rfl rfl rfl dX3_add_48 (fun H locs hI => ?_)
        obtain ⟨μ9, eμ9, h⟩ := nm_some h
        rw [← eμ9] at hI
        refine lv_iload_n hx hb dX3_add_51 rfl (lv_at hl 0 rfl) ?_
        cases h
        exact hend H locs _ _ hI dX3_add_52
set_option maxHeartbeats 4000000 in
set_option maxRecDepth 100000 in
theorem c_D_aim (l : Launch) (D : va_G) (cI : ClassId) (ρ : Nat → Nat) (hgt : Nat) (hh : 1 ≤ hgt) {a1 : Int32} {μ ν : St} (h : f_D_aim a1 μ = some ν) : CV l yX3_aim cX3_aim 2 hgt TC cI D ρ [.ref (ρ 4), .int a1] μ ν := by
  obtain ⟨g, rfl⟩ : ∃ g, hgt = g + 1 := ⟨hgt - 1, by omega⟩
  unfold f_D_aim at h
  refine CV_of (own := RX3) (by decide) rfl (Nat.le_of_ble_eq_true rfl) ?_
  intro p e s m args below meth c Q A H locs X hI hend ls hl
  have hx := X.1.1
  have hb := X.1.2.1
  have hl : lv_has ls 2 [(0, .ref (ρ 4)), (1, .int a1)] := hl
  refine lv_iload_n hx hb dX3_aim_0 rfl (lv_at hl 1 rfl) ?_
  refine lv_if_lt (tgt := 23) hx hb dX3_aim_1 (by decide) (fun c1 => ?_) (fun c1 => ?_)
  · have h := it_pos c1 h
    cases h
    exact hend H locs _ _ hI dX3_aim_23
  · have h := it_neg c1 h
    refine lv_iload_n hx hb dX3_aim_4 rfl (lv_at hl 1 rfl) ?_
    refine lv_aload_n hx hb dX3_aim_5 rfl (lv_at hl 0 rfl) ?_
    refine rg_getR X hI (o := 4) (j := 1) (k := 14) rfl rfl rfl inG3 (by decide) rfl wF_X3_15 dX3_aim_6 ?_
    refine rg_len X hI (o := 14) (v := 160) rfl (by decide) dX3_aim_9 ?_
    refine lv_icmp_ge (tgt := 23) hx hb dX3_aim_10 (by decide) (fun c2 => ?_) (fun c2 => ?_)
    · have h := it_pos c2 h
      cases h
      exact hend H locs _ _ hI dX3_aim_23
    · have h := it_neg c2 h
      refine lv_aload_n hx hb dX3_aim_13 rfl (lv_at hl 0 rfl) ?_
      refine rg_getR X hI (o := 4) (j := 1) (k := 14) rfl rfl rfl inG3 (by decide) rfl wF_X3_15 dX3_aim_14 ?_
      refine lv_iload_n hx hb dX3_aim_17 rfl (lv_at hl 1 rfl) ?_
      refine lv_aload_n hx hb dX3_aim_18 rfl (lv_at hl 0 rfl) ?_
      refine rg_get X hI (o := 4) (j := 4) (k := 184) rfl rfl rfl inG3 (by decide) rfl wF_X3_24 dX3_aim_19 ?_
      obtain ⟨hn3, h⟩ := gd_some h
      refine rg_ast X hI (o := 14) rfl rfl hn3 dX3_aim_22 (fun H locs hI => ?_)
      obtain ⟨μ4, eμ4, h⟩ := nm_some h
      rw [← eμ4] at hI
      cases h
      exact hend H locs _ _ hI dX3_aim_23
set_option maxHeartbeats 4000000 in
set_option maxRecDepth 100000 in
theorem c_D_parametersOf (l : Launch) (D : va_G) (cI : ClassId) (ρ : Nat → Nat) (hgt : Nat) (hh : 1 ≤ hgt) {a1 : Int32} {μ : St} {r : Int32} (h : f_D_parametersOf a1 μ = some r) : CI l yX3_parametersOf cX3_parametersOf 2 (some .int) hgt TC cI D ρ [.ref (ρ 4), .int a1] μ r μ := by
  obtain ⟨g, rfl⟩ : ∃ g, hgt = g + 1 := ⟨hgt - 1, by omega⟩
  unfold f_D_parametersOf at h
  refine CI_of (own := RX3) (by decide) rfl (Nat.le_of_ble_eq_true rfl) rfl ?_
  intro p e s m args below meth c Q A H locs X hI hend ls hl
  have hx := X.1.1
  have hb := X.1.2.1
  have hl : lv_has ls 2 [(0, .ref (ρ 4)), (1, .int a1)] := hl
  refine lv_iload_n hx hb dX3_parametersOf_0 rfl (lv_at hl 1 rfl) ?_
  obtain ⟨k2, ek2, h⟩ := jn_some h
  have hj3 : ∀ (ls : Array Slot), lv_has ls 2 [] → k2 = some r → W p l e (rmL (g + 1)) s m args below meth c H locs 0 0 Q (F0 m 24 ls []) := by
    intro ls hl h
    rw [ek2] at h
    refine lv_iconst (v := -1) hx hb dX3_parametersOf_24 (by decide) ?_
    cases h
    exact hend H locs _ _ hI dX3_parametersOf_25
  refine lv_if_lt (tgt := 24) hx hb dX3_parametersOf_1 (by decide) (fun c4 => ?_) (fun c4 => ?_)
  · have h := it_pos c4 h
    exact hj3 ls (lv_sub hl [] rfl) h
  · have h := it_neg c4 h
    refine lv_iload_n hx hb dX3_parametersOf_4 rfl (lv_at hl 1 rfl) ?_
    refine lv_aload_n hx hb dX3_parametersOf_5 rfl (lv_at hl 0 rfl) ?_
    refine rg_getR X hI (o := 4) (j := 3) (k := 16) rfl rfl rfl inG3 (by decide) rfl wF_X3_21 dX3_parametersOf_6 ?_
    refine rg_len X hI (o := 16) (v := 6) rfl (by decide) dX3_parametersOf_9 ?_
    refine lv_icmp_ge (tgt := 24) hx hb dX3_parametersOf_10 (by decide) (fun c5 => ?_) (fun c5 => ?_)
    · have h := it_pos c5 h
      exact hj3 ls (lv_sub hl [] rfl) h
    · have h := it_neg c5 h
      refine lv_aload_n hx hb dX3_parametersOf_13 rfl (lv_at hl 0 rfl) ?_
      refine rg_getR X hI (o := 4) (j := 3) (k := 16) rfl rfl rfl inG3 (by decide) rfl wF_X3_21 dX3_parametersOf_14 ?_
      refine lv_iload_n hx hb dX3_parametersOf_17 rfl (lv_at hl 1 rfl) ?_
      obtain ⟨hn6, h⟩ := gd_some h
      refine rg_ald X hI (o := 16) rfl hn6 dX3_parametersOf_18 ?_
      obtain ⟨x7, ex7, h⟩ := nm_some h
      refine rg_top ex7 ?_
      refine lv_iconst (v := 1) hx hb dX3_parametersOf_19 (by decide) ?_
      refine lv_isub hx hb dX3_parametersOf_20 ?_
      refine lv_goto (tgt := 25) hx hb dX3_parametersOf_21 (by decide) ?_
      cases h
      exact hend H locs _ _ hI dX3_parametersOf_25
