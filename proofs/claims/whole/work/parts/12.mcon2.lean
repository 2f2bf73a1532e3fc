/-! the reference: contracts -/
set_option maxHeartbeats 4000000 in
set_option maxRecDepth 100000 in
theorem c_M_begins (l : Launch) (D : va_G) (cI : ClassId) (ρ : Nat → Nat) (hgt : Nat) (hh : 2 ≤ hgt) {a1 : Int32} {a2 : Int32} {a3 : Int32} {μ ν : St} (h : f_M_begins a1 a2 a3 μ = some ν) : CV l yX6_begins cX6_begins 4 hgt TM cI D ρ [.ref (ρ 0), .int a1, .int a2, .int a3] μ ν := by
  obtain ⟨g, rfl⟩ : ∃ g, hgt = g + 1 := ⟨hgt - 1, by omega⟩
  unfold f_M_begins at h
  refine CV_of (own := RX6) (by decide) rfl (Nat.le_of_ble_eq_true rfl) ?_
  intro p e s m args below meth c Q A H locs X hI hend ls hl
  have hx := X.1.1
  have hb := X.1.2.1
  have hl : lv_has ls 4 [(0, .ref (ρ 0)), (1, .int a1), (2, .int a2), (3, .int a3)] := hl
  refine lv_aload_n hx hb dX6_begins_0 rfl (lv_at hl 0 rfl) ?_
  refine rg_get X hI (o := 0) (j := 22) (k := 122) rfl rfl rfl inG6 (by decide) rfl wF_X6_140 dX6_begins_1 ?_
  refine lv_iconst (v := 4) hx hb dX6_begins_4 (by decide) ?_
  refine lv_icmp_ne (tgt := 18) hx hb dX6_begins_5 (by decide) (fun c1 => ?_) (fun c1 => ?_)
  · have h := it_neg c1 h
    refine lv_aload_n hx hb dX6_begins_18 rfl (lv_at hl 0 rfl) ?_
    refine rg_getR X hI (o := 0) (j := 23) (k := 13) rfl rfl rfl inG6 (by decide) rfl wF_X6_46 dX6_begins_19 ?_
    refine lv_aload_n hx hb dX6_begins_22 rfl (lv_at hl 0 rfl) ?_
    refine rg_get X hI (o := 0) (j := 22) (k := 122) rfl rfl rfl inG6 (by decide) rfl wF_X6_140 dX6_begins_23 ?_
    refine lv_iload_n hx hb dX6_begins_26 rfl (lv_at hl 1 rfl) ?_
    obtain ⟨hn2, h⟩ := gd_some h
    refine rg_ast X hI (o := 13) rfl rfl hn2 dX6_begins_27 (fun H locs hI => ?_)
    obtain ⟨μ3, eμ3, h⟩ := nm_some h
    rw [← eμ3] at hI
    refine lv_aload_n hx hb dX6_begins_28 rfl (lv_at hl 0 rfl) ?_
    refine rg_getR X hI (o := 0) (j := 24) (k := 14) rfl rfl rfl inG6 (by decide) rfl wF_X6_49 dX6_begins_29 ?_
    refine lv_aload_n hx hb dX6_begins_32 rfl (lv_at hl 0 rfl) ?_
    refine rg_get X hI (o := 0) (j := 22) (k := 122) rfl rfl rfl inG6 (by decide) rfl wF_X6_140 dX6_begins_33 ?_
    refine lv_iload_n hx hb dX6_begins_36 rfl (lv_at hl 2 rfl) ?_
    obtain ⟨hn4, h⟩ := gd_some h
    refine rg_ast X hI (o := 14) rfl rfl hn4 dX6_begins_37 (fun H locs hI => ?_)
    obtain ⟨μ5, eμ5, h⟩ := nm_some h
    rw [← eμ5] at hI
    refine lv_aload_n hx hb dX6_begins_38 rfl (lv_at hl 0 rfl) ?_
    refine rg_getR X hI (o := 0) (j := 25) (k := 15) rfl rfl rfl inG6 (by decide) rfl wF_X6_52 dX6_begins_39 ?_
    refine lv_aload_n hx hb dX6_begins_42 rfl (lv_at hl 0 rfl) ?_
    refine rg_get X hI (o := 0) (j := 22) (k := 122) rfl rfl rfl inG6 (by decide) rfl wF_X6_140 dX6_begins_43 ?_
    refine lv_iload_n hx hb dX6_begins_46 rfl (lv_at hl 3 rfl) ?_
    obtain ⟨hn6, h⟩ := gd_some h
    refine rg_ast X hI (o := 15) rfl rfl hn6 dX6_begins_47 (fun H locs hI => ?_)
    obtain ⟨μ7, eμ7, h⟩ := nm_some h
    rw [← eμ7] at hI
    refine lv_aload_n hx hb dX6_begins_48 rfl (lv_at hl 0 rfl) ?_
    refine lv_dup hx hb dX6_begins_49 rfl ?_
    refine rg_get X hI (o := 0) (j := 22) (k := 122) rfl rfl rfl inG6 (by decide) rfl wF_X6_140 dX6_begins_50 ?_
    refine lv_iconst (v := 1) hx hb dX6_begins_53 (by decide) ?_
    refine lv_iadd hx hb dX6_begins_54 ?_
    refine rg_put X hI (o := 0) (j := 22) (k := 122) rfl rfl rfl rfl inG6 tyX6 tyX6_ok nmX6 (by decide) rfl wF_X6_140 rfl rfl rfl rfl dX6_begins_55 (fun H locs hI => ?_)
    obtain ⟨μ8, eμ8, h⟩ := nm_some h
    rw [← eμ8] at hI
    refine lv_aload_n hx hb dX6_begins_58 rfl (lv_at hl 0 rfl) ?_
    refine lv_iconst (v := 1) hx hb dX6_begins_59 (by decide) ?_
    refine rg_put X hI (o := 0) (j := 6) (k := 106) rfl rfl rfl rfl inG6 tyX6 tyX6_ok nmX6 (by decide) rfl wF_X6_143 rfl rfl rfl rfl dX6_begins_60 (fun H locs hI => ?_)
    obtain ⟨μ9, eμ9, h⟩ := nm_some h
    rw [← eμ9] at hI
    cases h
    exact hend H locs _ _ hI dX6_begins_63
  · have h := it_pos c1 h
    refine lv_aload_n hx hb dX6_begins_8 rfl (lv_at hl 0 rfl) ?_
    refine lv_iconst (v := 3) hx hb dX6_begins_9 (by decide) ?_
    refine lv_aload_n hx hb dX6_begins_10 rfl (lv_at hl 0 rfl) ?_
    refine rg_get X hI (o := 0) (j := 5) (k := 105) rfl rfl rfl inG6 (by decide) rfl wF_X6_104 dX6_begins_11 ?_
    obtain ⟨μ11, hc10, h⟩ := ca_some h
    refine rc_vv (o := 0) (As := [.int (3 : Int32), .int (μ 105 0)]) X hI (c_M_wrong l D cI ρ g (by omega) hc10) rfl rfl gV_X6_117 hd_X6_wrong (by decide) (Nat.le_refl _) hl.1 rfl (Nat.le_of_ble_eq_true rfl) dX6_begins_14 (fun H locs hI => ?_)
    cases h
    exact hend H locs _ _ hI dX6_begins_17
set_option maxHeartbeats 4000000 in
set_option maxRecDepth 100000 in
theorem c_M_fresh (l : Launch) (D : va_G) (cI : ClassId) (ρ : Nat → Nat) (hgt : Nat) (hh : 1 ≤ hgt)  {μ ν : St} (h : f_M_fresh μ = some ν) : CV l yX6_fresh cX6_fresh 1 hgt TM cI D ρ [.ref (ρ 0)] μ ν := by
  obtain ⟨g, rfl⟩ : ∃ g, hgt = g + 1 := ⟨hgt - 1, by omega⟩
  unfold f_M_fresh at h
  refine CV_of (own := RX6) (by decide) rfl (Nat.le_of_ble_eq_true rfl) ?_
  intro p e s m args below meth c Q A H locs X hI hend ls hl
  have hx := X.1.1
  have hb := X.1.2.1
  have hl : lv_has ls 1 [(0, .ref (ρ 0))] := hl
  refine lv_aload_n hx hb dX6_fresh_0 rfl (lv_at hl 0 rfl) ?_
  refine rg_getR X hI (o := 0) (j := 29) (k := 18) rfl rfl rfl inG6 (by decide) rfl wF_X6_61 dX6_fresh_1 ?_
  refine lv_aload_n hx hb dX6_fresh_4 rfl (lv_at hl 0 rfl) ?_
  refine rg_get X hI (o := 0) (j := 26) (k := 126) rfl rfl rfl inG6 (by decide) rfl wF_X6_146 dX6_fresh_5 ?_
  refine lv_iconst (v := 1) hx hb dX6_fresh_8 (by decide) ?_
  refine lv_isub hx hb dX6_fresh_9 ?_
  refine lv_aload_n hx hb dX6_fresh_10 rfl (lv_at hl 0 rfl) ?_
  refine rg_get X hI (o := 0) (j := 31) (k := 131) rfl rfl rfl inG6 (by decide) rfl wF_X6_149 dX6_fresh_11 ?_
  obtain ⟨hn1, h⟩ := gd_some h
  refine rg_ast X hI (o := 18) rfl rfl hn1 dX6_fresh_14 (fun H locs hI => ?_)
  obtain ⟨μ2, eμ2, h⟩ := nm_some h
  rw [← eμ2] at hI
  refine lv_aload_n hx hb dX6_fresh_15 rfl (lv_at hl 0 rfl) ?_
  refine rg_getR X hI (o := 0) (j := 28) (k := 17) rfl rfl rfl inG6 (by decide) rfl wF_X6_58 dX6_fresh_16 ?_
  refine lv_aload_n hx hb dX6_fresh_19 rfl (lv_at hl 0 rfl) ?_
  refine rg_get X hI (o := 0) (j := 26) (k := 126) rfl rfl rfl inG6 (by decide) rfl wF_X6_146 dX6_fresh_20 ?_
  refine lv_iconst (v := 1) hx hb dX6_fresh_23 (by decide) ?_
  refine lv_isub hx hb dX6_fresh_24 ?_
  refine lv_iconst (v := -1) hx hb dX6_fresh_25 (by decide) ?_
  obtain ⟨hn3, h⟩ := gd_some h
  refine rg_ast X hI (o := 17) rfl rfl hn3 dX6_fresh_26 (fun H locs hI => ?_)
  obtain ⟨μ4, eμ4, h⟩ := nm_some h
  rw [← eμ4] at hI
  refine lv_aload_n hx hb dX6_fresh_27 rfl (lv_at hl 0 rfl) ?_
  refine lv_iconst (v := 3) hx hb dX6_fresh_28 (by decide) ?_
  refine rg_put X hI (o := 0) (j := 6) (k := 106) rfl rfl rfl rfl inG6 tyX6 tyX6_ok nmX6 (by decide) rfl wF_X6_143 rfl rfl rfl rfl dX6_fresh_29 (fun H locs hI => ?_)
  obtain ⟨μ5, eμ5, h⟩ := nm_some h
  rw [← eμ5] at hI
  cases h
  exact hend H locs _ _ hI dX6_fresh_32
set_option maxHeartbeats 4000000 in
set_option maxRecDepth 100000 in
theorem c_M_enters (l : Launch) (D : va_G) (cI : ClassId) (ρ : Nat → Nat) (hgt : Nat) (hh : 2 ≤ hgt) {a1 : Int32} {a2 : Int32} {μ ν : St} (h : f_M_enters a1 a2 μ = some ν) : CV l yX6_enters cX6_enters 3 hgt TM cI D ρ [.ref (ρ 0), .int a1, .int a2] μ ν := by
  obtain ⟨g, rfl⟩ : ∃ g, hgt = g + 1 := ⟨hgt - 1, by omega⟩
  unfold f_M_enters at h
  refine CV_of (own := RX6) (by decide) rfl (Nat.le_of_ble_eq_true rfl) ?_
  intro p e s m args below meth c Q A H locs X hI hend ls hl
  have hx := X.1.1
  have hb := X.1.2.1
  have hl : lv_has ls 3 [(0, .ref (ρ 0)), (1, .int a1), (2, .int a2)] := hl
  refine lv_aload_n hx hb dX6_enters_0 rfl (lv_at hl 0 rfl) ?_
  refine rg_get X hI (o := 0) (j := 26) (k := 126) rfl rfl rfl inG6 (by decide) rfl wF_X6_146 dX6_enters_1 ?_
  refine lv_iconst (v := 4) hx hb dX6_enters_4 (by decide) ?_
  refine lv_icmp_ne (tgt := 18) hx hb dX6_enters_5 (by decide) (fun c1 => ?_) (fun c1 => ?_)
  · have h := it_neg c1 h
    refine lv_aload_n hx hb dX6_enters_18 rfl (lv_at hl 0 rfl) ?_
    refine rg_getR X hI (o := 0) (j := 27) (k := 16) rfl rfl rfl inG6 (by decide) rfl wF_X6_55 dX6_enters_19 ?_
    refine lv_aload_n hx hb dX6_enters_22 rfl (lv_at hl 0 rfl) ?_
    refine rg_get X hI (o := 0) (j := 26) (k := 126) rfl rfl rfl inG6 (by decide) rfl wF_X6_146 dX6_enters_23 ?_
    refine lv_iload_n hx hb dX6_enters_26 rfl (lv_at hl 1 rfl) ?_
    obtain ⟨hn2, h⟩ := gd_some h
    refine rg_ast X hI (o := 16) rfl rfl hn2 dX6_enters_27 (fun H locs hI => ?_)
    obtain ⟨μ3, eμ3, h⟩ := nm_some h
    rw [← eμ3] at hI
    refine lv_aload_n hx hb dX6_enters_28 rfl (lv_at hl 0 rfl) ?_
    refine rg_getR X hI (o := 0) (j := 30) (k := 19) rfl rfl rfl inG6 (by decide) rfl wF_X6_64 dX6_enters_29 ?_
    refine lv_aload_n hx hb dX6_enters_32 rfl (lv_at hl 0 rfl) ?_
    refine rg_get X hI (o := 0) (j := 26) (k := 126) rfl rfl rfl inG6 (by decide) rfl wF_X6_146 dX6_enters_33 ?_
    refine lv_iload_n hx hb dX6_enters_36 rfl (lv_at hl 2 rfl) ?_
    obtain ⟨hn4, h⟩ := gd_some h
    refine rg_ast X hI (o := 19) rfl rfl hn4 dX6_enters_37 (fun H locs hI => ?_)
    obtain ⟨μ5, eμ5, h⟩ := nm_some h
    rw [← eμ5] at hI
    refine lv_aload_n hx hb dX6_enters_38 rfl (lv_at hl 0 rfl) ?_
    refine lv_dup hx hb dX6_enters_39 rfl ?_
    refine rg_get X hI (o := 0) (j := 26) (k := 126) rfl rfl rfl inG6 (by decide) rfl wF_X6_146 dX6_enters_40 ?_
    refine lv_iconst (v := 1) hx hb dX6_enters_43 (by decide) ?_
    refine lv_iadd hx hb dX6_enters_44 ?_
    refine rg_put X hI (o := 0) (j := 26) (k := 126) rfl rfl rfl rfl inG6 tyX6 tyX6_ok nmX6 (by decide) rfl wF_X6_146 rfl rfl rfl rfl dX6_enters_45 (fun H locs hI => ?_)
    obtain ⟨μ6, eμ6, h⟩ := nm_some h
    rw [← eμ6] at hI
    refine lv_aload_n hx hb dX6_enters_48 rfl (lv_at hl 0 rfl) ?_
    obtain ⟨μ8, hc7, h⟩ := ca_some h
    refine rc_vv (o := 0) (As := []) X hI (c_M_fresh l D cI ρ g (by omega) hc7) rfl rfl gV_X6_155 hd_X6_fresh (by decide) (Nat.le_refl _) hl.1 rfl (Nat.le_of_ble_eq_true rfl) dX6_enters_49 (fun H locs hI => ?_)
    cases h
    exact hend H locs _ _ hI dX6_enters_52
  · have h := it_pos c1 h
    refine lv_aload_n hx hb dX6_enters_8 rfl (lv_at hl 0 rfl) ?_
    refine lv_iconst (v := 3) hx hb dX6_enters_9 (by decide) ?_
    refine lv_aload_n hx hb dX6_enters_10 rfl (lv_at hl 0 rfl) ?_
    refine rg_get X hI (o := 0) (j := 5) (k := 105) rfl rfl rfl inG6 (by decide) rfl wF_X6_104 dX6_enters_11 ?_
    obtain ⟨μ10, hc9, h⟩ := ca_some h
    refine rc_vv (o := 0) (As := [.int (3 : Int32), .int (μ 105 0)]) X hI (c_M_wrong l D cI ρ g (by omega) hc9) rfl rfl gV_X6_117 hd_X6_wrong (by decide) (Nat.le_refl _) hl.1 rfl (Nat.le_of_ble_eq_true rfl) dX6_enters_14 (fun H locs hI => ?_)
    cases h
    exact hend H locs _ _ hI dX6_enters_17
set_option maxHeartbeats 4000000 in
set_option maxRecDepth 100000 in
theorem c_M_worth (l : Launch) (D : va_G) (cI : ClassId) (ρ : Nat → Nat) (hgt : Nat) (hh : 3 ≤ hgt) {a1 : Int32} {μ ν : St} (h : f_M_worth a1 μ = some ν) : CV l yX6_worth cX6_worth 2 hgt TM cI D ρ [.ref (ρ 0), .int a1] μ ν := by
  obtain ⟨g, rfl⟩ : ∃ g, hgt = g + 1 := ⟨hgt - 1, by omega⟩
  unfold f_M_worth at h
  refine CV_of (own := RX6) (by decide) rfl (Nat.le_of_ble_eq_true rfl) ?_
  intro p e s m args below meth c Q A H locs X hI hend ls hl
  have hx := X.1.1
  have hb := X.1.2.1
  have hl : lv_has ls 2 [(0, .ref (ρ 0)), (1, .int a1)] := hl
  refine lv_aload_n hx hb dX6_worth_0 rfl (lv_at hl 0 rfl) ?_
  refine lv_iconst (v := 0) hx hb dX6_worth_1 (by decide) ?_
  refine rg_put X hI (o := 0) (j := 26) (k := 126) rfl rfl rfl rfl inG6 tyX6 tyX6_ok nmX6 (by decide) rfl wF_X6_146 rfl rfl rfl rfl dX6_worth_2 (fun H locs hI => ?_)
  obtain ⟨μ1, eμ1, h⟩ := nm_some h
  rw [← eμ1] at hI
  refine lv_aload_n hx hb dX6_worth_5 rfl (lv_at hl 0 rfl) ?_
  refine lv_iconst (v := 0) hx hb dX6_worth_6 (by decide) ?_
  refine rg_put X hI (o := 0) (j := 31) (k := 131) rfl rfl rfl rfl inG6 tyX6 tyX6_ok nmX6 (by decide) rfl wF_X6_149 rfl rfl rfl rfl dX6_worth_7 (fun H locs hI => ?_)
  obtain ⟨μ2, eμ2, h⟩ := nm_some h
  rw [← eμ2] at hI
  refine lv_aload_n hx hb dX6_worth_10 rfl (lv_at hl 0 rfl) ?_
  refine lv_iload_n hx hb dX6_worth_11 rfl (lv_at hl 1 rfl) ?_
  refine lv_iconst (v := 0) hx hb dX6_worth_12 (by decide) ?_
  obtain ⟨μ4, hc3, h⟩ := ca_some h
  refine rc_vv (o := 0) (As := [.int a1, .int (0 : Int32)]) X hI (c_M_enters l D cI ρ g (by omega) hc3) rfl rfl gV_X6_152 hd_X6_enters (by decide) (Nat.le_refl _) hl.1 rfl (Nat.le_of_ble_eq_true rfl) dX6_worth_13 (fun H locs hI => ?_)
  cases h
  exact hend H locs _ _ hI dX6_worth_16
set_option maxHeartbeats 4000000 in
set_option maxRecDepth 100000 in
theorem c_M_call (l : Launch) (D : va_G) (cI : ClassId) (ρ : Nat → Nat) (hgt : Nat) (hh : 2 ≤ hgt)  {μ ν : St} {r : Int32} (h : f_M_call μ = some (r, ν)) : CI l yX6_call cX6_call 1 (some .int) hgt TM cI D ρ [.ref (ρ 0)] μ r ν := by
  obtain ⟨g, rfl⟩ : ∃ g, hgt = g + 1 := ⟨hgt - 1, by omega⟩
  unfold f_M_call at h
  refine CI_of (own := RX6) (by decide) rfl (Nat.le_of_ble_eq_true rfl) rfl ?_
  intro p e s m args below meth c Q A H locs X hI hend ls hl
  have hx := X.1.1
  have hb := X.1.2.1
  have hl : lv_has ls 1 [(0, .ref (ρ 0))] := hl
  refine lv_aload_n hx hb dX6_call_0 rfl (lv_at hl 0 rfl) ?_
  refine rg_getR X hI (o := 0) (j := 19) (k := 10) rfl rfl rfl inG6 (by decide) rfl wF_X6_37 dX6_call_1 ?_
  refine lv_aload_n hx hb dX6_call_4 rfl (lv_at hl 0 rfl) ?_
  refine rg_get X hI (o := 0) (j := 18) (k := 118) rfl rfl rfl inG6 (by decide) rfl wF_X6_162 dX6_call_5 ?_
  refine lv_aload_n hx hb dX6_call_8 rfl (lv_at hl 0 rfl) ?_
  refine rg_get X hI (o := 0) (j := 5) (k := 105) rfl rfl rfl inG6 (by decide) rfl wF_X6_104 dX6_call_9 ?_
  obtain ⟨hn1, h⟩ := gd_some h
  refine rg_ast X hI (o := 10) rfl rfl hn1 dX6_call_12 (fun H locs hI => ?_)
  obtain ⟨μ2, eμ2, h⟩ := nm_some h
  rw [← eμ2] at hI
  refine lv_aload_n hx hb dX6_call_13 rfl (lv_at hl 0 rfl) ?_
  refine rg_getR X hI (o := 0) (j := 20) (k := 11) rfl rfl rfl inG6 (by decide) rfl wF_X6_40 dX6_call_14 ?_
  refine lv_aload_n hx hb dX6_call_17 rfl (lv_at hl 0 rfl) ?_
  refine rg_get X hI (o := 0) (j := 18) (k := 118) rfl rfl rfl inG6 (by decide) rfl wF_X6_162 dX6_call_18 ?_
  refine lv_aload_n hx hb dX6_call_21 rfl (lv_at hl 0 rfl) ?_
  obtain ⟨x4, hc3, h⟩ := ca_some h
  refine rc_vi (o := 0) (As := []) X hI (c_M_token l D cI ρ g (by omega) hc3) rfl rfl gV_X6_113 hd_X6_token (by decide) (Nat.le_refl _) hl.1 rfl (Nat.le_of_ble_eq_true rfl) dX6_call_22 (fun H locs hI => ?_)
  refine lv_bipush (v := 52) hx hb dX6_call_25 (by decide) ?_
  refine lv_isub hx hb dX6_call_27 ?_
  obtain ⟨hn5, h⟩ := gd_some h
  refine rg_ast X hI (o := 11) rfl rfl hn5 dX6_call_28 (fun H locs hI => ?_)
  obtain ⟨μ6, eμ6, h⟩ := nm_some h
  rw [← eμ6] at hI
  refine lv_aload_n hx hb dX6_call_29 rfl (lv_at hl 0 rfl) ?_
  refine rg_getR X hI (o := 0) (j := 21) (k := 12) rfl rfl rfl inG6 (by decide) rfl wF_X6_43 dX6_call_30 ?_
  refine lv_aload_n hx hb dX6_call_33 rfl (lv_at hl 0 rfl) ?_
  refine rg_get X hI (o := 0) (j := 18) (k := 118) rfl rfl rfl inG6 (by decide) rfl wF_X6_162 dX6_call_34 ?_
  refine lv_iconst (v := 0) hx hb dX6_call_37 (by decide) ?_
  obtain ⟨hn7, h⟩ := gd_some h
  refine rg_ast X hI (o := 12) rfl rfl hn7 dX6_call_38 (fun H locs hI => ?_)
  obtain ⟨μ8, eμ8, h⟩ := nm_some h
  rw [← eμ8] at hI
  refine lv_aload_n hx hb dX6_call_39 rfl (lv_at hl 0 rfl) ?_
  refine lv_dup hx hb dX6_call_40 rfl ?_
  refine rg_get X hI (o := 0) (j := 18) (k := 118) rfl rfl rfl inG6 (by decide) rfl wF_X6_162 dX6_call_41 ?_
  refine lv_iconst (v := 1) hx hb dX6_call_44 (by decide) ?_
  refine lv_iadd hx hb dX6_call_45 ?_
  refine rg_put X hI (o := 0) (j := 18) (k := 118) rfl rfl rfl rfl inG6 tyX6 tyX6_ok nmX6 (by decide) rfl wF_X6_162 rfl rfl rfl rfl dX6_call_46 (fun H locs hI => ?_)
  obtain ⟨μ9, eμ9, h⟩ := nm_some h
  rw [← eμ9] at hI
  refine lv_aload_n hx hb dX6_call_49 rfl (lv_at hl 0 rfl) ?_
  refine lv_dup hx hb dX6_call_50 rfl ?_
  refine rg_get X hI (o := 0) (j := 5) (k := 105) rfl rfl rfl inG6 (by decide) rfl wF_X6_104 dX6_call_51 ?_
  refine lv_iconst (v := 1) hx hb dX6_call_54 (by decide) ?_
  refine lv_iadd hx hb dX6_call_55 ?_
  refine rg_put X hI (o := 0) (j := 5) (k := 105) rfl rfl rfl rfl inG6 tyX6 tyX6_ok nmX6 (by decide) rfl wF_X6_104 rfl rfl rfl rfl dX6_call_56 (fun H locs hI => ?_)
  obtain ⟨μ10, eμ10, h⟩ := nm_some h
  rw [← eμ10] at hI
  refine lv_aload_n hx hb dX6_call_59 rfl (lv_at hl 0 rfl) ?_
  refine rg_get X hI (o := 0) (j := 18) (k := 118) rfl rfl rfl inG6 (by decide) rfl wF_X6_162 dX6_call_60 ?_
  refine lv_iconst (v := 1) hx hb dX6_call_63 (by decide) ?_
  refine lv_isub hx hb dX6_call_64 ?_
  cases h
  exact hend H locs _ _ hI dX6_call_65
set_option maxHeartbeats 4000000 in
set_option maxRecDepth 100000 in
theorem c_M_callEnds (l : Launch) (D : va_G) (cI : ClassId) (ρ : Nat → Nat) (hgt : Nat) (hh : 2 ≤ hgt) {a1 : Int32} {μ ν : St} (h : f_M_callEnds a1 μ = some ν) : CV l yX6_callEnds cX6_callEnds 2 hgt TM cI D ρ [.ref (ρ 0), .int a1] μ ν := by
  obtain ⟨g, rfl⟩ : ∃ g, hgt = g + 1 := ⟨hgt - 1, by omega⟩
  unfold f_M_callEnds at h
  refine CV_of (own := RX6) (by decide) rfl (Nat.le_of_ble_eq_true rfl) ?_
  intro p e s m args below meth c Q A H locs X hI hend ls hl
  have hx := X.1.1
  have hb := X.1.2.1
  have hl : lv_has ls 2 [(0, .ref (ρ 0)), (1, .int a1)] := hl
  refine lv_aload_n hx hb dX6_callEnds_0 rfl (lv_at hl 0 rfl) ?_
  refine lv_bipush (v := 7) hx hb dX6_callEnds_1 (by decide) ?_
  refine lv_iload_n hx hb dX6_callEnds_3 rfl (lv_at hl 1 rfl) ?_
  obtain ⟨x2, μ3, hc1, h⟩ := ca2_some h
  refine rc_vi (o := 0) (As := [.int (7 : Int32), .int a1]) X hI (c_M_emit l D cI ρ g (by omega) hc1) rfl rfl gV_X6_158 hd_X6_emit (by decide) (Nat.le_refl _) hl.1 rfl (Nat.le_of_ble_eq_true rfl) dX6_callEnds_4 (fun H locs hI => ?_)
  refine lv_pop hx hb dX6_callEnds_7 rfl ?_
  cases h
  exact hend H locs _ _ hI dX6_callEnds_8
set_option maxHeartbeats 4000000 in
set_option maxRecDepth 100000 in
theorem c_M_arguments (l : Launch) (D : va_G) (cI : ClassId) (ρ : Nat → Nat) (hgt : Nat) (hh : 3 ≤ hgt) {a1 : Int32} {μ ν : St} (h : f_M_arguments a1 μ = some ν) : CV l yX6_arguments cX6_arguments 2 hgt TM cI D ρ [.ref (ρ 0), .int a1] μ ν := by
  obtain ⟨g, rfl⟩ : ∃ g, hgt = g + 1 := ⟨hgt - 1, by omega⟩
  unfold f_M_arguments at h
  refine CV_of (own := RX6) (by decide) rfl (Nat.le_of_ble_eq_true rfl) ?_
  intro p e s m args below meth c Q A H locs X hI hend ls hl
  have hx := X.1.1
  have hb := X.1.2.1
  have hl : lv_has ls 2 [(0, .ref (ρ 0)), (1, .int a1)] := hl
  refine lv_aload_n hx hb dX6_arguments_0 rfl (lv_at hl 0 rfl) ?_
  obtain ⟨x2, hc1, h⟩ := ca_some h
  refine rc_vi (o := 0) (As := []) X hI (c_M_token l D cI ρ g (by omega) hc1) rfl rfl gV_X6_113 hd_X6_token (by decide) (Nat.le_refl _) hl.1 rfl (Nat.le_of_ble_eq_true rfl) dX6_arguments_1 (fun H locs hI => ?_)
  refine lv_bipush (v := 7) hx hb dX6_arguments_4 (by decide) ?_
  refine lv_icmp_ne (tgt := 27) hx hb dX6_arguments_6 (by decide) (fun c3 => ?_) (fun c3 => ?_)
  · have h := it_neg c3 h
    refine lv_aload_n hx hb dX6_arguments_27 rfl (lv_at hl 0 rfl) ?_
    refine rg_getR X hI (o := 0) (j := 21) (k := 12) rfl rfl rfl inG6 (by decide) rfl wF_X6_43 dX6_arguments_28 ?_
    refine lv_iload_n hx hb dX6_arguments_31 rfl (lv_at hl 1 rfl) ?_
    refine lv_iconst (v := 1) hx hb dX6_arguments_32 (by decide) ?_
    obtain ⟨hn4, h⟩ := gd_some h
    refine rg_ast X hI (o := 12) rfl rfl hn4 dX6_arguments_33 (fun H locs hI => ?_)
    obtain ⟨μ5, eμ5, h⟩ := nm_some h
    rw [← eμ5] at hI
    refine lv_aload_n hx hb dX6_arguments_34 rfl (lv_at hl 0 rfl) ?_
    refine lv_iconst (v := 2) hx hb dX6_arguments_35 (by decide) ?_
    refine lv_iload_n hx hb dX6_arguments_36 rfl (lv_at hl 1 rfl) ?_
    obtain ⟨μ7, hc6, h⟩ := ca_some h
    refine rc_vv (o := 0) (As := [.int (2 : Int32), .int a1]) X hI (c_M_enters l D cI ρ g (by omega) hc6) rfl rfl gV_X6_152 hd_X6_enters (by decide) (Nat.le_refl _) hl.1 rfl (Nat.le_of_ble_eq_true rfl) dX6_arguments_37 (fun H locs hI => ?_)
    cases h
    exact hend H locs _ _ hI dX6_arguments_40
  · have h := it_pos c3 h
    refine lv_aload_n hx hb dX6_arguments_9 rfl (lv_at hl 0 rfl) ?_
    refine lv_dup hx hb dX6_arguments_10 rfl ?_
    refine rg_get X hI (o := 0) (j := 5) (k := 105) rfl rfl rfl inG6 (by decide) rfl wF_X6_104 dX6_arguments_11 ?_
    refine lv_iconst (v := 1) hx hb dX6_arguments_14 (by decide) ?_
    refine lv_iadd hx hb dX6_arguments_15 ?_
    refine rg_put X hI (o := 0) (j := 5) (k := 105) rfl rfl rfl rfl inG6 tyX6 tyX6_ok nmX6 (by decide) rfl wF_X6_104 rfl rfl rfl rfl dX6_arguments_16 (fun H locs hI => ?_)
    obtain ⟨μ8, eμ8, h⟩ := nm_some h
    rw [← eμ8] at hI
    refine lv_aload_n hx hb dX6_arguments_19 rfl (lv_at hl 0 rfl) ?_
    refine lv_iload_n hx hb dX6_arguments_20 rfl (lv_at hl 1 rfl) ?_
    obtain ⟨μ10, hc9, h⟩ := ca_some h
    refine rc_vv (o := 0) (As := [.int a1]) X hI (c_M_callEnds l D cI ρ g (by omega) hc9) rfl rfl gV_X6_184 hd_X6_callEnds (by decide) (Nat.le_refl _) hl.1 rfl (Nat.le_of_ble_eq_true rfl) dX6_arguments_21 (fun H locs hI => ?_)
    refine lv_goto (tgt := 40) hx hb dX6_arguments_24 (by decide) ?_
    cases h
    exact hend H locs _ _ hI dX6_arguments_40
set_option maxHeartbeats 4000000 in
set_option maxRecDepth 100000 in
theorem c_M_reduce (l : Launch) (D : va_G) (cI : ClassId) (ρ : Nat → Nat) {N : Nat} (hgt : Nat) (hh : 2 ≤ hgt) {a1 : Int32} {μ ν : St} (h : f_M_reduce N a1 μ = some ν) : CV l yX6_reduce cX6_reduce 2 hgt TM cI D ρ [.ref (ρ 0), .int a1] μ ν := by
  obtain ⟨g, rfl⟩ : ∃ g, hgt = g + 1 := ⟨hgt - 1, by omega⟩
  unfold f_M_reduce at h
  refine CV_of (own := RX6) (by decide) rfl (Nat.le_of_ble_eq_true rfl) ?_
  intro p e s m args below meth c Q A H locs X hI hend ls hl
  have hx := X.1.1
  have hb := X.1.2.1
  have hl : lv_has ls 2 [(0, .ref (ρ 0)), (1, .int a1)] := hl
  refine lp_elim (fun (k2 : St → Option St) => ∀ (μ1 : St) (H : Heap) (locs : List Loc) (ls : Array Slot), lv_has ls 2 [(0, .ref (ρ 0)), (1, .int a1)] → RI TM cI D A s.heap ρ μ1 H locs → k2 μ1 = some ν → W p l e (rmL (g + 1)) s m args below meth c H locs 0 0 Q (F0 m 0 ls [])) ?_ ?_ N μ H locs ls (lv_sub hl [0, 1] rfl) hI h
  · intro μ1 H locs ls hl hI h
    cases h
  · intro k2 ih3 μ1 H locs ls hl hI h
    try dsimp only at h
    refine lv_aload_n hx hb dX6_reduce_0 rfl (lv_at hl 0 rfl) ?_
    refine rg_get X hI (o := 0) (j := 31) (k := 131) rfl rfl rfl inG6 (by decide) rfl wF_X6_149 dX6_reduce_1 ?_
    refine lv_aload_n hx hb dX6_reduce_4 rfl (lv_at hl 0 rfl) ?_
    refine rg_getR X hI (o := 0) (j := 29) (k := 18) rfl rfl rfl inG6 (by decide) rfl wF_X6_61 dX6_reduce_5 ?_
    refine lv_aload_n hx hb dX6_reduce_8 rfl (lv_at hl 0 rfl) ?_
    refine rg_get X hI (o := 0) (j := 26) (k := 126) rfl rfl rfl inG6 (by decide) rfl wF_X6_146 dX6_reduce_9 ?_
    refine lv_iconst (v := 1) hx hb dX6_reduce_12 (by decide) ?_
    refine lv_isub hx hb dX6_reduce_13 ?_
    obtain ⟨hn4, h⟩ := gd_some h
    refine rg_ald X hI (o := 18) rfl hn4 dX6_reduce_14 ?_
    obtain ⟨x5, ex5, h⟩ := nm_some h
    refine rg_top ex5 ?_
    refine lv_icmp_le (tgt := 64) hx hb dX6_reduce_15 (by decide) (fun c6 => ?_) (fun c6 => ?_)
    · have h := it_pos c6 h
      cases h
      exact hend H locs _ _ hI dX6_reduce_64
    · have h := it_neg c6 h
      refine lv_aload_n hx hb dX6_reduce_18 rfl (lv_at hl 0 rfl) ?_
      refine rg_getR X hI (o := 0) (j := 33) (k := 21) rfl rfl rfl inG6 (by decide) rfl wF_X6_70 dX6_reduce_19 ?_
      refine lv_aload_n hx hb dX6_reduce_22 rfl (lv_at hl 0 rfl) ?_
      refine rg_get X hI (o := 0) (j := 31) (k := 131) rfl rfl rfl inG6 (by decide) rfl wF_X6_149 dX6_reduce_23 ?_
      refine lv_iconst (v := 1) hx hb dX6_reduce_26 (by decide) ?_
      refine lv_isub hx hb dX6_reduce_27 ?_
      obtain ⟨hn7, h⟩ := gd_some h
      refine rg_ald X hI (o := 21) rfl hn7 dX6_reduce_28 ?_
      obtain ⟨x8, ex8, h⟩ := nm_some h
      refine rg_top ex8 ?_
      refine lv_iload_n hx hb dX6_reduce_29 rfl (lv_at hl 1 rfl) ?_
      refine lv_icmp_lt (tgt := 64) hx hb dX6_reduce_30 (by decide) (fun c9 => ?_) (fun c9 => ?_)
      · have h := it_pos c9 h
        cases h
        exact hend H locs _ _ hI dX6_reduce_64
      · have h := it_neg c9 h
        refine lv_aload_n hx hb dX6_reduce_33 rfl (lv_at hl 0 rfl) ?_
        refine lv_dup hx hb dX6_reduce_34 rfl ?_
        refine rg_get X hI (o := 0) (j := 31) (k := 131) rfl rfl rfl inG6 (by decide) rfl wF_X6_149 dX6_reduce_35 ?_
        refine lv_iconst (v := 1) hx hb dX6_reduce_38 (by decide) ?_
        refine lv_isub hx hb dX6_reduce_39 ?_
        refine rg_put X hI (o := 0) (j := 31) (k := 131) rfl rfl rfl rfl inG6 tyX6 tyX6_ok nmX6 (by decide) rfl wF_X6_149 rfl rfl rfl rfl dX6_reduce_40 (fun H locs hI => ?_)
        obtain ⟨μ10, eμ10, h⟩ := nm_some h
        rw [← eμ10] at hI
        refine lv_aload_n hx hb dX6_reduce_43 rfl (lv_at hl 0 rfl) ?_
        refine lv_aload_n hx hb dX6_reduce_44 rfl (lv_at hl 0 rfl) ?_
        refine rg_getR X hI (o := 0) (j := 32) (k := 20) rfl rfl rfl inG6 (by decide) rfl wF_X6_67 dX6_reduce_45 ?_
        refine lv_aload_n hx hb dX6_reduce_48 rfl (lv_at hl 0 rfl) ?_
        refine rg_get X hI (o := 0) (j := 31) (k := 131) rfl rfl rfl inG6 (by decide) rfl wF_X6_149 dX6_reduce_49 ?_
        obtain ⟨hn11, h⟩ := gd_some h
        refine rg_ald X hI (o := 20) rfl hn11 dX6_reduce_52 ?_
        obtain ⟨x12, ex12, h⟩ := nm_some h
        refine rg_top ex12 ?_
        refine lv_bipush (v := 20) hx hb dX6_reduce_53 (by decide) ?_
        refine lv_iadd hx hb dX6_reduce_55 ?_
        refine lv_iconst (v := 0) hx hb dX6_reduce_56 (by decide) ?_
        obtain ⟨x14, μ15, hc13, h⟩ := ca2_some h
        refine rc_vi (o := 0) (As := [.int (x12 + (20 : Int32)), .int (0 : Int32)]) X hI (c_M_emit l D cI ρ g (by omega) hc13) rfl rfl gV_X6_158 hd_X6_emit (by decide) (Nat.le_refl _) hl.1 rfl (Nat.le_of_ble_eq_true rfl) dX6_reduce_57 (fun H locs hI => ?_)
        refine lv_pop hx hb dX6_reduce_60 rfl ?_
        refine lv_goto (tgt := 0) hx hb dX6_reduce_61 (by decide) ?_
        exact ih3 μ15 H locs ls (lv_sub hl [0, 1] rfl) hI h
set_option maxHeartbeats 4000000 in
set_option maxRecDepth 100000 in
theorem c_M_blockEnds (l : Launch) (D : va_G) (cI : ClassId) (ρ : Nat → Nat) (hgt : Nat) (hh : 3 ≤ hgt)  {μ ν : St} (h : f_M_blockEnds μ = some ν) : CV l yX6_blockEnds cX6_blockEnds 3 hgt TM cI D ρ [.ref (ρ 0)] μ ν := by
  obtain ⟨g, rfl⟩ : ∃ g, hgt = g + 1 := ⟨hgt - 1, by omega⟩
  unfold f_M_blockEnds at h
  refine CV_of (own := RX6) (by decide) rfl (Nat.le_of_ble_eq_true rfl) ?_
  intro p e s m args below meth c Q A H locs X hI hend ls hl
  have hx := X.1.1
  have hb := X.1.2.1
  have hl : lv_has ls 3 [(0, .ref (ρ 0))] := hl
  refine lv_aload_n hx hb dX6_blockEnds_0 rfl (lv_at hl 0 rfl) ?_
  refine lv_dup hx hb dX6_blockEnds_1 rfl ?_
  refine rg_get X hI (o := 0) (j := 5) (k := 105) rfl rfl rfl inG6 (by decide) rfl wF_X6_104 dX6_blockEnds_2 ?_
  refine lv_iconst (v := 1) hx hb dX6_blockEnds_5 (by decide) ?_
  refine lv_iadd hx hb dX6_blockEnds_6 ?_
  refine rg_put X hI (o := 0) (j := 5) (k := 105) rfl rfl rfl rfl inG6 tyX6 tyX6_ok nmX6 (by decide) rfl wF_X6_104 rfl rfl rfl rfl dX6_blockEnds_7 (fun H locs hI => ?_)
  obtain ⟨μ1, eμ1, h⟩ := nm_some h
  rw [← eμ1] at hI
  refine lv_aload_n hx hb dX6_blockEnds_10 rfl (lv_at hl 0 rfl) ?_
  refine lv_dup hx hb dX6_blockEnds_11 rfl ?_
  refine rg_get X hI (o := 0) (j := 22) (k := 122) rfl rfl rfl inG6 (by decide) rfl wF_X6_140 dX6_blockEnds_12 ?_
  refine lv_iconst (v := 1) hx hb dX6_blockEnds_15 (by decide) ?_
  refine lv_isub hx hb dX6_blockEnds_16 ?_
  refine rg_put X hI (o := 0) (j := 22) (k := 122) rfl rfl rfl rfl inG6 tyX6 tyX6_ok nmX6 (by decide) rfl wF_X6_140 rfl rfl rfl rfl dX6_blockEnds_17 (fun H locs hI => ?_)
  obtain ⟨μ2, eμ2, h⟩ := nm_some h
  rw [← eμ2] at hI
  refine lv_aload_n hx hb dX6_blockEnds_20 rfl (lv_at hl 0 rfl) ?_
  refine rg_getR X hI (o := 0) (j := 23) (k := 13) rfl rfl rfl inG6 (by decide) rfl wF_X6_46 dX6_blockEnds_21 ?_
  refine lv_aload_n hx hb dX6_blockEnds_24 rfl (lv_at hl 0 rfl) ?_
  refine rg_get X hI (o := 0) (j := 22) (k := 122) rfl rfl rfl inG6 (by decide) rfl wF_X6_140 dX6_blockEnds_25 ?_
  obtain ⟨hn3, h⟩ := gd_some h
  refine rg_ald X hI (o := 13) rfl hn3 dX6_blockEnds_28 ?_
  obtain ⟨x4, ex4, h⟩ := nm_some h
  refine rg_top ex4 ?_
  refine lv_istore_n (lv' := [(1, .int x4), (0, .ref (ρ 0))]) hx hb dX6_blockEnds_29 rfl hl (by decide) rfl (fun ls hl => ?_)
  refine lv_iload_n hx hb dX6_blockEnds_30 rfl (lv_at hl 0 rfl) ?_
  refine lv_if_ne (tgt := 57) hx hb dX6_blockEnds_31 (by decide) (fun c5 => ?_) (fun c5 => ?_)
  · have h := it_neg c5 h
    refine lv_iload_n hx hb dX6_blockEnds_57 rfl (lv_at hl 0 rfl) ?_
    refine lv_iconst (v := 1) hx hb dX6_blockEnds_58 (by decide) ?_
    obtain ⟨k7, ek7, h⟩ := jn_some h
    have hj8 : ∀ (H : Heap) (locs : List Loc) (ls : Array Slot), lv_has ls 3 [(0, .ref (ρ 0)), (1, .int x4)] → RI TM cI D A s.heap ρ μ2 H locs → k7 = some ν → W p l e (rmL (g + 1)) s m args below meth c H locs 0 0 Q (F0 m 116 ls []) := by
      intro H locs ls hl hI h
      rw [ek7] at h
      refine lv_iload_n hx hb dX6_blockEnds_116 rfl (lv_at hl 1 rfl) ?_
      refine lv_iconst (v := 3) hx hb dX6_blockEnds_117 (by decide) ?_
      obtain ⟨k10, ek10, h⟩ := jn_some h
      have hj11 : ∀ (μ9 : St) (H : Heap) (locs : List Loc) (ls : Array Slot), lv_has ls 3 [(0, .ref (ρ 0))] → RI TM cI D A s.heap ρ μ9 H locs → k10 μ9 = some ν → W p l e (rmL (g + 1)) s m args below meth c H locs 0 0 Q (F0 m 137 ls []) := by
        intro μ9 H locs ls hl hI h
        rw [ek10] at h
        try dsimp only at h
        refine lv_aload_n hx hb dX6_blockEnds_137 rfl (lv_at hl 0 rfl) ?_
        refine rg_getR X hI (o := 0) (j := 10) (k := 3) rfl rfl rfl inG6 (by decide) rfl wF_X6_16 dX6_blockEnds_138 ?_
        refine lv_aload_n hx hb dX6_blockEnds_141 rfl (lv_at hl 0 rfl) ?_
        refine rg_getR X hI (o := 0) (j := 24) (k := 14) rfl rfl rfl inG6 (by decide) rfl wF_X6_49 dX6_blockEnds_142 ?_
        refine lv_aload_n hx hb dX6_blockEnds_145 rfl (lv_at hl 0 rfl) ?_
        refine rg_get X hI (o := 0) (j := 22) (k := 122) rfl rfl rfl inG6 (by decide) rfl wF_X6_140 dX6_blockEnds_146 ?_
        obtain ⟨hn12, h⟩ := gd_some h
        refine rg_ald X hI (o := 14) rfl hn12 dX6_blockEnds_149 ?_
        obtain ⟨x13, ex13, h⟩ := nm_some h
        refine rg_top ex13 ?_
        refine lv_aload_n hx hb dX6_blockEnds_150 rfl (lv_at hl 0 rfl) ?_
        refine rg_get X hI (o := 0) (j := 8) (k := 108) rfl rfl rfl inG6 (by decide) rfl wF_X6_121 dX6_blockEnds_151 ?_
        obtain ⟨hn14, h⟩ := gd_some h
        refine rg_ast X hI (o := 3) rfl rfl hn14 dX6_blockEnds_154 (fun H locs hI => ?_)
        obtain ⟨μ15, eμ15, h⟩ := nm_some h
        rw [← eμ15] at hI
        cases h
        exact hend H locs _ _ hI dX6_blockEnds_155
      refine lv_icmp_ne (tgt := 137) hx hb dX6_blockEnds_118 (by decide) (fun c16 => ?_) (fun c16 => ?_)
      · have h := it_neg c16 h
        exact hj11 μ2 H locs ls (lv_sub hl [0] rfl) hI h
      · have h := it_pos c16 h
        refine lv_aload_n hx hb dX6_blockEnds_121 rfl (lv_at hl 0 rfl) ?_
        refine lv_bipush (v := 14) hx hb dX6_blockEnds_122 (by decide) ?_
        refine lv_aload_n hx hb dX6_blockEnds_124 rfl (lv_at hl 0 rfl) ?_
        refine rg_getR X hI (o := 0) (j := 25) (k := 15) rfl rfl rfl inG6 (by decide) rfl wF_X6_52 dX6_blockEnds_125 ?_
        refine lv_aload_n hx hb dX6_blockEnds_128 rfl (lv_at hl 0 rfl) ?_
        refine rg_get X hI (o := 0) (j := 22) (k := 122) rfl rfl rfl inG6 (by decide) rfl wF_X6_140 dX6_blockEnds_129 ?_
        obtain ⟨hn17, h⟩ := gd_some h
        refine rg_ald X hI (o := 15) rfl hn17 dX6_blockEnds_132 ?_
        obtain ⟨x18, ex18, h⟩ := nm_some h
        refine rg_top ex18 ?_
        obtain ⟨x20, μ21, hc19, h⟩ := ca2_some h
        refine rc_vi (o := 0) (As := [.int (14 : Int32), .int x18]) X hI (c_M_emit l D cI ρ g (by omega) hc19) rfl rfl gV_X6_158 hd_X6_emit (by decide) (Nat.le_refl _) hl.1 rfl (Nat.le_of_ble_eq_true rfl) dX6_blockEnds_133 (fun H locs hI => ?_)
        refine lv_pop hx hb dX6_blockEnds_136 rfl ?_
        exact hj11 μ21 H locs ls (lv_sub hl [0] rfl) hI h
    refine lv_icmp_ne (tgt := 116) hx hb dX6_blockEnds_59 (by decide) (fun c22 => ?_) (fun c22 => ?_)
    · have h := it_neg c22 h
      exact hj8 H locs ls (lv_sub hl [1, 0] rfl) hI h
    · have h := it_pos c22 h
      refine lv_aload_n hx hb dX6_blockEnds_62 rfl (lv_at hl 1 rfl) ?_
      obtain ⟨x24, hc23, h⟩ := ca_some h
      refine rc_vi (o := 0) (As := []) X hI (c_M_token l D cI ρ g (by omega) hc23) rfl rfl gV_X6_113 hd_X6_token (by decide) (Nat.le_refl _) hl.1 rfl (Nat.le_of_ble_eq_true rfl) dX6_blockEnds_63 (fun H locs hI => ?_)
      refine lv_iconst (v := 1) hx hb dX6_blockEnds_66 (by decide) ?_
      refine lv_icmp_ne (tgt := 116) hx hb dX6_blockEnds_67 (by decide) (fun c25 => ?_) (fun c25 => ?_)
      · have h := it_neg c25 h
        exact hj8 H locs ls (lv_sub hl [1, 0] rfl) hI h
      · have h := it_pos c25 h
        refine lv_aload_n hx hb dX6_blockEnds_70 rfl (lv_at hl 1 rfl) ?_
        refine lv_dup hx hb dX6_blockEnds_71 rfl ?_
        refine rg_get X hI (o := 0) (j := 5) (k := 105) rfl rfl rfl inG6 (by decide) rfl wF_X6_104 dX6_blockEnds_72 ?_
        refine lv_iconst (v := 1) hx hb dX6_blockEnds_75 (by decide) ?_
        refine lv_iadd hx hb dX6_blockEnds_76 ?_
        refine rg_put X hI (o := 0) (j := 5) (k := 105) rfl rfl rfl rfl inG6 tyX6 tyX6_ok nmX6 (by decide) rfl wF_X6_104 rfl rfl rfl rfl dX6_blockEnds_77 (fun H locs hI => ?_)
        obtain ⟨μ26, eμ26, h⟩ := nm_some h
        rw [← eμ26] at hI
        refine lv_aload_n hx hb dX6_blockEnds_80 rfl (lv_at hl 1 rfl) ?_
        refine lv_bipush (v := 14) hx hb dX6_blockEnds_81 (by decide) ?_
        refine lv_iconst (v := 0) hx hb dX6_blockEnds_83 (by decide) ?_
        obtain ⟨x28, μ29, hc27, h⟩ := ca2_some h
        refine rc_vi (o := 0) (As := [.int (14 : Int32), .int (0 : Int32)]) X hI (c_M_emit l D cI ρ g (by omega) hc27) rfl rfl gV_X6_158 hd_X6_emit (by decide) (Nat.le_refl _) hl.1 rfl (Nat.le_of_ble_eq_true rfl) dX6_blockEnds_84 (fun H locs hI => ?_)
        refine lv_istore_n (lv' := [(2, .int x28), (1, .int x4), (0, .ref (ρ 0))]) hx hb dX6_blockEnds_87 rfl hl (by decide) rfl (fun ls hl => ?_)
        refine lv_aload_n hx hb dX6_blockEnds_88 rfl (lv_at hl 2 rfl) ?_
        refine rg_getR X hI (o := 0) (j := 10) (k := 3) rfl rfl rfl inG6 (by decide) rfl wF_X6_16 dX6_blockEnds_89 ?_
        refine lv_aload_n hx hb dX6_blockEnds_92 rfl (lv_at hl 2 rfl) ?_
        refine rg_getR X hI (o := 0) (j := 24) (k := 14) rfl rfl rfl inG6 (by decide) rfl wF_X6_49 dX6_blockEnds_93 ?_
        refine lv_aload_n hx hb dX6_blockEnds_96 rfl (lv_at hl 2 rfl) ?_
        refine rg_get X hI (o := 0) (j := 22) (k := 122) rfl rfl rfl inG6 (by decide) rfl wF_X6_140 dX6_blockEnds_97 ?_
        obtain ⟨hn30, h⟩ := gd_some h
        refine rg_ald X hI (o := 14) rfl hn30 dX6_blockEnds_100 ?_
        obtain ⟨x31, ex31, h⟩ := nm_some h
        refine rg_top ex31 ?_
        refine lv_aload_n hx hb dX6_blockEnds_101 rfl (lv_at hl 2 rfl) ?_
        refine rg_get X hI (o := 0) (j := 8) (k := 108) rfl rfl rfl inG6 (by decide) rfl wF_X6_121 dX6_blockEnds_102 ?_
        obtain ⟨hn32, h⟩ := gd_some h
        refine rg_ast X hI (o := 3) rfl rfl hn32 dX6_blockEnds_105 (fun H locs hI => ?_)
        obtain ⟨μ33, eμ33, h⟩ := nm_some h
        rw [← eμ33] at hI
        refine lv_aload_n hx hb dX6_blockEnds_106 rfl (lv_at hl 2 rfl) ?_
        refine lv_iconst (v := 2) hx hb dX6_blockEnds_107 (by decide) ?_
        refine lv_iload_n hx hb dX6_blockEnds_108 rfl (lv_at hl 0 rfl) ?_
        refine lv_iconst (v := 0) hx hb dX6_blockEnds_109 (by decide) ?_
        obtain ⟨μ35, hc34, h⟩ := ca_some h
        refine rc_vv (o := 0) (As := [.int (2 : Int32), .int x28, .int (0 : Int32)]) X hI (c_M_begins l D cI ρ g (by omega) hc34) rfl rfl gV_X6_136 hd_X6_begins (by decide) (Nat.le_refl _) hl.1 rfl (Nat.le_of_ble_eq_true rfl) dX6_blockEnds_110 (fun H locs hI => ?_)
        refine lv_goto (tgt := 155) hx hb dX6_blockEnds_113 (by decide) ?_
        cases h
        exact hend H locs _ _ hI dX6_blockEnds_155
  · have h := it_pos c5 h
    refine lv_aload_n hx hb dX6_blockEnds_34 rfl (lv_at hl 1 rfl) ?_
    refine lv_iconst (v := 0) hx hb dX6_blockEnds_35 (by decide) ?_
    refine lv_iconst (v := 0) hx hb dX6_blockEnds_36 (by decide) ?_
    obtain ⟨x37, μ38, hc36, h⟩ := ca2_some h
    refine rc_vi (o := 0) (As := [.int (0 : Int32), .int (0 : Int32)]) X hI (c_M_emit l D cI ρ g (by omega) hc36) rfl rfl gV_X6_158 hd_X6_emit (by decide) (Nat.le_refl _) hl.1 rfl (Nat.le_of_ble_eq_true rfl) dX6_blockEnds_37 (fun H locs hI => ?_)
    refine lv_pop hx hb dX6_blockEnds_40 rfl ?_
    refine lv_aload_n hx hb dX6_blockEnds_41 rfl (lv_at hl 1 rfl) ?_
    refine lv_bipush (v := 15) hx hb dX6_blockEnds_42 (by decide) ?_
    refine lv_iconst (v := 0) hx hb dX6_blockEnds_44 (by decide) ?_
    obtain ⟨x40, μ41, hc39, h⟩ := ca2_some h
    refine rc_vi (o := 0) (As := [.int (15 : Int32), .int (0 : Int32)]) X hI (c_M_emit l D cI ρ g (by omega) hc39) rfl rfl gV_X6_158 hd_X6_emit (by decide) (Nat.le_refl _) hl.1 rfl (Nat.le_of_ble_eq_true rfl) dX6_blockEnds_45 (fun H locs hI => ?_)
    refine lv_pop hx hb dX6_blockEnds_48 rfl ?_
    refine lv_aload_n hx hb dX6_blockEnds_49 rfl (lv_at hl 1 rfl) ?_
    refine lv_iconst (v := 0) hx hb dX6_blockEnds_50 (by decide) ?_
    refine rg_put X hI (o := 0) (j := 6) (k := 106) rfl rfl rfl rfl inG6 tyX6 tyX6_ok nmX6 (by decide) rfl wF_X6_143 rfl rfl rfl rfl dX6_blockEnds_51 (fun H locs hI => ?_)
    obtain ⟨μ42, eμ42, h⟩ := nm_some h
    rw [← eμ42] at hI
    refine lv_goto (tgt := 155) hx hb dX6_blockEnds_54 (by decide) ?_
    cases h
    exact hend H locs _ _ hI dX6_blockEnds_155
