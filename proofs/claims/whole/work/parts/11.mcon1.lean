/-! the reference: contracts -/
set_option maxHeartbeats 4000000 in
set_option maxRecDepth 100000 in
theorem c_M_thrown (l : Launch) (D : va_G) (cI : ClassId) (ρ : Nat → Nat) (hgt : Nat) (hh : 1 ≤ hgt)  {μ : St} {r : Int32} (h : f_M_thrown μ = some r) : CI l yX6_thrown cX6_thrown 1 (some .int) hgt TM cI D ρ [.ref (ρ 0)] μ r μ := by
  obtain ⟨g, rfl⟩ : ∃ g, hgt = g + 1 := ⟨hgt - 1, by omega⟩
  unfold f_M_thrown at h
  refine CI_of (own := RX6) (by decide) rfl (Nat.le_of_ble_eq_true rfl) rfl ?_
  intro p e s m args below meth c Q A H locs X hI hend ls hl
  have hx := X.1.1
  have hb := X.1.2.1
  have hl : lv_has ls 1 [(0, .ref (ρ 0))] := hl
  refine lv_aload_n hx hb dX6_thrown_0 rfl (lv_at hl 0 rfl) ?_
  refine rg_get X hI (o := 0) (j := 0) (k := 100) rfl rfl rfl inG6 (by decide) rfl wF_X6_97 dX6_thrown_1 ?_
  cases h
  exact hend H locs _ _ hI dX6_thrown_4
set_option maxHeartbeats 4000000 in
set_option maxRecDepth 100000 in
theorem c_M_token (l : Launch) (D : va_G) (cI : ClassId) (ρ : Nat → Nat) (hgt : Nat) (hh : 1 ≤ hgt)  {μ : St} {r : Int32} (h : f_M_token μ = some r) : CI l yX6_token cX6_token 1 (some .int) hgt TM cI D ρ [.ref (ρ 0)] μ r μ := by
  obtain ⟨g, rfl⟩ : ∃ g, hgt = g + 1 := ⟨hgt - 1, by omega⟩
  unfold f_M_token at h
  refine CI_of (own := RX6) (by decide) rfl (Nat.le_of_ble_eq_true rfl) rfl ?_
  intro p e s m args below meth c Q A H locs X hI hend ls hl
  have hx := X.1.1
  have hb := X.1.2.1
  have hl : lv_has ls 1 [(0, .ref (ρ 0))] := hl
  refine lv_aload_n hx hb dX6_token_0 rfl (lv_at hl 0 rfl) ?_
  refine rg_get X hI (o := 0) (j := 5) (k := 105) rfl rfl rfl inG6 (by decide) rfl wF_X6_104 dX6_token_1 ?_
  refine lv_aload_n hx hb dX6_token_4 rfl (lv_at hl 0 rfl) ?_
  refine rg_get X hI (o := 0) (j := 1) (k := 101) rfl rfl rfl inG6 (by decide) rfl wF_X6_101 dX6_token_5 ?_
  refine lv_icmp_ge (tgt := 23) hx hb dX6_token_8 (by decide) (fun c1 => ?_) (fun c1 => ?_)
  · have h := it_pos c1 h
    refine lv_iconst (v := -1) hx hb dX6_token_23 (by decide) ?_
    cases h
    exact hend H locs _ _ hI dX6_token_24
  · have h := it_neg c1 h
    refine lv_aload_n hx hb dX6_token_11 rfl (lv_at hl 0 rfl) ?_
    refine rg_getR X hI (o := 0) (j := 2) (k := 1) rfl rfl rfl inG6 (by decide) rfl wF_X6_7 dX6_token_12 ?_
    refine lv_aload_n hx hb dX6_token_15 rfl (lv_at hl 0 rfl) ?_
    refine rg_get X hI (o := 0) (j := 5) (k := 105) rfl rfl rfl inG6 (by decide) rfl wF_X6_104 dX6_token_16 ?_
    obtain ⟨hn2, h⟩ := gd_some h
    refine rg_ald X hI (o := 1) rfl hn2 dX6_token_19 ?_
    obtain ⟨x3, ex3, h⟩ := nm_some h
    refine rg_top ex3 ?_
    refine lv_goto (tgt := 24) hx hb dX6_token_20 (by decide) ?_
    cases h
    exact hend H locs _ _ hI dX6_token_24
set_option maxHeartbeats 4000000 in
set_option maxRecDepth 100000 in
theorem c_M_wrong (l : Launch) (D : va_G) (cI : ClassId) (ρ : Nat → Nat) (hgt : Nat) (hh : 1 ≤ hgt) {a1 : Int32} {a2 : Int32} {μ ν : St} (h : f_M_wrong a1 a2 μ = some ν) : CV l yX6_wrong cX6_wrong 3 hgt TM cI D ρ [.ref (ρ 0), .int a1, .int a2] μ ν := by
  obtain ⟨g, rfl⟩ : ∃ g, hgt = g + 1 := ⟨hgt - 1, by omega⟩
  unfold f_M_wrong at h
  refine CV_of (own := RX6) (by decide) rfl (Nat.le_of_ble_eq_true rfl) ?_
  intro p e s m args below meth c Q A H locs X hI hend ls hl
  have hx := X.1.1
  have hb := X.1.2.1
  have hl : lv_has ls 3 [(0, .ref (ρ 0)), (1, .int a1), (2, .int a2)] := hl
  refine lv_aload_n hx hb dX6_wrong_0 rfl (lv_at hl 0 rfl) ?_
  refine rg_get X hI (o := 0) (j := 3) (k := 103) rfl rfl rfl inG6 (by decide) rfl wF_X6_107 dX6_wrong_1 ?_
  refine lv_if_ne (tgt := 17) hx hb dX6_wrong_4 (by decide) (fun c1 => ?_) (fun c1 => ?_)
  · have h := it_neg c1 h
    cases h
    exact hend H locs _ _ hI dX6_wrong_17
  · have h := it_pos c1 h
    refine lv_aload_n hx hb dX6_wrong_7 rfl (lv_at hl 0 rfl) ?_
    refine lv_iload_n hx hb dX6_wrong_8 rfl (lv_at hl 1 rfl) ?_
    refine rg_put X hI (o := 0) (j := 3) (k := 103) rfl rfl rfl rfl inG6 tyX6 tyX6_ok nmX6 (by decide) rfl wF_X6_107 rfl rfl rfl rfl dX6_wrong_9 (fun H locs hI => ?_)
    obtain ⟨μ2, eμ2, h⟩ := nm_some h
    rw [← eμ2] at hI
    refine lv_aload_n hx hb dX6_wrong_12 rfl (lv_at hl 0 rfl) ?_
    refine lv_iload_n hx hb dX6_wrong_13 rfl (lv_at hl 2 rfl) ?_
    refine rg_put X hI (o := 0) (j := 4) (k := 104) rfl rfl rfl rfl inG6 tyX6 tyX6_ok nmX6 (by decide) rfl wF_X6_110 rfl rfl rfl rfl dX6_wrong_14 (fun H locs hI => ?_)
    obtain ⟨μ3, eμ3, h⟩ := nm_some h
    rw [← eμ3] at hI
    cases h
    exact hend H locs _ _ hI dX6_wrong_17
set_option maxHeartbeats 4000000 in
set_option maxRecDepth 100000 in
theorem c_M_must (l : Launch) (D : va_G) (cI : ClassId) (ρ : Nat → Nat) (hgt : Nat) (hh : 2 ≤ hgt) {a1 : Int32} {μ ν : St} {r : Int32} (h : f_M_must a1 μ = some (r, ν)) : CI l yX6_must cX6_must 2 (some .boolean) hgt TM cI D ρ [.ref (ρ 0), .int a1] μ r ν := by
  obtain ⟨g, rfl⟩ : ∃ g, hgt = g + 1 := ⟨hgt - 1, by omega⟩
  unfold f_M_must at h
  refine CZ_of (own := RX6) (by decide) rfl (Nat.le_of_ble_eq_true rfl) rfl ?_
  intro p e s m args below meth c Q A H locs X hI hend ls hl
  have hx := X.1.1
  have hb := X.1.2.1
  have hl : lv_has ls 2 [(0, .ref (ρ 0)), (1, .int a1)] := hl
  refine lv_aload_n hx hb dX6_must_0 rfl (lv_at hl 0 rfl) ?_
  obtain ⟨x2, hc1, h⟩ := ca_some h
  refine rc_vi (o := 0) (As := []) X hI (c_M_token l D cI ρ g (by omega) hc1) rfl rfl gV_X6_113 hd_X6_token (by decide) (Nat.le_refl _) hl.1 rfl (Nat.le_of_ble_eq_true rfl) dX6_must_1 (fun H locs hI => ?_)
  refine lv_iload_n hx hb dX6_must_4 rfl (lv_at hl 1 rfl) ?_
  refine lv_icmp_eq (tgt := 19) hx hb dX6_must_5 (by decide) (fun c3 => ?_) (fun c3 => ?_)
  · have h := it_pos c3 h
    refine lv_aload_n hx hb dX6_must_19 rfl (lv_at hl 0 rfl) ?_
    refine lv_dup hx hb dX6_must_20 rfl ?_
    refine rg_get X hI (o := 0) (j := 5) (k := 105) rfl rfl rfl inG6 (by decide) rfl wF_X6_104 dX6_must_21 ?_
    refine lv_iconst (v := 1) hx hb dX6_must_24 (by decide) ?_
    refine lv_iadd hx hb dX6_must_25 ?_
    refine rg_put X hI (o := 0) (j := 5) (k := 105) rfl rfl rfl rfl inG6 tyX6 tyX6_ok nmX6 (by decide) rfl wF_X6_104 rfl rfl rfl rfl dX6_must_26 (fun H locs hI => ?_)
    obtain ⟨μ4, eμ4, h⟩ := nm_some h
    rw [← eμ4] at hI
    refine lv_iconst (v := 1) hx hb dX6_must_29 (by decide) ?_
    cases h
    exact hend H locs _ _ (by decide) hI dX6_must_30
  · have h := it_neg c3 h
    refine lv_aload_n hx hb dX6_must_8 rfl (lv_at hl 0 rfl) ?_
    refine lv_iconst (v := 1) hx hb dX6_must_9 (by decide) ?_
    refine lv_aload_n hx hb dX6_must_10 rfl (lv_at hl 0 rfl) ?_
    refine rg_get X hI (o := 0) (j := 5) (k := 105) rfl rfl rfl inG6 (by decide) rfl wF_X6_104 dX6_must_11 ?_
    obtain ⟨μ6, hc5, h⟩ := ca_some h
    refine rc_vv (o := 0) (As := [.int (1 : Int32), .int (μ 105 0)]) X hI (c_M_wrong l D cI ρ g (by omega) hc5) rfl rfl gV_X6_117 hd_X6_wrong (by decide) (Nat.le_refl _) hl.1 rfl (Nat.le_of_ble_eq_true rfl) dX6_must_14 (fun H locs hI => ?_)
    refine lv_iconst (v := 0) hx hb dX6_must_17 (by decide) ?_
    cases h
    exact hend H locs _ _ (by decide) hI dX6_must_18
set_option maxHeartbeats 4000000 in
set_option maxRecDepth 100000 in
theorem c_M_in (l : Launch) (D : va_G) (cI : ClassId) (ρ : Nat → Nat) (hgt : Nat) (hh : 1 ≤ hgt) {a0 : Int32} {a1 : Int32} {a2 : Int32} {μ : St} {r : Int32} (h : f_M_in a0 a1 a2 = some r) : CI l yX6_in cX6_in 3 (some .boolean) hgt TM cI D ρ [.int a0, .int a1, .int a2] μ r μ := by
  obtain ⟨g, rfl⟩ : ∃ g, hgt = g + 1 := ⟨hgt - 1, by omega⟩
  unfold f_M_in at h
  refine CZ_of (own := RX6) (by decide) rfl (Nat.le_of_ble_eq_true rfl) rfl ?_
  intro p e s m args below meth c Q A H locs X hI hend ls hl
  have hx := X.1.1
  have hb := X.1.2.1
  have hl : lv_has ls 3 [(0, .int a0), (1, .int a1), (2, .int a2)] := hl
  refine lv_iload_n hx hb dX6_in_0 rfl (lv_at hl 0 rfl) ?_
  refine lv_iload_n hx hb dX6_in_1 rfl (lv_at hl 1 rfl) ?_
  obtain ⟨k2, ek2, h⟩ := jn_some h
  have hj3 : ∀ (ls : Array Slot), lv_has ls 3 [] → k2 = some r → W p l e (rmL (g + 1)) s m args below meth c H locs 0 0 Q (F0 m 14 ls []) := by
    intro ls hl h
    rw [ek2] at h
    refine lv_iconst (v := 0) hx hb dX6_in_14 (by decide) ?_
    cases h
    exact hend H locs _ _ (by decide) hI dX6_in_15
  refine lv_icmp_lt (tgt := 14) hx hb dX6_in_2 (by decide) (fun c4 => ?_) (fun c4 => ?_)
  · have h := it_pos c4 h
    exact hj3 ls (lv_sub hl [] rfl) h
  · have h := it_neg c4 h
    refine lv_iload_n hx hb dX6_in_5 rfl (lv_at hl 0 rfl) ?_
    refine lv_iload_n hx hb dX6_in_6 rfl (lv_at hl 2 rfl) ?_
    refine lv_icmp_gt (tgt := 14) hx hb dX6_in_7 (by decide) (fun c5 => ?_) (fun c5 => ?_)
    · have h := it_pos c5 h
      exact hj3 ls (lv_sub hl [] rfl) h
    · have h := it_neg c5 h
      refine lv_iconst (v := 1) hx hb dX6_in_10 (by decide) ?_
      refine lv_goto (tgt := 15) hx hb dX6_in_11 (by decide) ?_
      cases h
      exact hend H locs _ _ (by decide) hI dX6_in_15
set_option maxHeartbeats 4000000 in
set_option maxRecDepth 100000 in
theorem c_M_emit (l : Launch) (D : va_G) (cI : ClassId) (ρ : Nat → Nat) (hgt : Nat) (hh : 1 ≤ hgt) {a1 : Int32} {a2 : Int32} {μ ν : St} {r : Int32} (h : f_M_emit a1 a2 μ = some (r, ν)) : CI l yX6_emit cX6_emit 3 (some .int) hgt TM cI D ρ [.ref (ρ 0), .int a1, .int a2] μ r ν := by
  obtain ⟨g, rfl⟩ : ∃ g, hgt = g + 1 := ⟨hgt - 1, by omega⟩
  unfold f_M_emit at h
  refine CI_of (own := RX6) (by decide) rfl (Nat.le_of_ble_eq_true rfl) rfl ?_
  intro p e s m args below meth c Q A H locs X hI hend ls hl
  have hx := X.1.1
  have hb := X.1.2.1
  have hl : lv_has ls 3 [(0, .ref (ρ 0)), (1, .int a1), (2, .int a2)] := hl
  refine lv_aload_n hx hb dX6_emit_0 rfl (lv_at hl 0 rfl) ?_
  refine rg_getR X hI (o := 0) (j := 9) (k := 2) rfl rfl rfl inG6 (by decide) rfl wF_X6_13 dX6_emit_1 ?_
  refine lv_aload_n hx hb dX6_emit_4 rfl (lv_at hl 0 rfl) ?_
  refine rg_get X hI (o := 0) (j := 8) (k := 108) rfl rfl rfl inG6 (by decide) rfl wF_X6_121 dX6_emit_5 ?_
  refine lv_iload_n hx hb dX6_emit_8 rfl (lv_at hl 1 rfl) ?_
  obtain ⟨hn1, h⟩ := gd_some h
  refine rg_ast X hI (o := 2) rfl rfl hn1 dX6_emit_9 (fun H locs hI => ?_)
  obtain ⟨μ2, eμ2, h⟩ := nm_some h
  rw [← eμ2] at hI
  refine lv_aload_n hx hb dX6_emit_10 rfl (lv_at hl 0 rfl) ?_
  refine rg_getR X hI (o := 0) (j := 10) (k := 3) rfl rfl rfl inG6 (by decide) rfl wF_X6_16 dX6_emit_11 ?_
  refine lv_aload_n hx hb dX6_emit_14 rfl (lv_at hl 0 rfl) ?_
  refine rg_get X hI (o := 0) (j := 8) (k := 108) rfl rfl rfl inG6 (by decide) rfl wF_X6_121 dX6_emit_15 ?_
  refine lv_iload_n hx hb dX6_emit_18 rfl (lv_at hl 2 rfl) ?_
  obtain ⟨hn3, h⟩ := gd_some h
  refine rg_ast X hI (o := 3) rfl rfl hn3 dX6_emit_19 (fun H locs hI => ?_)
  obtain ⟨μ4, eμ4, h⟩ := nm_some h
  rw [← eμ4] at hI
  refine lv_aload_n hx hb dX6_emit_20 rfl (lv_at hl 0 rfl) ?_
  refine lv_dup hx hb dX6_emit_21 rfl ?_
  refine rg_get X hI (o := 0) (j := 8) (k := 108) rfl rfl rfl inG6 (by decide) rfl wF_X6_121 dX6_emit_22 ?_
  refine lv_iconst (v := 1) hx hb dX6_emit_25 (by decide) ?_
  refine lv_iadd hx hb dX6_emit_26 ?_
  refine rg_put X hI (o := 0) (j := 8) (k := 108) rfl rfl rfl rfl inG6 tyX6 tyX6_ok nmX6 (by decide) rfl wF_X6_121 rfl rfl rfl rfl dX6_emit_27 (fun H locs hI => ?_)
  obtain ⟨μ5, eμ5, h⟩ := nm_some h
  rw [← eμ5] at hI
  refine lv_aload_n hx hb dX6_emit_30 rfl (lv_at hl 0 rfl) ?_
  refine rg_get X hI (o := 0) (j := 8) (k := 108) rfl rfl rfl inG6 (by decide) rfl wF_X6_121 dX6_emit_31 ?_
  refine lv_iconst (v := 1) hx hb dX6_emit_34 (by decide) ?_
  refine lv_isub hx hb dX6_emit_35 ?_
  cases h
  exact hend H locs _ _ hI dX6_emit_36
set_option maxHeartbeats 4000000 in
set_option maxRecDepth 100000 in
theorem c_M_wrap (l : Launch) (D : va_G) (cI : ClassId) (ρ : Nat → Nat) (hgt : Nat) (hh : 1 ≤ hgt) {a0 : Int32} {μ : St} {r : Int32} (h : f_M_wrap a0 = some r) : CI l yX6_wrap cX6_wrap 1 (some .int) hgt TM cI D ρ [.int a0] μ r μ := by
  obtain ⟨g, rfl⟩ : ∃ g, hgt = g + 1 := ⟨hgt - 1, by omega⟩
  unfold f_M_wrap at h
  refine CI_of (own := RX6) (by decide) rfl (Nat.le_of_ble_eq_true rfl) rfl ?_
  intro p e s m args below meth c Q A H locs X hI hend ls hl
  have hx := X.1.1
  have hb := X.1.2.1
  have hl : lv_has ls 1 [(0, .int a0)] := hl
  refine lv_iload_n hx hb dX6_wrap_0 rfl (lv_at hl 0 rfl) ?_
  refine lv_bipush (v := 16) hx hb dX6_wrap_1 (by decide) ?_
  refine lv_ishl hx hb dX6_wrap_3 ?_
  refine lv_bipush (v := 16) hx hb dX6_wrap_4 (by decide) ?_
  refine lv_ishr hx hb dX6_wrap_6 ?_
  cases h
  exact hend H locs _ _ hI dX6_wrap_7
set_option maxHeartbeats 4000000 in
set_option maxRecDepth 100000 in
theorem c_M_levelOf (l : Launch) (D : va_G) (cI : ClassId) (ρ : Nat → Nat) (hgt : Nat) (hh : 1 ≤ hgt) {a0 : Int32} {μ : St} {r : Int32} (h : f_M_levelOf a0 = some r) : CI l yX6_levelOf cX6_levelOf 1 (some .int) hgt TM cI D ρ [.int a0] μ r μ := by
  obtain ⟨g, rfl⟩ : ∃ g, hgt = g + 1 := ⟨hgt - 1, by omega⟩
  unfold f_M_levelOf at h
  refine CI_of (own := RX6) (by decide) rfl (Nat.le_of_ble_eq_true rfl) rfl ?_
  intro p e s m args below meth c Q A H locs X hI hend ls hl
  have hx := X.1.1
  have hb := X.1.2.1
  have hl : lv_has ls 1 [(0, .int a0)] := hl
  refine lv_iload_n hx hb dX6_levelOf_0 rfl (lv_at hl 0 rfl) ?_
  refine lv_bipush (v := 18) hx hb dX6_levelOf_1 (by decide) ?_
  obtain ⟨k2, ek2, h⟩ := jn_some h
  have hj3 : ∀ (ls : Array Slot), lv_has ls 1 [] → k2 = some r → W p l e (rmL (g + 1)) s m args below meth c H locs 0 0 Q (F0 m 12 ls []) := by
    intro ls hl h
    rw [ek2] at h
    refine lv_iconst (v := 1) hx hb dX6_levelOf_12 (by decide) ?_
    refine lv_goto (tgt := 49) hx hb dX6_levelOf_13 (by decide) ?_
    cases h
    exact hend H locs _ _ hI dX6_levelOf_49
  refine lv_icmp_eq (tgt := 12) hx hb dX6_levelOf_3 (by decide) (fun c4 => ?_) (fun c4 => ?_)
  · have h := it_pos c4 h
    exact hj3 ls (lv_sub hl [] rfl) h
  · have h := it_neg c4 h
    refine lv_iload_n hx hb dX6_levelOf_6 rfl (lv_at hl 0 rfl) ?_
    refine lv_bipush (v := 19) hx hb dX6_levelOf_7 (by decide) ?_
    refine lv_icmp_ne (tgt := 16) hx hb dX6_levelOf_9 (by decide) (fun c5 => ?_) (fun c5 => ?_)
    · have h := it_neg c5 h
      refine lv_iload_n hx hb dX6_levelOf_16 rfl (lv_at hl 0 rfl) ?_
      refine lv_bipush (v := 13) hx hb dX6_levelOf_17 (by decide) ?_
      obtain ⟨k7, ek7, h⟩ := jn_some h
      have hj8 : ∀ (ls : Array Slot), lv_has ls 1 [] → k7 = some r → W p l e (rmL (g + 1)) s m args below meth c H locs 0 0 Q (F0 m 28 ls []) := by
        intro ls hl h
        rw [ek7] at h
        refine lv_iconst (v := 2) hx hb dX6_levelOf_28 (by decide) ?_
        refine lv_goto (tgt := 49) hx hb dX6_levelOf_29 (by decide) ?_
        cases h
        exact hend H locs _ _ hI dX6_levelOf_49
      refine lv_icmp_eq (tgt := 28) hx hb dX6_levelOf_19 (by decide) (fun c9 => ?_) (fun c9 => ?_)
      · have h := it_pos c9 h
        exact hj8 ls (lv_sub hl [] rfl) h
      · have h := it_neg c9 h
        refine lv_iload_n hx hb dX6_levelOf_22 rfl (lv_at hl 0 rfl) ?_
        refine lv_bipush (v := 14) hx hb dX6_levelOf_23 (by decide) ?_
        refine lv_icmp_ne (tgt := 32) hx hb dX6_levelOf_25 (by decide) (fun c10 => ?_) (fun c10 => ?_)
        · have h := it_neg c10 h
          refine lv_iload_n hx hb dX6_levelOf_32 rfl (lv_at hl 0 rfl) ?_
          refine lv_bipush (v := 15) hx hb dX6_levelOf_33 (by decide) ?_
          obtain ⟨k12, ek12, h⟩ := jn_some h
          have hj13 : ∀ (ls : Array Slot), lv_has ls 1 [] → k12 = some r → W p l e (rmL (g + 1)) s m args below meth c H locs 0 0 Q (F0 m 48 ls []) := by
            intro ls hl h
            rw [ek12] at h
            refine lv_iconst (v := 0) hx hb dX6_levelOf_48 (by decide) ?_
            cases h
            exact hend H locs _ _ hI dX6_levelOf_49
          refine lv_icmp_lt (tgt := 48) hx hb dX6_levelOf_35 (by decide) (fun c14 => ?_) (fun c14 => ?_)
          · have h := it_pos c14 h
            exact hj13 ls (lv_sub hl [] rfl) h
          · have h := it_neg c14 h
            refine lv_iload_n hx hb dX6_levelOf_38 rfl (lv_at hl 0 rfl) ?_
            refine lv_bipush (v := 17) hx hb dX6_levelOf_39 (by decide) ?_
            refine lv_icmp_gt (tgt := 48) hx hb dX6_levelOf_41 (by decide) (fun c15 => ?_) (fun c15 => ?_)
            · have h := it_pos c15 h
              exact hj13 ls (lv_sub hl [] rfl) h
            · have h := it_neg c15 h
              refine lv_iconst (v := 3) hx hb dX6_levelOf_44 (by decide) ?_
              refine lv_goto (tgt := 49) hx hb dX6_levelOf_45 (by decide) ?_
              cases h
              exact hend H locs _ _ hI dX6_levelOf_49
        · have h := it_pos c10 h
          exact hj8 ls (lv_sub hl [] rfl) h
    · have h := it_pos c5 h
      exact hj3 ls (lv_sub hl [] rfl) h
set_option maxHeartbeats 4000000 in
set_option maxRecDepth 100000 in
theorem c_M_push (l : Launch) (D : va_G) (cI : ClassId) (ρ : Nat → Nat) (hgt : Nat) (hh : 2 ≤ hgt) {a1 : Int32} {μ ν : St} (h : f_M_push a1 μ = some ν) : CV l yX6_push cX6_push 2 hgt TM cI D ρ [.ref (ρ 0), .int a1] μ ν := by
  obtain ⟨g, rfl⟩ : ∃ g, hgt = g + 1 := ⟨hgt - 1, by omega⟩
  unfold f_M_push at h
  refine CV_of (own := RX6) (by decide) rfl (Nat.le_of_ble_eq_true rfl) ?_
  intro p e s m args below meth c Q A H locs X hI hend ls hl
  have hx := X.1.1
  have hb := X.1.2.1
  have hl : lv_has ls 2 [(0, .ref (ρ 0)), (1, .int a1)] := hl
  refine lv_aload_n hx hb dX6_push_0 rfl (lv_at hl 0 rfl) ?_
  refine rg_getR X hI (o := 0) (j := 51) (k := 29) rfl rfl rfl inG6 (by decide) rfl wF_X6_94 dX6_push_1 ?_
  refine lv_aload_n hx hb dX6_push_4 rfl (lv_at hl 0 rfl) ?_
  refine rg_get X hI (o := 0) (j := 47) (k := 147) rfl rfl rfl inG6 (by decide) rfl wF_X6_224 dX6_push_5 ?_
  refine lv_iload_n hx hb dX6_push_8 rfl (lv_at hl 1 rfl) ?_
  obtain ⟨x2, hc1, h⟩ := ca_some h
  refine rc_si (As := [.int a1]) X hI (c_M_wrap l D cI ρ g (by omega) hc1) gV_X6_248 hd_X6_wrap (by decide) (Nat.le_refl _) hl.1 rfl (Nat.le_of_ble_eq_true rfl) dX6_push_9 (fun H locs hI => ?_)
  obtain ⟨hn3, h⟩ := gd_some h
  refine rg_ast X hI (o := 29) rfl rfl hn3 dX6_push_12 (fun H locs hI => ?_)
  obtain ⟨μ4, eμ4, h⟩ := nm_some h
  rw [← eμ4] at hI
  refine lv_aload_n hx hb dX6_push_13 rfl (lv_at hl 0 rfl) ?_
  refine lv_dup hx hb dX6_push_14 rfl ?_
  refine rg_get X hI (o := 0) (j := 47) (k := 147) rfl rfl rfl inG6 (by decide) rfl wF_X6_224 dX6_push_15 ?_
  refine lv_iconst (v := 1) hx hb dX6_push_18 (by decide) ?_
  refine lv_iadd hx hb dX6_push_19 ?_
  refine rg_put X hI (o := 0) (j := 47) (k := 147) rfl rfl rfl rfl inG6 tyX6 tyX6_ok nmX6 (by decide) rfl wF_X6_224 rfl rfl rfl rfl dX6_push_20 (fun H locs hI => ?_)
  obtain ⟨μ5, eμ5, h⟩ := nm_some h
  rw [← eμ5] at hI
  cases h
  exact hend H locs _ _ hI dX6_push_23
set_option maxHeartbeats 4000000 in
set_option maxRecDepth 100000 in
theorem c_M_pop (l : Launch) (D : va_G) (cI : ClassId) (ρ : Nat → Nat) (hgt : Nat) (hh : 1 ≤ hgt)  {μ ν : St} {r : Int32} (h : f_M_pop μ = some (r, ν)) : CI l yX6_pop cX6_pop 1 (some .int) hgt TM cI D ρ [.ref (ρ 0)] μ r ν := by
  obtain ⟨g, rfl⟩ : ∃ g, hgt = g + 1 := ⟨hgt - 1, by omega⟩
  unfold f_M_pop at h
  refine CI_of (own := RX6) (by decide) rfl (Nat.le_of_ble_eq_true rfl) rfl ?_
  intro p e s m args below meth c Q A H locs X hI hend ls hl
  have hx := X.1.1
  have hb := X.1.2.1
  have hl : lv_has ls 1 [(0, .ref (ρ 0))] := hl
  refine lv_aload_n hx hb dX6_pop_0 rfl (lv_at hl 0 rfl) ?_
  refine lv_dup hx hb dX6_pop_1 rfl ?_
  refine rg_get X hI (o := 0) (j := 47) (k := 147) rfl rfl rfl inG6 (by decide) rfl wF_X6_224 dX6_pop_2 ?_
  refine lv_iconst (v := 1) hx hb dX6_pop_5 (by decide) ?_
  refine lv_isub hx hb dX6_pop_6 ?_
  refine rg_put X hI (o := 0) (j := 47) (k := 147) rfl rfl rfl rfl inG6 tyX6 tyX6_ok nmX6 (by decide) rfl wF_X6_224 rfl rfl rfl rfl dX6_pop_7 (fun H locs hI => ?_)
  obtain ⟨μ1, eμ1, h⟩ := nm_some h
  rw [← eμ1] at hI
  refine lv_aload_n hx hb dX6_pop_10 rfl (lv_at hl 0 rfl) ?_
  refine rg_getR X hI (o := 0) (j := 51) (k := 29) rfl rfl rfl inG6 (by decide) rfl wF_X6_94 dX6_pop_11 ?_
  refine lv_aload_n hx hb dX6_pop_14 rfl (lv_at hl 0 rfl) ?_
  refine rg_get X hI (o := 0) (j := 47) (k := 147) rfl rfl rfl inG6 (by decide) rfl wF_X6_224 dX6_pop_15 ?_
  obtain ⟨hn2, h⟩ := gd_some h
  refine rg_ald X hI (o := 29) rfl hn2 dX6_pop_18 ?_
  obtain ⟨x3, ex3, h⟩ := nm_some h
  refine rg_top ex3 ?_
  cases h
  exact hend H locs _ _ hI dX6_pop_19
