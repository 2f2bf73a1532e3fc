/-! the class: contracts -/
set_option maxHeartbeats 4000000 in
set_option maxRecDepth 100000 in
theorem c_E_divide (l : Launch) (D : va_G) (cI : ClassId) (ρ : Nat → Nat) (hgt : Nat) (hh : 2 ≤ hgt) {a1 : Int32} {a2 : Int32} {a3 : Int32} {μ ν : St} (h : f_E_divide a1 a2 a3 μ = some ν) : CV l yX2_divide cX2_divide 4 hgt TC cI D ρ [.ref (ρ 6), .int a1, .int a2, .int a3] μ ν := by
  obtain ⟨g, rfl⟩ : ∃ g, hgt = g + 1 := ⟨hgt - 1, by omega⟩
  unfold f_E_divide at h
  refine CV_of (own := RX2) (by decide) rfl (Nat.le_of_ble_eq_true rfl) ?_
  intro p e s m args below meth c Q A H locs X hI hend ls hl
  have hx := X.1.1
  have hb := X.1.2.1
  have hl : lv_has ls 4 [(0, .ref (ρ 6)), (1, .int a1), (2, .int a2), (3, .int a3)] := hl
  refine lv_iload_n hx hb dX2_divide_0 rfl (lv_at hl 3 rfl) ?_
  refine lv_if_ne (tgt := 12) hx hb dX2_divide_1 (by decide) (fun c1 => ?_) (fun c1 => ?_)
  · have h := it_neg c1 h
    refine lv_aload_n hx hb dX2_divide_12 rfl (lv_at hl 0 rfl) ?_
    refine lv_iload_n hx hb dX2_divide_13 rfl (lv_at hl 1 rfl) ?_
    refine lv_bipush (v := 16) hx hb dX2_divide_14 (by decide) ?_
    obtain ⟨k3, ek3, h⟩ := jn_some h
    have hj4 : ∀ (y5 : Int32) (ls : Array Slot), lv_has ls 4 [] → k3 y5 = some ν → W p l e (rmL (g + 1)) s m args below meth c H locs 0 0 Q (F0 m 28 ls [.int y5, .ref (ρ 6)]) := by
      intro y5 ls hl h
      rw [ek3] at h
      try dsimp only at h
      obtain ⟨μ7, hc6, h⟩ := ca_some h
      refine rc_vv (o := 6) (As := [.int y5]) X hI (c_E_push l D cI ρ g (by omega) hc6) rfl rfl gV_X2_99 hd_X2_push (by decide) (Nat.le_refl _) hl.1 rfl (Nat.le_of_ble_eq_true rfl) dX2_divide_28 (fun H locs hI => ?_)
      cases h
      exact hend H locs _ _ hI dX2_divide_31
    refine lv_icmp_ne (tgt := 25) hx hb dX2_divide_16 (by decide) (fun c8 => ?_) (fun c8 => ?_)
    · have h := it_neg c8 h
      refine lv_iload_n hx hb dX2_divide_25 rfl (lv_at hl 2 rfl) ?_
      refine lv_iload_n hx hb dX2_divide_26 rfl (lv_at hl 3 rfl) ?_
      obtain ⟨hz9, h⟩ := gd_some h
      refine lv_irem hx hb dX2_divide_27 (nz_ne hz9) ?_
      exact hj4 (a2 - a2 / a3 * a3) ls (lv_sub hl [] rfl) h
    · have h := it_pos c8 h
      refine lv_iload_n hx hb dX2_divide_19 rfl (lv_at hl 2 rfl) ?_
      refine lv_iload_n hx hb dX2_divide_20 rfl (lv_at hl 3 rfl) ?_
      obtain ⟨hz10, h⟩ := gd_some h
      refine lv_idiv hx hb dX2_divide_21 (nz_ne hz10) ?_
      refine lv_goto (tgt := 28) hx hb dX2_divide_22 (by decide) ?_
      exact hj4 (a2 / a3) ls (lv_sub hl [] rfl) h
  · have h := it_pos c1 h
    refine lv_aload_n hx hb dX2_divide_4 rfl (lv_at hl 0 rfl) ?_
    refine lv_iconst (v := 4) hx hb dX2_divide_5 (by decide) ?_
    refine rg_put X hI (o := 6) (j := 8) (k := 228) rfl rfl rfl rfl inG2 tyX2 tyX2_ok nmX2 (by decide) rfl wF_X2_30 rfl rfl rfl rfl dX2_divide_6 (fun H locs hI => ?_)
    obtain ⟨μ11, eμ11, h⟩ := nm_some h
    rw [← eμ11] at hI
    refine lv_goto (tgt := 31) hx hb dX2_divide_9 (by decide) ?_
    cases h
    exact hend H locs _ _ hI dX2_divide_31
set_option maxHeartbeats 4000000 in
set_option maxRecDepth 100000 in
theorem c_E_combine (l : Launch) (D : va_G) (cI : ClassId) (ρ : Nat → Nat) (hgt : Nat) (hh : 3 ≤ hgt) {a1 : Int32} {μ ν : St} (h : f_E_combine a1 μ = some ν) : CV l yX2_combine cX2_combine 4 hgt TC cI D ρ [.ref (ρ 6), .int a1] μ ν := by
  obtain ⟨g, rfl⟩ : ∃ g, hgt = g + 1 := ⟨hgt - 1, by omega⟩
  unfold f_E_combine at h
  refine CV_of (own := RX2) (by decide) rfl (Nat.le_of_ble_eq_true rfl) ?_
  intro p e s m args below meth c Q A H locs X hI hend ls hl
  have hx := X.1.1
  have hb := X.1.2.1
  have hl : lv_has ls 4 [(0, .ref (ρ 6)), (1, .int a1)] := hl
  refine lv_aload_n hx hb dX2_combine_0 rfl (lv_at hl 0 rfl) ?_
  obtain ⟨x2, μ3, hc1, h⟩ := ca2_some h
  refine rc_vi (o := 6) (As := []) X hI (c_E_pop l D cI ρ g (by omega) hc1) rfl rfl gV_X2_90 hd_X2_pop (by decide) (Nat.le_refl _) hl.1 rfl (Nat.le_of_ble_eq_true rfl) dX2_combine_1 (fun H locs hI => ?_)
  refine lv_istore_n (lv' := [(2, .int x2), (0, .ref (ρ 6)), (1, .int a1)]) hx hb dX2_combine_4 rfl hl (by decide) rfl (fun ls hl => ?_)
  refine lv_aload_n hx hb dX2_combine_5 rfl (lv_at hl 1 rfl) ?_
  obtain ⟨x5, μ6, hc4, h⟩ := ca2_some h
  refine rc_vi (o := 6) (As := []) X hI (c_E_pop l D cI ρ g (by omega) hc4) rfl rfl gV_X2_90 hd_X2_pop (by decide) (Nat.le_refl _) hl.1 rfl (Nat.le_of_ble_eq_true rfl) dX2_combine_6 (fun H locs hI => ?_)
  refine lv_istore_n (lv' := [(3, .int x5), (2, .int x2), (0, .ref (ρ 6)), (1, .int a1)]) hx hb dX2_combine_9 rfl hl (by decide) rfl (fun ls hl => ?_)
  refine lv_iload_n hx hb dX2_combine_10 rfl (lv_at hl 3 rfl) ?_
  by_cases c7 : a1 = (13 : Int32)
  · have h := it_pos c7 h
    refine rg_top c7.symm ?_
    refine lv_tableIn (off := 41) (tgt := 52) hx hb dX2_combine_11 (by decide) (by decide) (by decide) (by decide) ?_
    refine lv_aload_n hx hb dX2_combine_52 rfl (lv_at hl 2 rfl) ?_
    refine lv_iload_n hx hb dX2_combine_53 rfl (lv_at hl 0 rfl) ?_
    refine lv_iload_n hx hb dX2_combine_54 rfl (lv_at hl 1 rfl) ?_
    refine lv_iadd hx hb dX2_combine_55 ?_
    obtain ⟨μ9, hc8, h⟩ := ca_some h
    refine rc_vv (o := 6) (As := [.int (x5 + x2)]) X hI (c_E_push l D cI ρ g (by omega) hc8) rfl rfl gV_X2_99 hd_X2_push (by decide) (Nat.le_refl _) hl.1 rfl (Nat.le_of_ble_eq_true rfl) dX2_combine_56 (fun H locs hI => ?_)
    refine lv_goto (tgt := 123) hx hb dX2_combine_59 (by decide) ?_
    cases h
    exact hend H locs _ _ hI dX2_combine_123
  · have h := it_neg c7 h
    by_cases c10 : a1 = (14 : Int32)
    · have h := it_pos c10 h
      refine rg_top c10.symm ?_
      refine lv_tableIn (off := 51) (tgt := 62) hx hb dX2_combine_11 (by decide) (by decide) (by decide) (by decide) ?_
      refine lv_aload_n hx hb dX2_combine_62 rfl (lv_at hl 2 rfl) ?_
      refine lv_iload_n hx hb dX2_combine_63 rfl (lv_at hl 0 rfl) ?_
      refine lv_iload_n hx hb dX2_combine_64 rfl (lv_at hl 1 rfl) ?_
      refine lv_isub hx hb dX2_combine_65 ?_
      obtain ⟨μ12, hc11, h⟩ := ca_some h
      refine rc_vv (o := 6) (As := [.int (x5 - x2)]) X hI (c_E_push l D cI ρ g (by omega) hc11) rfl rfl gV_X2_99 hd_X2_push (by decide) (Nat.le_refl _) hl.1 rfl (Nat.le_of_ble_eq_true rfl) dX2_combine_66 (fun H locs hI => ?_)
      refine lv_goto (tgt := 123) hx hb dX2_combine_69 (by decide) ?_
      cases h
      exact hend H locs _ _ hI dX2_combine_123
    · have h := it_neg c10 h
      by_cases c13 : a1 = (15 : Int32)
      · have h := it_pos c13 h
        refine rg_top c13.symm ?_
        refine lv_tableIn (off := 61) (tgt := 72) hx hb dX2_combine_11 (by decide) (by decide) (by decide) (by decide) ?_
        refine lv_aload_n hx hb dX2_combine_72 rfl (lv_at hl 2 rfl) ?_
        refine lv_iload_n hx hb dX2_combine_73 rfl (lv_at hl 0 rfl) ?_
        refine lv_iload_n hx hb dX2_combine_74 rfl (lv_at hl 1 rfl) ?_
        refine lv_imul hx hb dX2_combine_75 ?_
        obtain ⟨μ15, hc14, h⟩ := ca_some h
        refine rc_vv (o := 6) (As := [.int (x5 * x2)]) X hI (c_E_push l D cI ρ g (by omega) hc14) rfl rfl gV_X2_99 hd_X2_push (by decide) (Nat.le_refl _) hl.1 rfl (Nat.le_of_ble_eq_true rfl) dX2_combine_76 (fun H locs hI => ?_)
        refine lv_goto (tgt := 123) hx hb dX2_combine_79 (by decide) ?_
        cases h
        exact hend H locs _ _ hI dX2_combine_123
      · have h := it_neg c13 h
        by_cases c16 : a1 = (18 : Int32)
        · have h := it_pos c16 h
          refine rg_top c16.symm ?_
          refine lv_tableIn (off := 71) (tgt := 82) hx hb dX2_combine_11 (by decide) (by decide) (by decide) (by decide) ?_
          refine lv_aload_n hx hb dX2_combine_82 rfl (lv_at hl 2 rfl) ?_
          refine lv_iload_n hx hb dX2_combine_83 rfl (lv_at hl 0 rfl) ?_
          refine lv_iload_n hx hb dX2_combine_84 rfl (lv_at hl 1 rfl) ?_
          obtain ⟨k18, ek18, h⟩ := jn_some h
          have hj19 : ∀ (y20 : Int32) (ls : Array Slot), lv_has ls 4 [] → k18 y20 = some ν → W p l e (rmL (g + 1)) s m args below meth c H locs 0 0 Q (F0 m 93 ls [.int y20, .ref (ρ 6)]) := by
            intro y20 ls hl h
            rw [ek18] at h
            try dsimp only at h
            obtain ⟨μ22, hc21, h⟩ := ca_some h
            refine rc_vv (o := 6) (As := [.int y20]) X hI (c_E_push l D cI ρ g (by omega) hc21) rfl rfl gV_X2_99 hd_X2_push (by decide) (Nat.le_refl _) hl.1 rfl (Nat.le_of_ble_eq_true rfl) dX2_combine_93 (fun H locs hI => ?_)
            refine lv_goto (tgt := 123) hx hb dX2_combine_96 (by decide) ?_
            cases h
            exact hend H locs _ _ hI dX2_combine_123
          refine lv_icmp_ge (tgt := 92) hx hb dX2_combine_85 (by decide) (fun c23 => ?_) (fun c23 => ?_)
          · have h := it_pos c23 h
            refine lv_iconst (v := 0) hx hb dX2_combine_92 (by decide) ?_
            exact hj19 (0 : Int32) ls (lv_sub hl [] rfl) h
          · have h := it_neg c23 h
            refine lv_iconst (v := 1) hx hb dX2_combine_88 (by decide) ?_
            refine lv_goto (tgt := 93) hx hb dX2_combine_89 (by decide) ?_
            exact hj19 (1 : Int32) ls (lv_sub hl [] rfl) h
        · have h := it_neg c16 h
          by_cases c24 : a1 = (19 : Int32)
          · have h := it_pos c24 h
            refine rg_top c24.symm ?_
            refine lv_tableIn (off := 88) (tgt := 99) hx hb dX2_combine_11 (by decide) (by decide) (by decide) (by decide) ?_
            refine lv_aload_n hx hb dX2_combine_99 rfl (lv_at hl 2 rfl) ?_
            refine lv_iload_n hx hb dX2_combine_100 rfl (lv_at hl 0 rfl) ?_
            refine lv_iload_n hx hb dX2_combine_101 rfl (lv_at hl 1 rfl) ?_
            obtain ⟨k26, ek26, h⟩ := jn_some h
            have hj27 : ∀ (y28 : Int32) (ls : Array Slot), lv_has ls 4 [] → k26 y28 = some ν → W p l e (rmL (g + 1)) s m args below meth c H locs 0 0 Q (F0 m 110 ls [.int y28, .ref (ρ 6)]) := by
              intro y28 ls hl h
              rw [ek26] at h
              try dsimp only at h
              obtain ⟨μ30, hc29, h⟩ := ca_some h
              refine rc_vv (o := 6) (As := [.int y28]) X hI (c_E_push l D cI ρ g (by omega) hc29) rfl rfl gV_X2_99 hd_X2_push (by decide) (Nat.le_refl _) hl.1 rfl (Nat.le_of_ble_eq_true rfl) dX2_combine_110 (fun H locs hI => ?_)
              refine lv_goto (tgt := 123) hx hb dX2_combine_113 (by decide) ?_
              cases h
              exact hend H locs _ _ hI dX2_combine_123
            refine lv_icmp_ne (tgt := 109) hx hb dX2_combine_102 (by decide) (fun c31 => ?_) (fun c31 => ?_)
            · have h := it_neg c31 h
              refine lv_iconst (v := 0) hx hb dX2_combine_109 (by decide) ?_
              exact hj27 (0 : Int32) ls (lv_sub hl [] rfl) h
            · have h := it_pos c31 h
              refine lv_iconst (v := 1) hx hb dX2_combine_105 (by decide) ?_
              refine lv_goto (tgt := 110) hx hb dX2_combine_106 (by decide) ?_
              exact hj27 (1 : Int32) ls (lv_sub hl [] rfl) h
          · have h := it_neg c24 h
            have hdf : W p l e (rmL (g + 1)) s m args below meth c H locs 0 0 Q (F0 m 116 ls []) := by
              refine lv_aload_n hx hb dX2_combine_116 rfl (lv_at hl 2 rfl) ?_
              refine lv_iload_n hx hb dX2_combine_117 rfl (lv_at hl 3 rfl) ?_
              refine lv_iload_n hx hb dX2_combine_118 rfl (lv_at hl 0 rfl) ?_
              refine lv_iload_n hx hb dX2_combine_119 rfl (lv_at hl 1 rfl) ?_
              obtain ⟨μ33, hc32, h⟩ := ca_some h
              refine rc_vv (o := 6) (As := [.int a1, .int x5, .int x2]) X hI (c_E_divide l D cI ρ g (by omega) hc32) rfl rfl gV_X2_126 hd_X2_divide (by decide) (Nat.le_refl _) hl.1 rfl (Nat.le_of_ble_eq_true rfl) dX2_combine_120 (fun H locs hI => ?_)
              cases h
              exact hend H locs _ _ hI dX2_combine_123
            by_cases c34 : a1 = (16 : Int32)
            · refine rg_top c34.symm ?_
              exact lv_tableIn (off := 105) (tgt := 116) hx hb dX2_combine_11 (by decide) (by decide) (by decide) (by decide) hdf
            by_cases c35 : a1 = (17 : Int32)
            · refine rg_top c35.symm ?_
              exact lv_tableIn (off := 105) (tgt := 116) hx hb dX2_combine_11 (by decide) (by decide) (by decide) (by decide) hdf
            have c7 := ne_toInt (z := 13) rfl c7
            have c10 := ne_toInt (z := 14) rfl c10
            have c13 := ne_toInt (z := 15) rfl c13
            have c16 := ne_toInt (z := 18) rfl c16
            have c24 := ne_toInt (z := 19) rfl c24
            have c34 := ne_toInt (z := 16) rfl c34
            have c35 := ne_toInt (z := 17) rfl c35
            exact lv_tableOut (tgt := 116) hx hb dX2_combine_11 (by omega) (by decide) hdf
set_option maxHeartbeats 4000000 in
set_option maxRecDepth 100000 in
theorem c_E_actOnVariable (l : Launch) (D : va_G) (cI : ClassId) (ρ : Nat → Nat) (hgt : Nat) (hh : 4 ≤ hgt) {a1 : Int32} {a2 : Int32} {μ ν : St} (h : f_E_actOnVariable a1 a2 μ = some ν) : CV l yX2_actOnVariable cX2_actOnVariable 3 hgt TC cI D ρ [.ref (ρ 6), .int a1, .int a2] μ ν := by
  obtain ⟨g, rfl⟩ : ∃ g, hgt = g + 1 := ⟨hgt - 1, by omega⟩
  unfold f_E_actOnVariable at h
  refine CV_of (own := RX2) (by decide) rfl (Nat.le_of_ble_eq_true rfl) ?_
  intro p e s m args below meth c Q A H locs X hI hend ls hl
  have hx := X.1.1
  have hb := X.1.2.1
  have hl : lv_has ls 3 [(0, .ref (ρ 6)), (1, .int a1), (2, .int a2)] := hl
  refine lv_iload_n hx hb dX2_actOnVariable_0 rfl (lv_at hl 1 rfl) ?_
  by_cases c1 : a1 = (36 : Int32)
  · have h := it_pos c1 h
    refine rg_top c1.symm ?_
    refine lv_tableIn (off := 39) (tgt := 40) hx hb dX2_actOnVariable_1 (by decide) (by decide) (by decide) (by decide) ?_
    refine lv_aload_n hx hb dX2_actOnVariable_40 rfl (lv_at hl 0 rfl) ?_
    refine lv_aload_n hx hb dX2_actOnVariable_41 rfl (lv_at hl 0 rfl) ?_
    refine lv_iload_n hx hb dX2_actOnVariable_42 rfl (lv_at hl 2 rfl) ?_
    obtain ⟨x3, hc2, h⟩ := ca_some h
    refine rc_vi (o := 6) (As := [.int a2]) X hI (c_E_globalAt l D cI ρ g (by omega) hc2) rfl rfl gV_X2_105 hd_X2_globalAt (by decide) (Nat.le_refl _) hl.1 rfl (Nat.le_of_ble_eq_true rfl) dX2_actOnVariable_43 (fun H locs hI => ?_)
    obtain ⟨μ5, hc4, h⟩ := ca_some h
    refine rc_vv (o := 6) (As := [.int x3]) X hI (c_E_push l D cI ρ g (by omega) hc4) rfl rfl gV_X2_99 hd_X2_push (by decide) (Nat.le_refl _) hl.1 rfl (Nat.le_of_ble_eq_true rfl) dX2_actOnVariable_46 (fun H locs hI => ?_)
    refine lv_goto (tgt := 109) hx hb dX2_actOnVariable_49 (by decide) ?_
    cases h
    exact hend H locs _ _ hI dX2_actOnVariable_109
  · have h := it_neg c1 h
    by_cases c6 : a1 = (37 : Int32)
    · have h := it_pos c6 h
      refine rg_top c6.symm ?_
      refine lv_tableIn (off := 51) (tgt := 52) hx hb dX2_actOnVariable_1 (by decide) (by decide) (by decide) (by decide) ?_
      refine lv_aload_n hx hb dX2_actOnVariable_52 rfl (lv_at hl 0 rfl) ?_
      refine lv_iload_n hx hb dX2_actOnVariable_53 rfl (lv_at hl 2 rfl) ?_
      refine lv_aload_n hx hb dX2_actOnVariable_54 rfl (lv_at hl 0 rfl) ?_
      obtain ⟨x8, μ9, hc7, h⟩ := ca2_some h
      refine rc_vi (o := 6) (As := []) X hI (c_E_pop l D cI ρ g (by omega) hc7) rfl rfl gV_X2_90 hd_X2_pop (by decide) (Nat.le_refl _) hl.1 rfl (Nat.le_of_ble_eq_true rfl) dX2_actOnVariable_55 (fun H locs hI => ?_)
      obtain ⟨μ11, hc10, h⟩ := ca_some h
      refine rc_vv (o := 6) (As := [.int a2, .int x8]) X hI (c_E_setGlobal l D cI ρ g (by omega) hc10) rfl rfl gV_X2_108 hd_X2_setGlobal (by decide) (Nat.le_refl _) hl.1 rfl (Nat.le_of_ble_eq_true rfl) dX2_actOnVariable_58 (fun H locs hI => ?_)
      refine lv_goto (tgt := 109) hx hb dX2_actOnVariable_61 (by decide) ?_
      cases h
      exact hend H locs _ _ hI dX2_actOnVariable_109
    · have h := it_neg c6 h
      by_cases c12 : a1 = (38 : Int32)
      · have h := it_pos c12 h
        refine rg_top c12.symm ?_
        refine lv_tableIn (off := 63) (tgt := 64) hx hb dX2_actOnVariable_1 (by decide) (by decide) (by decide) (by decide) ?_
        refine lv_aload_n hx hb dX2_actOnVariable_64 rfl (lv_at hl 0 rfl) ?_
        refine lv_aload_n hx hb dX2_actOnVariable_65 rfl (lv_at hl 0 rfl) ?_
        refine lv_iload_n hx hb dX2_actOnVariable_66 rfl (lv_at hl 2 rfl) ?_
        obtain ⟨x14, hc13, h⟩ := ca_some h
        refine rc_vi (o := 6) (As := [.int a2]) X hI (c_E_localAt l D cI ρ g (by omega) hc13) rfl rfl gV_X2_111 hd_X2_localAt (by decide) (Nat.le_refl _) hl.1 rfl (Nat.le_of_ble_eq_true rfl) dX2_actOnVariable_67 (fun H locs hI => ?_)
        obtain ⟨μ16, hc15, h⟩ := ca_some h
        refine rc_vv (o := 6) (As := [.int x14]) X hI (c_E_push l D cI ρ g (by omega) hc15) rfl rfl gV_X2_99 hd_X2_push (by decide) (Nat.le_refl _) hl.1 rfl (Nat.le_of_ble_eq_true rfl) dX2_actOnVariable_70 (fun H locs hI => ?_)
        refine lv_goto (tgt := 109) hx hb dX2_actOnVariable_73 (by decide) ?_
        cases h
        exact hend H locs _ _ hI dX2_actOnVariable_109
      · have h := it_neg c12 h
        by_cases c17 : a1 = (39 : Int32)
        · have h := it_pos c17 h
          refine rg_top c17.symm ?_
          refine lv_tableIn (off := 75) (tgt := 76) hx hb dX2_actOnVariable_1 (by decide) (by decide) (by decide) (by decide) ?_
          refine lv_aload_n hx hb dX2_actOnVariable_76 rfl (lv_at hl 0 rfl) ?_
          refine lv_iload_n hx hb dX2_actOnVariable_77 rfl (lv_at hl 2 rfl) ?_
          refine lv_aload_n hx hb dX2_actOnVariable_78 rfl (lv_at hl 0 rfl) ?_
          obtain ⟨x19, μ20, hc18, h⟩ := ca2_some h
          refine rc_vi (o := 6) (As := []) X hI (c_E_pop l D cI ρ g (by omega) hc18) rfl rfl gV_X2_90 hd_X2_pop (by decide) (Nat.le_refl _) hl.1 rfl (Nat.le_of_ble_eq_true rfl) dX2_actOnVariable_79 (fun H locs hI => ?_)
          obtain ⟨μ22, hc21, h⟩ := ca_some h
          refine rc_vv (o := 6) (As := [.int a2, .int x19]) X hI (c_E_setLocal l D cI ρ g (by omega) hc21) rfl rfl gV_X2_114 hd_X2_setLocal (by decide) (Nat.le_refl _) hl.1 rfl (Nat.le_of_ble_eq_true rfl) dX2_actOnVariable_82 (fun H locs hI => ?_)
          refine lv_goto (tgt := 109) hx hb dX2_actOnVariable_85 (by decide) ?_
          cases h
          exact hend H locs _ _ hI dX2_actOnVariable_109
        · have h := it_neg c17 h
          by_cases c23 : a1 = (40 : Int32)
          · have h := it_pos c23 h
            refine rg_top c23.symm ?_
            refine lv_tableIn (off := 87) (tgt := 88) hx hb dX2_actOnVariable_1 (by decide) (by decide) (by decide) (by decide) ?_
            refine lv_aload_n hx hb dX2_actOnVariable_88 rfl (lv_at hl 0 rfl) ?_
            refine lv_iload_n hx hb dX2_actOnVariable_89 rfl (lv_at hl 2 rfl) ?_
            obtain ⟨μ25, hc24, h⟩ := ca_some h
            refine rc_vv (o := 6) (As := [.int a2]) X hI (c_E_getPlace l D cI ρ g (by omega) hc24) rfl rfl gV_X2_117 hd_X2_getPlace (by decide) (Nat.le_refl _) hl.1 rfl (Nat.le_of_ble_eq_true rfl) dX2_actOnVariable_90 (fun H locs hI => ?_)
            refine lv_goto (tgt := 109) hx hb dX2_actOnVariable_93 (by decide) ?_
            cases h
            exact hend H locs _ _ hI dX2_actOnVariable_109
          · have h := it_neg c23 h
            by_cases c26 : a1 = (41 : Int32)
            · have h := it_pos c26 h
              refine rg_top c26.symm ?_
              refine lv_tableIn (off := 95) (tgt := 96) hx hb dX2_actOnVariable_1 (by decide) (by decide) (by decide) (by decide) ?_
              refine lv_aload_n hx hb dX2_actOnVariable_96 rfl (lv_at hl 0 rfl) ?_
              refine lv_iload_n hx hb dX2_actOnVariable_97 rfl (lv_at hl 2 rfl) ?_
              obtain ⟨μ28, hc27, h⟩ := ca_some h
              refine rc_vv (o := 6) (As := [.int a2]) X hI (c_E_setPlace l D cI ρ g (by omega) hc27) rfl rfl gV_X2_120 hd_X2_setPlace (by decide) (Nat.le_refl _) hl.1 rfl (Nat.le_of_ble_eq_true rfl) dX2_actOnVariable_98 (fun H locs hI => ?_)
              refine lv_goto (tgt := 109) hx hb dX2_actOnVariable_101 (by decide) ?_
              cases h
              exact hend H locs _ _ hI dX2_actOnVariable_109
            · have h := it_neg c26 h
              have hdf : W p l e (rmL (g + 1)) s m args below meth c H locs 0 0 Q (F0 m 104 ls []) := by
                refine lv_aload_n hx hb dX2_actOnVariable_104 rfl (lv_at hl 0 rfl) ?_
                refine lv_iload_n hx hb dX2_actOnVariable_105 rfl (lv_at hl 1 rfl) ?_
                obtain ⟨μ30, hc29, h⟩ := ca_some h
                refine rc_vv (o := 6) (As := [.int a1]) X hI (c_E_combine l D cI ρ g (by omega) hc29) rfl rfl gV_X2_123 hd_X2_combine (by decide) (Nat.le_refl _) hl.1 rfl (Nat.le_of_ble_eq_true rfl) dX2_actOnVariable_106 (fun H locs hI => ?_)
                cases h
                exact hend H locs _ _ hI dX2_actOnVariable_109
              have c1 := ne_toInt (z := 36) rfl c1
              have c6 := ne_toInt (z := 37) rfl c6
              have c12 := ne_toInt (z := 38) rfl c12
              have c17 := ne_toInt (z := 39) rfl c17
              have c23 := ne_toInt (z := 40) rfl c23
              have c26 := ne_toInt (z := 41) rfl c26
              exact lv_tableOut (tgt := 104) hx hb dX2_actOnVariable_1 (by omega) (by decide) hdf
set_option maxHeartbeats 4000000 in
set_option maxRecDepth 100000 in
theorem c_E_act (l : Launch) (D : va_G) (cI : ClassId) (ρ : Nat → Nat) {N : Nat} (hgt : Nat) (hh : 5 ≤ hgt) {a1 : Int32} {a2 : Int32} {μ ν : St} (h : f_E_act N a1 a2 μ = some ν) : CV l yX2_act cX2_act 3 hgt TC cI D ρ [.ref (ρ 6), .int a1, .int a2] μ ν := by
  obtain ⟨g, rfl⟩ : ∃ g, hgt = g + 1 := ⟨hgt - 1, by omega⟩
  unfold f_E_act at h
  refine CV_of (own := RX2) (by decide) rfl (Nat.le_of_ble_eq_true rfl) ?_
  intro p e s m args below meth c Q A H locs X hI hend ls hl
  have hx := X.1.1
  have hb := X.1.2.1
  have hl : lv_has ls 3 [(0, .ref (ρ 6)), (1, .int a1), (2, .int a2)] := hl
  refine lv_iload_n hx hb dX2_act_0 rfl (lv_at hl 1 rfl) ?_
  by_cases c1 : a1 = (0 : Int32)
  · have h := it_pos c1 h
    refine rg_top c1.symm ?_
    refine lv_lookup (off := 112) (tgt := 113) hx hb dX2_act_1 (by decide) (by decide) (by decide) ?_
    refine lv_aload_n hx hb dX2_act_113 rfl (lv_at hl 0 rfl) ?_
    obtain ⟨μ3, hc2, h⟩ := ca_some h
    refine rc_vv (o := 6) (As := []) X hI (c_E_leave l D cI ρ g (by omega) hc2) rfl rfl gV_X2_84 hd_X2_leave (by decide) (Nat.le_refl _) hl.1 rfl (Nat.le_of_ble_eq_true rfl) dX2_act_114 (fun H locs hI => ?_)
    refine lv_goto (tgt := 222) hx hb dX2_act_117 (by decide) ?_
    cases h
    exact hend H locs _ _ hI dX2_act_222
  · have h := it_neg c1 h
    by_cases c4 : a1 = (20 : Int32)
    · have h := it_pos c4 h
      refine rg_top c4.symm ?_
      refine lv_lookup (off := 196) (tgt := 197) hx hb dX2_act_1 (by decide) (by decide) (by decide) ?_
      refine lv_aload_n hx hb dX2_act_197 rfl (lv_at hl 0 rfl) ?_
      refine lv_aload_n hx hb dX2_act_198 rfl (lv_at hl 0 rfl) ?_
      obtain ⟨x6, μ7, hc5, h⟩ := ca2_some h
      refine rc_vi (o := 6) (As := []) X hI (c_E_pop l D cI ρ g (by omega) hc5) rfl rfl gV_X2_90 hd_X2_pop (by decide) (Nat.le_refl _) hl.1 rfl (Nat.le_of_ble_eq_true rfl) dX2_act_199 (fun H locs hI => ?_)
      obtain ⟨k9, ek9, h⟩ := jn_some h
      have hj10 : ∀ (y11 : Int32) (ls : Array Slot), lv_has ls 3 [] → k9 y11 = some ν → W p l e (rmL (g + 1)) s m args below meth c H locs 0 0 Q (F0 m 210 ls [.int y11, .ref (ρ 6)]) := by
        intro y11 ls hl h
        rw [ek9] at h
        try dsimp only at h
        obtain ⟨μ13, hc12, h⟩ := ca_some h
        refine rc_vv (o := 6) (As := [.int y11]) X hI (c_E_push l D cI ρ g (by omega) hc12) rfl rfl gV_X2_99 hd_X2_push (by decide) (Nat.le_refl _) hl.1 rfl (Nat.le_of_ble_eq_true rfl) dX2_act_210 (fun H locs hI => ?_)
        refine lv_goto (tgt := 222) hx hb dX2_act_213 (by decide) ?_
        cases h
        exact hend H locs _ _ hI dX2_act_222
      refine lv_if_ne (tgt := 209) hx hb dX2_act_202 (by decide) (fun c14 => ?_) (fun c14 => ?_)
      · have h := it_neg c14 h
        refine lv_iconst (v := 0) hx hb dX2_act_209 (by decide) ?_
        exact hj10 (0 : Int32) ls (lv_sub hl [] rfl) h
      · have h := it_pos c14 h
        refine lv_iconst (v := 1) hx hb dX2_act_205 (by decide) ?_
        refine lv_goto (tgt := 210) hx hb dX2_act_206 (by decide) ?_
        exact hj10 (1 : Int32) ls (lv_sub hl [] rfl) h
    · have h := it_neg c4 h
      by_cases c15 : a1 = (32 : Int32)
      · have h := it_pos c15 h
        refine rg_top c15.symm ?_
        refine lv_lookup (off := 99) (tgt := 100) hx hb dX2_act_1 (by decide) (by decide) (by decide) ?_
        refine lv_aload_n hx hb dX2_act_100 rfl (lv_at hl 0 rfl) ?_
        refine lv_dup hx hb dX2_act_101 rfl ?_
        refine rg_get X hI (o := 6) (j := 9) (k := 229) rfl rfl rfl inG2 (by decide) rfl wF_X2_34 dX2_act_102 ?_
        refine lv_iconst (v := 1) hx hb dX2_act_105 (by decide) ?_
        refine lv_iadd hx hb dX2_act_106 ?_
        refine rg_put X hI (o := 6) (j := 9) (k := 229) rfl rfl rfl rfl inG2 tyX2 tyX2_ok nmX2 (by decide) rfl wF_X2_34 rfl rfl rfl rfl dX2_act_107 (fun H locs hI => ?_)
        obtain ⟨μ16, eμ16, h⟩ := nm_some h
        rw [← eμ16] at hI
        refine lv_goto (tgt := 222) hx hb dX2_act_110 (by decide) ?_
        cases h
        exact hend H locs _ _ hI dX2_act_222
      · have h := it_neg c15 h
        by_cases c17 : a1 = (33 : Int32)
        · have h := it_pos c17 h
          refine rg_top c17.symm ?_
          refine lv_lookup (off := 176) (tgt := 177) hx hb dX2_act_1 (by decide) (by decide) (by decide) ?_
          refine lv_aload_n hx hb dX2_act_177 rfl (lv_at hl 0 rfl) ?_
          refine lv_iload_n hx hb dX2_act_178 rfl (lv_at hl 2 rfl) ?_
          obtain ⟨μ19, hc18, h⟩ := ca_some h
          refine rc_vv (o := 6) (As := [.int a2]) X hI (c_E_push l D cI ρ g (by omega) hc18) rfl rfl gV_X2_99 hd_X2_push (by decide) (Nat.le_refl _) hl.1 rfl (Nat.le_of_ble_eq_true rfl) dX2_act_179 (fun H locs hI => ?_)
          refine lv_goto (tgt := 222) hx hb dX2_act_182 (by decide) ?_
          cases h
          exact hend H locs _ _ hI dX2_act_222
        · have h := it_neg c17 h
          by_cases c20 : a1 = (34 : Int32)
          · have h := it_pos c20 h
            refine rg_top c20.symm ?_
            refine lv_lookup (off := 146) (tgt := 147) hx hb dX2_act_1 (by decide) (by decide) (by decide) ?_
            refine lv_aload_n hx hb dX2_act_147 rfl (lv_at hl 0 rfl) ?_
            obtain ⟨μ22, hc21, h⟩ := ca_some h
            refine rc_vv (o := 6) (As := []) X hI (c_E_read l D cI ρ g (by omega) hc21) rfl rfl gV_X2_96 hd_X2_read (by decide) (Nat.le_refl _) hl.1 rfl (Nat.le_of_ble_eq_true rfl) dX2_act_148 (fun H locs hI => ?_)
            refine lv_goto (tgt := 222) hx hb dX2_act_151 (by decide) ?_
            cases h
            exact hend H locs _ _ hI dX2_act_222
          · have h := it_neg c20 h
            by_cases c23 : a1 = (35 : Int32)
            · have h := it_pos c23 h
              refine rg_top c23.symm ?_
              refine lv_lookup (off := 184) (tgt := 185) hx hb dX2_act_1 (by decide) (by decide) (by decide) ?_
              refine lv_aload_n hx hb dX2_act_185 rfl (lv_at hl 0 rfl) ?_
              refine lv_aload_n hx hb dX2_act_186 rfl (lv_at hl 0 rfl) ?_
              obtain ⟨x25, μ26, hc24, h⟩ := ca2_some h
              refine rc_vi (o := 6) (As := []) X hI (c_E_pop l D cI ρ g (by omega) hc24) rfl rfl gV_X2_90 hd_X2_pop (by decide) (Nat.le_refl _) hl.1 rfl (Nat.le_of_ble_eq_true rfl) dX2_act_187 (fun H locs hI => ?_)
              refine lv_ineg hx hb dX2_act_190 ?_
              obtain ⟨μ28, hc27, h⟩ := ca_some h
              refine rc_vv (o := 6) (As := [.int (-x25)]) X hI (c_E_push l D cI ρ g (by omega) hc27) rfl rfl gV_X2_99 hd_X2_push (by decide) (Nat.le_refl _) hl.1 rfl (Nat.le_of_ble_eq_true rfl) dX2_act_191 (fun H locs hI => ?_)
              refine lv_goto (tgt := 222) hx hb dX2_act_194 (by decide) ?_
              cases h
              exact hend H locs _ _ hI dX2_act_222
            · have h := it_neg c23 h
              by_cases c29 : a1 = (42 : Int32)
              · have h := it_pos c29 h
                refine rg_top c29.symm ?_
                refine lv_lookup (off := 119) (tgt := 120) hx hb dX2_act_1 (by decide) (by decide) (by decide) ?_
                refine lv_aload_n hx hb dX2_act_120 rfl (lv_at hl 0 rfl) ?_
                refine lv_iload_n hx hb dX2_act_121 rfl (lv_at hl 2 rfl) ?_
                obtain ⟨μ31, hc30, h⟩ := ca_some h
                refine rc_vv (o := 6) (As := [.int a2]) X hI (c_E_call l D cI ρ g (by omega) hc30) rfl rfl gV_X2_87 hd_X2_call (by decide) (Nat.le_refl _) hl.1 rfl (Nat.le_of_ble_eq_true rfl) dX2_act_122 (fun H locs hI => ?_)
                refine lv_goto (tgt := 222) hx hb dX2_act_125 (by decide) ?_
                cases h
                exact hend H locs _ _ hI dX2_act_222
              · have h := it_neg c29 h
                by_cases c32 : a1 = (43 : Int32)
                · have h := it_pos c32 h
                  refine rg_top c32.symm ?_
                  refine lv_lookup (off := 127) (tgt := 128) hx hb dX2_act_1 (by decide) (by decide) (by decide) ?_
                  refine lv_aload_n hx hb dX2_act_128 rfl (lv_at hl 0 rfl) ?_
                  obtain ⟨x34, μ35, hc33, h⟩ := ca2_some h
                  refine rc_vi (o := 6) (As := []) X hI (c_E_pop l D cI ρ g (by omega) hc33) rfl rfl gV_X2_90 hd_X2_pop (by decide) (Nat.le_refl _) hl.1 rfl (Nat.le_of_ble_eq_true rfl) dX2_act_129 (fun H locs hI => ?_)
                  refine lv_pop hx hb dX2_act_132 rfl ?_
                  refine lv_goto (tgt := 222) hx hb dX2_act_133 (by decide) ?_
                  cases h
                  exact hend H locs _ _ hI dX2_act_222
                · have h := it_neg c32 h
                  by_cases c36 : a1 = (44 : Int32)
                  · have h := it_pos c36 h
                    refine rg_top c36.symm ?_
                    refine lv_lookup (off := 135) (tgt := 136) hx hb dX2_act_1 (by decide) (by decide) (by decide) ?_
                    refine lv_aload_n hx hb dX2_act_136 rfl (lv_at hl 0 rfl) ?_
                    refine lv_aload_n hx hb dX2_act_137 rfl (lv_at hl 0 rfl) ?_
                    obtain ⟨x38, μ39, hc37, h⟩ := ca2_some h
                    refine rc_vi (o := 6) (As := []) X hI (c_E_pop l D cI ρ g (by omega) hc37) rfl rfl gV_X2_90 hd_X2_pop (by decide) (Nat.le_refl _) hl.1 rfl (Nat.le_of_ble_eq_true rfl) dX2_act_138 (fun H locs hI => ?_)
                    obtain ⟨μ41, hc40, h⟩ := ca_some h
                    refine rc_vv (o := 6) (As := [.int x38]) X hI (c_E_show l D cI ρ g (by omega) hc40) rfl rfl gV_X2_93 hd_X2_show (by decide) (Nat.le_refl _) hl.1 rfl (Nat.le_of_ble_eq_true rfl) dX2_act_141 (fun H locs hI => ?_)
                    refine lv_goto (tgt := 222) hx hb dX2_act_144 (by decide) ?_
                    cases h
                    exact hend H locs _ _ hI dX2_act_222
                  · have h := it_neg c36 h
                    by_cases c42 : a1 = (45 : Int32)
                    · have h := it_pos c42 h
                      refine rg_top c42.symm ?_
                      refine lv_lookup (off := 153) (tgt := 154) hx hb dX2_act_1 (by decide) (by decide) (by decide) ?_
                      refine lv_aload_n hx hb dX2_act_154 rfl (lv_at hl 0 rfl) ?_
                      refine lv_iload_n hx hb dX2_act_155 rfl (lv_at hl 2 rfl) ?_
                      refine rg_put X hI (o := 6) (j := 13) (k := 233) rfl rfl rfl rfl inG2 tyX2 tyX2_ok nmX2 (by decide) rfl wF_X2_46 rfl rfl rfl rfl dX2_act_156 (fun H locs hI => ?_)
                      obtain ⟨μ43, eμ43, h⟩ := nm_some h
                      rw [← eμ43] at hI
                      refine lv_goto (tgt := 222) hx hb dX2_act_159 (by decide) ?_
                      cases h
                      exact hend H locs _ _ hI dX2_act_222
                    · have h := it_neg c42 h
                      by_cases c44 : a1 = (46 : Int32)
                      · have h := it_pos c44 h
                        refine rg_top c44.symm ?_
                        refine lv_lookup (off := 161) (tgt := 162) hx hb dX2_act_1 (by decide) (by decide) (by decide) ?_
                        refine lv_aload_n hx hb dX2_act_162 rfl (lv_at hl 0 rfl) ?_
                        obtain ⟨x46, μ47, hc45, h⟩ := ca2_some h
                        refine rc_vi (o := 6) (As := []) X hI (c_E_pop l D cI ρ g (by omega) hc45) rfl rfl gV_X2_90 hd_X2_pop (by decide) (Nat.le_refl _) hl.1 rfl (Nat.le_of_ble_eq_true rfl) dX2_act_163 (fun H locs hI => ?_)
                        refine lv_if_ne (tgt := 222) hx hb dX2_act_166 (by decide) (fun c48 => ?_) (fun c48 => ?_)
                        · have h := it_neg c48 h
                          cases h
                          exact hend H locs _ _ hI dX2_act_222
                        · have h := it_pos c48 h
                          refine lv_aload_n hx hb dX2_act_169 rfl (lv_at hl 0 rfl) ?_
                          refine lv_iload_n hx hb dX2_act_170 rfl (lv_at hl 2 rfl) ?_
                          refine rg_put X hI (o := 6) (j := 13) (k := 233) rfl rfl rfl rfl inG2 tyX2 tyX2_ok nmX2 (by decide) rfl wF_X2_46 rfl rfl rfl rfl dX2_act_171 (fun H locs hI => ?_)
                          obtain ⟨μ49, eμ49, h⟩ := nm_some h
                          rw [← eμ49] at hI
                          refine lv_goto (tgt := 222) hx hb dX2_act_174 (by decide) ?_
                          cases h
                          exact hend H locs _ _ hI dX2_act_222
                      · have h := it_neg c44 h
                        have hdf : W p l e (rmL (g + 1)) s m args below meth c H locs 0 0 Q (F0 m 216 ls []) := by
                          refine lv_aload_n hx hb dX2_act_216 rfl (lv_at hl 0 rfl) ?_
                          refine lv_iload_n hx hb dX2_act_217 rfl (lv_at hl 1 rfl) ?_
                          refine lv_iload_n hx hb dX2_act_218 rfl (lv_at hl 2 rfl) ?_
                          obtain ⟨μ51, hc50, h⟩ := ca_some h
                          refine rc_vv (o := 6) (As := [.int a1, .int a2]) X hI (c_E_actOnVariable l D cI ρ g (by omega) hc50) rfl rfl gV_X2_102 hd_X2_actOnVariable (by decide) (Nat.le_refl _) hl.1 rfl (Nat.le_of_ble_eq_true rfl) dX2_act_219 (fun H locs hI => ?_)
                          cases h
                          exact hend H locs _ _ hI dX2_act_222
                        have c1 := ne_toInt (z := 0) rfl c1
                        have c4 := ne_toInt (z := 20) rfl c4
                        have c15 := ne_toInt (z := 32) rfl c15
                        have c17 := ne_toInt (z := 33) rfl c17
                        have c20 := ne_toInt (z := 34) rfl c20
                        have c23 := ne_toInt (z := 35) rfl c23
                        have c29 := ne_toInt (z := 42) rfl c29
                        have c32 := ne_toInt (z := 43) rfl c32
                        have c36 := ne_toInt (z := 44) rfl c36
                        have c42 := ne_toInt (z := 45) rfl c42
                        have c44 := ne_toInt (z := 46) rfl c44
                        exact lv_lookup (off := 215) (tgt := 216) hx hb dX2_act_1 (by decide) (rg_lookD (ps := [(0, 112), (20, 196), (32, 99), (33, 176), (34, 146), (35, 184), (42, 119), (43, 127), (44, 135), (45, 153), (46, 161)]) (by simp; omega)) (by decide) hdf
set_option maxHeartbeats 4000000 in
set_option maxRecDepth 100000 in
theorem c_E_begin (l : Launch) (D : va_G) (cI : ClassId) (ρ : Nat → Nat) {N : Nat} (hgt : Nat) (hh : 3 ≤ hgt)  {μ ν : St} (h : f_E_begin N μ = some ν) : CV l yX2_begin cX2_begin 1 hgt TC cI D ρ [.ref (ρ 6)] μ ν := by
  obtain ⟨g, rfl⟩ : ∃ g, hgt = g + 1 := ⟨hgt - 1, by omega⟩
  unfold f_E_begin at h
  refine CV_of (own := RX2) (by decide) rfl (Nat.le_of_ble_eq_true rfl) ?_
  intro p e s m args below meth c Q A H locs X hI hend ls hl
  have hx := X.1.1
  have hb := X.1.2.1
  have hl : lv_has ls 1 [(0, .ref (ρ 6))] := hl
  refine lv_aload_n hx hb dX2_begin_0 rfl (lv_at hl 0 rfl) ?_
  obtain ⟨μ2, hc1, h⟩ := ca_some h
  refine rc_vv (o := 6) (As := []) X hI (c_E_clear l D cI ρ g (by omega) hc1) rfl rfl gV_X2_57 hd_X2_clear (by decide) (Nat.le_refl _) hl.1 rfl (Nat.le_of_ble_eq_true rfl) dX2_begin_1 (fun H locs hI => ?_)
  refine lv_aload_n hx hb dX2_begin_4 rfl (lv_at hl 0 rfl) ?_
  refine lv_iconst (v := 0) hx hb dX2_begin_5 (by decide) ?_
  obtain ⟨μ4, hc3, h⟩ := ca_some h
  refine rc_vv (o := 6) (As := [.int (0 : Int32)]) X hI (c_E_enter l D cI ρ g (by omega) hc3) rfl rfl gV_X2_60 hd_X2_enter (by decide) (Nat.le_refl _) hl.1 rfl (Nat.le_of_ble_eq_true rfl) dX2_begin_6 (fun H locs hI => ?_)
  refine lv_aload_n hx hb dX2_begin_9 rfl (lv_at hl 0 rfl) ?_
  refine lv_iconst (v := 1) hx hb dX2_begin_10 (by decide) ?_
  refine rg_put X hI (o := 6) (j := 8) (k := 228) rfl rfl rfl rfl inG2 tyX2 tyX2_ok nmX2 (by decide) rfl wF_X2_30 rfl rfl rfl rfl dX2_begin_11 (fun H locs hI => ?_)
  obtain ⟨μ5, eμ5, h⟩ := nm_some h
  rw [← eμ5] at hI
  cases h
  exact hend H locs _ _ hI dX2_begin_14
set_option maxHeartbeats 4000000 in
set_option maxRecDepth 100000 in
theorem c_E_go (l : Launch) (D : va_G) (cI : ClassId) (ρ : Nat → Nat) {N : Nat} (hgt : Nat) (hh : 6 ≤ hgt) {a1 : Int32} {μ ν : St} {r : Int32} (h : f_E_go N a1 μ = some (r, ν)) : CI l yX2_go cX2_go 6 (some .int) hgt TC cI D ρ [.ref (ρ 6), .int a1] μ r ν := by
  obtain ⟨g, rfl⟩ : ∃ g, hgt = g + 1 := ⟨hgt - 1, by omega⟩
  unfold f_E_go at h
  refine CI_of (own := RX2) (by decide) rfl (Nat.le_of_ble_eq_true rfl) rfl ?_
  intro p e s m args below meth c Q A H locs X hI hend ls hl
  have hx := X.1.1
  have hb := X.1.2.1
  have hl : lv_has ls 6 [(0, .ref (ρ 6)), (1, .int a1)] := hl
  refine lv_aload_n hx hb dX2_go_0 rfl (lv_at hl 0 rfl) ?_
  refine rg_get X hI (o := 6) (j := 8) (k := 228) rfl rfl rfl inG2 (by decide) rfl wF_X2_30 dX2_go_1 ?_
  refine lv_iconst (v := 2) hx hb dX2_go_4 (by decide) ?_
  obtain ⟨k2, ek2, h⟩ := jn_some h
  have hj3 : ∀ (μ1 : St) (H : Heap) (locs : List Loc) (ls : Array Slot), lv_has ls 6 [(0, .ref (ρ 6)), (1, .int a1)] → RI TC cI D A s.heap ρ μ1 H locs → k2 μ1 = some (r, ν) → W p l e (rmL (g + 1)) s m args below meth c H locs 0 0 Q (F0 m 23 ls []) := by
    intro μ1 H locs ls hl hI h
    rw [ek2] at h
    try dsimp only at h
    refine lv_aload_n hx hb dX2_go_23 rfl (lv_at hl 0 rfl) ?_
    refine rg_get X hI (o := 6) (j := 9) (k := 229) rfl rfl rfl inG2 (by decide) rfl wF_X2_34 dX2_go_24 ?_
    refine lv_iload_n hx hb dX2_go_27 rfl (lv_at hl 1 rfl) ?_
    refine lv_iadd hx hb dX2_go_28 ?_
    obtain ⟨x4, ex4, h⟩ := nm_some h
    refine rg_top ex4 ?_
    refine lv_istore_n (lv' := [(2, .int x4), (0, .ref (ρ 6)), (1, .int a1)]) hx hb dX2_go_29 rfl hl (by decide) rfl (fun ls hl => ?_)
    refine lv_iconst (v := 0) hx hb dX2_go_30 (by decide) ?_
    refine lv_istore_n (lv' := [(3, .int (0 : Int32)), (2, .int x4), (0, .ref (ρ 6)), (1, .int a1)]) hx hb dX2_go_31 rfl hl (by decide) rfl (fun ls hl => ?_)
    refine lp_elim (fun (k7 : Int32 → St → Option (Int32 × St)) => ∀ (x5 : Int32) (μ6 : St) (H : Heap) (locs : List Loc) (ls : Array Slot), lv_has ls 6 [(0, .ref (ρ 6)), (2, .int x4), (3, .int x5)] → RI TC cI D A s.heap ρ μ6 H locs → k7 x5 μ6 = some (r, ν) → W p l e (rmL (g + 1)) s m args below meth c H locs 0 0 Q (F0 m 32 ls [])) ?_ ?_ N (0 : Int32) μ1 H locs ls (lv_sub hl [2, 1, 0] rfl) hI h
    · intro x5 μ6 H locs ls hl hI h
      cases h
    · intro k7 ih8 x5 μ6 H locs ls hl hI h
      try dsimp only at h
      refine lv_iload_n hx hb dX2_go_32 rfl (lv_at hl 2 rfl) ?_
      refine lv_ldc (v := 1000000) hx hb X.1.2.2.2.1 (X.1.2.2.2.2 _ wK_X2_70) dX2_go_33 ?_
      refine lv_icmp_ge (tgt := 114) hx hb dX2_go_35 (by decide) (fun c9 => ?_) (fun c9 => ?_)
      · have h := it_pos c9 h
        refine lv_aload_n hx hb dX2_go_114 rfl (lv_at hl 0 rfl) ?_
        refine rg_get X hI (o := 6) (j := 8) (k := 228) rfl rfl rfl inG2 (by decide) rfl wF_X2_30 dX2_go_115 ?_
        cases h
        exact hend H locs _ _ hI dX2_go_118
      · have h := it_neg c9 h
        refine lv_aload_n hx hb dX2_go_38 rfl (lv_at hl 0 rfl) ?_
        refine rg_get X hI (o := 6) (j := 8) (k := 228) rfl rfl rfl inG2 (by decide) rfl wF_X2_30 dX2_go_39 ?_
        refine lv_iconst (v := 1) hx hb dX2_go_42 (by decide) ?_
        refine lv_icmp_ne (tgt := 114) hx hb dX2_go_43 (by decide) (fun c10 => ?_) (fun c10 => ?_)
        · have h := it_neg c10 h
          refine lv_aload_n hx hb dX2_go_114 rfl (lv_at hl 0 rfl) ?_
          refine rg_get X hI (o := 6) (j := 8) (k := 228) rfl rfl rfl inG2 (by decide) rfl wF_X2_30 dX2_go_115 ?_
          cases h
          exact hend H locs _ _ hI dX2_go_118
        · have h := it_pos c10 h
          refine lv_aload_n hx hb dX2_go_46 rfl (lv_at hl 0 rfl) ?_
          refine rg_getR X hI (o := 6) (j := 0) (k := 3) rfl rfl rfl inG2 (by decide) rfl wF_X2_49 dX2_go_47 ?_
          refine lv_aload_n hx hb dX2_go_50 rfl (lv_at hl 0 rfl) ?_
          refine rg_get X hI (o := 6) (j := 13) (k := 233) rfl rfl rfl inG2 (by decide) rfl wF_X2_46 dX2_go_51 ?_
          obtain ⟨x12, hc11, h⟩ := ca_some h
          refine rc_vi (o := 3) (As := [.int (μ6 233 0)]) X hI (c_P_stepAt l D cI ρ g (by omega) hc11) rfl rfl gV_X2_71 hd_X3_stepAt (by decide) (Nat.le_refl _) hl.1 rfl (Nat.le_of_ble_eq_true rfl) dX2_go_54 (fun H locs hI => ?_)
          refine lv_istore (lv' := [(4, .int x12), (0, .ref (ρ 6)), (2, .int x4), (3, .int x5)]) hx hb dX2_go_57 hl (by decide) rfl (fun ls hl => ?_)
          refine lv_iload hx hb dX2_go_59 (lv_at hl 0 rfl) ?_
          refine lv_bipush (v := 32) hx hb dX2_go_61 (by decide) ?_
          obtain ⟨k14, ek14, h⟩ := jn_some h
          have hj15 : ∀ (ls : Array Slot), lv_has ls 6 [(0, .ref (ρ 6)), (2, .int x4), (3, .int x5), (4, .int x12)] → k14 = some (r, ν) → W p l e (rmL (g + 1)) s m args below meth c H locs 0 0 Q (F0 m 77 ls []) := by
            intro ls hl h
            rw [ek14] at h
            refine lv_aload_n hx hb dX2_go_77 rfl (lv_at hl 0 rfl) ?_
            refine rg_getR X hI (o := 6) (j := 0) (k := 3) rfl rfl rfl inG2 (by decide) rfl wF_X2_49 dX2_go_78 ?_
            refine lv_aload_n hx hb dX2_go_81 rfl (lv_at hl 0 rfl) ?_
            refine rg_get X hI (o := 6) (j := 13) (k := 233) rfl rfl rfl inG2 (by decide) rfl wF_X2_46 dX2_go_82 ?_
            obtain ⟨x17, hc16, h⟩ := ca_some h
            refine rc_vi (o := 3) (As := [.int (μ6 233 0)]) X hI (c_P_operandAt l D cI ρ g (by omega) hc16) rfl rfl gV_X2_77 hd_X3_operandAt (by decide) (Nat.le_refl _) hl.1 rfl (Nat.le_of_ble_eq_true rfl) dX2_go_85 (fun H locs hI => ?_)
            refine lv_istore (lv' := [(5, .int x17), (0, .ref (ρ 6)), (2, .int x4), (3, .int x5), (4, .int x12)]) hx hb dX2_go_88 hl (by decide) rfl (fun ls hl => ?_)
            refine lv_aload_n hx hb dX2_go_90 rfl (lv_at hl 1 rfl) ?_
            refine lv_dup hx hb dX2_go_91 rfl ?_
            refine rg_get X hI (o := 6) (j := 13) (k := 233) rfl rfl rfl inG2 (by decide) rfl wF_X2_46 dX2_go_92 ?_
            refine lv_iconst (v := 1) hx hb dX2_go_95 (by decide) ?_
            refine lv_iadd hx hb dX2_go_96 ?_
            refine rg_put X hI (o := 6) (j := 13) (k := 233) rfl rfl rfl rfl inG2 tyX2 tyX2_ok nmX2 (by decide) rfl wF_X2_46 rfl rfl rfl rfl dX2_go_97 (fun H locs hI => ?_)
            obtain ⟨μ18, eμ18, h⟩ := nm_some h
            rw [← eμ18] at hI
            refine lv_aload_n hx hb dX2_go_100 rfl (lv_at hl 1 rfl) ?_
            refine lv_iload hx hb dX2_go_101 (lv_at hl 4 rfl) ?_
            refine lv_iload hx hb dX2_go_103 (lv_at hl 0 rfl) ?_
            obtain ⟨μ20, hc19, h⟩ := ca_some h
            refine rc_vv (o := 6) (As := [.int x12, .int x17]) X hI (c_E_act l D cI ρ g (by omega) hc19) rfl rfl gV_X2_80 hd_X2_act (by decide) (Nat.le_refl _) hl.1 rfl (Nat.le_of_ble_eq_true rfl) dX2_go_105 (fun H locs hI => ?_)
            obtain ⟨x21, ex21, h⟩ := nm_some h
            refine lv_iinc (v := x21) (lv' := [(3, .int x21), (5, .int x17), (0, .ref (ρ 6)), (2, .int x4), (4, .int x12)]) hx hb dX2_go_108 hl (k := 3) rfl (by rw [ex21]; rfl) (by decide) rfl (fun ls hl => ?_)
            refine lv_goto (tgt := 32) hx hb dX2_go_111 (by decide) ?_
            exact ih8 x21 μ20 H locs ls (lv_sub hl [2, 3, 0] rfl) hI h
          refine lv_icmp_ne (tgt := 77) hx hb dX2_go_63 (by decide) (fun c22 => ?_) (fun c22 => ?_)
          · have h := it_neg c22 h
            exact hj15 ls (lv_sub hl [1, 2, 3, 0] rfl) h
          · have h := it_pos c22 h
            refine lv_aload_n hx hb dX2_go_66 rfl (lv_at hl 1 rfl) ?_
            refine rg_get X hI (o := 6) (j := 9) (k := 229) rfl rfl rfl inG2 (by decide) rfl wF_X2_34 dX2_go_67 ?_
            refine lv_iload_n hx hb dX2_go_70 rfl (lv_at hl 2 rfl) ?_
            refine lv_icmp_lt (tgt := 77) hx hb dX2_go_71 (by decide) (fun c23 => ?_) (fun c23 => ?_)
            · have h := it_pos c23 h
              exact hj15 ls (lv_sub hl [1, 2, 3, 0] rfl) h
            · have h := it_neg c23 h
              refine lv_goto (tgt := 114) hx hb dX2_go_74 (by decide) ?_
              refine lv_aload_n hx hb dX2_go_114 rfl (lv_at hl 1 rfl) ?_
              refine rg_get X hI (o := 6) (j := 8) (k := 228) rfl rfl rfl inG2 (by decide) rfl wF_X2_30 dX2_go_115 ?_
              cases h
              exact hend H locs _ _ hI dX2_go_118
  refine lv_icmp_ne (tgt := 23) hx hb dX2_go_5 (by decide) (fun c24 => ?_) (fun c24 => ?_)
  · have h := it_neg c24 h
    exact hj3 μ H locs ls (lv_sub hl [0, 1] rfl) hI h
  · have h := it_pos c24 h
    refine lv_aload_n hx hb dX2_go_8 rfl (lv_at hl 0 rfl) ?_
    refine rg_getR X hI (o := 6) (j := 1) (k := 2) rfl rfl rfl inG2 (by decide) rfl wF_X2_53 dX2_go_9 ?_
    obtain ⟨x26, hc25, h⟩ := ca_some h
    refine rc_vi (o := 2) (As := []) X hI (c_K_count l D cI ρ g (by omega) hc25) rfl rfl gV_X2_64 hd_X1_count (by decide) (Nat.le_refl _) hl.1 rfl (Nat.le_of_ble_eq_true rfl) dX2_go_12 (fun H locs hI => ?_)
    refine lv_if_le (tgt := 23) hx hb dX2_go_15 (by decide) (fun c27 => ?_) (fun c27 => ?_)
    · have h := it_pos c27 h
      exact hj3 μ H locs ls (lv_sub hl [0, 1] rfl) hI h
    · have h := it_neg c27 h
      refine lv_aload_n hx hb dX2_go_18 rfl (lv_at hl 0 rfl) ?_
      refine lv_iconst (v := 1) hx hb dX2_go_19 (by decide) ?_
      refine rg_put X hI (o := 6) (j := 8) (k := 228) rfl rfl rfl rfl inG2 tyX2 tyX2_ok nmX2 (by decide) rfl wF_X2_30 rfl rfl rfl rfl dX2_go_20 (fun H locs hI => ?_)
      obtain ⟨μ28, eμ28, h⟩ := nm_some h
      rw [← eμ28] at hI
      exact hj3 μ28 H locs ls (lv_sub hl [0, 1] rfl) hI h
set_option maxHeartbeats 4000000 in
set_option maxRecDepth 100000 in
theorem c_S_byteOf (l : Launch) (D : va_G) (cI : ClassId) (ρ : Nat → Nat) (hgt : Nat) (hh : 1 ≤ hgt) {a0 : Int32} {a1 : Int32} {μ : St} {r : Int32} (h : f_S_byteOf a0 a1 = some r) : CI l yX5_byteOf cX5_byteOf 2 (some .int) hgt TC cI D ρ [.int a0, .int a1] μ r μ := by
  obtain ⟨g, rfl⟩ : ∃ g, hgt = g + 1 := ⟨hgt - 1, by omega⟩
  unfold f_S_byteOf at h
  refine CI_of (own := RX5) (by decide) rfl (Nat.le_of_ble_eq_true rfl) rfl ?_
  intro p e s m args below meth c Q A H locs X hI hend ls hl
  have hx := X.1.1
  have hb := X.1.2.1
  have hl : lv_has ls 2 [(0, .int a0), (1, .int a1)] := hl
  refine lv_iload_n hx hb dX5_byteOf_0 rfl (lv_at hl 0 rfl) ?_
  refine lv_bipush (v := 8) hx hb dX5_byteOf_1 (by decide) ?_
  refine lv_iload_n hx hb dX5_byteOf_3 rfl (lv_at hl 1 rfl) ?_
  refine lv_imul hx hb dX5_byteOf_4 ?_
  refine lv_iushr hx hb dX5_byteOf_5 rfl ?_
  refine lv_sipush (v := 255) hx hb dX5_byteOf_6 (by decide) ?_
  refine lv_iand hx hb dX5_byteOf_9 ?_
  cases h
  exact hend H locs _ _ hI dX5_byteOf_10
set_option maxHeartbeats 4000000 in
set_option maxRecDepth 100000 in
theorem c_S_compile (l : Launch) (D : va_G) (cI : ClassId) (ρ : Nat → Nat) {N : Nat} (hgt : Nat) (hh : 125 ≤ hgt)  {μ ν : St} {r : Int32} (h : f_S_compile N μ = some (r, ν)) : CI l yX5_compile cX5_compile 2 (some .int) hgt TC cI D ρ [.ref (ρ 0)] μ r ν := by
  obtain ⟨g, rfl⟩ : ∃ g, hgt = g + 1 := ⟨hgt - 1, by omega⟩
  unfold f_S_compile at h
  refine CI_of (own := RX5) (by decide) rfl (Nat.le_of_ble_eq_true rfl) rfl ?_
  intro p e s m args below meth c Q A H locs X hI hend ls hl
  have hx := X.1.1
  have hb := X.1.2.1
  have hl : lv_has ls 2 [(0, .ref (ρ 0))] := hl
  refine lv_aload_n hx hb dX5_compile_0 rfl (lv_at hl 0 rfl) ?_
  refine rg_getR X hI (o := 0) (j := 4) (k := 5) rfl rfl rfl inG5 (by decide) rfl wF_X5_38 dX5_compile_1 ?_
  obtain ⟨x2, μ3, hc1, h⟩ := ca2_some h
  refine rc_vi (o := 5) (As := []) X hI (c_G_fault l D cI ρ g (by omega) hc1) rfl rfl gV_X5_77 hd_X0_fault (by decide) (Nat.le_refl _) hl.1 rfl (Nat.le_of_ble_eq_true rfl) dX5_compile_4 (fun H locs hI => ?_)
  refine lv_istore_n (lv' := [(1, .int x2), (0, .ref (ρ 0))]) hx hb dX5_compile_7 rfl hl (by decide) rfl (fun ls hl => ?_)
  refine lv_aload_n hx hb dX5_compile_8 rfl (lv_at hl 1 rfl) ?_
  refine rg_getR X hI (o := 0) (j := 0) (k := 1) rfl rfl rfl inG5 (by decide) rfl wF_X5_10 dX5_compile_9 ?_
  obtain ⟨μ5, hc4, h⟩ := ca_some h
  refine rc_vv (o := 1) (As := []) X hI (c_T_clear l D cI ρ g (by omega) hc4) rfl rfl gV_X5_80 hd_X4_clear (by decide) (Nat.le_refl _) hl.1 rfl (Nat.le_of_ble_eq_true rfl) dX5_compile_12 (fun H locs hI => ?_)
  refine lv_iload_n hx hb dX5_compile_15 rfl (lv_at hl 0 rfl) ?_
  refine lv_if_eq (tgt := 21) hx hb dX5_compile_16 (by decide) (fun c6 => ?_) (fun c6 => ?_)
  · have h := it_pos c6 h
    refine lv_aload_n hx hb dX5_compile_21 rfl (lv_at hl 1 rfl) ?_
    refine rg_getR X hI (o := 0) (j := 2) (k := 3) rfl rfl rfl inG5 (by decide) rfl wF_X5_26 dX5_compile_22 ?_
    refine lv_aload_n hx hb dX5_compile_25 rfl (lv_at hl 1 rfl) ?_
    refine rg_getR X hI (o := 0) (j := 3) (k := 4) rfl rfl rfl inG5 (by decide) rfl wF_X5_30 dX5_compile_26 ?_
    obtain ⟨μ8, hc7, h⟩ := ca_some h
    refine rc_vv (o := 3) (As := [.ref (ρ 4)]) X hI (c_P_copy l D cI ρ g (by omega) hc7) rfl rfl gV_X5_83 hd_X3_copy (by decide) (Nat.le_refl _) hl.1 rfl (Nat.le_of_ble_eq_true rfl) dX5_compile_29 (fun H locs hI => ?_)
    refine lv_aload_n hx hb dX5_compile_32 rfl (lv_at hl 1 rfl) ?_
    refine rg_getR X hI (o := 0) (j := 5) (k := 6) rfl rfl rfl inG5 (by decide) rfl wF_X5_47 dX5_compile_33 ?_
    obtain ⟨μ10, hc9, h⟩ := ca_some h
    refine rc_vv (o := 6) (As := []) X hI (c_E_clear l D cI ρ g (by omega) hc9) rfl rfl gV_X5_87 hd_X2_clear (by decide) (Nat.le_refl _) hl.1 rfl (Nat.le_of_ble_eq_true rfl) dX5_compile_36 (fun H locs hI => ?_)
    refine lv_aload_n hx hb dX5_compile_39 rfl (lv_at hl 1 rfl) ?_
    refine rg_getR X hI (o := 0) (j := 2) (k := 3) rfl rfl rfl inG5 (by decide) rfl wF_X5_26 dX5_compile_40 ?_
    obtain ⟨x12, hc11, h⟩ := ca_some h
    refine rc_vi (o := 3) (As := []) X hI (c_P_functions l D cI ρ g (by omega) hc11) rfl rfl gV_X5_88 hd_X3_functions (by decide) (Nat.le_refl _) hl.1 rfl (Nat.le_of_ble_eq_true rfl) dX5_compile_43 (fun H locs hI => ?_)
    cases h
    exact hend H locs _ _ hI dX5_compile_46
  · have h := it_neg c6 h
    refine lv_iload_n hx hb dX5_compile_19 rfl (lv_at hl 0 rfl) ?_
    cases h
    exact hend H locs _ _ hI dX5_compile_20
set_option maxHeartbeats 4000000 in
set_option maxRecDepth 100000 in
theorem c_S_about (l : Launch) (D : va_G) (cI : ClassId) (ρ : Nat → Nat) (hgt : Nat) (hh : 2 ≤ hgt) {a1 : Int32} {μ : St} {r : Int32} (h : f_S_about a1 μ = some r) : CI l yX5_about cX5_about 2 (some .int) hgt TC cI D ρ [.ref (ρ 0), .int a1] μ r μ := by
  obtain ⟨g, rfl⟩ : ∃ g, hgt = g + 1 := ⟨hgt - 1, by omega⟩
  unfold f_S_about at h
  refine CI_of (own := RX5) (by decide) rfl (Nat.le_of_ble_eq_true rfl) rfl ?_
  intro p e s m args below meth c Q A H locs X hI hend ls hl
  have hx := X.1.1
  have hb := X.1.2.1
  have hl : lv_has ls 2 [(0, .ref (ρ 0)), (1, .int a1)] := hl
  refine lv_iload_n hx hb dX5_about_0 rfl (lv_at hl 1 rfl) ?_
  by_cases c1 : a1 = (0 : Int32)
  · have h := it_pos c1 h
    refine rg_top c1.symm ?_
    refine lv_tableIn (off := 43) (tgt := 44) hx hb dX5_about_1 (by decide) (by decide) (by decide) (by decide) ?_
    refine lv_aload_n hx hb dX5_about_44 rfl (lv_at hl 0 rfl) ?_
    refine rg_getR X hI (o := 0) (j := 5) (k := 6) rfl rfl rfl inG5 (by decide) rfl wF_X5_47 dX5_about_45 ?_
    obtain ⟨x3, hc2, h⟩ := ca_some h
    refine rc_vi (o := 6) (As := []) X hI (c_E_state l D cI ρ g (by omega) hc2) rfl rfl gV_X5_110 hd_X2_state (by decide) (Nat.le_refl _) hl.1 rfl (Nat.le_of_ble_eq_true rfl) dX5_about_48 (fun H locs hI => ?_)
    cases h
    exact hend H locs _ _ hI dX5_about_51
  · have h := it_neg c1 h
    by_cases c4 : a1 = (1 : Int32)
    · have h := it_pos c4 h
      refine rg_top c4.symm ?_
      refine lv_tableIn (off := 51) (tgt := 52) hx hb dX5_about_1 (by decide) (by decide) (by decide) (by decide) ?_
      refine lv_aload_n hx hb dX5_about_52 rfl (lv_at hl 0 rfl) ?_
      refine rg_getR X hI (o := 0) (j := 0) (k := 1) rfl rfl rfl inG5 (by decide) rfl wF_X5_10 dX5_about_53 ?_
      obtain ⟨x6, hc5, h⟩ := ca_some h
      refine rc_vi (o := 1) (As := []) X hI (c_T_length l D cI ρ g (by omega) hc5) rfl rfl gV_X5_64 hd_X4_length (by decide) (Nat.le_refl _) hl.1 rfl (Nat.le_of_ble_eq_true rfl) dX5_about_56 (fun H locs hI => ?_)
      cases h
      exact hend H locs _ _ hI dX5_about_59
    · have h := it_neg c4 h
      by_cases c7 : a1 = (2 : Int32)
      · have h := it_pos c7 h
        refine rg_top c7.symm ?_
        refine lv_tableIn (off := 59) (tgt := 60) hx hb dX5_about_1 (by decide) (by decide) (by decide) (by decide) ?_
        refine lv_aload_n hx hb dX5_about_60 rfl (lv_at hl 0 rfl) ?_
        refine rg_getR X hI (o := 0) (j := 2) (k := 3) rfl rfl rfl inG5 (by decide) rfl wF_X5_26 dX5_about_61 ?_
        obtain ⟨x9, hc8, h⟩ := ca_some h
        refine rc_vi (o := 3) (As := []) X hI (c_P_functions l D cI ρ g (by omega) hc8) rfl rfl gV_X5_88 hd_X3_functions (by decide) (Nat.le_refl _) hl.1 rfl (Nat.le_of_ble_eq_true rfl) dX5_about_64 (fun H locs hI => ?_)
        cases h
        exact hend H locs _ _ hI dX5_about_67
      · have h := it_neg c7 h
        by_cases c10 : a1 = (3 : Int32)
        · have h := it_pos c10 h
          refine rg_top c10.symm ?_
          refine lv_tableIn (off := 67) (tgt := 68) hx hb dX5_about_1 (by decide) (by decide) (by decide) (by decide) ?_
          refine lv_aload_n hx hb dX5_about_68 rfl (lv_at hl 0 rfl) ?_
          refine rg_getR X hI (o := 0) (j := 5) (k := 6) rfl rfl rfl inG5 (by decide) rfl wF_X5_47 dX5_about_69 ?_
          obtain ⟨x12, hc11, h⟩ := ca_some h
          refine rc_vi (o := 6) (As := []) X hI (c_E_begun l D cI ρ g (by omega) hc11) rfl rfl gV_X5_141 hd_X2_begun (by decide) (Nat.le_refl _) hl.1 rfl (Nat.le_of_ble_eq_true rfl) dX5_about_72 (fun H locs hI => ?_)
          cases h
          exact hend H locs _ _ hI dX5_about_75
        · have h := it_neg c10 h
          by_cases c13 : a1 = (4 : Int32)
          · have h := it_pos c13 h
            refine rg_top c13.symm ?_
            refine lv_tableIn (off := 75) (tgt := 76) hx hb dX5_about_1 (by decide) (by decide) (by decide) (by decide) ?_
            refine lv_aload_n hx hb dX5_about_76 rfl (lv_at hl 0 rfl) ?_
            refine rg_getR X hI (o := 0) (j := 5) (k := 6) rfl rfl rfl inG5 (by decide) rfl wF_X5_47 dX5_about_77 ?_
            obtain ⟨x15, hc14, h⟩ := ca_some h
            refine rc_vi (o := 6) (As := []) X hI (c_E_countShown l D cI ρ g (by omega) hc14) rfl rfl gV_X5_144 hd_X2_countShown (by decide) (Nat.le_refl _) hl.1 rfl (Nat.le_of_ble_eq_true rfl) dX5_about_80 (fun H locs hI => ?_)
            cases h
            exact hend H locs _ _ hI dX5_about_83
          · have h := it_neg c13 h
            by_cases c16 : a1 = (5 : Int32)
            · have h := it_pos c16 h
              refine rg_top c16.symm ?_
              refine lv_tableIn (off := 83) (tgt := 84) hx hb dX5_about_1 (by decide) (by decide) (by decide) (by decide) ?_
              refine lv_aload_n hx hb dX5_about_84 rfl (lv_at hl 0 rfl) ?_
              refine rg_getR X hI (o := 0) (j := 1) (k := 2) rfl rfl rfl inG5 (by decide) rfl wF_X5_19 dX5_about_85 ?_
              obtain ⟨x18, hc17, h⟩ := ca_some h
              refine rc_vi (o := 2) (As := []) X hI (c_K_count l D cI ρ g (by omega) hc17) rfl rfl gV_X5_105 hd_X1_count (by decide) (Nat.le_refl _) hl.1 rfl (Nat.le_of_ble_eq_true rfl) dX5_about_88 (fun H locs hI => ?_)
              cases h
              exact hend H locs _ _ hI dX5_about_91
            · have h := it_neg c16 h
              by_cases c19 : a1 = (6 : Int32)
              · have h := it_pos c19 h
                refine rg_top c19.symm ?_
                refine lv_tableIn (off := 91) (tgt := 92) hx hb dX5_about_1 (by decide) (by decide) (by decide) (by decide) ?_
                refine lv_aload_n hx hb dX5_about_92 rfl (lv_at hl 0 rfl) ?_
                refine rg_getR X hI (o := 0) (j := 5) (k := 6) rfl rfl rfl inG5 (by decide) rfl wF_X5_47 dX5_about_93 ?_
                obtain ⟨x21, hc20, h⟩ := ca_some h
                refine rc_vi (o := 6) (As := []) X hI (c_E_running l D cI ρ g (by omega) hc20) rfl rfl gV_X5_147 hd_X2_running (by decide) (Nat.le_refl _) hl.1 rfl (Nat.le_of_ble_eq_true rfl) dX5_about_96 (fun H locs hI => ?_)
                cases h
                exact hend H locs _ _ hI dX5_about_99
              · have h := it_neg c19 h
                have hdf : W p l e (rmL (g + 1)) s m args below meth c H locs 0 0 Q (F0 m 100 ls []) := by
                  refine lv_iconst (v := -1) hx hb dX5_about_100 (by decide) ?_
                  cases h
                  exact hend H locs _ _ hI dX5_about_101
                have c1 := ne_toInt (z := 0) rfl c1
                have c4 := ne_toInt (z := 1) rfl c4
                have c7 := ne_toInt (z := 2) rfl c7
                have c10 := ne_toInt (z := 3) rfl c10
                have c13 := ne_toInt (z := 4) rfl c13
                have c16 := ne_toInt (z := 5) rfl c16
                have c19 := ne_toInt (z := 6) rfl c19
                exact lv_tableOut (tgt := 100) hx hb dX5_about_1 (by omega) (by decide) hdf
