/-! the class: contracts -/
set_option maxHeartbeats 4000000 in
set_option maxRecDepth 100000 in
theorem c_G_readIf (l : Launch) (D : va_G) (cI : ClassId) (ρ : Nat → Nat) {N : Nat} {rb : Int32 → St → Option St} (hb : Nat) (hb0 : 90 ≤ hb) (hrb : ∀ (o : Int32) (μ ν : St), rb o μ = some ν → ∀ g : Nat, hb ≤ g → CV l yX0_readBlock cX0_readBlock 3 g TC cI D ρ [.ref (ρ 5), .int o] μ ν) (hgt : Nat) (hh : hb + 1 ≤ hgt) {a1 : Int32} {μ ν : St} (h : f_G_readIf N rb a1 μ = some ν) : CV l yX0_readIf cX0_readIf 4 hgt TC cI D ρ [.ref (ρ 5), .int a1] μ ν := by
  obtain ⟨g, rfl⟩ : ∃ g, hgt = g + 1 := ⟨hgt - 1, by omega⟩
  unfold f_G_readIf at h
  refine CV_of (own := RX0) (by decide) rfl (Nat.le_of_ble_eq_true rfl) ?_
  intro p e s m args below meth c Q A H locs X hI hend ls hl
  have hx := X.1.1
  have hbb := X.1.2.1
  have hl : lv_has ls 4 [(0, .ref (ρ 5)), (1, .int a1)] := hl
  refine lv_aload_n hx hbb dX0_readIf_0 rfl (lv_at hl 0 rfl) ?_
  obtain ⟨μ2, hc1, h⟩ := ca_some h
  refine rc_vv (o := 5) (As := []) X hI (c_G_next l D cI ρ g (by omega) hc1) rfl rfl gV_X0_68 hd_X0_next (by decide) (Nat.le_refl _) hl.1 rfl (Nat.le_of_ble_eq_true rfl) dX0_readIf_1 (fun H locs hI => ?_)
  refine lv_aload_n hx hbb dX0_readIf_4 rfl (lv_at hl 0 rfl) ?_
  obtain ⟨μ4, hc3, h⟩ := ca_some h
  refine rc_vv (o := 5) (As := []) X hI (c_G_readChoice l D cI ρ g (by omega) hc3) rfl rfl gV_X0_104 hd_X0_readChoice (by decide) (Nat.le_refl _) hl.1 rfl (Nat.le_of_ble_eq_true rfl) dX0_readIf_5 (fun H locs hI => ?_)
  refine lv_aload_n hx hbb dX0_readIf_8 rfl (lv_at hl 0 rfl) ?_
  refine rg_getR X hI (o := 5) (j := 1) (k := 4) rfl rfl rfl inG0 (by decide) rfl wF_X0_29 dX0_readIf_9 ?_
  refine lv_bipush (v := 46) hx hbb dX0_readIf_12 (by decide) ?_
  refine lv_iconst (v := 0) hx hbb dX0_readIf_14 (by decide) ?_
  obtain ⟨x6, μ7, hc5, h⟩ := ca2_some h
  refine rc_vi (o := 4) (As := [.int (46 : Int32), .int (0 : Int32)]) X hI (c_D_add l D cI ρ g (by omega) hc5) rfl rfl gV_X0_78 hd_X3_add (by decide) (Nat.le_refl _) hl.1 rfl (Nat.le_of_ble_eq_true rfl) dX0_readIf_15 (fun H locs hI => ?_)
  refine lv_istore_n (lv' := [(2, .int x6), (0, .ref (ρ 5)), (1, .int a1)]) hx hbb dX0_readIf_18 rfl hl (by decide) rfl (fun ls hl => ?_)
  refine lv_aload_n hx hbb dX0_readIf_19 rfl (lv_at hl 1 rfl) ?_
  refine lv_iload_n hx hbb dX0_readIf_20 rfl (lv_at hl 2 rfl) ?_
  refine lv_iconst (v := 1) hx hbb dX0_readIf_21 (by decide) ?_
  refine lv_iadd hx hbb dX0_readIf_22 ?_
  obtain ⟨μ9, hc8, h⟩ := ca_some h
  refine rc_vv (o := 5) (As := [.int (a1 + (1 : Int32))]) X hI (hrb _ _ _ hc8 g (by omega)) rfl rfl gV_X0_75 hd_X0_readBlock (by decide) (Nat.le_refl _) hl.1 rfl (Nat.le_of_ble_eq_true rfl) dX0_readIf_23 (fun H locs hI => ?_)
  refine lv_aload_n hx hbb dX0_readIf_26 rfl (lv_at hl 1 rfl) ?_
  obtain ⟨x11, hc10, h⟩ := ca_some h
  refine rc_vi (o := 5) (As := []) X hI (c_G_now l D cI ρ g (by omega) hc10) rfl rfl gV_X0_36 hd_X0_now (by decide) (Nat.le_refl _) hl.1 rfl (Nat.le_of_ble_eq_true rfl) dX0_readIf_27 (fun H locs hI => ?_)
  refine lv_iconst (v := 1) hx hbb dX0_readIf_30 (by decide) ?_
  refine lv_icmp_ne (tgt := 75) hx hbb dX0_readIf_31 (by decide) (fun c12 => ?_) (fun c12 => ?_)
  · have h := it_neg c12 h
    refine lv_aload_n hx hbb dX0_readIf_75 rfl (lv_at hl 1 rfl) ?_
    refine rg_getR X hI (o := 5) (j := 1) (k := 4) rfl rfl rfl inG0 (by decide) rfl wF_X0_29 dX0_readIf_76 ?_
    refine lv_iload_n hx hbb dX0_readIf_79 rfl (lv_at hl 0 rfl) ?_
    obtain ⟨μ14, hc13, h⟩ := ca_some h
    refine rc_vv (o := 4) (As := [.int x6]) X hI (c_D_aim l D cI ρ g (by omega) hc13) rfl rfl gV_X0_107 hd_X3_aim (by decide) (Nat.le_refl _) hl.1 rfl (Nat.le_of_ble_eq_true rfl) dX0_readIf_80 (fun H locs hI => ?_)
    cases h
    exact hend H locs _ _ hI dX0_readIf_83
  · have h := it_pos c12 h
    refine lv_aload_n hx hbb dX0_readIf_34 rfl (lv_at hl 1 rfl) ?_
    obtain ⟨μ16, hc15, h⟩ := ca_some h
    refine rc_vv (o := 5) (As := []) X hI (c_G_next l D cI ρ g (by omega) hc15) rfl rfl gV_X0_68 hd_X0_next (by decide) (Nat.le_refl _) hl.1 rfl (Nat.le_of_ble_eq_true rfl) dX0_readIf_35 (fun H locs hI => ?_)
    refine lv_aload_n hx hbb dX0_readIf_38 rfl (lv_at hl 1 rfl) ?_
    refine rg_getR X hI (o := 5) (j := 1) (k := 4) rfl rfl rfl inG0 (by decide) rfl wF_X0_29 dX0_readIf_39 ?_
    refine lv_bipush (v := 45) hx hbb dX0_readIf_42 (by decide) ?_
    refine lv_iconst (v := 0) hx hbb dX0_readIf_44 (by decide) ?_
    obtain ⟨x18, μ19, hc17, h⟩ := ca2_some h
    refine rc_vi (o := 4) (As := [.int (45 : Int32), .int (0 : Int32)]) X hI (c_D_add l D cI ρ g (by omega) hc17) rfl rfl gV_X0_78 hd_X3_add (by decide) (Nat.le_refl _) hl.1 rfl (Nat.le_of_ble_eq_true rfl) dX0_readIf_45 (fun H locs hI => ?_)
    refine lv_istore_n (lv' := [(3, .int x18), (2, .int x6), (0, .ref (ρ 5)), (1, .int a1)]) hx hbb dX0_readIf_48 rfl hl (by decide) rfl (fun ls hl => ?_)
    refine lv_aload_n hx hbb dX0_readIf_49 rfl (lv_at hl 2 rfl) ?_
    refine rg_getR X hI (o := 5) (j := 1) (k := 4) rfl rfl rfl inG0 (by decide) rfl wF_X0_29 dX0_readIf_50 ?_
    refine lv_iload_n hx hbb dX0_readIf_53 rfl (lv_at hl 1 rfl) ?_
    obtain ⟨μ21, hc20, h⟩ := ca_some h
    refine rc_vv (o := 4) (As := [.int x6]) X hI (c_D_aim l D cI ρ g (by omega) hc20) rfl rfl gV_X0_107 hd_X3_aim (by decide) (Nat.le_refl _) hl.1 rfl (Nat.le_of_ble_eq_true rfl) dX0_readIf_54 (fun H locs hI => ?_)
    refine lv_aload_n hx hbb dX0_readIf_57 rfl (lv_at hl 2 rfl) ?_
    refine lv_iload_n hx hbb dX0_readIf_58 rfl (lv_at hl 3 rfl) ?_
    refine lv_iconst (v := 1) hx hbb dX0_readIf_59 (by decide) ?_
    refine lv_iadd hx hbb dX0_readIf_60 ?_
    obtain ⟨μ23, hc22, h⟩ := ca_some h
    refine rc_vv (o := 5) (As := [.int (a1 + (1 : Int32))]) X hI (hrb _ _ _ hc22 g (by omega)) rfl rfl gV_X0_75 hd_X0_readBlock (by decide) (Nat.le_refl _) hl.1 rfl (Nat.le_of_ble_eq_true rfl) dX0_readIf_61 (fun H locs hI => ?_)
    refine lv_aload_n hx hbb dX0_readIf_64 rfl (lv_at hl 2 rfl) ?_
    refine rg_getR X hI (o := 5) (j := 1) (k := 4) rfl rfl rfl inG0 (by decide) rfl wF_X0_29 dX0_readIf_65 ?_
    refine lv_iload_n hx hbb dX0_readIf_68 rfl (lv_at hl 0 rfl) ?_
    obtain ⟨μ25, hc24, h⟩ := ca_some h
    refine rc_vv (o := 4) (As := [.int x18]) X hI (c_D_aim l D cI ρ g (by omega) hc24) rfl rfl gV_X0_107 hd_X3_aim (by decide) (Nat.le_refl _) hl.1 rfl (Nat.le_of_ble_eq_true rfl) dX0_readIf_69 (fun H locs hI => ?_)
    refine lv_goto (tgt := 83) hx hbb dX0_readIf_72 (by decide) ?_
    cases h
    exact hend H locs _ _ hI dX0_readIf_83
set_option maxHeartbeats 4000000 in
set_option maxRecDepth 100000 in
theorem c_G_readWhile (l : Launch) (D : va_G) (cI : ClassId) (ρ : Nat → Nat) {N : Nat} {rb : Int32 → St → Option St} (hb : Nat) (hb0 : 90 ≤ hb) (hrb : ∀ (o : Int32) (μ ν : St), rb o μ = some ν → ∀ g : Nat, hb ≤ g → CV l yX0_readBlock cX0_readBlock 3 g TC cI D ρ [.ref (ρ 5), .int o] μ ν) (hgt : Nat) (hh : hb + 1 ≤ hgt) {a1 : Int32} {a2 : Int32} {μ ν : St} (h : f_G_readWhile N rb a1 a2 μ = some ν) : CV l yX0_readWhile cX0_readWhile 4 hgt TC cI D ρ [.ref (ρ 5), .int a1, .int a2] μ ν := by
  obtain ⟨g, rfl⟩ : ∃ g, hgt = g + 1 := ⟨hgt - 1, by omega⟩
  unfold f_G_readWhile at h
  refine CV_of (own := RX0) (by decide) rfl (Nat.le_of_ble_eq_true rfl) ?_
  intro p e s m args below meth c Q A H locs X hI hend ls hl
  have hx := X.1.1
  have hbb := X.1.2.1
  have hl : lv_has ls 4 [(0, .ref (ρ 5)), (1, .int a1), (2, .int a2)] := hl
  refine lv_aload_n hx hbb dX0_readWhile_0 rfl (lv_at hl 0 rfl) ?_
  obtain ⟨μ2, hc1, h⟩ := ca_some h
  refine rc_vv (o := 5) (As := []) X hI (c_G_next l D cI ρ g (by omega) hc1) rfl rfl gV_X0_68 hd_X0_next (by decide) (Nat.le_refl _) hl.1 rfl (Nat.le_of_ble_eq_true rfl) dX0_readWhile_1 (fun H locs hI => ?_)
  refine lv_aload_n hx hbb dX0_readWhile_4 rfl (lv_at hl 0 rfl) ?_
  obtain ⟨μ4, hc3, h⟩ := ca_some h
  refine rc_vv (o := 5) (As := []) X hI (c_G_readChoice l D cI ρ g (by omega) hc3) rfl rfl gV_X0_104 hd_X0_readChoice (by decide) (Nat.le_refl _) hl.1 rfl (Nat.le_of_ble_eq_true rfl) dX0_readWhile_5 (fun H locs hI => ?_)
  refine lv_aload_n hx hbb dX0_readWhile_8 rfl (lv_at hl 0 rfl) ?_
  refine rg_getR X hI (o := 5) (j := 1) (k := 4) rfl rfl rfl inG0 (by decide) rfl wF_X0_29 dX0_readWhile_9 ?_
  refine lv_bipush (v := 46) hx hbb dX0_readWhile_12 (by decide) ?_
  refine lv_iconst (v := 0) hx hbb dX0_readWhile_14 (by decide) ?_
  obtain ⟨x6, μ7, hc5, h⟩ := ca2_some h
  refine rc_vi (o := 4) (As := [.int (46 : Int32), .int (0 : Int32)]) X hI (c_D_add l D cI ρ g (by omega) hc5) rfl rfl gV_X0_78 hd_X3_add (by decide) (Nat.le_refl _) hl.1 rfl (Nat.le_of_ble_eq_true rfl) dX0_readWhile_15 (fun H locs hI => ?_)
  refine lv_istore_n (lv' := [(3, .int x6), (0, .ref (ρ 5)), (1, .int a1), (2, .int a2)]) hx hbb dX0_readWhile_18 rfl hl (by decide) rfl (fun ls hl => ?_)
  refine lv_aload_n hx hbb dX0_readWhile_19 rfl (lv_at hl 1 rfl) ?_
  refine lv_iload_n hx hbb dX0_readWhile_20 rfl (lv_at hl 2 rfl) ?_
  refine lv_iconst (v := 1) hx hbb dX0_readWhile_21 (by decide) ?_
  refine lv_iadd hx hbb dX0_readWhile_22 ?_
  obtain ⟨μ9, hc8, h⟩ := ca_some h
  refine rc_vv (o := 5) (As := [.int (a1 + (1 : Int32))]) X hI (hrb _ _ _ hc8 g (by omega)) rfl rfl gV_X0_75 hd_X0_readBlock (by decide) (Nat.le_refl _) hl.1 rfl (Nat.le_of_ble_eq_true rfl) dX0_readWhile_23 (fun H locs hI => ?_)
  refine lv_aload_n hx hbb dX0_readWhile_26 rfl (lv_at hl 1 rfl) ?_
  refine rg_getR X hI (o := 5) (j := 1) (k := 4) rfl rfl rfl inG0 (by decide) rfl wF_X0_29 dX0_readWhile_27 ?_
  refine lv_bipush (v := 45) hx hbb dX0_readWhile_30 (by decide) ?_
  refine lv_iload_n hx hbb dX0_readWhile_32 rfl (lv_at hl 3 rfl) ?_
  obtain ⟨x11, μ12, hc10, h⟩ := ca2_some h
  refine rc_vi (o := 4) (As := [.int (45 : Int32), .int a2]) X hI (c_D_add l D cI ρ g (by omega) hc10) rfl rfl gV_X0_78 hd_X3_add (by decide) (Nat.le_refl _) hl.1 rfl (Nat.le_of_ble_eq_true rfl) dX0_readWhile_33 (fun H locs hI => ?_)
  refine lv_pop hx hbb dX0_readWhile_36 rfl ?_
  refine lv_aload_n hx hbb dX0_readWhile_37 rfl (lv_at hl 1 rfl) ?_
  refine rg_getR X hI (o := 5) (j := 1) (k := 4) rfl rfl rfl inG0 (by decide) rfl wF_X0_29 dX0_readWhile_38 ?_
  refine lv_iload_n hx hbb dX0_readWhile_41 rfl (lv_at hl 0 rfl) ?_
  obtain ⟨μ14, hc13, h⟩ := ca_some h
  refine rc_vv (o := 4) (As := [.int x6]) X hI (c_D_aim l D cI ρ g (by omega) hc13) rfl rfl gV_X0_107 hd_X3_aim (by decide) (Nat.le_refl _) hl.1 rfl (Nat.le_of_ble_eq_true rfl) dX0_readWhile_42 (fun H locs hI => ?_)
  cases h
  exact hend H locs _ _ hI dX0_readWhile_45
set_option maxHeartbeats 4000000 in
set_option maxRecDepth 100000 in
theorem c_G_readStatement (l : Launch) (D : va_G) (cI : ClassId) (ρ : Nat → Nat) {N : Nat} {rb : Int32 → St → Option St} (hb : Nat) (hb0 : 90 ≤ hb) (hrb : ∀ (o : Int32) (μ ν : St), rb o μ = some ν → ∀ g : Nat, hb ≤ g → CV l yX0_readBlock cX0_readBlock 3 g TC cI D ρ [.ref (ρ 5), .int o] μ ν) (hgt : Nat) (hh : hb + 2 ≤ hgt) {a1 : Int32} {μ ν : St} (h : f_G_readStatement N rb a1 μ = some ν) : CV l yX0_readStatement cX0_readStatement 4 hgt TC cI D ρ [.ref (ρ 5), .int a1] μ ν := by
  obtain ⟨g, rfl⟩ : ∃ g, hgt = g + 1 := ⟨hgt - 1, by omega⟩
  unfold f_G_readStatement at h
  refine CV_of (own := RX0) (by decide) rfl (Nat.le_of_ble_eq_true rfl) ?_
  intro p e s m args below meth c Q A H locs X hI hend ls hl
  have hx := X.1.1
  have hbb := X.1.2.1
  have hl : lv_has ls 4 [(0, .ref (ρ 5)), (1, .int a1)] := hl
  refine lv_aload_n hx hbb dX0_readStatement_0 rfl (lv_at hl 0 rfl) ?_
  refine rg_getR X hI (o := 5) (j := 1) (k := 4) rfl rfl rfl inG0 (by decide) rfl wF_X0_29 dX0_readStatement_1 ?_
  refine lv_bipush (v := 32) hx hbb dX0_readStatement_4 (by decide) ?_
  refine lv_iconst (v := 0) hx hbb dX0_readStatement_6 (by decide) ?_
  obtain ⟨x2, μ3, hc1, h⟩ := ca2_some h
  refine rc_vi (o := 4) (As := [.int (32 : Int32), .int (0 : Int32)]) X hI (c_D_add l D cI ρ g (by omega) hc1) rfl rfl gV_X0_78 hd_X3_add (by decide) (Nat.le_refl _) hl.1 rfl (Nat.le_of_ble_eq_true rfl) dX0_readStatement_7 (fun H locs hI => ?_)
  refine lv_istore_n (lv' := [(2, .int x2), (0, .ref (ρ 5)), (1, .int a1)]) hx hbb dX0_readStatement_10 rfl hl (by decide) rfl (fun ls hl => ?_)
  refine lv_aload_n hx hbb dX0_readStatement_11 rfl (lv_at hl 1 rfl) ?_
  obtain ⟨x5, hc4, h⟩ := ca_some h
  refine rc_vi (o := 5) (As := []) X hI (c_G_now l D cI ρ g (by omega) hc4) rfl rfl gV_X0_36 hd_X0_now (by decide) (Nat.le_refl _) hl.1 rfl (Nat.le_of_ble_eq_true rfl) dX0_readStatement_12 (fun H locs hI => ?_)
  refine lv_istore_n (lv' := [(3, .int x5), (2, .int x2), (0, .ref (ρ 5)), (1, .int a1)]) hx hbb dX0_readStatement_15 rfl hl (by decide) rfl (fun ls hl => ?_)
  refine lv_iload_n hx hbb dX0_readStatement_16 rfl (lv_at hl 0 rfl) ?_
  refine lv_if_ne (tgt := 28) hx hbb dX0_readStatement_17 (by decide) (fun c6 => ?_) (fun c6 => ?_)
  · have h := it_neg c6 h
    refine lv_iload_n hx hbb dX0_readStatement_28 rfl (lv_at hl 0 rfl) ?_
    refine lv_iconst (v := 2) hx hbb dX0_readStatement_29 (by decide) ?_
    refine lv_icmp_ne (tgt := 42) hx hbb dX0_readStatement_30 (by decide) (fun c7 => ?_) (fun c7 => ?_)
    · have h := it_neg c7 h
      refine lv_iload_n hx hbb dX0_readStatement_42 rfl (lv_at hl 0 rfl) ?_
      refine lv_iconst (v := 3) hx hbb dX0_readStatement_43 (by decide) ?_
      refine lv_icmp_ne (tgt := 55) hx hbb dX0_readStatement_44 (by decide) (fun c8 => ?_) (fun c8 => ?_)
      · have h := it_neg c8 h
        refine lv_iload_n hx hbb dX0_readStatement_55 rfl (lv_at hl 0 rfl) ?_
        refine lv_iconst (v := 4) hx hbb dX0_readStatement_56 (by decide) ?_
        refine lv_icmp_ne (tgt := 69) hx hbb dX0_readStatement_57 (by decide) (fun c9 => ?_) (fun c9 => ?_)
        · have h := it_neg c9 h
          refine lv_iload_n hx hbb dX0_readStatement_69 rfl (lv_at hl 0 rfl) ?_
          refine lv_bipush (v := 52) hx hbb dX0_readStatement_70 (by decide) ?_
          refine lv_bipush (v := 6) hx hbb dX0_readStatement_72 (by decide) ?_
          obtain ⟨x11, hc10, h⟩ := ca_some h
          refine rc_si (As := [.int x5, .int (52 : Int32), .int (6 : Int32)]) X hI (c_G_isOf l D cI ρ g (by omega) hc10) gV_X0_94 hd_X0_isOf (by decide) (Nat.le_refl _) hl.1 rfl (Nat.le_of_ble_eq_true rfl) dX0_readStatement_74 (fun H locs hI => ?_)
          refine lv_if_eq (tgt := 105) hx hbb dX0_readStatement_77 (by decide) (fun c12 => ?_) (fun c12 => ?_)
          · have h := it_pos c12 h
            refine lv_aload_n hx hbb dX0_readStatement_105 rfl (lv_at hl 2 rfl) ?_
            refine lv_iload_n hx hbb dX0_readStatement_106 rfl (lv_at hl 0 rfl) ?_
            obtain ⟨μ14, hc13, h⟩ := ca_some h
            refine rc_vv (o := 5) (As := [.int x5]) X hI (c_G_readSetting l D cI ρ g (by omega) hc13) rfl rfl gV_X0_101 hd_X0_readSetting (by decide) (Nat.le_refl _) hl.1 rfl (Nat.le_of_ble_eq_true rfl) dX0_readStatement_107 (fun H locs hI => ?_)
            cases h
            exact hend H locs _ _ hI dX0_readStatement_110
          · have h := it_neg c12 h
            refine lv_aload_n hx hbb dX0_readStatement_80 rfl (lv_at hl 2 rfl) ?_
            refine lv_iconst (v := 0) hx hbb dX0_readStatement_81 (by decide) ?_
            obtain ⟨μ16, hc15, h⟩ := ca_some h
            refine rc_vv (o := 5) (As := [.int (0 : Int32)]) X hI (c_G_readCall l D cI ρ 80 (by decide) (fun _ _ _ h1 g1 h2 => c_G_readValue l D cI ρ 8 g1 h2 h1) g (by omega) hc15) rfl rfl gV_X0_98 hd_X0_readCall (by decide) (Nat.le_refl _) hl.1 rfl (Nat.le_of_ble_eq_true rfl) dX0_readStatement_82 (fun H locs hI => ?_)
            refine lv_aload_n hx hbb dX0_readStatement_85 rfl (lv_at hl 2 rfl) ?_
            refine rg_getR X hI (o := 5) (j := 1) (k := 4) rfl rfl rfl inG0 (by decide) rfl wF_X0_29 dX0_readStatement_86 ?_
            refine lv_bipush (v := 43) hx hbb dX0_readStatement_89 (by decide) ?_
            refine lv_iconst (v := 0) hx hbb dX0_readStatement_91 (by decide) ?_
            obtain ⟨x18, μ19, hc17, h⟩ := ca2_some h
            refine rc_vi (o := 4) (As := [.int (43 : Int32), .int (0 : Int32)]) X hI (c_D_add l D cI ρ g (by omega) hc17) rfl rfl gV_X0_78 hd_X3_add (by decide) (Nat.le_refl _) hl.1 rfl (Nat.le_of_ble_eq_true rfl) dX0_readStatement_92 (fun H locs hI => ?_)
            refine lv_pop hx hbb dX0_readStatement_95 rfl ?_
            refine lv_aload_n hx hbb dX0_readStatement_96 rfl (lv_at hl 2 rfl) ?_
            refine lv_bipush (v := 10) hx hbb dX0_readStatement_97 (by decide) ?_
            obtain ⟨μ21, hc20, h⟩ := ca_some h
            refine rc_vv (o := 5) (As := [.int (10 : Int32)]) X hI (c_G_expect l D cI ρ g (by omega) hc20) rfl rfl gV_X0_65 hd_X0_expect (by decide) (Nat.le_refl _) hl.1 rfl (Nat.le_of_ble_eq_true rfl) dX0_readStatement_99 (fun H locs hI => ?_)
            refine lv_goto (tgt := 110) hx hbb dX0_readStatement_102 (by decide) ?_
            cases h
            exact hend H locs _ _ hI dX0_readStatement_110
        · have h := it_pos c9 h
          refine lv_aload_n hx hbb dX0_readStatement_60 rfl (lv_at hl 2 rfl) ?_
          refine lv_bipush (v := 44) hx hbb dX0_readStatement_61 (by decide) ?_
          obtain ⟨μ23, hc22, h⟩ := ca_some h
          refine rc_vv (o := 5) (As := [.int (44 : Int32)]) X hI (c_G_readWord l D cI ρ g (by omega) hc22) rfl rfl gV_X0_91 hd_X0_readWord (by decide) (Nat.le_refl _) hl.1 rfl (Nat.le_of_ble_eq_true rfl) dX0_readStatement_63 (fun H locs hI => ?_)
          refine lv_goto (tgt := 110) hx hbb dX0_readStatement_66 (by decide) ?_
          cases h
          exact hend H locs _ _ hI dX0_readStatement_110
      · have h := it_pos c8 h
        refine lv_aload_n hx hbb dX0_readStatement_47 rfl (lv_at hl 2 rfl) ?_
        refine lv_iconst (v := 0) hx hbb dX0_readStatement_48 (by decide) ?_
        obtain ⟨μ25, hc24, h⟩ := ca_some h
        refine rc_vv (o := 5) (As := [.int (0 : Int32)]) X hI (c_G_readWord l D cI ρ g (by omega) hc24) rfl rfl gV_X0_91 hd_X0_readWord (by decide) (Nat.le_refl _) hl.1 rfl (Nat.le_of_ble_eq_true rfl) dX0_readStatement_49 (fun H locs hI => ?_)
        refine lv_goto (tgt := 110) hx hbb dX0_readStatement_52 (by decide) ?_
        cases h
        exact hend H locs _ _ hI dX0_readStatement_110
    · have h := it_pos c7 h
      refine lv_aload_n hx hbb dX0_readStatement_33 rfl (lv_at hl 2 rfl) ?_
      refine lv_iload_n hx hbb dX0_readStatement_34 rfl (lv_at hl 3 rfl) ?_
      refine lv_iload_n hx hbb dX0_readStatement_35 rfl (lv_at hl 1 rfl) ?_
      obtain ⟨μ27, hc26, h⟩ := ca_some h
      refine rc_vv (o := 5) (As := [.int a1, .int x2]) X hI (c_G_readWhile l D cI ρ hb hb0 hrb g (by omega) hc26) rfl rfl gV_X0_88 hd_X0_readWhile (by decide) (Nat.le_refl _) hl.1 rfl (Nat.le_of_ble_eq_true rfl) dX0_readStatement_36 (fun H locs hI => ?_)
      refine lv_goto (tgt := 110) hx hbb dX0_readStatement_39 (by decide) ?_
      cases h
      exact hend H locs _ _ hI dX0_readStatement_110
  · have h := it_pos c6 h
    refine lv_aload_n hx hbb dX0_readStatement_20 rfl (lv_at hl 2 rfl) ?_
    refine lv_iload_n hx hbb dX0_readStatement_21 rfl (lv_at hl 3 rfl) ?_
    obtain ⟨μ29, hc28, h⟩ := ca_some h
    refine rc_vv (o := 5) (As := [.int a1]) X hI (c_G_readIf l D cI ρ hb hb0 hrb g (by omega) hc28) rfl rfl gV_X0_85 hd_X0_readIf (by decide) (Nat.le_refl _) hl.1 rfl (Nat.le_of_ble_eq_true rfl) dX0_readStatement_22 (fun H locs hI => ?_)
    refine lv_goto (tgt := 110) hx hbb dX0_readStatement_25 (by decide) ?_
    cases h
    exact hend H locs _ _ hI dX0_readStatement_110
set_option maxHeartbeats 4000000 in
set_option maxRecDepth 100000 in
theorem c_G_readBlockB (l : Launch) (D : va_G) (cI : ClassId) (ρ : Nat → Nat) {N : Nat} {rb : Int32 → St → Option St} (hb : Nat) (hb0 : 90 ≤ hb) (hrb : ∀ (o : Int32) (μ ν : St), rb o μ = some ν → ∀ g : Nat, hb ≤ g → CV l yX0_readBlock cX0_readBlock 3 g TC cI D ρ [.ref (ρ 5), .int o] μ ν) (hgt : Nat) (hh : hb + 3 ≤ hgt) {a1 : Int32} {μ ν : St} (h : f_G_readBlockB N rb a1 μ = some ν) : CV l yX0_readBlock cX0_readBlock 3 hgt TC cI D ρ [.ref (ρ 5), .int a1] μ ν := by
  obtain ⟨g, rfl⟩ : ∃ g, hgt = g + 1 := ⟨hgt - 1, by omega⟩
  unfold f_G_readBlockB at h
  refine CV_of (own := RX0) (by decide) rfl (Nat.le_of_ble_eq_true rfl) ?_
  intro p e s m args below meth c Q A H locs X hI hend ls hl
  have hx := X.1.1
  have hbb := X.1.2.1
  have hl : lv_has ls 3 [(0, .ref (ρ 5)), (1, .int a1)] := hl
  refine lv_iload_n hx hbb dX0_readBlock_0 rfl (lv_at hl 1 rfl) ?_
  refine lv_iconst (v := 3) hx hbb dX0_readBlock_1 (by decide) ?_
  refine lv_icmp_le (tgt := 11) hx hbb dX0_readBlock_2 (by decide) (fun c1 => ?_) (fun c1 => ?_)
  · have h := it_pos c1 h
    refine lv_aload_n hx hbb dX0_readBlock_11 rfl (lv_at hl 0 rfl) ?_
    refine lv_bipush (v := 8) hx hbb dX0_readBlock_12 (by decide) ?_
    obtain ⟨μ3, hc2, h⟩ := ca_some h
    refine rc_vv (o := 5) (As := [.int (8 : Int32)]) X hI (c_G_expect l D cI ρ g (by omega) hc2) rfl rfl gV_X0_65 hd_X0_expect (by decide) (Nat.le_refl _) hl.1 rfl (Nat.le_of_ble_eq_true rfl) dX0_readBlock_14 (fun H locs hI => ?_)
    refine lv_iconst (v := 0) hx hbb dX0_readBlock_17 (by decide) ?_
    refine lv_istore_n (lv' := [(2, .int (0 : Int32)), (0, .ref (ρ 5)), (1, .int a1)]) hx hbb dX0_readBlock_18 rfl hl (by decide) rfl (fun ls hl => ?_)
    refine lp_elim (fun (k6 : Int32 → St → Option St) => ∀ (x4 : Int32) (μ5 : St) (H : Heap) (locs : List Loc) (ls : Array Slot), lv_has ls 3 [(0, .ref (ρ 5)), (1, .int a1), (2, .int x4)] → RI TC cI D A s.heap ρ μ5 H locs → k6 x4 μ5 = some ν → W p l e (rmL (g + 1)) s m args below meth c H locs 0 0 Q (F0 m 19 ls [])) ?_ ?_ N (0 : Int32) μ3 H locs ls (lv_sub hl [1, 2, 0] rfl) hI h
    · intro x4 μ5 H locs ls hl hI h
      cases h
    · intro k6 ih7 x4 μ5 H locs ls hl hI h
      try dsimp only at h
      refine lv_iload_n hx hbb dX0_readBlock_19 rfl (lv_at hl 2 rfl) ?_
      refine lv_sipush (v := 160) hx hbb dX0_readBlock_20 (by decide) ?_
      obtain ⟨k9, ek9, h⟩ := jn_some h
      have hj10 : ∀ (H : Heap) (locs : List Loc) (ls : Array Slot), lv_has ls 3 [(0, .ref (ρ 5))] → RI TC cI D A s.heap ρ μ5 H locs → k9 = some ν → W p l e (rmL (g + 1)) s m args below meth c H locs 0 0 Q (F0 m 53 ls []) := by
        intro H locs ls hl hI h
        rw [ek9] at h
        refine lv_aload_n hx hbb dX0_readBlock_53 rfl (lv_at hl 0 rfl) ?_
        refine lv_bipush (v := 9) hx hbb dX0_readBlock_54 (by decide) ?_
        obtain ⟨μ12, hc11, h⟩ := ca_some h
        refine rc_vv (o := 5) (As := [.int (9 : Int32)]) X hI (c_G_expect l D cI ρ g (by omega) hc11) rfl rfl gV_X0_65 hd_X0_expect (by decide) (Nat.le_refl _) hl.1 rfl (Nat.le_of_ble_eq_true rfl) dX0_readBlock_56 (fun H locs hI => ?_)
        cases h
        exact hend H locs _ _ hI dX0_readBlock_59
      refine lv_icmp_ge (tgt := 53) hx hbb dX0_readBlock_23 (by decide) (fun c13 => ?_) (fun c13 => ?_)
      · have h := it_pos c13 h
        exact hj10 H locs ls (lv_sub hl [0] rfl) hI h
      · have h := it_neg c13 h
        refine lv_aload_n hx hbb dX0_readBlock_26 rfl (lv_at hl 0 rfl) ?_
        refine rg_get X hI (o := 5) (j := 4) (k := 204) rfl rfl rfl inG0 (by decide) rfl wF_X0_19 dX0_readBlock_27 ?_
        refine lv_if_ne (tgt := 53) hx hbb dX0_readBlock_30 (by decide) (fun c14 => ?_) (fun c14 => ?_)
        · have h := it_neg c14 h
          exact hj10 H locs ls (lv_sub hl [0] rfl) hI h
        · have h := it_pos c14 h
          refine lv_aload_n hx hbb dX0_readBlock_33 rfl (lv_at hl 0 rfl) ?_
          obtain ⟨x16, hc15, h⟩ := ca_some h
          refine rc_vi (o := 5) (As := []) X hI (c_G_now l D cI ρ g (by omega) hc15) rfl rfl gV_X0_36 hd_X0_now (by decide) (Nat.le_refl _) hl.1 rfl (Nat.le_of_ble_eq_true rfl) dX0_readBlock_34 (fun H locs hI => ?_)
          refine lv_bipush (v := 9) hx hbb dX0_readBlock_37 (by decide) ?_
          refine lv_icmp_eq (tgt := 53) hx hbb dX0_readBlock_39 (by decide) (fun c17 => ?_) (fun c17 => ?_)
          · have h := it_pos c17 h
            exact hj10 H locs ls (lv_sub hl [0] rfl) hI h
          · have h := it_neg c17 h
            refine lv_aload_n hx hbb dX0_readBlock_42 rfl (lv_at hl 0 rfl) ?_
            refine lv_iload_n hx hbb dX0_readBlock_43 rfl (lv_at hl 1 rfl) ?_
            obtain ⟨μ19, hc18, h⟩ := ca_some h
            refine rc_vv (o := 5) (As := [.int a1]) X hI (c_G_readStatement l D cI ρ hb hb0 hrb g (by omega) hc18) rfl rfl gV_X0_82 hd_X0_readStatement (by decide) (Nat.le_refl _) hl.1 rfl (Nat.le_of_ble_eq_true rfl) dX0_readBlock_44 (fun H locs hI => ?_)
            obtain ⟨x20, ex20, h⟩ := nm_some h
            refine lv_iinc (v := x20) (lv' := [(2, .int x20), (0, .ref (ρ 5)), (1, .int a1)]) hx hbb dX0_readBlock_47 hl (k := 2) rfl (by rw [ex20]; rfl) (by decide) rfl (fun ls hl => ?_)
            refine lv_goto (tgt := 19) hx hbb dX0_readBlock_50 (by decide) ?_
            exact ih7 x20 μ19 H locs ls (lv_sub hl [1, 2, 0] rfl) hI h
  · have h := it_neg c1 h
    refine lv_aload_n hx hbb dX0_readBlock_5 rfl (lv_at hl 0 rfl) ?_
    refine lv_iconst (v := 3) hx hbb dX0_readBlock_6 (by decide) ?_
    obtain ⟨μ22, hc21, h⟩ := ca_some h
    refine rc_vv (o := 5) (As := [.int (3 : Int32)]) X hI (c_G_fail l D cI ρ g (by omega) hc21) rfl rfl gV_X0_57 hd_X0_fail (by decide) (Nat.le_refl _) hl.1 rfl (Nat.le_of_ble_eq_true rfl) dX0_readBlock_7 (fun H locs hI => ?_)
    cases h
    exact hend H locs _ _ hI dX0_readBlock_10
theorem c_G_readBlock (l : Launch) (D : va_G) (cI : ClassId) (ρ : Nat → Nat) {N : Nat} (d : Nat) : ∀ (hgt : Nat) (hh : 90 + 4 * d ≤ hgt) {a : Int32} {μ ν : St} (h : f_G_readBlock N d a μ = some ν), CV l yX0_readBlock cX0_readBlock 3 hgt TC cI D ρ [.ref (ρ 5), .int a] μ ν := by
  induction d with
  | zero =>
    intro hgt hh a μ ν h
    cases h
  | succ d ih =>
    intro hgt hh a μ ν h
    exact c_G_readBlockB l D cI ρ (90 + 4 * d) (by omega) (fun _ _ _ h1 g1 h2 => ih g1 h2 h1) hgt (by omega) h
set_option maxHeartbeats 4000000 in
set_option maxRecDepth 100000 in
theorem c_G_readFunction (l : Launch) (D : va_G) (cI : ClassId) (ρ : Nat → Nat) {N : Nat} (hgt : Nat) (hh : 123 ≤ hgt)  {μ ν : St} (h : f_G_readFunction N μ = some ν) : CV l yX0_readFunction cX0_readFunction 3 hgt TC cI D ρ [.ref (ρ 5)] μ ν := by
  obtain ⟨g, rfl⟩ : ∃ g, hgt = g + 1 := ⟨hgt - 1, by omega⟩
  unfold f_G_readFunction at h
  refine CV_of (own := RX0) (by decide) rfl (Nat.le_of_ble_eq_true rfl) ?_
  intro p e s m args below meth c Q A H locs X hI hend ls hl
  have hx := X.1.1
  have hb := X.1.2.1
  have hl : lv_has ls 3 [(0, .ref (ρ 5))] := hl
  refine lv_aload_n hx hb dX0_readFunction_0 rfl (lv_at hl 0 rfl) ?_
  refine lv_bipush (v := 23) hx hb dX0_readFunction_1 (by decide) ?_
  obtain ⟨μ2, hc1, h⟩ := ca_some h
  refine rc_vv (o := 5) (As := [.int (23 : Int32)]) X hI (c_G_expect l D cI ρ g (by omega) hc1) rfl rfl gV_X0_65 hd_X0_expect (by decide) (Nat.le_refl _) hl.1 rfl (Nat.le_of_ble_eq_true rfl) dX0_readFunction_3 (fun H locs hI => ?_)
  refine lv_aload_n hx hb dX0_readFunction_6 rfl (lv_at hl 0 rfl) ?_
  obtain ⟨x4, hc3, h⟩ := ca_some h
  refine rc_vi (o := 5) (As := []) X hI (c_G_now l D cI ρ g (by omega) hc3) rfl rfl gV_X0_36 hd_X0_now (by decide) (Nat.le_refl _) hl.1 rfl (Nat.le_of_ble_eq_true rfl) dX0_readFunction_7 (fun H locs hI => ?_)
  refine lv_bipush (v := 52) hx hb dX0_readFunction_10 (by decide) ?_
  refine lv_isub hx hb dX0_readFunction_12 ?_
  obtain ⟨x5, ex5, h⟩ := nm_some h
  refine rg_top ex5 ?_
  refine lv_istore_n (lv' := [(1, .int x5), (0, .ref (ρ 5))]) hx hb dX0_readFunction_13 rfl hl (by decide) rfl (fun ls hl => ?_)
  refine lv_iload_n hx hb dX0_readFunction_14 rfl (lv_at hl 0 rfl) ?_
  obtain ⟨k7, ek7, h⟩ := jn_some h
  have hj8 : ∀ (ls : Array Slot), lv_has ls 3 [(0, .ref (ρ 5))] → k7 = some ν → W p l e (rmL (g + 1)) s m args below meth c H locs 0 0 Q (F0 m 24 ls []) := by
    intro ls hl h
    rw [ek7] at h
    refine lv_aload_n hx hb dX0_readFunction_24 rfl (lv_at hl 0 rfl) ?_
    refine lv_iconst (v := 1) hx hb dX0_readFunction_25 (by decide) ?_
    obtain ⟨μ10, hc9, h⟩ := ca_some h
    refine rc_vv (o := 5) (As := [.int (1 : Int32)]) X hI (c_G_fail l D cI ρ g (by omega) hc9) rfl rfl gV_X0_57 hd_X0_fail (by decide) (Nat.le_refl _) hl.1 rfl (Nat.le_of_ble_eq_true rfl) dX0_readFunction_26 (fun H locs hI => ?_)
    cases h
    exact hend H locs _ _ hI dX0_readFunction_29
  refine lv_if_lt (tgt := 24) hx hb dX0_readFunction_15 (by decide) (fun c11 => ?_) (fun c11 => ?_)
  · have h := it_pos c11 h
    exact hj8 ls (lv_sub hl [1] rfl) h
  · have h := it_neg c11 h
    refine lv_iload_n hx hb dX0_readFunction_18 rfl (lv_at hl 0 rfl) ?_
    refine lv_bipush (v := 6) hx hb dX0_readFunction_19 (by decide) ?_
    refine lv_icmp_lt (tgt := 30) hx hb dX0_readFunction_21 (by decide) (fun c12 => ?_) (fun c12 => ?_)
    · have h := it_pos c12 h
      refine lv_aload_n hx hb dX0_readFunction_30 rfl (lv_at hl 1 rfl) ?_
      refine rg_getR X hI (o := 5) (j := 1) (k := 4) rfl rfl rfl inG0 (by decide) rfl wF_X0_29 dX0_readFunction_31 ?_
      refine lv_iload_n hx hb dX0_readFunction_34 rfl (lv_at hl 0 rfl) ?_
      obtain ⟨x14, hc13, h⟩ := ca_some h
      refine rc_vi (o := 4) (As := [.int x5]) X hI (c_D_parametersOf l D cI ρ g (by omega) hc13) rfl rfl gV_X0_51 hd_X3_parametersOf (by decide) (Nat.le_refl _) hl.1 rfl (Nat.le_of_ble_eq_true rfl) dX0_readFunction_35 (fun H locs hI => ?_)
      refine lv_iconst (v := -1) hx hb dX0_readFunction_38 (by decide) ?_
      refine lv_icmp_eq (tgt := 48) hx hb dX0_readFunction_39 (by decide) (fun c15 => ?_) (fun c15 => ?_)
      · have h := it_pos c15 h
        refine lv_aload_n hx hb dX0_readFunction_48 rfl (lv_at hl 1 rfl) ?_
        obtain ⟨μ17, hc16, h⟩ := ca_some h
        refine rc_vv (o := 5) (As := []) X hI (c_G_next l D cI ρ g (by omega) hc16) rfl rfl gV_X0_68 hd_X0_next (by decide) (Nat.le_refl _) hl.1 rfl (Nat.le_of_ble_eq_true rfl) dX0_readFunction_49 (fun H locs hI => ?_)
        refine lv_aload_n hx hb dX0_readFunction_52 rfl (lv_at hl 1 rfl) ?_
        obtain ⟨x19, hc18, h⟩ := ca_some h
        refine rc_vi (o := 5) (As := []) X hI (c_G_now l D cI ρ g (by omega) hc18) rfl rfl gV_X0_36 hd_X0_now (by decide) (Nat.le_refl _) hl.1 rfl (Nat.le_of_ble_eq_true rfl) dX0_readFunction_53 (fun H locs hI => ?_)
        refine lv_bipush (v := 64) hx hb dX0_readFunction_56 (by decide) ?_
        refine lv_isub hx hb dX0_readFunction_58 ?_
        obtain ⟨x20, ex20, h⟩ := nm_some h
        refine rg_top ex20 ?_
        refine lv_istore_n (lv' := [(2, .int x20), (1, .int x5), (0, .ref (ρ 5))]) hx hb dX0_readFunction_59 rfl hl (by decide) rfl (fun ls hl => ?_)
        refine lv_iload_n hx hb dX0_readFunction_60 rfl (lv_at hl 0 rfl) ?_
        obtain ⟨k22, ek22, h⟩ := jn_some h
        have hj23 : ∀ (ls : Array Slot), lv_has ls 3 [(0, .ref (ρ 5))] → k22 = some ν → W p l e (rmL (g + 1)) s m args below meth c H locs 0 0 Q (F0 m 69 ls []) := by
          intro ls hl h
          rw [ek22] at h
          refine lv_aload_n hx hb dX0_readFunction_69 rfl (lv_at hl 0 rfl) ?_
          refine lv_iconst (v := 1) hx hb dX0_readFunction_70 (by decide) ?_
          obtain ⟨μ25, hc24, h⟩ := ca_some h
          refine rc_vv (o := 5) (As := [.int (1 : Int32)]) X hI (c_G_fail l D cI ρ g (by omega) hc24) rfl rfl gV_X0_57 hd_X0_fail (by decide) (Nat.le_refl _) hl.1 rfl (Nat.le_of_ble_eq_true rfl) dX0_readFunction_71 (fun H locs hI => ?_)
          cases h
          exact hend H locs _ _ hI dX0_readFunction_74
        refine lv_if_lt (tgt := 69) hx hb dX0_readFunction_61 (by decide) (fun c26 => ?_) (fun c26 => ?_)
        · have h := it_pos c26 h
          exact hj23 ls (lv_sub hl [2] rfl) h
        · have h := it_neg c26 h
          refine lv_iload_n hx hb dX0_readFunction_64 rfl (lv_at hl 0 rfl) ?_
          refine lv_iconst (v := 3) hx hb dX0_readFunction_65 (by decide) ?_
          refine lv_icmp_le (tgt := 75) hx hb dX0_readFunction_66 (by decide) (fun c27 => ?_) (fun c27 => ?_)
          · have h := it_pos c27 h
            refine lv_aload_n hx hb dX0_readFunction_75 rfl (lv_at hl 2 rfl) ?_
            obtain ⟨μ29, hc28, h⟩ := ca_some h
            refine rc_vv (o := 5) (As := []) X hI (c_G_next l D cI ρ g (by omega) hc28) rfl rfl gV_X0_68 hd_X0_next (by decide) (Nat.le_refl _) hl.1 rfl (Nat.le_of_ble_eq_true rfl) dX0_readFunction_76 (fun H locs hI => ?_)
            refine lv_aload_n hx hb dX0_readFunction_79 rfl (lv_at hl 2 rfl) ?_
            refine rg_getR X hI (o := 5) (j := 1) (k := 4) rfl rfl rfl inG0 (by decide) rfl wF_X0_29 dX0_readFunction_80 ?_
            refine lv_iload_n hx hb dX0_readFunction_83 rfl (lv_at hl 1 rfl) ?_
            refine lv_iload_n hx hb dX0_readFunction_84 rfl (lv_at hl 0 rfl) ?_
            obtain ⟨μ31, hc30, h⟩ := ca_some h
            refine rc_vv (o := 4) (As := [.int x5, .int x20]) X hI (c_D_addFunction l D cI ρ g (by omega) hc30) rfl rfl gV_X0_71 hd_X3_addFunction (by decide) (Nat.le_refl _) hl.1 rfl (Nat.le_of_ble_eq_true rfl) dX0_readFunction_85 (fun H locs hI => ?_)
            refine lv_aload_n hx hb dX0_readFunction_88 rfl (lv_at hl 2 rfl) ?_
            refine lv_iconst (v := 0) hx hb dX0_readFunction_89 (by decide) ?_
            obtain ⟨μ33, hc32, h⟩ := ca_some h
            refine rc_vv (o := 5) (As := [.int (0 : Int32)]) X hI (c_G_readBlock l D cI ρ 8 g (by omega) hc32) rfl rfl gV_X0_75 hd_X0_readBlock (by decide) (Nat.le_refl _) hl.1 rfl (Nat.le_of_ble_eq_true rfl) dX0_readFunction_90 (fun H locs hI => ?_)
            refine lv_aload_n hx hb dX0_readFunction_93 rfl (lv_at hl 2 rfl) ?_
            refine rg_getR X hI (o := 5) (j := 1) (k := 4) rfl rfl rfl inG0 (by decide) rfl wF_X0_29 dX0_readFunction_94 ?_
            refine lv_bipush (v := 33) hx hb dX0_readFunction_97 (by decide) ?_
            refine lv_iconst (v := 0) hx hb dX0_readFunction_99 (by decide) ?_
            obtain ⟨x35, μ36, hc34, h⟩ := ca2_some h
            refine rc_vi (o := 4) (As := [.int (33 : Int32), .int (0 : Int32)]) X hI (c_D_add l D cI ρ g (by omega) hc34) rfl rfl gV_X0_78 hd_X3_add (by decide) (Nat.le_refl _) hl.1 rfl (Nat.le_of_ble_eq_true rfl) dX0_readFunction_100 (fun H locs hI => ?_)
            refine lv_pop hx hb dX0_readFunction_103 rfl ?_
            refine lv_aload_n hx hb dX0_readFunction_104 rfl (lv_at hl 2 rfl) ?_
            refine rg_getR X hI (o := 5) (j := 1) (k := 4) rfl rfl rfl inG0 (by decide) rfl wF_X0_29 dX0_readFunction_105 ?_
            refine lv_iconst (v := 0) hx hb dX0_readFunction_108 (by decide) ?_
            refine lv_iconst (v := 0) hx hb dX0_readFunction_109 (by decide) ?_
            obtain ⟨x38, μ39, hc37, h⟩ := ca2_some h
            refine rc_vi (o := 4) (As := [.int (0 : Int32), .int (0 : Int32)]) X hI (c_D_add l D cI ρ g (by omega) hc37) rfl rfl gV_X0_78 hd_X3_add (by decide) (Nat.le_refl _) hl.1 rfl (Nat.le_of_ble_eq_true rfl) dX0_readFunction_110 (fun H locs hI => ?_)
            refine lv_pop hx hb dX0_readFunction_113 rfl ?_
            cases h
            exact hend H locs _ _ hI dX0_readFunction_114
          · have h := it_neg c27 h
            exact hj23 ls (lv_sub hl [2] rfl) h
      · have h := it_neg c15 h
        refine lv_aload_n hx hb dX0_readFunction_42 rfl (lv_at hl 1 rfl) ?_
        refine lv_iconst (v := 2) hx hb dX0_readFunction_43 (by decide) ?_
        obtain ⟨μ41, hc40, h⟩ := ca_some h
        refine rc_vv (o := 5) (As := [.int (2 : Int32)]) X hI (c_G_fail l D cI ρ g (by omega) hc40) rfl rfl gV_X0_57 hd_X0_fail (by decide) (Nat.le_refl _) hl.1 rfl (Nat.le_of_ble_eq_true rfl) dX0_readFunction_44 (fun H locs hI => ?_)
        cases h
        exact hend H locs _ _ hI dX0_readFunction_47
    · have h := it_neg c12 h
      exact hj8 ls (lv_sub hl [1] rfl) h
set_option maxHeartbeats 4000000 in
set_option maxRecDepth 100000 in
theorem c_G_checkCall (l : Launch) (D : va_G) (cI : ClassId) (ρ : Nat → Nat) (hgt : Nat) (hh : 2 ≤ hgt) {a1 : Int32} {a2 : Int32} {μ ν : St} (h : f_G_checkCall a1 a2 μ = some ν) : CV l yX0_checkCall cX0_checkCall 3 hgt TC cI D ρ [.ref (ρ 5), .int a1, .int a2] μ ν := by
  obtain ⟨g, rfl⟩ : ∃ g, hgt = g + 1 := ⟨hgt - 1, by omega⟩
  unfold f_G_checkCall at h
  refine CV_of (own := RX0) (by decide) rfl (Nat.le_of_ble_eq_true rfl) ?_
  intro p e s m args below meth c Q A H locs X hI hend ls hl
  have hx := X.1.1
  have hb := X.1.2.1
  have hl : lv_has ls 3 [(0, .ref (ρ 5)), (1, .int a1), (2, .int a2)] := hl
  refine lv_iload_n hx hb dX0_checkCall_0 rfl (lv_at hl 1 rfl) ?_
  refine lv_iconst (v := -1) hx hb dX0_checkCall_1 (by decide) ?_
  refine lv_icmp_ne (tgt := 13) hx hb dX0_checkCall_2 (by decide) (fun c1 => ?_) (fun c1 => ?_)
  · have h := it_neg c1 h
    refine lv_iload_n hx hb dX0_checkCall_13 rfl (lv_at hl 1 rfl) ?_
    refine lv_iload_n hx hb dX0_checkCall_14 rfl (lv_at hl 2 rfl) ?_
    refine lv_icmp_eq (tgt := 23) hx hb dX0_checkCall_15 (by decide) (fun c2 => ?_) (fun c2 => ?_)
    · have h := it_pos c2 h
      cases h
      exact hend H locs _ _ hI dX0_checkCall_23
    · have h := it_neg c2 h
      refine lv_aload_n hx hb dX0_checkCall_18 rfl (lv_at hl 0 rfl) ?_
      refine lv_iconst (v := 5) hx hb dX0_checkCall_19 (by decide) ?_
      obtain ⟨μ4, hc3, h⟩ := ca_some h
      refine rc_vv (o := 5) (As := [.int (5 : Int32)]) X hI (c_G_fail l D cI ρ g (by omega) hc3) rfl rfl gV_X0_57 hd_X0_fail (by decide) (Nat.le_refl _) hl.1 rfl (Nat.le_of_ble_eq_true rfl) dX0_checkCall_20 (fun H locs hI => ?_)
      cases h
      exact hend H locs _ _ hI dX0_checkCall_23
  · have h := it_pos c1 h
    refine lv_aload_n hx hb dX0_checkCall_5 rfl (lv_at hl 0 rfl) ?_
    refine lv_iconst (v := 4) hx hb dX0_checkCall_6 (by decide) ?_
    obtain ⟨μ6, hc5, h⟩ := ca_some h
    refine rc_vv (o := 5) (As := [.int (4 : Int32)]) X hI (c_G_fail l D cI ρ g (by omega) hc5) rfl rfl gV_X0_57 hd_X0_fail (by decide) (Nat.le_refl _) hl.1 rfl (Nat.le_of_ble_eq_true rfl) dX0_checkCall_7 (fun H locs hI => ?_)
    refine lv_goto (tgt := 23) hx hb dX0_checkCall_10 (by decide) ?_
    cases h
    exact hend H locs _ _ hI dX0_checkCall_23
set_option maxHeartbeats 4000000 in
set_option maxRecDepth 100000 in
theorem c_G_checkCalls (l : Launch) (D : va_G) (cI : ClassId) (ρ : Nat → Nat) {N : Nat} (hgt : Nat) (hh : 3 ≤ hgt)  {μ ν : St} (h : f_G_checkCalls N μ = some ν) : CV l yX0_checkCalls cX0_checkCalls 2 hgt TC cI D ρ [.ref (ρ 5)] μ ν := by
  obtain ⟨g, rfl⟩ : ∃ g, hgt = g + 1 := ⟨hgt - 1, by omega⟩
  unfold f_G_checkCalls at h
  refine CV_of (own := RX0) (by decide) rfl (Nat.le_of_ble_eq_true rfl) ?_
  intro p e s m args below meth c Q A H locs X hI hend ls hl
  have hx := X.1.1
  have hb := X.1.2.1
  have hl : lv_has ls 2 [(0, .ref (ρ 5))] := hl
  refine lv_iconst (v := 0) hx hb dX0_checkCalls_0 (by decide) ?_
  refine lv_istore_n (lv' := [(1, .int (0 : Int32)), (0, .ref (ρ 5))]) hx hb dX0_checkCalls_1 rfl hl (by decide) rfl (fun ls hl => ?_)
  refine lp_elim (fun (k3 : Int32 → St → Option St) => ∀ (x1 : Int32) (μ2 : St) (H : Heap) (locs : List Loc) (ls : Array Slot), lv_has ls 2 [(0, .ref (ρ 5)), (1, .int x1)] → RI TC cI D A s.heap ρ μ2 H locs → k3 x1 μ2 = some ν → W p l e (rmL (g + 1)) s m args below meth c H locs 0 0 Q (F0 m 2 ls [])) ?_ ?_ N (0 : Int32) μ H locs ls (lv_sub hl [1, 0] rfl) hI h
  · intro x1 μ2 H locs ls hl hI h
    cases h
  · intro k3 ih4 x1 μ2 H locs ls hl hI h
    try dsimp only at h
    refine lv_iload_n hx hb dX0_checkCalls_2 rfl (lv_at hl 1 rfl) ?_
    refine lv_sipush (v := 160) hx hb dX0_checkCalls_3 (by decide) ?_
    refine lv_icmp_ge (tgt := 61) hx hb dX0_checkCalls_6 (by decide) (fun c5 => ?_) (fun c5 => ?_)
    · have h := it_pos c5 h
      cases h
      exact hend H locs _ _ hI dX0_checkCalls_61
    · have h := it_neg c5 h
      refine lv_aload_n hx hb dX0_checkCalls_9 rfl (lv_at hl 0 rfl) ?_
      refine rg_get X hI (o := 5) (j := 4) (k := 204) rfl rfl rfl inG0 (by decide) rfl wF_X0_19 dX0_checkCalls_10 ?_
      refine lv_if_ne (tgt := 61) hx hb dX0_checkCalls_13 (by decide) (fun c6 => ?_) (fun c6 => ?_)
      · have h := it_neg c6 h
        cases h
        exact hend H locs _ _ hI dX0_checkCalls_61
      · have h := it_pos c6 h
        refine lv_aload_n hx hb dX0_checkCalls_16 rfl (lv_at hl 0 rfl) ?_
        refine rg_getR X hI (o := 5) (j := 2) (k := 17) rfl rfl rfl inG0 (by decide) rfl wF_X0_9 dX0_checkCalls_17 ?_
        refine lv_iload_n hx hb dX0_checkCalls_20 rfl (lv_at hl 1 rfl) ?_
        obtain ⟨hn7, h⟩ := gd_some h
        refine rg_ald X hI (o := 17) rfl hn7 dX0_checkCalls_21 ?_
        obtain ⟨x8, ex8, h⟩ := nm_some h
        refine rg_top ex8 ?_
        refine lv_iconst (v := -1) hx hb dX0_checkCalls_22 (by decide) ?_
        obtain ⟨k10, ek10, h⟩ := jn_some h
        have hj11 : ∀ (μ9 : St) (H : Heap) (locs : List Loc) (ls : Array Slot), lv_has ls 2 [(0, .ref (ρ 5)), (1, .int x1)] → RI TC cI D A s.heap ρ μ9 H locs → k10 μ9 = some ν → W p l e (rmL (g + 1)) s m args below meth c H locs 0 0 Q (F0 m 55 ls []) := by
          intro μ9 H locs ls hl hI h
          rw [ek10] at h
          try dsimp only at h
          obtain ⟨x12, ex12, h⟩ := nm_some h
          refine lv_iinc (v := x12) (lv' := [(1, .int x12), (0, .ref (ρ 5))]) hx hb dX0_checkCalls_55 hl (k := 1) rfl (by rw [ex12]; rfl) (by decide) rfl (fun ls hl => ?_)
          refine lv_goto (tgt := 2) hx hb dX0_checkCalls_58 (by decide) ?_
          exact ih4 x12 μ9 H locs ls (lv_sub hl [1, 0] rfl) hI h
        refine lv_icmp_eq (tgt := 55) hx hb dX0_checkCalls_23 (by decide) (fun c13 => ?_) (fun c13 => ?_)
        · have h := it_pos c13 h
          exact hj11 μ2 H locs ls (lv_sub hl [0, 1] rfl) hI h
        · have h := it_neg c13 h
          refine lv_aload_n hx hb dX0_checkCalls_26 rfl (lv_at hl 0 rfl) ?_
          refine lv_iload_n hx hb dX0_checkCalls_27 rfl (lv_at hl 1 rfl) ?_
          refine rg_put X hI (o := 5) (j := 3) (k := 203) rfl rfl rfl rfl inG0 tyX0 tyX0_ok nmX0 (by decide) rfl wF_X0_15 rfl rfl rfl rfl dX0_checkCalls_28 (fun H locs hI => ?_)
          obtain ⟨μ14, eμ14, h⟩ := nm_some h
          rw [← eμ14] at hI
          refine lv_aload_n hx hb dX0_checkCalls_31 rfl (lv_at hl 0 rfl) ?_
          refine lv_aload_n hx hb dX0_checkCalls_32 rfl (lv_at hl 0 rfl) ?_
          refine rg_getR X hI (o := 5) (j := 1) (k := 4) rfl rfl rfl inG0 (by decide) rfl wF_X0_29 dX0_checkCalls_33 ?_
          refine lv_aload_n hx hb dX0_checkCalls_36 rfl (lv_at hl 0 rfl) ?_
          obtain ⟨x16, hc15, h⟩ := ca_some h
          refine rc_vi (o := 5) (As := []) X hI (c_G_now l D cI ρ g (by omega) hc15) rfl rfl gV_X0_36 hd_X0_now (by decide) (Nat.le_refl _) hl.1 rfl (Nat.le_of_ble_eq_true rfl) dX0_checkCalls_37 (fun H locs hI => ?_)
          refine lv_bipush (v := 52) hx hb dX0_checkCalls_40 (by decide) ?_
          refine lv_isub hx hb dX0_checkCalls_42 ?_
          obtain ⟨x18, hc17, h⟩ := ca_some h
          refine rc_vi (o := 4) (As := [.int (x16 - (52 : Int32))]) X hI (c_D_parametersOf l D cI ρ g (by omega) hc17) rfl rfl gV_X0_51 hd_X3_parametersOf (by decide) (Nat.le_refl _) hl.1 rfl (Nat.le_of_ble_eq_true rfl) dX0_checkCalls_43 (fun H locs hI => ?_)
          refine lv_aload_n hx hb dX0_checkCalls_46 rfl (lv_at hl 0 rfl) ?_
          refine rg_getR X hI (o := 5) (j := 2) (k := 17) rfl rfl rfl inG0 (by decide) rfl wF_X0_9 dX0_checkCalls_47 ?_
          refine lv_iload_n hx hb dX0_checkCalls_50 rfl (lv_at hl 1 rfl) ?_
          obtain ⟨hn19, h⟩ := gd_some h
          refine rg_ald X hI (o := 17) rfl hn19 dX0_checkCalls_51 ?_
          obtain ⟨x20, ex20, h⟩ := nm_some h
          refine rg_top ex20 ?_
          obtain ⟨μ22, hc21, h⟩ := ca_some h
          refine rc_vv (o := 5) (As := [.int x18, .int x20]) X hI (c_G_checkCall l D cI ρ g (by omega) hc21) rfl rfl gV_X0_131 hd_X0_checkCall (by decide) (Nat.le_refl _) hl.1 rfl (Nat.le_of_ble_eq_true rfl) dX0_checkCalls_52 (fun H locs hI => ?_)
          exact hj11 μ22 H locs ls (lv_sub hl [0, 1] rfl) hI h
set_option maxHeartbeats 4000000 in
set_option maxRecDepth 100000 in
theorem c_G_fault (l : Launch) (D : va_G) (cI : ClassId) (ρ : Nat → Nat) {N : Nat} (hgt : Nat) (hh : 124 ≤ hgt)  {μ ν : St} {r : Int32} (h : f_G_fault N μ = some (r, ν)) : CI l yX0_fault cX0_fault 2 (some .int) hgt TC cI D ρ [.ref (ρ 5)] μ r ν := by
  obtain ⟨g, rfl⟩ : ∃ g, hgt = g + 1 := ⟨hgt - 1, by omega⟩
  unfold f_G_fault at h
  refine CI_of (own := RX0) (by decide) rfl (Nat.le_of_ble_eq_true rfl) rfl ?_
  intro p e s m args below meth c Q A H locs X hI hend ls hl
  have hx := X.1.1
  have hb := X.1.2.1
  have hl : lv_has ls 2 [(0, .ref (ρ 5))] := hl
  refine lv_aload_n hx hb dX0_fault_0 rfl (lv_at hl 0 rfl) ?_
  obtain ⟨μ2, hc1, h⟩ := ca_some h
  refine rc_vv (o := 5) (As := []) X hI (c_G_clear l D cI ρ g (by omega) hc1) rfl rfl gV_X0_33 hd_X0_clear (by decide) (Nat.le_refl _) hl.1 rfl (Nat.le_of_ble_eq_true rfl) dX0_fault_1 (fun H locs hI => ?_)
  refine lv_iconst (v := 0) hx hb dX0_fault_4 (by decide) ?_
  refine lv_istore_n (lv' := [(1, .int (0 : Int32)), (0, .ref (ρ 5))]) hx hb dX0_fault_5 rfl hl (by decide) rfl (fun ls hl => ?_)
  refine lp_elim (fun (k5 : Int32 → St → Option (Int32 × St)) => ∀ (x3 : Int32) (μ4 : St) (H : Heap) (locs : List Loc) (ls : Array Slot), lv_has ls 2 [(0, .ref (ρ 5)), (1, .int x3)] → RI TC cI D A s.heap ρ μ4 H locs → k5 x3 μ4 = some (r, ν) → W p l e (rmL (g + 1)) s m args below meth c H locs 0 0 Q (F0 m 6 ls [])) ?_ ?_ N (0 : Int32) μ2 H locs ls (lv_sub hl [1, 0] rfl) hI h
  · intro x3 μ4 H locs ls hl hI h
    cases h
  · intro k5 ih6 x3 μ4 H locs ls hl hI h
    try dsimp only at h
    refine lv_iload_n hx hb dX0_fault_6 rfl (lv_at hl 1 rfl) ?_
    refine lv_sipush (v := 160) hx hb dX0_fault_7 (by decide) ?_
    obtain ⟨k8, ek8, h⟩ := jn_some h
    have hj9 : ∀ (H : Heap) (locs : List Loc) (ls : Array Slot), lv_has ls 2 [(0, .ref (ρ 5))] → RI TC cI D A s.heap ρ μ4 H locs → k8 = some (r, ν) → W p l e (rmL (g + 1)) s m args below meth c H locs 0 0 Q (F0 m 31 ls []) := by
      intro H locs ls hl hI h
      rw [ek8] at h
      refine lv_aload_n hx hb dX0_fault_31 rfl (lv_at hl 0 rfl) ?_
      obtain ⟨μ11, hc10, h⟩ := ca_some h
      refine rc_vv (o := 5) (As := []) X hI (c_G_checkCalls l D cI ρ g (by omega) hc10) rfl rfl gV_X0_45 hd_X0_checkCalls (by decide) (Nat.le_refl _) hl.1 rfl (Nat.le_of_ble_eq_true rfl) dX0_fault_32 (fun H locs hI => ?_)
      refine lv_aload_n hx hb dX0_fault_35 rfl (lv_at hl 0 rfl) ?_
      refine lv_aload_n hx hb dX0_fault_36 rfl (lv_at hl 0 rfl) ?_
      refine rg_getR X hI (o := 5) (j := 0) (k := 1) rfl rfl rfl inG0 (by decide) rfl wF_X0_25 dX0_fault_37 ?_
      obtain ⟨x13, hc12, h⟩ := ca_some h
      refine rc_vi (o := 1) (As := []) X hI (c_T_length l D cI ρ g (by omega) hc12) rfl rfl gV_X0_48 hd_X4_length (by decide) (Nat.le_refl _) hl.1 rfl (Nat.le_of_ble_eq_true rfl) dX0_fault_40 (fun H locs hI => ?_)
      refine rg_put X hI (o := 5) (j := 3) (k := 203) rfl rfl rfl rfl inG0 tyX0 tyX0_ok nmX0 (by decide) rfl wF_X0_15 rfl rfl rfl rfl dX0_fault_43 (fun H locs hI => ?_)
      obtain ⟨μ14, eμ14, h⟩ := nm_some h
      rw [← eμ14] at hI
      refine lv_aload_n hx hb dX0_fault_46 rfl (lv_at hl 0 rfl) ?_
      refine rg_getR X hI (o := 5) (j := 1) (k := 4) rfl rfl rfl inG0 (by decide) rfl wF_X0_29 dX0_fault_47 ?_
      refine lv_iconst (v := 0) hx hb dX0_fault_50 (by decide) ?_
      obtain ⟨x16, hc15, h⟩ := ca_some h
      refine rc_vi (o := 4) (As := [.int (0 : Int32)]) X hI (c_D_parametersOf l D cI ρ g (by omega) hc15) rfl rfl gV_X0_51 hd_X3_parametersOf (by decide) (Nat.le_refl _) hl.1 rfl (Nat.le_of_ble_eq_true rfl) dX0_fault_51 (fun H locs hI => ?_)
      obtain ⟨k18, ek18, h⟩ := jn_some h
      have hj19 : ∀ (μ17 : St) (H : Heap) (locs : List Loc) (ls : Array Slot), lv_has ls 2 [(0, .ref (ρ 5))] → RI TC cI D A s.heap ρ μ17 H locs → k18 μ17 = some (r, ν) → W p l e (rmL (g + 1)) s m args below meth c H locs 0 0 Q (F0 m 63 ls []) := by
        intro μ17 H locs ls hl hI h
        rw [ek18] at h
        try dsimp only at h
        refine lv_sipush (v := -1000) hx hb dX0_fault_63 (by decide) ?_
        refine lv_aload_n hx hb dX0_fault_66 rfl (lv_at hl 0 rfl) ?_
        refine rg_get X hI (o := 5) (j := 4) (k := 204) rfl rfl rfl inG0 (by decide) rfl wF_X0_19 dX0_fault_67 ?_
        refine lv_imul hx hb dX0_fault_70 ?_
        refine lv_aload_n hx hb dX0_fault_71 rfl (lv_at hl 0 rfl) ?_
        refine rg_get X hI (o := 5) (j := 5) (k := 205) rfl rfl rfl inG0 (by decide) rfl wF_X0_22 dX0_fault_72 ?_
        refine lv_isub hx hb dX0_fault_75 ?_
        cases h
        exact hend H locs _ _ hI dX0_fault_76
      refine lv_if_eq (tgt := 63) hx hb dX0_fault_54 (by decide) (fun c20 => ?_) (fun c20 => ?_)
      · have h := it_pos c20 h
        exact hj19 μ14 H locs ls (lv_sub hl [0] rfl) hI h
      · have h := it_neg c20 h
        refine lv_aload_n hx hb dX0_fault_57 rfl (lv_at hl 0 rfl) ?_
        refine lv_bipush (v := 6) hx hb dX0_fault_58 (by decide) ?_
        obtain ⟨μ22, hc21, h⟩ := ca_some h
        refine rc_vv (o := 5) (As := [.int (6 : Int32)]) X hI (c_G_fail l D cI ρ g (by omega) hc21) rfl rfl gV_X0_57 hd_X0_fail (by decide) (Nat.le_refl _) hl.1 rfl (Nat.le_of_ble_eq_true rfl) dX0_fault_60 (fun H locs hI => ?_)
        exact hj19 μ22 H locs ls (lv_sub hl [0] rfl) hI h
    refine lv_icmp_ge (tgt := 31) hx hb dX0_fault_10 (by decide) (fun c23 => ?_) (fun c23 => ?_)
    · have h := it_pos c23 h
      exact hj9 H locs ls (lv_sub hl [0] rfl) hI h
    · have h := it_neg c23 h
      refine lv_aload_n hx hb dX0_fault_13 rfl (lv_at hl 0 rfl) ?_
      obtain ⟨x25, hc24, h⟩ := ca_some h
      refine rc_vi (o := 5) (As := []) X hI (c_G_now l D cI ρ g (by omega) hc24) rfl rfl gV_X0_36 hd_X0_now (by decide) (Nat.le_refl _) hl.1 rfl (Nat.le_of_ble_eq_true rfl) dX0_fault_14 (fun H locs hI => ?_)
      refine lv_iconst (v := -1) hx hb dX0_fault_17 (by decide) ?_
      refine lv_icmp_eq (tgt := 31) hx hb dX0_fault_18 (by decide) (fun c26 => ?_) (fun c26 => ?_)
      · have h := it_pos c26 h
        exact hj9 H locs ls (lv_sub hl [0] rfl) hI h
      · have h := it_neg c26 h
        refine lv_aload_n hx hb dX0_fault_21 rfl (lv_at hl 0 rfl) ?_
        obtain ⟨μ28, hc27, h⟩ := ca_some h
        refine rc_vv (o := 5) (As := []) X hI (c_G_readFunction l D cI ρ g (by omega) hc27) rfl rfl gV_X0_42 hd_X0_readFunction (by decide) (Nat.le_refl _) hl.1 rfl (Nat.le_of_ble_eq_true rfl) dX0_fault_22 (fun H locs hI => ?_)
        obtain ⟨x29, ex29, h⟩ := nm_some h
        refine lv_iinc (v := x29) (lv' := [(1, .int x29), (0, .ref (ρ 5))]) hx hb dX0_fault_25 hl (k := 1) rfl (by rw [ex29]; rfl) (by decide) rfl (fun ls hl => ?_)
        refine lv_goto (tgt := 6) hx hb dX0_fault_28 (by decide) ?_
        exact ih6 x29 μ28 H locs ls (lv_sub hl [1, 0] rfl) hI h
