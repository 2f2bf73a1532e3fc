/-! the reference: contracts -/
set_option maxHeartbeats 4000000 in
set_option maxRecDepth 100000 in
theorem c_M_argumentEnds (l : Launch) (D : va_G) (cI : ClassId) (ρ : Nat → Nat) (hgt : Nat) (hh : 3 ≤ hgt) {a1 : Int32} {a2 : Int32} {μ ν : St} (h : f_M_argumentEnds a1 a2 μ = some ν) : CV l yX6_argumentEnds cX6_argumentEnds 3 hgt TM cI D ρ [.ref (ρ 0), .int a1, .int a2] μ ν := by
  obtain ⟨g, rfl⟩ : ∃ g, hgt = g + 1 := ⟨hgt - 1, by omega⟩
  unfold f_M_argumentEnds at h
  refine CV_of (own := RX6) (by decide) rfl (Nat.le_of_ble_eq_true rfl) ?_
  intro p e s m args below meth c Q A H locs X hI hend ls hl
  have hx := X.1.1
  have hb := X.1.2.1
  have hl : lv_has ls 3 [(0, .ref (ρ 0)), (1, .int a1), (2, .int a2)] := hl
  refine lv_aload_n hx hb dX6_argumentEnds_0 rfl (lv_at hl 0 rfl) ?_
  obtain ⟨x2, hc1, h⟩ := ca_some h
  refine rc_vi (o := 0) (As := []) X hI (c_M_token l D cI ρ g (by omega) hc1) rfl rfl gV_X6_113 hd_X6_token (by decide) (Nat.le_refl _) hl.1 rfl (Nat.le_of_ble_eq_true rfl) dX6_argumentEnds_1 (fun H locs hI => ?_)
  refine lv_bipush (v := 11) hx hb dX6_argumentEnds_4 (by decide) ?_
  refine lv_icmp_ne (tgt := 34) hx hb dX6_argumentEnds_6 (by decide) (fun c3 => ?_) (fun c3 => ?_)
  · have h := it_neg c3 h
    refine lv_aload_n hx hb dX6_argumentEnds_34 rfl (lv_at hl 0 rfl) ?_
    refine lv_bipush (v := 7) hx hb dX6_argumentEnds_35 (by decide) ?_
    obtain ⟨x5, μ6, hc4, h⟩ := ca2_some h
    refine rc_vi (o := 0) (As := [.int (7 : Int32)]) X hI (c_M_must l D cI ρ g (by omega) hc4) rfl rfl gV_X6_128 hd_X6_must (by decide) (Nat.le_refl _) hl.1 rfl (Nat.le_of_ble_eq_true rfl) dX6_argumentEnds_37 (fun H locs hI => ?_)
    refine lv_if_ne (tgt := 44) hx hb dX6_argumentEnds_40 (by decide) (fun c7 => ?_) (fun c7 => ?_)
    · have h := it_neg c7 h
      refine lv_aload_n hx hb dX6_argumentEnds_44 rfl (lv_at hl 0 rfl) ?_
      refine lv_iload_n hx hb dX6_argumentEnds_45 rfl (lv_at hl 2 rfl) ?_
      obtain ⟨μ9, hc8, h⟩ := ca_some h
      refine rc_vv (o := 0) (As := [.int a2]) X hI (c_M_callEnds l D cI ρ g (by omega) hc8) rfl rfl gV_X6_184 hd_X6_callEnds (by decide) (Nat.le_refl _) hl.1 rfl (Nat.le_of_ble_eq_true rfl) dX6_argumentEnds_46 (fun H locs hI => ?_)
      refine lv_iload_n hx hb dX6_argumentEnds_49 rfl (lv_at hl 1 rfl) ?_
      refine lv_iconst (v := 2) hx hb dX6_argumentEnds_50 (by decide) ?_
      refine lv_icmp_ne (tgt := 67) hx hb dX6_argumentEnds_51 (by decide) (fun c10 => ?_) (fun c10 => ?_)
      · have h := it_neg c10 h
        refine lv_aload_n hx hb dX6_argumentEnds_67 rfl (lv_at hl 0 rfl) ?_
        refine lv_bipush (v := 12) hx hb dX6_argumentEnds_68 (by decide) ?_
        refine lv_iconst (v := 0) hx hb dX6_argumentEnds_70 (by decide) ?_
        obtain ⟨x12, μ13, hc11, h⟩ := ca2_some h
        refine rc_vi (o := 0) (As := [.int (12 : Int32), .int (0 : Int32)]) X hI (c_M_emit l D cI ρ g (by omega) hc11) rfl rfl gV_X6_158 hd_X6_emit (by decide) (Nat.le_refl _) hl.1 rfl (Nat.le_of_ble_eq_true rfl) dX6_argumentEnds_71 (fun H locs hI => ?_)
        refine lv_pop hx hb dX6_argumentEnds_74 rfl ?_
        refine lv_aload_n hx hb dX6_argumentEnds_75 rfl (lv_at hl 0 rfl) ?_
        refine lv_iconst (v := 2) hx hb dX6_argumentEnds_76 (by decide) ?_
        refine rg_put X hI (o := 0) (j := 6) (k := 106) rfl rfl rfl rfl inG6 tyX6 tyX6_ok nmX6 (by decide) rfl wF_X6_143 rfl rfl rfl rfl dX6_argumentEnds_77 (fun H locs hI => ?_)
        obtain ⟨μ14, eμ14, h⟩ := nm_some h
        rw [← eμ14] at hI
        refine lv_aload_n hx hb dX6_argumentEnds_80 rfl (lv_at hl 0 rfl) ?_
        refine lv_bipush (v := 10) hx hb dX6_argumentEnds_81 (by decide) ?_
        obtain ⟨x16, μ17, hc15, h⟩ := ca2_some h
        refine rc_vi (o := 0) (As := [.int (10 : Int32)]) X hI (c_M_must l D cI ρ g (by omega) hc15) rfl rfl gV_X6_128 hd_X6_must (by decide) (Nat.le_refl _) hl.1 rfl (Nat.le_of_ble_eq_true rfl) dX6_argumentEnds_83 (fun H locs hI => ?_)
        refine lv_pop hx hb dX6_argumentEnds_86 rfl ?_
        cases h
        exact hend H locs _ _ hI dX6_argumentEnds_87
      · have h := it_pos c10 h
        refine lv_aload_n hx hb dX6_argumentEnds_54 rfl (lv_at hl 0 rfl) ?_
        refine lv_dup hx hb dX6_argumentEnds_55 rfl ?_
        refine rg_get X hI (o := 0) (j := 26) (k := 126) rfl rfl rfl inG6 (by decide) rfl wF_X6_146 dX6_argumentEnds_56 ?_
        refine lv_iconst (v := 1) hx hb dX6_argumentEnds_59 (by decide) ?_
        refine lv_isub hx hb dX6_argumentEnds_60 ?_
        refine rg_put X hI (o := 0) (j := 26) (k := 126) rfl rfl rfl rfl inG6 tyX6 tyX6_ok nmX6 (by decide) rfl wF_X6_146 rfl rfl rfl rfl dX6_argumentEnds_61 (fun H locs hI => ?_)
        obtain ⟨μ18, eμ18, h⟩ := nm_some h
        rw [← eμ18] at hI
        refine lv_goto (tgt := 87) hx hb dX6_argumentEnds_64 (by decide) ?_
        cases h
        exact hend H locs _ _ hI dX6_argumentEnds_87
    · have h := it_pos c7 h
      cases h
      exact hend H locs _ _ hI dX6_argumentEnds_43
  · have h := it_pos c3 h
    refine lv_aload_n hx hb dX6_argumentEnds_9 rfl (lv_at hl 0 rfl) ?_
    refine lv_dup hx hb dX6_argumentEnds_10 rfl ?_
    refine rg_get X hI (o := 0) (j := 5) (k := 105) rfl rfl rfl inG6 (by decide) rfl wF_X6_104 dX6_argumentEnds_11 ?_
    refine lv_iconst (v := 1) hx hb dX6_argumentEnds_14 (by decide) ?_
    refine lv_iadd hx hb dX6_argumentEnds_15 ?_
    refine rg_put X hI (o := 0) (j := 5) (k := 105) rfl rfl rfl rfl inG6 tyX6 tyX6_ok nmX6 (by decide) rfl wF_X6_104 rfl rfl rfl rfl dX6_argumentEnds_16 (fun H locs hI => ?_)
    obtain ⟨μ19, eμ19, h⟩ := nm_some h
    rw [← eμ19] at hI
    refine lv_aload_n hx hb dX6_argumentEnds_19 rfl (lv_at hl 0 rfl) ?_
    refine rg_getR X hI (o := 0) (j := 21) (k := 12) rfl rfl rfl inG6 (by decide) rfl wF_X6_43 dX6_argumentEnds_20 ?_
    refine lv_iload_n hx hb dX6_argumentEnds_23 rfl (lv_at hl 2 rfl) ?_
    refine lv_dup2_11 hx hb dX6_argumentEnds_24 rfl rfl ?_
    obtain ⟨hn20, h⟩ := gd_some h
    refine rg_ald X hI (o := 12) rfl hn20 dX6_argumentEnds_25 ?_
    obtain ⟨x21, ex21, h⟩ := nm_some h
    refine rg_top ex21 ?_
    refine lv_iconst (v := 1) hx hb dX6_argumentEnds_26 (by decide) ?_
    refine lv_iadd hx hb dX6_argumentEnds_27 ?_
    obtain ⟨hn22, h⟩ := gd_some h
    refine rg_ast X hI (o := 12) rfl rfl hn22 dX6_argumentEnds_28 (fun H locs hI => ?_)
    obtain ⟨μ23, eμ23, h⟩ := nm_some h
    rw [← eμ23] at hI
    refine lv_aload_n hx hb dX6_argumentEnds_29 rfl (lv_at hl 0 rfl) ?_
    obtain ⟨μ25, hc24, h⟩ := ca_some h
    refine rc_vv (o := 0) (As := []) X hI (c_M_fresh l D cI ρ g (by omega) hc24) rfl rfl gV_X6_155 hd_X6_fresh (by decide) (Nat.le_refl _) hl.1 rfl (Nat.le_of_ble_eq_true rfl) dX6_argumentEnds_30 (fun H locs hI => ?_)
    cases h
    exact hend H locs _ _ hI dX6_argumentEnds_33
set_option maxHeartbeats 4000000 in
set_option maxRecDepth 100000 in
theorem c_M_valueEnds (l : Launch) (D : va_G) (cI : ClassId) (ρ : Nat → Nat) (hgt : Nat) (hh : 4 ≤ hgt) {a1 : Int32} {a2 : Int32} {μ ν : St} (h : f_M_valueEnds a1 a2 μ = some ν) : CV l yX6_valueEnds cX6_valueEnds 4 hgt TM cI D ρ [.ref (ρ 0), .int a1, .int a2] μ ν := by
  obtain ⟨g, rfl⟩ : ∃ g, hgt = g + 1 := ⟨hgt - 1, by omega⟩
  unfold f_M_valueEnds at h
  refine CV_of (own := RX6) (by decide) rfl (Nat.le_of_ble_eq_true rfl) ?_
  intro p e s m args below meth c Q A H locs X hI hend ls hl
  have hx := X.1.1
  have hb := X.1.2.1
  have hl : lv_has ls 4 [(0, .ref (ρ 0)), (1, .int a1), (2, .int a2)] := hl
  refine lv_iload_n hx hb dX6_valueEnds_0 rfl (lv_at hl 1 rfl) ?_
  refine lv_if_ne (tgt := 26) hx hb dX6_valueEnds_1 (by decide) (fun c1 => ?_) (fun c1 => ?_)
  · have h := it_neg c1 h
    refine lv_iload_n hx hb dX6_valueEnds_26 rfl (lv_at hl 1 rfl) ?_
    refine lv_iconst (v := 1) hx hb dX6_valueEnds_27 (by decide) ?_
    refine lv_icmp_ne (tgt := 60) hx hb dX6_valueEnds_28 (by decide) (fun c2 => ?_) (fun c2 => ?_)
    · have h := it_neg c2 h
      refine lv_iload_n hx hb dX6_valueEnds_60 rfl (lv_at hl 1 rfl) ?_
      refine lv_iconst (v := 2) hx hb dX6_valueEnds_61 (by decide) ?_
      obtain ⟨k4, ek4, h⟩ := jn_some h
      have hj5 : ∀ (ls : Array Slot), lv_has ls 4 [(0, .ref (ρ 0)), (1, .int a1), (2, .int a2)] → k4 = some ν → W p l e (rmL (g + 1)) s m args below meth c H locs 0 0 Q (F0 m 71 ls []) := by
        intro ls hl h
        rw [ek4] at h
        refine lv_aload_n hx hb dX6_valueEnds_71 rfl (lv_at hl 0 rfl) ?_
        refine lv_iload_n hx hb dX6_valueEnds_72 rfl (lv_at hl 1 rfl) ?_
        refine lv_iload_n hx hb dX6_valueEnds_73 rfl (lv_at hl 2 rfl) ?_
        obtain ⟨μ7, hc6, h⟩ := ca_some h
        refine rc_vv (o := 0) (As := [.int a1, .int a2]) X hI (c_M_argumentEnds l D cI ρ g (by omega) hc6) rfl rfl gV_X6_200 hd_X6_argumentEnds (by decide) (Nat.le_refl _) hl.1 rfl (Nat.le_of_ble_eq_true rfl) dX6_valueEnds_74 (fun H locs hI => ?_)
        refine lv_goto (tgt := 209) hx hb dX6_valueEnds_77 (by decide) ?_
        cases h
        exact hend H locs _ _ hI dX6_valueEnds_209
      refine lv_icmp_eq (tgt := 71) hx hb dX6_valueEnds_62 (by decide) (fun c8 => ?_) (fun c8 => ?_)
      · have h := it_pos c8 h
        exact hj5 ls (lv_sub hl [0, 1, 2] rfl) h
      · have h := it_neg c8 h
        refine lv_iload_n hx hb dX6_valueEnds_65 rfl (lv_at hl 1 rfl) ?_
        refine lv_bipush (v := 9) hx hb dX6_valueEnds_66 (by decide) ?_
        refine lv_icmp_ne (tgt := 80) hx hb dX6_valueEnds_68 (by decide) (fun c9 => ?_) (fun c9 => ?_)
        · have h := it_neg c9 h
          refine lv_iload_n hx hb dX6_valueEnds_80 rfl (lv_at hl 1 rfl) ?_
          refine lv_iconst (v := 3) hx hb dX6_valueEnds_81 (by decide) ?_
          refine lv_icmp_ne (tgt := 111) hx hb dX6_valueEnds_82 (by decide) (fun c10 => ?_) (fun c10 => ?_)
          · have h := it_neg c10 h
            refine lv_iload_n hx hb dX6_valueEnds_111 rfl (lv_at hl 1 rfl) ?_
            refine lv_iconst (v := 5) hx hb dX6_valueEnds_112 (by decide) ?_
            obtain ⟨k12, ek12, h⟩ := jn_some h
            have hj13 : ∀ (ls : Array Slot), lv_has ls 4 [(0, .ref (ρ 0)), (1, .int a1)] → k12 = some ν → W p l e (rmL (g + 1)) s m args below meth c H locs 0 0 Q (F0 m 122 ls []) := by
              intro ls hl h
              rw [ek12] at h
              refine lv_aload_n hx hb dX6_valueEnds_122 rfl (lv_at hl 0 rfl) ?_
              refine lv_bipush (v := 7) hx hb dX6_valueEnds_123 (by decide) ?_
              obtain ⟨x15, μ16, hc14, h⟩ := ca2_some h
              refine rc_vi (o := 0) (As := [.int (7 : Int32)]) X hI (c_M_must l D cI ρ g (by omega) hc14) rfl rfl gV_X6_128 hd_X6_must (by decide) (Nat.le_refl _) hl.1 rfl (Nat.le_of_ble_eq_true rfl) dX6_valueEnds_125 (fun H locs hI => ?_)
              refine lv_if_eq (tgt := 209) hx hb dX6_valueEnds_128 (by decide) (fun c17 => ?_) (fun c17 => ?_)
              · have h := it_pos c17 h
                cases h
                exact hend H locs _ _ hI dX6_valueEnds_209
              · have h := it_neg c17 h
                refine lv_aload_n hx hb dX6_valueEnds_131 rfl (lv_at hl 0 rfl) ?_
                refine lv_bipush (v := 13) hx hb dX6_valueEnds_132 (by decide) ?_
                refine lv_iconst (v := 0) hx hb dX6_valueEnds_134 (by decide) ?_
                obtain ⟨x19, μ20, hc18, h⟩ := ca2_some h
                refine rc_vi (o := 0) (As := [.int (13 : Int32), .int (0 : Int32)]) X hI (c_M_emit l D cI ρ g (by omega) hc18) rfl rfl gV_X6_158 hd_X6_emit (by decide) (Nat.le_refl _) hl.1 rfl (Nat.le_of_ble_eq_true rfl) dX6_valueEnds_135 (fun H locs hI => ?_)
                refine lv_istore_n (lv' := [(3, .int x19), (0, .ref (ρ 0)), (1, .int a1)]) hx hb dX6_valueEnds_138 rfl hl (by decide) rfl (fun ls hl => ?_)
                refine lv_aload_n hx hb dX6_valueEnds_139 rfl (lv_at hl 1 rfl) ?_
                refine lv_iload_n hx hb dX6_valueEnds_140 rfl (lv_at hl 2 rfl) ?_
                refine lv_iconst (v := 5) hx hb dX6_valueEnds_141 (by decide) ?_
                obtain ⟨k22, ek22, h⟩ := jn_some h
                have hj23 : ∀ (y24 : Int32) (ls : Array Slot), lv_has ls 4 [(0, .ref (ρ 0)), (3, .int x19)] → k22 y24 = some ν → W p l e (rmL (g + 1)) s m args below meth c H locs 0 0 Q (F0 m 150 ls [.int y24, .ref (ρ 0)]) := by
                  intro y24 ls hl h
                  rw [ek22] at h
                  try dsimp only at h
                  refine lv_iload_n hx hb dX6_valueEnds_150 rfl (lv_at hl 1 rfl) ?_
                  refine lv_aload_n hx hb dX6_valueEnds_151 rfl (lv_at hl 0 rfl) ?_
                  refine rg_get X hI (o := 0) (j := 36) (k := 136) rfl rfl rfl inG6 (by decide) rfl wF_X6_168 dX6_valueEnds_152 ?_
                  obtain ⟨μ26, hc25, h⟩ := ca_some h
                  refine rc_vv (o := 0) (As := [.int y24, .int x19, .int (μ20 136 0)]) X hI (c_M_begins l D cI ρ g (by omega) hc25) rfl rfl gV_X6_136 hd_X6_begins (by decide) (Nat.le_refl _) hl.1 rfl (Nat.le_of_ble_eq_true rfl) dX6_valueEnds_155 (fun H locs hI => ?_)
                  refine lv_goto (tgt := 209) hx hb dX6_valueEnds_158 (by decide) ?_
                  cases h
                  exact hend H locs _ _ hI dX6_valueEnds_209
                refine lv_icmp_ne (tgt := 149) hx hb dX6_valueEnds_142 (by decide) (fun c27 => ?_) (fun c27 => ?_)
                · have h := it_neg c27 h
                  refine lv_iconst (v := 3) hx hb dX6_valueEnds_149 (by decide) ?_
                  exact hj23 (3 : Int32) ls (lv_sub hl [1, 0] rfl) h
                · have h := it_pos c27 h
                  refine lv_iconst (v := 1) hx hb dX6_valueEnds_145 (by decide) ?_
                  refine lv_goto (tgt := 150) hx hb dX6_valueEnds_146 (by decide) ?_
                  exact hj23 (1 : Int32) ls (lv_sub hl [1, 0] rfl) h
            refine lv_icmp_eq (tgt := 122) hx hb dX6_valueEnds_113 (by decide) (fun c28 => ?_) (fun c28 => ?_)
            · have h := it_pos c28 h
              exact hj13 ls (lv_sub hl [0, 1] rfl) h
            · have h := it_neg c28 h
              refine lv_iload_n hx hb dX6_valueEnds_116 rfl (lv_at hl 1 rfl) ?_
              refine lv_bipush (v := 6) hx hb dX6_valueEnds_117 (by decide) ?_
              refine lv_icmp_ne (tgt := 161) hx hb dX6_valueEnds_119 (by decide) (fun c29 => ?_) (fun c29 => ?_)
              · have h := it_neg c29 h
                refine lv_aload_n hx hb dX6_valueEnds_161 rfl (lv_at hl 0 rfl) ?_
                refine lv_bipush (v := 10) hx hb dX6_valueEnds_162 (by decide) ?_
                obtain ⟨x31, μ32, hc30, h⟩ := ca2_some h
                refine rc_vi (o := 0) (As := [.int (10 : Int32)]) X hI (c_M_must l D cI ρ g (by omega) hc30) rfl rfl gV_X6_128 hd_X6_must (by decide) (Nat.le_refl _) hl.1 rfl (Nat.le_of_ble_eq_true rfl) dX6_valueEnds_164 (fun H locs hI => ?_)
                refine lv_if_eq (tgt := 209) hx hb dX6_valueEnds_167 (by decide) (fun c33 => ?_) (fun c33 => ?_)
                · have h := it_pos c33 h
                  cases h
                  exact hend H locs _ _ hI dX6_valueEnds_209
                · have h := it_neg c33 h
                  refine lv_aload_n hx hb dX6_valueEnds_170 rfl (lv_at hl 0 rfl) ?_
                  refine lv_iload_n hx hb dX6_valueEnds_171 rfl (lv_at hl 1 rfl) ?_
                  refine lv_iconst (v := 4) hx hb dX6_valueEnds_172 (by decide) ?_
                  obtain ⟨k35, ek35, h⟩ := jn_some h
                  have hj36 : ∀ (y37 : Int32) (ls : Array Slot), lv_has ls 4 [(0, .ref (ρ 0))] → k35 y37 = some ν → W p l e (rmL (g + 1)) s m args below meth c H locs 0 0 Q (F0 m 196 ls [.int y37, .ref (ρ 0)]) := by
                    intro y37 ls hl h
                    rw [ek35] at h
                    try dsimp only at h
                    refine lv_aload_n hx hb dX6_valueEnds_196 rfl (lv_at hl 0 rfl) ?_
                    refine rg_get X hI (o := 0) (j := 34) (k := 134) rfl rfl rfl inG6 (by decide) rfl wF_X6_174 dX6_valueEnds_197 ?_
                    obtain ⟨x39, μ40, hc38, h⟩ := ca2_some h
                    refine rc_vi (o := 0) (As := [.int y37, .int (μ32 134 0)]) X hI (c_M_emit l D cI ρ g (by omega) hc38) rfl rfl gV_X6_158 hd_X6_emit (by decide) (Nat.le_refl _) hl.1 rfl (Nat.le_of_ble_eq_true rfl) dX6_valueEnds_200 (fun H locs hI => ?_)
                    refine lv_pop hx hb dX6_valueEnds_203 rfl ?_
                    refine lv_aload_n hx hb dX6_valueEnds_204 rfl (lv_at hl 0 rfl) ?_
                    refine lv_iconst (v := 2) hx hb dX6_valueEnds_205 (by decide) ?_
                    refine rg_put X hI (o := 0) (j := 6) (k := 106) rfl rfl rfl rfl inG6 tyX6 tyX6_ok nmX6 (by decide) rfl wF_X6_143 rfl rfl rfl rfl dX6_valueEnds_206 (fun H locs hI => ?_)
                    obtain ⟨μ41, eμ41, h⟩ := nm_some h
                    rw [← eμ41] at hI
                    cases h
                    exact hend H locs _ _ hI dX6_valueEnds_209
                  refine lv_icmp_ne (tgt := 183) hx hb dX6_valueEnds_173 (by decide) (fun c42 => ?_) (fun c42 => ?_)
                  · have h := it_neg c42 h
                    refine lv_iload_n hx hb dX6_valueEnds_183 rfl (lv_at hl 1 rfl) ?_
                    refine lv_bipush (v := 7) hx hb dX6_valueEnds_184 (by decide) ?_
                    refine lv_icmp_ne (tgt := 194) hx hb dX6_valueEnds_186 (by decide) (fun c43 => ?_) (fun c43 => ?_)
                    · have h := it_neg c43 h
                      refine lv_bipush (v := 16) hx hb dX6_valueEnds_194 (by decide) ?_
                      exact hj36 (16 : Int32) ls (lv_sub hl [0] rfl) h
                    · have h := it_pos c43 h
                      refine lv_bipush (v := 15) hx hb dX6_valueEnds_189 (by decide) ?_
                      refine lv_goto (tgt := 196) hx hb dX6_valueEnds_191 (by decide) ?_
                      exact hj36 (15 : Int32) ls (lv_sub hl [0] rfl) h
                  · have h := it_pos c42 h
                    refine lv_aload_n hx hb dX6_valueEnds_176 rfl (lv_at hl 0 rfl) ?_
                    refine rg_get X hI (o := 0) (j := 35) (k := 135) rfl rfl rfl inG6 (by decide) rfl wF_X6_171 dX6_valueEnds_177 ?_
                    refine lv_goto (tgt := 196) hx hb dX6_valueEnds_180 (by decide) ?_
                    exact hj36 (μ32 135 0) ls (lv_sub hl [0] rfl) h
              · have h := it_pos c29 h
                exact hj13 ls (lv_sub hl [0, 1] rfl) h
          · have h := it_pos c10 h
            refine lv_aload_n hx hb dX6_valueEnds_85 rfl (lv_at hl 0 rfl) ?_
            refine lv_bipush (v := 22) hx hb dX6_valueEnds_86 (by decide) ?_
            obtain ⟨x45, μ46, hc44, h⟩ := ca2_some h
            refine rc_vi (o := 0) (As := [.int (22 : Int32)]) X hI (c_M_must l D cI ρ g (by omega) hc44) rfl rfl gV_X6_128 hd_X6_must (by decide) (Nat.le_refl _) hl.1 rfl (Nat.le_of_ble_eq_true rfl) dX6_valueEnds_88 (fun H locs hI => ?_)
            refine lv_if_eq (tgt := 209) hx hb dX6_valueEnds_91 (by decide) (fun c47 => ?_) (fun c47 => ?_)
            · have h := it_pos c47 h
              cases h
              exact hend H locs _ _ hI dX6_valueEnds_209
            · have h := it_neg c47 h
              refine lv_aload_n hx hb dX6_valueEnds_94 rfl (lv_at hl 0 rfl) ?_
              refine lv_bipush (v := 12) hx hb dX6_valueEnds_95 (by decide) ?_
              obtain ⟨x49, μ50, hc48, h⟩ := ca2_some h
              refine rc_vi (o := 0) (As := [.int (12 : Int32)]) X hI (c_M_must l D cI ρ g (by omega) hc48) rfl rfl gV_X6_128 hd_X6_must (by decide) (Nat.le_refl _) hl.1 rfl (Nat.le_of_ble_eq_true rfl) dX6_valueEnds_97 (fun H locs hI => ?_)
              refine lv_if_eq (tgt := 209) hx hb dX6_valueEnds_100 (by decide) (fun c51 => ?_) (fun c51 => ?_)
              · have h := it_pos c51 h
                cases h
                exact hend H locs _ _ hI dX6_valueEnds_209
              · have h := it_neg c51 h
                refine lv_aload_n hx hb dX6_valueEnds_103 rfl (lv_at hl 0 rfl) ?_
                refine lv_iconst (v := 4) hx hb dX6_valueEnds_104 (by decide) ?_
                obtain ⟨μ53, hc52, h⟩ := ca_some h
                refine rc_vv (o := 0) (As := [.int (4 : Int32)]) X hI (c_M_worth l D cI ρ g (by omega) hc52) rfl rfl gV_X6_177 hd_X6_worth (by decide) (Nat.le_refl _) hl.1 rfl (Nat.le_of_ble_eq_true rfl) dX6_valueEnds_105 (fun H locs hI => ?_)
                refine lv_goto (tgt := 209) hx hb dX6_valueEnds_108 (by decide) ?_
                cases h
                exact hend H locs _ _ hI dX6_valueEnds_209
        · have h := it_pos c9 h
          exact hj5 ls (lv_sub hl [0, 1, 2] rfl) h
    · have h := it_pos c2 h
      refine lv_aload_n hx hb dX6_valueEnds_31 rfl (lv_at hl 0 rfl) ?_
      refine lv_bipush (v := 22) hx hb dX6_valueEnds_32 (by decide) ?_
      obtain ⟨x55, μ56, hc54, h⟩ := ca2_some h
      refine rc_vi (o := 0) (As := [.int (22 : Int32)]) X hI (c_M_must l D cI ρ g (by omega) hc54) rfl rfl gV_X6_128 hd_X6_must (by decide) (Nat.le_refl _) hl.1 rfl (Nat.le_of_ble_eq_true rfl) dX6_valueEnds_34 (fun H locs hI => ?_)
      refine lv_if_eq (tgt := 209) hx hb dX6_valueEnds_37 (by decide) (fun c57 => ?_) (fun c57 => ?_)
      · have h := it_pos c57 h
        cases h
        exact hend H locs _ _ hI dX6_valueEnds_209
      · have h := it_neg c57 h
        refine lv_aload_n hx hb dX6_valueEnds_40 rfl (lv_at hl 0 rfl) ?_
        refine lv_iconst (v := 4) hx hb dX6_valueEnds_41 (by decide) ?_
        refine lv_iload_n hx hb dX6_valueEnds_42 rfl (lv_at hl 2 rfl) ?_
        obtain ⟨x59, μ60, hc58, h⟩ := ca2_some h
        refine rc_vi (o := 0) (As := [.int (4 : Int32), .int a2]) X hI (c_M_emit l D cI ρ g (by omega) hc58) rfl rfl gV_X6_158 hd_X6_emit (by decide) (Nat.le_refl _) hl.1 rfl (Nat.le_of_ble_eq_true rfl) dX6_valueEnds_43 (fun H locs hI => ?_)
        refine lv_pop hx hb dX6_valueEnds_46 rfl ?_
        refine lv_aload_n hx hb dX6_valueEnds_47 rfl (lv_at hl 0 rfl) ?_
        refine lv_dup hx hb dX6_valueEnds_48 rfl ?_
        refine rg_get X hI (o := 0) (j := 26) (k := 126) rfl rfl rfl inG6 (by decide) rfl wF_X6_146 dX6_valueEnds_49 ?_
        refine lv_iconst (v := 1) hx hb dX6_valueEnds_52 (by decide) ?_
        refine lv_isub hx hb dX6_valueEnds_53 ?_
        refine rg_put X hI (o := 0) (j := 26) (k := 126) rfl rfl rfl rfl inG6 tyX6 tyX6_ok nmX6 (by decide) rfl wF_X6_146 rfl rfl rfl rfl dX6_valueEnds_54 (fun H locs hI => ?_)
        obtain ⟨μ61, eμ61, h⟩ := nm_some h
        rw [← eμ61] at hI
        refine lv_goto (tgt := 209) hx hb dX6_valueEnds_57 (by decide) ?_
        cases h
        exact hend H locs _ _ hI dX6_valueEnds_209
  · have h := it_pos c1 h
    refine lv_aload_n hx hb dX6_valueEnds_4 rfl (lv_at hl 0 rfl) ?_
    refine lv_bipush (v := 7) hx hb dX6_valueEnds_5 (by decide) ?_
    obtain ⟨x63, μ64, hc62, h⟩ := ca2_some h
    refine rc_vi (o := 0) (As := [.int (7 : Int32)]) X hI (c_M_must l D cI ρ g (by omega) hc62) rfl rfl gV_X6_128 hd_X6_must (by decide) (Nat.le_refl _) hl.1 rfl (Nat.le_of_ble_eq_true rfl) dX6_valueEnds_7 (fun H locs hI => ?_)
    refine lv_if_eq (tgt := 209) hx hb dX6_valueEnds_10 (by decide) (fun c65 => ?_) (fun c65 => ?_)
    · have h := it_pos c65 h
      cases h
      exact hend H locs _ _ hI dX6_valueEnds_209
    · have h := it_neg c65 h
      refine lv_aload_n hx hb dX6_valueEnds_13 rfl (lv_at hl 0 rfl) ?_
      refine lv_dup hx hb dX6_valueEnds_14 rfl ?_
      refine rg_get X hI (o := 0) (j := 26) (k := 126) rfl rfl rfl inG6 (by decide) rfl wF_X6_146 dX6_valueEnds_15 ?_
      refine lv_iconst (v := 1) hx hb dX6_valueEnds_18 (by decide) ?_
      refine lv_isub hx hb dX6_valueEnds_19 ?_
      refine rg_put X hI (o := 0) (j := 26) (k := 126) rfl rfl rfl rfl inG6 tyX6 tyX6_ok nmX6 (by decide) rfl wF_X6_146 rfl rfl rfl rfl dX6_valueEnds_20 (fun H locs hI => ?_)
      obtain ⟨μ66, eμ66, h⟩ := nm_some h
      rw [← eμ66] at hI
      refine lv_goto (tgt := 209) hx hb dX6_valueEnds_23 (by decide) ?_
      cases h
      exact hend H locs _ _ hI dX6_valueEnds_209
set_option maxHeartbeats 4000000 in
set_option maxRecDepth 100000 in
theorem c_M_behind (l : Launch) (D : va_G) (cI : ClassId) (ρ : Nat → Nat) {N : Nat} (hgt : Nat) (hh : 5 ≤ hgt)  {μ ν : St} (h : f_M_behind N μ = some ν) : CV l yX6_behind cX6_behind 4 hgt TM cI D ρ [.ref (ρ 0)] μ ν := by
  obtain ⟨g, rfl⟩ : ∃ g, hgt = g + 1 := ⟨hgt - 1, by omega⟩
  unfold f_M_behind at h
  refine CV_of (own := RX6) (by decide) rfl (Nat.le_of_ble_eq_true rfl) ?_
  intro p e s m args below meth c Q A H locs X hI hend ls hl
  have hx := X.1.1
  have hb := X.1.2.1
  have hl : lv_has ls 4 [(0, .ref (ρ 0))] := hl
  refine lv_aload_n hx hb dX6_behind_0 rfl (lv_at hl 0 rfl) ?_
  refine rg_get X hI (o := 0) (j := 26) (k := 126) rfl rfl rfl inG6 (by decide) rfl wF_X6_146 dX6_behind_1 ?_
  refine lv_iconst (v := 1) hx hb dX6_behind_4 (by decide) ?_
  refine lv_isub hx hb dX6_behind_5 ?_
  obtain ⟨x1, ex1, h⟩ := nm_some h
  refine rg_top ex1 ?_
  refine lv_istore_n (lv' := [(1, .int x1), (0, .ref (ρ 0))]) hx hb dX6_behind_6 rfl hl (by decide) rfl (fun ls hl => ?_)
  refine lv_aload_n hx hb dX6_behind_7 rfl (lv_at hl 1 rfl) ?_
  refine rg_getR X hI (o := 0) (j := 28) (k := 17) rfl rfl rfl inG6 (by decide) rfl wF_X6_58 dX6_behind_8 ?_
  refine lv_iload_n hx hb dX6_behind_11 rfl (lv_at hl 0 rfl) ?_
  obtain ⟨hn2, h⟩ := gd_some h
  refine rg_ald X hI (o := 17) rfl hn2 dX6_behind_12 ?_
  obtain ⟨x3, ex3, h⟩ := nm_some h
  refine rg_top ex3 ?_
  refine lv_iconst (v := -1) hx hb dX6_behind_13 (by decide) ?_
  obtain ⟨k5, ek5, h⟩ := jn_some h
  have hj6 : ∀ (μ4 : St) (H : Heap) (locs : List Loc) (ls : Array Slot), lv_has ls 4 [(0, .ref (ρ 0)), (1, .int x1)] → RI TM cI D A s.heap ρ μ4 H locs → k5 μ4 = some ν → W p l e (rmL (g + 1)) s m args below meth c H locs 0 0 Q (F0 m 36 ls []) := by
    intro μ4 H locs ls hl hI h
    rw [ek5] at h
    try dsimp only at h
    refine lv_aload_n hx hb dX6_behind_36 rfl (lv_at hl 0 rfl) ?_
    obtain ⟨x8, hc7, h⟩ := ca_some h
    refine rc_vi (o := 0) (As := []) X hI (c_M_token l D cI ρ g (by omega) hc7) rfl rfl gV_X6_113 hd_X6_token (by decide) (Nat.le_refl _) hl.1 rfl (Nat.le_of_ble_eq_true rfl) dX6_behind_37 (fun H locs hI => ?_)
    obtain ⟨x10, hc9, h⟩ := ca_some h
    refine rc_si (As := [.int x8]) X hI (c_M_levelOf l D cI ρ g (by omega) hc9) gV_X6_190 hd_X6_levelOf (by decide) (Nat.le_refl _) hl.1 rfl (Nat.le_of_ble_eq_true rfl) dX6_behind_40 (fun H locs hI => ?_)
    refine lv_istore_n (lv' := [(2, .int x10), (0, .ref (ρ 0)), (1, .int x1)]) hx hb dX6_behind_43 rfl hl (by decide) rfl (fun ls hl => ?_)
    refine lv_aload_n hx hb dX6_behind_44 rfl (lv_at hl 1 rfl) ?_
    refine lv_iload_n hx hb dX6_behind_45 rfl (lv_at hl 0 rfl) ?_
    obtain ⟨k12, ek12, h⟩ := jn_some h
    have hj13 : ∀ (y14 : Int32) (ls : Array Slot), lv_has ls 4 [(0, .ref (ρ 0)), (1, .int x1), (2, .int x10)] → k12 y14 = some ν → W p l e (rmL (g + 1)) s m args below meth c H locs 0 0 Q (F0 m 63 ls [.int y14, .ref (ρ 0)]) := by
      intro y14 ls hl h
      rw [ek12] at h
      try dsimp only at h
      obtain ⟨μ16, hc15, h⟩ := ca_some h
      refine rc_vv (o := 0) (As := [.int y14]) X hI (c_M_reduce l D cI ρ g (by omega) hc15) rfl rfl gV_X6_194 hd_X6_reduce (by decide) (Nat.le_refl _) hl.1 rfl (Nat.le_of_ble_eq_true rfl) dX6_behind_63 (fun H locs hI => ?_)
      refine lv_iload_n hx hb dX6_behind_66 rfl (lv_at hl 2 rfl) ?_
      refine lv_iconst (v := 1) hx hb dX6_behind_67 (by decide) ?_
      obtain ⟨k18, ek18, h⟩ := jn_some h
      have hj19 : ∀ (y20 : Int32) (ls : Array Slot), lv_has ls 4 [(0, .ref (ρ 0)), (1, .int x1), (2, .int x10)] → k18 y20 = some ν → W p l e (rmL (g + 1)) s m args below meth c H locs 0 0 Q (F0 m 104 ls [.int y20]) := by
        intro y20 ls hl h
        rw [ek18] at h
        try dsimp only at h
        refine lv_istore_n (lv' := [(3, .int y20), (0, .ref (ρ 0)), (1, .int x1), (2, .int x10)]) hx hb dX6_behind_104 rfl hl (by decide) rfl (fun ls hl => ?_)
        refine lv_iload_n hx hb dX6_behind_105 rfl (lv_at hl 3 rfl) ?_
        obtain ⟨k22, ek22, h⟩ := jn_some h
        have hj23 : ∀ (ls : Array Slot), lv_has ls 4 [(0, .ref (ρ 0)), (1, .int x1), (3, .int y20)] → k22 = some ν → W p l e (rmL (g + 1)) s m args below meth c H locs 0 0 Q (F0 m 162 ls []) := by
          intro ls hl h
          rw [ek22] at h
          refine lv_iload_n hx hb dX6_behind_162 rfl (lv_at hl 2 rfl) ?_
          refine lv_if_eq (tgt := 176) hx hb dX6_behind_163 (by decide) (fun c24 => ?_) (fun c24 => ?_)
          · have h := it_pos c24 h
            refine lv_aload_n hx hb dX6_behind_176 rfl (lv_at hl 0 rfl) ?_
            refine lv_aload_n hx hb dX6_behind_177 rfl (lv_at hl 0 rfl) ?_
            refine rg_getR X hI (o := 0) (j := 27) (k := 16) rfl rfl rfl inG6 (by decide) rfl wF_X6_55 dX6_behind_178 ?_
            refine lv_iload_n hx hb dX6_behind_181 rfl (lv_at hl 1 rfl) ?_
            obtain ⟨hn25, h⟩ := gd_some h
            refine rg_ald X hI (o := 16) rfl hn25 dX6_behind_182 ?_
            obtain ⟨x26, ex26, h⟩ := nm_some h
            refine rg_top ex26 ?_
            refine lv_aload_n hx hb dX6_behind_183 rfl (lv_at hl 0 rfl) ?_
            refine rg_getR X hI (o := 0) (j := 30) (k := 19) rfl rfl rfl inG6 (by decide) rfl wF_X6_64 dX6_behind_184 ?_
            refine lv_iload_n hx hb dX6_behind_187 rfl (lv_at hl 1 rfl) ?_
            obtain ⟨hn27, h⟩ := gd_some h
            refine rg_ald X hI (o := 19) rfl hn27 dX6_behind_188 ?_
            obtain ⟨x28, ex28, h⟩ := nm_some h
            refine rg_top ex28 ?_
            obtain ⟨μ30, hc29, h⟩ := ca_some h
            refine rc_vv (o := 0) (As := [.int x26, .int x28]) X hI (c_M_valueEnds l D cI ρ g (by omega) hc29) rfl rfl gV_X6_197 hd_X6_valueEnds (by decide) (Nat.le_refl _) hl.1 rfl (Nat.le_of_ble_eq_true rfl) dX6_behind_189 (fun H locs hI => ?_)
            cases h
            exact hend H locs _ _ hI dX6_behind_192
          · have h := it_neg c24 h
            refine lv_aload_n hx hb dX6_behind_166 rfl (lv_at hl 0 rfl) ?_
            refine lv_iconst (v := 1) hx hb dX6_behind_167 (by decide) ?_
            refine lv_aload_n hx hb dX6_behind_168 rfl (lv_at hl 0 rfl) ?_
            refine rg_get X hI (o := 0) (j := 5) (k := 105) rfl rfl rfl inG6 (by decide) rfl wF_X6_104 dX6_behind_169 ?_
            obtain ⟨μ32, hc31, h⟩ := ca_some h
            refine rc_vv (o := 0) (As := [.int (1 : Int32), .int (μ16 105 0)]) X hI (c_M_wrong l D cI ρ g (by omega) hc31) rfl rfl gV_X6_117 hd_X6_wrong (by decide) (Nat.le_refl _) hl.1 rfl (Nat.le_of_ble_eq_true rfl) dX6_behind_172 (fun H locs hI => ?_)
            cases h
            exact hend H locs _ _ hI dX6_behind_175
        refine lv_if_le (tgt := 162) hx hb dX6_behind_106 (by decide) (fun c33 => ?_) (fun c33 => ?_)
        · have h := it_pos c33 h
          exact hj23 ls (lv_sub hl [1, 2, 0] rfl) h
        · have h := it_neg c33 h
          refine lv_iload_n hx hb dX6_behind_109 rfl (lv_at hl 0 rfl) ?_
          refine lv_if_ne (tgt := 162) hx hb dX6_behind_110 (by decide) (fun c34 => ?_) (fun c34 => ?_)
          · have h := it_neg c34 h
            exact hj23 ls (lv_sub hl [1, 2, 0] rfl) h
          · have h := it_pos c34 h
            refine lv_aload_n hx hb dX6_behind_113 rfl (lv_at hl 1 rfl) ?_
            refine rg_getR X hI (o := 0) (j := 32) (k := 20) rfl rfl rfl inG6 (by decide) rfl wF_X6_67 dX6_behind_114 ?_
            refine lv_aload_n hx hb dX6_behind_117 rfl (lv_at hl 1 rfl) ?_
            refine rg_get X hI (o := 0) (j := 31) (k := 131) rfl rfl rfl inG6 (by decide) rfl wF_X6_149 dX6_behind_118 ?_
            refine lv_aload_n hx hb dX6_behind_121 rfl (lv_at hl 1 rfl) ?_
            obtain ⟨x36, hc35, h⟩ := ca_some h
            refine rc_vi (o := 0) (As := []) X hI (c_M_token l D cI ρ g (by omega) hc35) rfl rfl gV_X6_113 hd_X6_token (by decide) (Nat.le_refl _) hl.1 rfl (Nat.le_of_ble_eq_true rfl) dX6_behind_122 (fun H locs hI => ?_)
            obtain ⟨hn37, h⟩ := gd_some h
            refine rg_ast X hI (o := 20) rfl rfl hn37 dX6_behind_125 (fun H locs hI => ?_)
            obtain ⟨μ38, eμ38, h⟩ := nm_some h
            rw [← eμ38] at hI
            refine lv_aload_n hx hb dX6_behind_126 rfl (lv_at hl 1 rfl) ?_
            refine rg_getR X hI (o := 0) (j := 33) (k := 21) rfl rfl rfl inG6 (by decide) rfl wF_X6_70 dX6_behind_127 ?_
            refine lv_aload_n hx hb dX6_behind_130 rfl (lv_at hl 1 rfl) ?_
            refine rg_get X hI (o := 0) (j := 31) (k := 131) rfl rfl rfl inG6 (by decide) rfl wF_X6_149 dX6_behind_131 ?_
            refine lv_iload_n hx hb dX6_behind_134 rfl (lv_at hl 3 rfl) ?_
            obtain ⟨hn39, h⟩ := gd_some h
            refine rg_ast X hI (o := 21) rfl rfl hn39 dX6_behind_135 (fun H locs hI => ?_)
            obtain ⟨μ40, eμ40, h⟩ := nm_some h
            rw [← eμ40] at hI
            refine lv_aload_n hx hb dX6_behind_136 rfl (lv_at hl 1 rfl) ?_
            refine lv_dup hx hb dX6_behind_137 rfl ?_
            refine rg_get X hI (o := 0) (j := 31) (k := 131) rfl rfl rfl inG6 (by decide) rfl wF_X6_149 dX6_behind_138 ?_
            refine lv_iconst (v := 1) hx hb dX6_behind_141 (by decide) ?_
            refine lv_iadd hx hb dX6_behind_142 ?_
            refine rg_put X hI (o := 0) (j := 31) (k := 131) rfl rfl rfl rfl inG6 tyX6 tyX6_ok nmX6 (by decide) rfl wF_X6_149 rfl rfl rfl rfl dX6_behind_143 (fun H locs hI => ?_)
            obtain ⟨μ41, eμ41, h⟩ := nm_some h
            rw [← eμ41] at hI
            refine lv_aload_n hx hb dX6_behind_146 rfl (lv_at hl 1 rfl) ?_
            refine lv_dup hx hb dX6_behind_147 rfl ?_
            refine rg_get X hI (o := 0) (j := 5) (k := 105) rfl rfl rfl inG6 (by decide) rfl wF_X6_104 dX6_behind_148 ?_
            refine lv_iconst (v := 1) hx hb dX6_behind_151 (by decide) ?_
            refine lv_iadd hx hb dX6_behind_152 ?_
            refine rg_put X hI (o := 0) (j := 5) (k := 105) rfl rfl rfl rfl inG6 tyX6 tyX6_ok nmX6 (by decide) rfl wF_X6_104 rfl rfl rfl rfl dX6_behind_153 (fun H locs hI => ?_)
            obtain ⟨μ42, eμ42, h⟩ := nm_some h
            rw [← eμ42] at hI
            refine lv_aload_n hx hb dX6_behind_156 rfl (lv_at hl 1 rfl) ?_
            refine lv_iconst (v := 3) hx hb dX6_behind_157 (by decide) ?_
            refine rg_put X hI (o := 0) (j := 6) (k := 106) rfl rfl rfl rfl inG6 tyX6 tyX6_ok nmX6 (by decide) rfl wF_X6_143 rfl rfl rfl rfl dX6_behind_158 (fun H locs hI => ?_)
            obtain ⟨μ43, eμ43, h⟩ := nm_some h
            rw [← eμ43] at hI
            cases h
            exact hend H locs _ _ hI dX6_behind_161
      obtain ⟨k45, ek45, h⟩ := jn_some h
      have hj46 : ∀ (ls : Array Slot), lv_has ls 4 [(0, .ref (ρ 0)), (1, .int x1), (2, .int x10)] → k45 = some ν → W p l e (rmL (g + 1)) s m args below meth c H locs 0 0 Q (F0 m 103 ls []) := by
        intro ls hl h
        rw [ek45] at h
        refine lv_iconst (v := 0) hx hb dX6_behind_103 (by decide) ?_
        exact hj19 (0 : Int32) ls (lv_sub hl [0, 1, 2] rfl) h
      refine lv_icmp_ne (tgt := 103) hx hb dX6_behind_68 (by decide) (fun c47 => ?_) (fun c47 => ?_)
      · have h := it_neg c47 h
        exact hj46 ls (lv_sub hl [0, 1, 2] rfl) h
      · have h := it_pos c47 h
        refine lv_aload_n hx hb dX6_behind_71 rfl (lv_at hl 0 rfl) ?_
        refine rg_get X hI (o := 0) (j := 31) (k := 131) rfl rfl rfl inG6 (by decide) rfl wF_X6_149 dX6_behind_72 ?_
        refine lv_aload_n hx hb dX6_behind_75 rfl (lv_at hl 0 rfl) ?_
        refine rg_getR X hI (o := 0) (j := 29) (k := 18) rfl rfl rfl inG6 (by decide) rfl wF_X6_61 dX6_behind_76 ?_
        refine lv_iload_n hx hb dX6_behind_79 rfl (lv_at hl 1 rfl) ?_
        obtain ⟨hn48, h⟩ := gd_some h
        refine rg_ald X hI (o := 18) rfl hn48 dX6_behind_80 ?_
        obtain ⟨x49, ex49, h⟩ := nm_some h
        refine rg_top ex49 ?_
        refine lv_icmp_le (tgt := 103) hx hb dX6_behind_81 (by decide) (fun c50 => ?_) (fun c50 => ?_)
        · have h := it_pos c50 h
          exact hj46 ls (lv_sub hl [0, 1, 2] rfl) h
        · have h := it_neg c50 h
          refine lv_aload_n hx hb dX6_behind_84 rfl (lv_at hl 0 rfl) ?_
          refine rg_getR X hI (o := 0) (j := 33) (k := 21) rfl rfl rfl inG6 (by decide) rfl wF_X6_70 dX6_behind_85 ?_
          refine lv_aload_n hx hb dX6_behind_88 rfl (lv_at hl 0 rfl) ?_
          refine rg_get X hI (o := 0) (j := 31) (k := 131) rfl rfl rfl inG6 (by decide) rfl wF_X6_149 dX6_behind_89 ?_
          refine lv_iconst (v := 1) hx hb dX6_behind_92 (by decide) ?_
          refine lv_isub hx hb dX6_behind_93 ?_
          obtain ⟨hn51, h⟩ := gd_some h
          refine rg_ald X hI (o := 21) rfl hn51 dX6_behind_94 ?_
          obtain ⟨x52, ex52, h⟩ := nm_some h
          refine rg_top ex52 ?_
          refine lv_iconst (v := 1) hx hb dX6_behind_95 (by decide) ?_
          refine lv_icmp_ne (tgt := 103) hx hb dX6_behind_96 (by decide) (fun c53 => ?_) (fun c53 => ?_)
          · have h := it_neg c53 h
            exact hj46 ls (lv_sub hl [0, 1, 2] rfl) h
          · have h := it_pos c53 h
            refine lv_iconst (v := 1) hx hb dX6_behind_99 (by decide) ?_
            refine lv_goto (tgt := 104) hx hb dX6_behind_100 (by decide) ?_
            exact hj19 (1 : Int32) ls (lv_sub hl [0, 1, 2] rfl) h
    refine lv_if_ne (tgt := 53) hx hb dX6_behind_46 (by decide) (fun c54 => ?_) (fun c54 => ?_)
    · have h := it_neg c54 h
      refine lv_iload_n hx hb dX6_behind_53 rfl (lv_at hl 0 rfl) ?_
      refine lv_iconst (v := 1) hx hb dX6_behind_54 (by decide) ?_
      refine lv_icmp_ne (tgt := 62) hx hb dX6_behind_55 (by decide) (fun c55 => ?_) (fun c55 => ?_)
      · have h := it_neg c55 h
        refine lv_iload_n hx hb dX6_behind_62 rfl (lv_at hl 0 rfl) ?_
        exact hj13 x10 ls (lv_sub hl [1, 2, 0] rfl) h
      · have h := it_pos c55 h
        refine lv_iconst (v := 2) hx hb dX6_behind_58 (by decide) ?_
        refine lv_goto (tgt := 63) hx hb dX6_behind_59 (by decide) ?_
        exact hj13 (2 : Int32) ls (lv_sub hl [1, 2, 0] rfl) h
    · have h := it_pos c54 h
      refine lv_iconst (v := 1) hx hb dX6_behind_49 (by decide) ?_
      refine lv_goto (tgt := 63) hx hb dX6_behind_50 (by decide) ?_
      exact hj13 (1 : Int32) ls (lv_sub hl [1, 2, 0] rfl) h
  refine lv_icmp_eq (tgt := 36) hx hb dX6_behind_14 (by decide) (fun c56 => ?_) (fun c56 => ?_)
  · have h := it_pos c56 h
    exact hj6 μ H locs ls (lv_sub hl [1, 0] rfl) hI h
  · have h := it_neg c56 h
    refine lv_aload_n hx hb dX6_behind_17 rfl (lv_at hl 1 rfl) ?_
    refine lv_aload_n hx hb dX6_behind_18 rfl (lv_at hl 1 rfl) ?_
    refine rg_getR X hI (o := 0) (j := 28) (k := 17) rfl rfl rfl inG6 (by decide) rfl wF_X6_58 dX6_behind_19 ?_
    refine lv_iload_n hx hb dX6_behind_22 rfl (lv_at hl 0 rfl) ?_
    obtain ⟨hn57, h⟩ := gd_some h
    refine rg_ald X hI (o := 17) rfl hn57 dX6_behind_23 ?_
    obtain ⟨x58, ex58, h⟩ := nm_some h
    refine rg_top ex58 ?_
    refine lv_iconst (v := 0) hx hb dX6_behind_24 (by decide) ?_
    obtain ⟨x60, μ61, hc59, h⟩ := ca2_some h
    refine rc_vi (o := 0) (As := [.int x58, .int (0 : Int32)]) X hI (c_M_emit l D cI ρ g (by omega) hc59) rfl rfl gV_X6_158 hd_X6_emit (by decide) (Nat.le_refl _) hl.1 rfl (Nat.le_of_ble_eq_true rfl) dX6_behind_25 (fun H locs hI => ?_)
    refine lv_pop hx hb dX6_behind_28 rfl ?_
    refine lv_aload_n hx hb dX6_behind_29 rfl (lv_at hl 1 rfl) ?_
    refine rg_getR X hI (o := 0) (j := 28) (k := 17) rfl rfl rfl inG6 (by decide) rfl wF_X6_58 dX6_behind_30 ?_
    refine lv_iload_n hx hb dX6_behind_33 rfl (lv_at hl 0 rfl) ?_
    refine lv_iconst (v := -1) hx hb dX6_behind_34 (by decide) ?_
    obtain ⟨hn62, h⟩ := gd_some h
    refine rg_ast X hI (o := 17) rfl rfl hn62 dX6_behind_35 (fun H locs hI => ?_)
    obtain ⟨μ63, eμ63, h⟩ := nm_some h
    rw [← eμ63] at hI
    exact hj6 μ63 H locs ls (lv_sub hl [1, 0] rfl) hI h
set_option maxHeartbeats 4000000 in
set_option maxRecDepth 100000 in
theorem c_M_function (l : Launch) (D : va_G) (cI : ClassId) (ρ : Nat → Nat) (hgt : Nat) (hh : 3 ≤ hgt)  {μ ν : St} (h : f_M_function μ = some ν) : CV l yX6_function cX6_function 2 hgt TM cI D ρ [.ref (ρ 0)] μ ν := by
  obtain ⟨g, rfl⟩ : ∃ g, hgt = g + 1 := ⟨hgt - 1, by omega⟩
  unfold f_M_function at h
  refine CV_of (own := RX6) (by decide) rfl (Nat.le_of_ble_eq_true rfl) ?_
  intro p e s m args below meth c Q A H locs X hI hend ls hl
  have hx := X.1.1
  have hb := X.1.2.1
  have hl : lv_has ls 2 [(0, .ref (ρ 0))] := hl
  refine lv_aload_n hx hb dX6_function_0 rfl (lv_at hl 0 rfl) ?_
  obtain ⟨x2, hc1, h⟩ := ca_some h
  refine rc_vi (o := 0) (As := []) X hI (c_M_token l D cI ρ g (by omega) hc1) rfl rfl gV_X6_113 hd_X6_token (by decide) (Nat.le_refl _) hl.1 rfl (Nat.le_of_ble_eq_true rfl) dX6_function_1 (fun H locs hI => ?_)
  refine lv_iconst (v := -1) hx hb dX6_function_4 (by decide) ?_
  refine lv_icmp_ne (tgt := 14) hx hb dX6_function_5 (by decide) (fun c3 => ?_) (fun c3 => ?_)
  · have h := it_neg c3 h
    refine lv_aload_n hx hb dX6_function_14 rfl (lv_at hl 0 rfl) ?_
    refine lv_bipush (v := 23) hx hb dX6_function_15 (by decide) ?_
    obtain ⟨x5, μ6, hc4, h⟩ := ca2_some h
    refine rc_vi (o := 0) (As := [.int (23 : Int32)]) X hI (c_M_must l D cI ρ g (by omega) hc4) rfl rfl gV_X6_128 hd_X6_must (by decide) (Nat.le_refl _) hl.1 rfl (Nat.le_of_ble_eq_true rfl) dX6_function_17 (fun H locs hI => ?_)
    refine lv_if_ne (tgt := 24) hx hb dX6_function_20 (by decide) (fun c7 => ?_) (fun c7 => ?_)
    · have h := it_neg c7 h
      refine lv_aload_n hx hb dX6_function_24 rfl (lv_at hl 0 rfl) ?_
      obtain ⟨x9, hc8, h⟩ := ca_some h
      refine rc_vi (o := 0) (As := []) X hI (c_M_token l D cI ρ g (by omega) hc8) rfl rfl gV_X6_113 hd_X6_token (by decide) (Nat.le_refl _) hl.1 rfl (Nat.le_of_ble_eq_true rfl) dX6_function_25 (fun H locs hI => ?_)
      refine lv_bipush (v := 52) hx hb dX6_function_28 (by decide) ?_
      refine lv_isub hx hb dX6_function_30 ?_
      obtain ⟨x10, ex10, h⟩ := nm_some h
      refine rg_top ex10 ?_
      refine lv_istore_n (lv' := [(1, .int x10), (0, .ref (ρ 0))]) hx hb dX6_function_31 rfl hl (by decide) rfl (fun ls hl => ?_)
      refine lv_iload_n hx hb dX6_function_32 rfl (lv_at hl 0 rfl) ?_
      refine lv_iconst (v := 0) hx hb dX6_function_33 (by decide) ?_
      refine lv_iconst (v := 5) hx hb dX6_function_34 (by decide) ?_
      obtain ⟨x12, hc11, h⟩ := ca_some h
      refine rc_si (As := [.int x10, .int (0 : Int32), .int (5 : Int32)]) X hI (c_M_in l D cI ρ g (by omega) hc11) gV_X6_132 hd_X6_in (by decide) (Nat.le_refl _) hl.1 rfl (Nat.le_of_ble_eq_true rfl) dX6_function_35 (fun H locs hI => ?_)
      refine lv_if_ne (tgt := 51) hx hb dX6_function_38 (by decide) (fun c13 => ?_) (fun c13 => ?_)
      · have h := it_neg c13 h
        refine lv_aload_n hx hb dX6_function_51 rfl (lv_at hl 1 rfl) ?_
        refine rg_getR X hI (o := 0) (j := 13) (k := 6) rfl rfl rfl inG6 (by decide) rfl wF_X6_25 dX6_function_52 ?_
        refine lv_iload_n hx hb dX6_function_55 rfl (lv_at hl 0 rfl) ?_
        obtain ⟨hn14, h⟩ := gd_some h
        refine rg_ald X hI (o := 6) rfl hn14 dX6_function_56 ?_
        obtain ⟨x15, ex15, h⟩ := nm_some h
        refine rg_top ex15 ?_
        refine lv_if_lt (tgt := 70) hx hb dX6_function_57 (by decide) (fun c16 => ?_) (fun c16 => ?_)
        · have h := it_pos c16 h
          refine lv_aload_n hx hb dX6_function_70 rfl (lv_at hl 1 rfl) ?_
          refine lv_dup hx hb dX6_function_71 rfl ?_
          refine rg_get X hI (o := 0) (j := 5) (k := 105) rfl rfl rfl inG6 (by decide) rfl wF_X6_104 dX6_function_72 ?_
          refine lv_iconst (v := 1) hx hb dX6_function_75 (by decide) ?_
          refine lv_iadd hx hb dX6_function_76 ?_
          refine rg_put X hI (o := 0) (j := 5) (k := 105) rfl rfl rfl rfl inG6 tyX6 tyX6_ok nmX6 (by decide) rfl wF_X6_104 rfl rfl rfl rfl dX6_function_77 (fun H locs hI => ?_)
          obtain ⟨μ17, eμ17, h⟩ := nm_some h
          rw [← eμ17] at hI
          refine lv_aload_n hx hb dX6_function_80 rfl (lv_at hl 1 rfl) ?_
          obtain ⟨x19, hc18, h⟩ := ca_some h
          refine rc_vi (o := 0) (As := []) X hI (c_M_token l D cI ρ g (by omega) hc18) rfl rfl gV_X6_113 hd_X6_token (by decide) (Nat.le_refl _) hl.1 rfl (Nat.le_of_ble_eq_true rfl) dX6_function_81 (fun H locs hI => ?_)
          refine lv_bipush (v := 64) hx hb dX6_function_84 (by decide) ?_
          refine lv_bipush (v := 67) hx hb dX6_function_86 (by decide) ?_
          obtain ⟨x21, hc20, h⟩ := ca_some h
          refine rc_si (As := [.int x19, .int (64 : Int32), .int (67 : Int32)]) X hI (c_M_in l D cI ρ g (by omega) hc20) gV_X6_132 hd_X6_in (by decide) (Nat.le_refl _) hl.1 rfl (Nat.le_of_ble_eq_true rfl) dX6_function_88 (fun H locs hI => ?_)
          refine lv_if_ne (tgt := 104) hx hb dX6_function_91 (by decide) (fun c22 => ?_) (fun c22 => ?_)
          · have h := it_neg c22 h
            refine lv_aload_n hx hb dX6_function_104 rfl (lv_at hl 1 rfl) ?_
            refine rg_getR X hI (o := 0) (j := 13) (k := 6) rfl rfl rfl inG6 (by decide) rfl wF_X6_25 dX6_function_105 ?_
            refine lv_iload_n hx hb dX6_function_108 rfl (lv_at hl 0 rfl) ?_
            refine lv_aload_n hx hb dX6_function_109 rfl (lv_at hl 1 rfl) ?_
            refine rg_get X hI (o := 0) (j := 8) (k := 108) rfl rfl rfl inG6 (by decide) rfl wF_X6_121 dX6_function_110 ?_
            obtain ⟨hn23, h⟩ := gd_some h
            refine rg_ast X hI (o := 6) rfl rfl hn23 dX6_function_113 (fun H locs hI => ?_)
            obtain ⟨μ24, eμ24, h⟩ := nm_some h
            rw [← eμ24] at hI
            refine lv_aload_n hx hb dX6_function_114 rfl (lv_at hl 1 rfl) ?_
            refine rg_getR X hI (o := 0) (j := 14) (k := 7) rfl rfl rfl inG6 (by decide) rfl wF_X6_28 dX6_function_115 ?_
            refine lv_iload_n hx hb dX6_function_118 rfl (lv_at hl 0 rfl) ?_
            refine lv_aload_n hx hb dX6_function_119 rfl (lv_at hl 1 rfl) ?_
            obtain ⟨x26, hc25, h⟩ := ca_some h
            refine rc_vi (o := 0) (As := []) X hI (c_M_token l D cI ρ g (by omega) hc25) rfl rfl gV_X6_113 hd_X6_token (by decide) (Nat.le_refl _) hl.1 rfl (Nat.le_of_ble_eq_true rfl) dX6_function_120 (fun H locs hI => ?_)
            refine lv_bipush (v := 64) hx hb dX6_function_123 (by decide) ?_
            refine lv_isub hx hb dX6_function_125 ?_
            obtain ⟨hn27, h⟩ := gd_some h
            refine rg_ast X hI (o := 7) rfl rfl hn27 dX6_function_126 (fun H locs hI => ?_)
            obtain ⟨μ28, eμ28, h⟩ := nm_some h
            rw [← eμ28] at hI
            refine lv_aload_n hx hb dX6_function_127 rfl (lv_at hl 1 rfl) ?_
            refine lv_dup hx hb dX6_function_128 rfl ?_
            refine rg_get X hI (o := 0) (j := 5) (k := 105) rfl rfl rfl inG6 (by decide) rfl wF_X6_104 dX6_function_129 ?_
            refine lv_iconst (v := 1) hx hb dX6_function_132 (by decide) ?_
            refine lv_iadd hx hb dX6_function_133 ?_
            refine rg_put X hI (o := 0) (j := 5) (k := 105) rfl rfl rfl rfl inG6 tyX6 tyX6_ok nmX6 (by decide) rfl wF_X6_104 rfl rfl rfl rfl dX6_function_134 (fun H locs hI => ?_)
            obtain ⟨μ29, eμ29, h⟩ := nm_some h
            rw [← eμ29] at hI
            refine lv_aload_n hx hb dX6_function_137 rfl (lv_at hl 1 rfl) ?_
            refine lv_iconst (v := 0) hx hb dX6_function_138 (by decide) ?_
            refine lv_iconst (v := 0) hx hb dX6_function_139 (by decide) ?_
            refine lv_iconst (v := 0) hx hb dX6_function_140 (by decide) ?_
            obtain ⟨μ31, hc30, h⟩ := ca_some h
            refine rc_vv (o := 0) (As := [.int (0 : Int32), .int (0 : Int32), .int (0 : Int32)]) X hI (c_M_begins l D cI ρ g (by omega) hc30) rfl rfl gV_X6_136 hd_X6_begins (by decide) (Nat.le_refl _) hl.1 rfl (Nat.le_of_ble_eq_true rfl) dX6_function_141 (fun H locs hI => ?_)
            cases h
            exact hend H locs _ _ hI dX6_function_144
          · have h := it_pos c22 h
            refine lv_aload_n hx hb dX6_function_94 rfl (lv_at hl 1 rfl) ?_
            refine lv_iconst (v := 1) hx hb dX6_function_95 (by decide) ?_
            refine lv_aload_n hx hb dX6_function_96 rfl (lv_at hl 1 rfl) ?_
            refine rg_get X hI (o := 0) (j := 5) (k := 105) rfl rfl rfl inG6 (by decide) rfl wF_X6_104 dX6_function_97 ?_
            obtain ⟨μ33, hc32, h⟩ := ca_some h
            refine rc_vv (o := 0) (As := [.int (1 : Int32), .int (μ17 105 0)]) X hI (c_M_wrong l D cI ρ g (by omega) hc32) rfl rfl gV_X6_117 hd_X6_wrong (by decide) (Nat.le_refl _) hl.1 rfl (Nat.le_of_ble_eq_true rfl) dX6_function_100 (fun H locs hI => ?_)
            cases h
            exact hend H locs _ _ hI dX6_function_103
        · have h := it_neg c16 h
          refine lv_aload_n hx hb dX6_function_60 rfl (lv_at hl 1 rfl) ?_
          refine lv_iconst (v := 2) hx hb dX6_function_61 (by decide) ?_
          refine lv_aload_n hx hb dX6_function_62 rfl (lv_at hl 1 rfl) ?_
          refine rg_get X hI (o := 0) (j := 5) (k := 105) rfl rfl rfl inG6 (by decide) rfl wF_X6_104 dX6_function_63 ?_
          obtain ⟨μ35, hc34, h⟩ := ca_some h
          refine rc_vv (o := 0) (As := [.int (2 : Int32), .int (μ6 105 0)]) X hI (c_M_wrong l D cI ρ g (by omega) hc34) rfl rfl gV_X6_117 hd_X6_wrong (by decide) (Nat.le_refl _) hl.1 rfl (Nat.le_of_ble_eq_true rfl) dX6_function_66 (fun H locs hI => ?_)
          cases h
          exact hend H locs _ _ hI dX6_function_69
      · have h := it_pos c13 h
        refine lv_aload_n hx hb dX6_function_41 rfl (lv_at hl 1 rfl) ?_
        refine lv_iconst (v := 1) hx hb dX6_function_42 (by decide) ?_
        refine lv_aload_n hx hb dX6_function_43 rfl (lv_at hl 1 rfl) ?_
        refine rg_get X hI (o := 0) (j := 5) (k := 105) rfl rfl rfl inG6 (by decide) rfl wF_X6_104 dX6_function_44 ?_
        obtain ⟨μ37, hc36, h⟩ := ca_some h
        refine rc_vv (o := 0) (As := [.int (1 : Int32), .int (μ6 105 0)]) X hI (c_M_wrong l D cI ρ g (by omega) hc36) rfl rfl gV_X6_117 hd_X6_wrong (by decide) (Nat.le_refl _) hl.1 rfl (Nat.le_of_ble_eq_true rfl) dX6_function_47 (fun H locs hI => ?_)
        cases h
        exact hend H locs _ _ hI dX6_function_50
    · have h := it_pos c7 h
      cases h
      exact hend H locs _ _ hI dX6_function_23
  · have h := it_pos c3 h
    refine lv_aload_n hx hb dX6_function_8 rfl (lv_at hl 0 rfl) ?_
    refine lv_iconst (v := 1) hx hb dX6_function_9 (by decide) ?_
    refine rg_put X hI (o := 0) (j := 7) (k := 107) rfl rfl rfl rfl inG6 tyX6 tyX6_ok nmX6 (by decide) rfl wF_X6_124 rfl rfl rfl rfl dX6_function_10 (fun H locs hI => ?_)
    obtain ⟨μ38, eμ38, h⟩ := nm_some h
    rw [← eμ38] at hI
    cases h
    exact hend H locs _ _ hI dX6_function_13
set_option maxHeartbeats 4000000 in
set_option maxRecDepth 100000 in
theorem c_M_readText (l : Launch) (D : va_G) (cI : ClassId) (ρ : Nat → Nat) {N : Nat} (hgt : Nat) (hh : 6 ≤ hgt)  {μ ν : St} (h : f_M_readText N μ = some ν) : CV l yX6_readText cX6_readText 3 hgt TM cI D ρ [.ref (ρ 0)] μ ν := by
  obtain ⟨g, rfl⟩ : ∃ g, hgt = g + 1 := ⟨hgt - 1, by omega⟩
  unfold f_M_readText at h
  refine CV_of (own := RX6) (by decide) rfl (Nat.le_of_ble_eq_true rfl) ?_
  intro p e s m args below meth c Q A H locs X hI hend ls hl
  have hx := X.1.1
  have hb := X.1.2.1
  have hl : lv_has ls 3 [(0, .ref (ρ 0))] := hl
  refine lv_aload_n hx hb dX6_readText_0 rfl (lv_at hl 0 rfl) ?_
  refine lv_iconst (v := 0) hx hb dX6_readText_1 (by decide) ?_
  refine rg_put X hI (o := 0) (j := 3) (k := 103) rfl rfl rfl rfl inG6 tyX6 tyX6_ok nmX6 (by decide) rfl wF_X6_107 rfl rfl rfl rfl dX6_readText_2 (fun H locs hI => ?_)
  obtain ⟨μ1, eμ1, h⟩ := nm_some h
  rw [← eμ1] at hI
  refine lv_aload_n hx hb dX6_readText_5 rfl (lv_at hl 0 rfl) ?_
  refine lv_iconst (v := 0) hx hb dX6_readText_6 (by decide) ?_
  refine rg_put X hI (o := 0) (j := 5) (k := 105) rfl rfl rfl rfl inG6 tyX6 tyX6_ok nmX6 (by decide) rfl wF_X6_104 rfl rfl rfl rfl dX6_readText_7 (fun H locs hI => ?_)
  obtain ⟨μ2, eμ2, h⟩ := nm_some h
  rw [← eμ2] at hI
  refine lv_aload_n hx hb dX6_readText_10 rfl (lv_at hl 0 rfl) ?_
  refine lv_iconst (v := 0) hx hb dX6_readText_11 (by decide) ?_
  refine rg_put X hI (o := 0) (j := 6) (k := 106) rfl rfl rfl rfl inG6 tyX6 tyX6_ok nmX6 (by decide) rfl wF_X6_143 rfl rfl rfl rfl dX6_readText_12 (fun H locs hI => ?_)
  obtain ⟨μ3, eμ3, h⟩ := nm_some h
  rw [← eμ3] at hI
  refine lv_aload_n hx hb dX6_readText_15 rfl (lv_at hl 0 rfl) ?_
  refine lv_iconst (v := 0) hx hb dX6_readText_16 (by decide) ?_
  refine rg_put X hI (o := 0) (j := 7) (k := 107) rfl rfl rfl rfl inG6 tyX6 tyX6_ok nmX6 (by decide) rfl wF_X6_124 rfl rfl rfl rfl dX6_readText_17 (fun H locs hI => ?_)
  obtain ⟨μ4, eμ4, h⟩ := nm_some h
  rw [← eμ4] at hI
  refine lv_aload_n hx hb dX6_readText_20 rfl (lv_at hl 0 rfl) ?_
  refine lv_iconst (v := 0) hx hb dX6_readText_21 (by decide) ?_
  refine rg_put X hI (o := 0) (j := 8) (k := 108) rfl rfl rfl rfl inG6 tyX6 tyX6_ok nmX6 (by decide) rfl wF_X6_121 rfl rfl rfl rfl dX6_readText_22 (fun H locs hI => ?_)
  obtain ⟨μ5, eμ5, h⟩ := nm_some h
  rw [← eμ5] at hI
  refine lv_aload_n hx hb dX6_readText_25 rfl (lv_at hl 0 rfl) ?_
  refine lv_iconst (v := 0) hx hb dX6_readText_26 (by decide) ?_
  refine rg_put X hI (o := 0) (j := 18) (k := 118) rfl rfl rfl rfl inG6 tyX6 tyX6_ok nmX6 (by decide) rfl wF_X6_162 rfl rfl rfl rfl dX6_readText_27 (fun H locs hI => ?_)
  obtain ⟨μ6, eμ6, h⟩ := nm_some h
  rw [← eμ6] at hI
  refine lv_aload_n hx hb dX6_readText_30 rfl (lv_at hl 0 rfl) ?_
  refine lv_iconst (v := 0) hx hb dX6_readText_31 (by decide) ?_
  refine rg_put X hI (o := 0) (j := 22) (k := 122) rfl rfl rfl rfl inG6 tyX6 tyX6_ok nmX6 (by decide) rfl wF_X6_140 rfl rfl rfl rfl dX6_readText_32 (fun H locs hI => ?_)
  obtain ⟨μ7, eμ7, h⟩ := nm_some h
  rw [← eμ7] at hI
  refine lv_iconst (v := 0) hx hb dX6_readText_35 (by decide) ?_
  refine lv_istore_n (lv' := [(1, .int (0 : Int32)), (0, .ref (ρ 0))]) hx hb dX6_readText_36 rfl hl (by decide) rfl (fun ls hl => ?_)
  refine lp_elim (fun (k10 : Int32 → St → Option St) => ∀ (x8 : Int32) (μ9 : St) (H : Heap) (locs : List Loc) (ls : Array Slot), lv_has ls 3 [(0, .ref (ρ 0)), (1, .int x8)] → RI TM cI D A s.heap ρ μ9 H locs → k10 x8 μ9 = some ν → W p l e (rmL (g + 1)) s m args below meth c H locs 0 0 Q (F0 m 37 ls [])) ?_ ?_ N (0 : Int32) μ7 H locs ls (lv_sub hl [1, 0] rfl) hI h
  · intro x8 μ9 H locs ls hl hI h
    cases h
  · intro k10 ih11 x8 μ9 H locs ls hl hI h
    try dsimp only at h
    refine lv_iload_n hx hb dX6_readText_37 rfl (lv_at hl 1 rfl) ?_
    refine lv_bipush (v := 6) hx hb dX6_readText_38 (by decide) ?_
    refine lv_icmp_ge (tgt := 63) hx hb dX6_readText_40 (by decide) (fun c12 => ?_) (fun c12 => ?_)
    · have h := it_pos c12 h
      refine lv_iconst (v := 0) hx hb dX6_readText_63 (by decide) ?_
      refine lv_istore_n (lv' := [(1, .int (0 : Int32)), (0, .ref (ρ 0))]) hx hb dX6_readText_64 rfl hl (by decide) rfl (fun ls hl => ?_)
      refine lp_elim (fun (k15 : Int32 → St → Option St) => ∀ (x13 : Int32) (μ14 : St) (H : Heap) (locs : List Loc) (ls : Array Slot), lv_has ls 3 [(0, .ref (ρ 0)), (1, .int x13)] → RI TM cI D A s.heap ρ μ14 H locs → k15 x13 μ14 = some ν → W p l e (rmL (g + 1)) s m args below meth c H locs 0 0 Q (F0 m 65 ls [])) ?_ ?_ N (0 : Int32) μ9 H locs ls (lv_sub hl [1, 0] rfl) hI h
      · intro x13 μ14 H locs ls hl hI h
        cases h
      · intro k15 ih16 x13 μ14 H locs ls hl hI h
        try dsimp only at h
        refine lv_iload_n hx hb dX6_readText_65 rfl (lv_at hl 1 rfl) ?_
        refine lv_sipush (v := 2000) hx hb dX6_readText_66 (by decide) ?_
        obtain ⟨k18, ek18, h⟩ := jn_some h
        have hj19 : ∀ (ls : Array Slot), lv_has ls 3 [(0, .ref (ρ 0))] → k18 = some ν → W p l e (rmL (g + 1)) s m args below meth c H locs 0 0 Q (F0 m 165 ls []) := by
          intro ls hl h
          rw [ek18] at h
          refine lv_iconst (v := 0) hx hb dX6_readText_165 (by decide) ?_
          refine lv_istore_n (lv' := [(1, .int (0 : Int32)), (0, .ref (ρ 0))]) hx hb dX6_readText_166 rfl hl (by decide) rfl (fun ls hl => ?_)
          refine lp_elim (fun (k22 : Int32 → St → Option St) => ∀ (x20 : Int32) (μ21 : St) (H : Heap) (locs : List Loc) (ls : Array Slot), lv_has ls 3 [(0, .ref (ρ 0)), (1, .int x20)] → RI TM cI D A s.heap ρ μ21 H locs → k22 x20 μ21 = some ν → W p l e (rmL (g + 1)) s m args below meth c H locs 0 0 Q (F0 m 167 ls [])) ?_ ?_ N (0 : Int32) μ14 H locs ls (lv_sub hl [1, 0] rfl) hI h
          · intro x20 μ21 H locs ls hl hI h
            cases h
          · intro k22 ih23 x20 μ21 H locs ls hl hI h
            try dsimp only at h
            refine lv_iload_n hx hb dX6_readText_167 rfl (lv_at hl 1 rfl) ?_
            refine lv_aload_n hx hb dX6_readText_168 rfl (lv_at hl 0 rfl) ?_
            refine rg_get X hI (o := 0) (j := 18) (k := 118) rfl rfl rfl inG6 (by decide) rfl wF_X6_162 dX6_readText_169 ?_
            obtain ⟨k25, ek25, h⟩ := jn_some h
            have hj26 : ∀ (ls : Array Slot), lv_has ls 3 [(0, .ref (ρ 0))] → k25 = some ν → W p l e (rmL (g + 1)) s m args below meth c H locs 0 0 Q (F0 m 251 ls []) := by
              intro ls hl h
              rw [ek25] at h
              refine lv_aload_n hx hb dX6_readText_251 rfl (lv_at hl 0 rfl) ?_
              refine rg_getR X hI (o := 0) (j := 13) (k := 6) rfl rfl rfl inG6 (by decide) rfl wF_X6_25 dX6_readText_252 ?_
              refine lv_iconst (v := 0) hx hb dX6_readText_255 (by decide) ?_
              obtain ⟨hn27, h⟩ := gd_some h
              refine rg_ald X hI (o := 6) rfl hn27 dX6_readText_256 ?_
              obtain ⟨x28, ex28, h⟩ := nm_some h
              refine rg_top ex28 ?_
              obtain ⟨k30, ek30, h⟩ := jn_some h
              have hj31 : ∀ (ls : Array Slot), lv_has ls 3 [(0, .ref (ρ 0))] → k30 = some ν → W p l e (rmL (g + 1)) s m args below meth c H locs 0 0 Q (F0 m 269 ls []) := by
                intro ls hl h
                rw [ek30] at h
                refine lv_aload_n hx hb dX6_readText_269 rfl (lv_at hl 0 rfl) ?_
                refine lv_bipush (v := 6) hx hb dX6_readText_270 (by decide) ?_
                refine lv_aload_n hx hb dX6_readText_272 rfl (lv_at hl 0 rfl) ?_
                refine rg_get X hI (o := 0) (j := 1) (k := 101) rfl rfl rfl inG6 (by decide) rfl wF_X6_101 dX6_readText_273 ?_
                obtain ⟨μ33, hc32, h⟩ := ca_some h
                refine rc_vv (o := 0) (As := [.int (6 : Int32), .int (μ21 101 0)]) X hI (c_M_wrong l D cI ρ g (by omega) hc32) rfl rfl gV_X6_117 hd_X6_wrong (by decide) (Nat.le_refl _) hl.1 rfl (Nat.le_of_ble_eq_true rfl) dX6_readText_276 (fun H locs hI => ?_)
                cases h
                exact hend H locs _ _ hI dX6_readText_279
              refine lv_if_lt (tgt := 269) hx hb dX6_readText_257 (by decide) (fun c34 => ?_) (fun c34 => ?_)
              · have h := it_pos c34 h
                exact hj31 ls (lv_sub hl [0] rfl) h
              · have h := it_neg c34 h
                refine lv_aload_n hx hb dX6_readText_260 rfl (lv_at hl 0 rfl) ?_
                refine rg_getR X hI (o := 0) (j := 14) (k := 7) rfl rfl rfl inG6 (by decide) rfl wF_X6_28 dX6_readText_261 ?_
                refine lv_iconst (v := 0) hx hb dX6_readText_264 (by decide) ?_
                obtain ⟨hn35, h⟩ := gd_some h
                refine rg_ald X hI (o := 7) rfl hn35 dX6_readText_265 ?_
                obtain ⟨x36, ex36, h⟩ := nm_some h
                refine rg_top ex36 ?_
                refine lv_if_le (tgt := 279) hx hb dX6_readText_266 (by decide) (fun c37 => ?_) (fun c37 => ?_)
                · have h := it_pos c37 h
                  cases h
                  exact hend H locs _ _ hI dX6_readText_279
                · have h := it_neg c37 h
                  exact hj31 ls (lv_sub hl [0] rfl) h
            refine lv_icmp_ge (tgt := 251) hx hb dX6_readText_172 (by decide) (fun c38 => ?_) (fun c38 => ?_)
            · have h := it_pos c38 h
              exact hj26 ls (lv_sub hl [0] rfl) h
            · have h := it_neg c38 h
              refine lv_aload_n hx hb dX6_readText_175 rfl (lv_at hl 0 rfl) ?_
              refine rg_get X hI (o := 0) (j := 3) (k := 103) rfl rfl rfl inG6 (by decide) rfl wF_X6_107 dX6_readText_176 ?_
              refine lv_if_ne (tgt := 251) hx hb dX6_readText_179 (by decide) (fun c39 => ?_) (fun c39 => ?_)
              · have h := it_neg c39 h
                exact hj26 ls (lv_sub hl [0] rfl) h
              · have h := it_pos c39 h
                refine lv_aload_n hx hb dX6_readText_182 rfl (lv_at hl 0 rfl) ?_
                refine rg_getR X hI (o := 0) (j := 13) (k := 6) rfl rfl rfl inG6 (by decide) rfl wF_X6_25 dX6_readText_183 ?_
                refine lv_aload_n hx hb dX6_readText_186 rfl (lv_at hl 0 rfl) ?_
                refine rg_getR X hI (o := 0) (j := 20) (k := 11) rfl rfl rfl inG6 (by decide) rfl wF_X6_40 dX6_readText_187 ?_
                refine lv_iload_n hx hb dX6_readText_190 rfl (lv_at hl 1 rfl) ?_
                obtain ⟨hn40, h⟩ := gd_some h
                refine rg_ald X hI (o := 11) rfl hn40 dX6_readText_191 ?_
                obtain ⟨x41, ex41, h⟩ := nm_some h
                refine rg_top ex41 ?_
                obtain ⟨hn42, h⟩ := gd_some h
                refine rg_ald X hI (o := 6) rfl hn42 dX6_readText_192 ?_
                obtain ⟨x43, ex43, h⟩ := nm_some h
                refine rg_top ex43 ?_
                obtain ⟨k45, ek45, h⟩ := jn_some h
                have hj46 : ∀ (y47 : Int32) (ls : Array Slot), lv_has ls 3 [(0, .ref (ρ 0)), (1, .int x20)] → k45 y47 = some ν → W p l e (rmL (g + 1)) s m args below meth c H locs 0 0 Q (F0 m 201 ls [.int y47]) := by
                  intro y47 ls hl h
                  rw [ek45] at h
                  try dsimp only at h
                  refine lv_istore_n (lv' := [(2, .int y47), (0, .ref (ρ 0)), (1, .int x20)]) hx hb dX6_readText_201 rfl hl (by decide) rfl (fun ls hl => ?_)
                  refine lv_iload_n hx hb dX6_readText_202 rfl (lv_at hl 0 rfl) ?_
                  obtain ⟨k49, ek49, h⟩ := jn_some h
                  have hj50 : ∀ (μ48 : St) (H : Heap) (locs : List Loc) (ls : Array Slot), lv_has ls 3 [(0, .ref (ρ 0)), (1, .int x20)] → RI TM cI D A s.heap ρ μ48 H locs → k49 μ48 = some ν → W p l e (rmL (g + 1)) s m args below meth c H locs 0 0 Q (F0 m 245 ls []) := by
                    intro μ48 H locs ls hl hI h
                    rw [ek49] at h
                    try dsimp only at h
                    obtain ⟨x51, ex51, h⟩ := nm_some h
                    refine lv_iinc (v := x51) (lv' := [(1, .int x51), (0, .ref (ρ 0))]) hx hb dX6_readText_245 hl (k := 1) rfl (by rw [ex51]; rfl) (by decide) rfl (fun ls hl => ?_)
                    refine lv_goto (tgt := 167) hx hb dX6_readText_248 (by decide) ?_
                    exact ih23 x51 μ48 H locs ls (lv_sub hl [1, 0] rfl) hI h
                  obtain ⟨k53, ek53, h⟩ := jn_some h
                  have hj54 : ∀ (ls : Array Slot), lv_has ls 3 [(0, .ref (ρ 0)), (1, .int x20), (2, .int y47)] → k53 = some ν → W p l e (rmL (g + 1)) s m args below meth c H locs 0 0 Q (F0 m 226 ls []) := by
                    intro ls hl h
                    rw [ek53] at h
                    refine lv_aload_n hx hb dX6_readText_226 rfl (lv_at hl 0 rfl) ?_
                    refine lv_iload_n hx hb dX6_readText_227 rfl (lv_at hl 2 rfl) ?_
                    obtain ⟨k56, ek56, h⟩ := jn_some h
                    have hj57 : ∀ (y58 : Int32) (ls : Array Slot), lv_has ls 3 [(0, .ref (ρ 0)), (1, .int x20)] → k56 y58 = some ν → W p l e (rmL (g + 1)) s m args below meth c H locs 0 0 Q (F0 m 236 ls [.int y58, .ref (ρ 0)]) := by
                      intro y58 ls hl h
                      rw [ek56] at h
                      try dsimp only at h
                      refine lv_aload_n hx hb dX6_readText_236 rfl (lv_at hl 0 rfl) ?_
                      refine rg_getR X hI (o := 0) (j := 19) (k := 10) rfl rfl rfl inG6 (by decide) rfl wF_X6_37 dX6_readText_237 ?_
                      refine lv_iload_n hx hb dX6_readText_240 rfl (lv_at hl 1 rfl) ?_
                      obtain ⟨hn59, h⟩ := gd_some h
                      refine rg_ald X hI (o := 10) rfl hn59 dX6_readText_241 ?_
                      obtain ⟨x60, ex60, h⟩ := nm_some h
                      refine rg_top ex60 ?_
                      obtain ⟨μ62, hc61, h⟩ := ca_some h
                      refine rc_vv (o := 0) (As := [.int y58, .int x60]) X hI (c_M_wrong l D cI ρ g (by omega) hc61) rfl rfl gV_X6_117 hd_X6_wrong (by decide) (Nat.le_refl _) hl.1 rfl (Nat.le_of_ble_eq_true rfl) dX6_readText_242 (fun H locs hI => ?_)
                      exact hj50 μ62 H locs ls (lv_sub hl [0, 1] rfl) hI h
                    refine lv_if_eq (tgt := 235) hx hb dX6_readText_228 (by decide) (fun c63 => ?_) (fun c63 => ?_)
                    · have h := it_pos c63 h
                      refine lv_iconst (v := 4) hx hb dX6_readText_235 (by decide) ?_
                      exact hj57 (4 : Int32) ls (lv_sub hl [0, 1] rfl) h
                    · have h := it_neg c63 h
                      refine lv_iconst (v := 5) hx hb dX6_readText_231 (by decide) ?_
                      refine lv_goto (tgt := 236) hx hb dX6_readText_232 (by decide) ?_
                      exact hj57 (5 : Int32) ls (lv_sub hl [0, 1] rfl) h
                  refine lv_if_eq (tgt := 226) hx hb dX6_readText_203 (by decide) (fun c64 => ?_) (fun c64 => ?_)
                  · have h := it_pos c64 h
                    exact hj54 ls (lv_sub hl [1, 2, 0] rfl) h
                  · have h := it_neg c64 h
                    refine lv_aload_n hx hb dX6_readText_206 rfl (lv_at hl 1 rfl) ?_
                    refine rg_getR X hI (o := 0) (j := 14) (k := 7) rfl rfl rfl inG6 (by decide) rfl wF_X6_28 dX6_readText_207 ?_
                    refine lv_aload_n hx hb dX6_readText_210 rfl (lv_at hl 1 rfl) ?_
                    refine rg_getR X hI (o := 0) (j := 20) (k := 11) rfl rfl rfl inG6 (by decide) rfl wF_X6_40 dX6_readText_211 ?_
                    refine lv_iload_n hx hb dX6_readText_214 rfl (lv_at hl 2 rfl) ?_
                    obtain ⟨hn65, h⟩ := gd_some h
                    refine rg_ald X hI (o := 11) rfl hn65 dX6_readText_215 ?_
                    obtain ⟨x66, ex66, h⟩ := nm_some h
                    refine rg_top ex66 ?_
                    obtain ⟨hn67, h⟩ := gd_some h
                    refine rg_ald X hI (o := 7) rfl hn67 dX6_readText_216 ?_
                    obtain ⟨x68, ex68, h⟩ := nm_some h
                    refine rg_top ex68 ?_
                    refine lv_aload_n hx hb dX6_readText_217 rfl (lv_at hl 1 rfl) ?_
                    refine rg_getR X hI (o := 0) (j := 21) (k := 12) rfl rfl rfl inG6 (by decide) rfl wF_X6_43 dX6_readText_218 ?_
                    refine lv_iload_n hx hb dX6_readText_221 rfl (lv_at hl 2 rfl) ?_
                    obtain ⟨hn69, h⟩ := gd_some h
                    refine rg_ald X hI (o := 12) rfl hn69 dX6_readText_222 ?_
                    obtain ⟨x70, ex70, h⟩ := nm_some h
                    refine rg_top ex70 ?_
                    refine lv_icmp_eq (tgt := 245) hx hb dX6_readText_223 (by decide) (fun c71 => ?_) (fun c71 => ?_)
                    · have h := it_pos c71 h
                      exact hj50 μ21 H locs ls (lv_sub hl [1, 2] rfl) hI h
                    · have h := it_neg c71 h
                      exact hj54 ls (lv_sub hl [1, 2, 0] rfl) h
                refine lv_if_lt (tgt := 200) hx hb dX6_readText_193 (by decide) (fun c72 => ?_) (fun c72 => ?_)
                · have h := it_pos c72 h
                  refine lv_iconst (v := 0) hx hb dX6_readText_200 (by decide) ?_
                  exact hj46 (0 : Int32) ls (lv_sub hl [0, 1] rfl) h
                · have h := it_neg c72 h
                  refine lv_iconst (v := 1) hx hb dX6_readText_196 (by decide) ?_
                  refine lv_goto (tgt := 201) hx hb dX6_readText_197 (by decide) ?_
                  exact hj46 (1 : Int32) ls (lv_sub hl [0, 1] rfl) h
        refine lv_icmp_ge (tgt := 165) hx hb dX6_readText_69 (by decide) (fun c73 => ?_) (fun c73 => ?_)
        · have h := it_pos c73 h
          exact hj19 ls (lv_sub hl [0] rfl) h
        · have h := it_neg c73 h
          refine lv_aload_n hx hb dX6_readText_72 rfl (lv_at hl 0 rfl) ?_
          refine rg_get X hI (o := 0) (j := 3) (k := 103) rfl rfl rfl inG6 (by decide) rfl wF_X6_107 dX6_readText_73 ?_
          refine lv_if_ne (tgt := 165) hx hb dX6_readText_76 (by decide) (fun c74 => ?_) (fun c74 => ?_)
          · have h := it_neg c74 h
            exact hj19 ls (lv_sub hl [0] rfl) h
          · have h := it_pos c74 h
            refine lv_aload_n hx hb dX6_readText_79 rfl (lv_at hl 0 rfl) ?_
            refine rg_get X hI (o := 0) (j := 7) (k := 107) rfl rfl rfl inG6 (by decide) rfl wF_X6_124 dX6_readText_80 ?_
            refine lv_if_ne (tgt := 165) hx hb dX6_readText_83 (by decide) (fun c75 => ?_) (fun c75 => ?_)
            · have h := it_neg c75 h
              exact hj19 ls (lv_sub hl [0] rfl) h
            · have h := it_pos c75 h
              refine lv_aload_n hx hb dX6_readText_86 rfl (lv_at hl 0 rfl) ?_
              refine rg_get X hI (o := 0) (j := 6) (k := 106) rfl rfl rfl inG6 (by decide) rfl wF_X6_143 dX6_readText_87 ?_
              obtain ⟨k77, ek77, h⟩ := jn_some h
              have hj78 : ∀ (μ76 : St) (H : Heap) (locs : List Loc) (ls : Array Slot), lv_has ls 3 [(0, .ref (ρ 0)), (1, .int x13)] → RI TM cI D A s.heap ρ μ76 H locs → k77 μ76 = some ν → W p l e (rmL (g + 1)) s m args below meth c H locs 0 0 Q (F0 m 159 ls []) := by
                intro μ76 H locs ls hl hI h
                rw [ek77] at h
                try dsimp only at h
                obtain ⟨x79, ex79, h⟩ := nm_some h
                refine lv_iinc (v := x79) (lv' := [(1, .int x79), (0, .ref (ρ 0))]) hx hb dX6_readText_159 hl (k := 1) rfl (by rw [ex79]; rfl) (by decide) rfl (fun ls hl => ?_)
                refine lv_goto (tgt := 65) hx hb dX6_readText_162 (by decide) ?_
                exact ih16 x79 μ76 H locs ls (lv_sub hl [1, 0] rfl) hI h
              refine lv_if_ne (tgt := 100) hx hb dX6_readText_90 (by decide) (fun c80 => ?_) (fun c80 => ?_)
              · have h := it_neg c80 h
                refine lv_aload_n hx hb dX6_readText_100 rfl (lv_at hl 0 rfl) ?_
                refine rg_get X hI (o := 0) (j := 6) (k := 106) rfl rfl rfl inG6 (by decide) rfl wF_X6_143 dX6_readText_101 ?_
                refine lv_iconst (v := 1) hx hb dX6_readText_104 (by decide) ?_
                refine lv_icmp_ne (tgt := 125) hx hb dX6_readText_105 (by decide) (fun c81 => ?_) (fun c81 => ?_)
                · have h := it_neg c81 h
                  refine lv_aload_n hx hb dX6_readText_125 rfl (lv_at hl 0 rfl) ?_
                  refine rg_get X hI (o := 0) (j := 6) (k := 106) rfl rfl rfl inG6 (by decide) rfl wF_X6_143 dX6_readText_126 ?_
                  refine lv_iconst (v := 2) hx hb dX6_readText_129 (by decide) ?_
                  refine lv_icmp_ne (tgt := 140) hx hb dX6_readText_130 (by decide) (fun c82 => ?_) (fun c82 => ?_)
                  · have h := it_neg c82 h
                    refine lv_aload_n hx hb dX6_readText_140 rfl (lv_at hl 0 rfl) ?_
                    refine rg_get X hI (o := 0) (j := 6) (k := 106) rfl rfl rfl inG6 (by decide) rfl wF_X6_143 dX6_readText_141 ?_
                    refine lv_iconst (v := 3) hx hb dX6_readText_144 (by decide) ?_
                    refine lv_icmp_ne (tgt := 155) hx hb dX6_readText_145 (by decide) (fun c83 => ?_) (fun c83 => ?_)
                    · have h := it_neg c83 h
                      refine lv_aload_n hx hb dX6_readText_155 rfl (lv_at hl 0 rfl) ?_
                      obtain ⟨μ85, hc84, h⟩ := ca_some h
                      refine rc_vv (o := 0) (As := []) X hI (c_M_behind l D cI ρ g (by omega) hc84) rfl rfl gV_X6_212 hd_X6_behind (by decide) (Nat.le_refl _) hl.1 rfl (Nat.le_of_ble_eq_true rfl) dX6_readText_156 (fun H locs hI => ?_)
                      exact hj78 μ85 H locs ls (lv_sub hl [0, 1] rfl) hI h
                    · have h := it_pos c83 h
                      refine lv_aload_n hx hb dX6_readText_148 rfl (lv_at hl 0 rfl) ?_
                      obtain ⟨μ87, hc86, h⟩ := ca_some h
                      refine rc_vv (o := 0) (As := []) X hI (c_M_piece l D cI ρ g (by omega) hc86) rfl rfl gV_X6_209 hd_X6_piece (by decide) (Nat.le_refl _) hl.1 rfl (Nat.le_of_ble_eq_true rfl) dX6_readText_149 (fun H locs hI => ?_)
                      refine lv_goto (tgt := 159) hx hb dX6_readText_152 (by decide) ?_
                      exact hj78 μ87 H locs ls (lv_sub hl [0, 1] rfl) hI h
                  · have h := it_pos c82 h
                    refine lv_aload_n hx hb dX6_readText_133 rfl (lv_at hl 0 rfl) ?_
                    obtain ⟨μ89, hc88, h⟩ := ca_some h
                    refine rc_vv (o := 0) (As := []) X hI (c_M_statement l D cI ρ g (by omega) hc88) rfl rfl gV_X6_206 hd_X6_statement (by decide) (Nat.le_refl _) hl.1 rfl (Nat.le_of_ble_eq_true rfl) dX6_readText_134 (fun H locs hI => ?_)
                    refine lv_goto (tgt := 159) hx hb dX6_readText_137 (by decide) ?_
                    exact hj78 μ89 H locs ls (lv_sub hl [0, 1] rfl) hI h
                · have h := it_pos c81 h
                  refine lv_aload_n hx hb dX6_readText_108 rfl (lv_at hl 0 rfl) ?_
                  refine lv_bipush (v := 8) hx hb dX6_readText_109 (by decide) ?_
                  obtain ⟨x91, μ92, hc90, h⟩ := ca2_some h
                  refine rc_vi (o := 0) (As := [.int (8 : Int32)]) X hI (c_M_must l D cI ρ g (by omega) hc90) rfl rfl gV_X6_128 hd_X6_must (by decide) (Nat.le_refl _) hl.1 rfl (Nat.le_of_ble_eq_true rfl) dX6_readText_111 (fun H locs hI => ?_)
                  refine lv_if_eq (tgt := 159) hx hb dX6_readText_114 (by decide) (fun c93 => ?_) (fun c93 => ?_)
                  · have h := it_pos c93 h
                    exact hj78 μ92 H locs ls (lv_sub hl [0, 1] rfl) hI h
                  · have h := it_neg c93 h
                    refine lv_aload_n hx hb dX6_readText_117 rfl (lv_at hl 0 rfl) ?_
                    refine lv_iconst (v := 2) hx hb dX6_readText_118 (by decide) ?_
                    refine rg_put X hI (o := 0) (j := 6) (k := 106) rfl rfl rfl rfl inG6 tyX6 tyX6_ok nmX6 (by decide) rfl wF_X6_143 rfl rfl rfl rfl dX6_readText_119 (fun H locs hI => ?_)
                    obtain ⟨μ94, eμ94, h⟩ := nm_some h
                    rw [← eμ94] at hI
                    refine lv_goto (tgt := 159) hx hb dX6_readText_122 (by decide) ?_
                    exact hj78 μ94 H locs ls (lv_sub hl [0, 1] rfl) hI h
              · have h := it_pos c80 h
                refine lv_aload_n hx hb dX6_readText_93 rfl (lv_at hl 0 rfl) ?_
                obtain ⟨μ96, hc95, h⟩ := ca_some h
                refine rc_vv (o := 0) (As := []) X hI (c_M_function l D cI ρ g (by omega) hc95) rfl rfl gV_X6_203 hd_X6_function (by decide) (Nat.le_refl _) hl.1 rfl (Nat.le_of_ble_eq_true rfl) dX6_readText_94 (fun H locs hI => ?_)
                refine lv_goto (tgt := 159) hx hb dX6_readText_97 (by decide) ?_
                exact hj78 μ96 H locs ls (lv_sub hl [0, 1] rfl) hI h
    · have h := it_neg c12 h
      refine lv_aload_n hx hb dX6_readText_43 rfl (lv_at hl 0 rfl) ?_
      refine rg_getR X hI (o := 0) (j := 13) (k := 6) rfl rfl rfl inG6 (by decide) rfl wF_X6_25 dX6_readText_44 ?_
      refine lv_iload_n hx hb dX6_readText_47 rfl (lv_at hl 1 rfl) ?_
      refine lv_iconst (v := -1) hx hb dX6_readText_48 (by decide) ?_
      obtain ⟨hn97, h⟩ := gd_some h
      refine rg_ast X hI (o := 6) rfl rfl hn97 dX6_readText_49 (fun H locs hI => ?_)
      obtain ⟨μ98, eμ98, h⟩ := nm_some h
      rw [← eμ98] at hI
      refine lv_aload_n hx hb dX6_readText_50 rfl (lv_at hl 0 rfl) ?_
      refine rg_getR X hI (o := 0) (j := 14) (k := 7) rfl rfl rfl inG6 (by decide) rfl wF_X6_28 dX6_readText_51 ?_
      refine lv_iload_n hx hb dX6_readText_54 rfl (lv_at hl 1 rfl) ?_
      refine lv_iconst (v := 0) hx hb dX6_readText_55 (by decide) ?_
      obtain ⟨hn99, h⟩ := gd_some h
      refine rg_ast X hI (o := 7) rfl rfl hn99 dX6_readText_56 (fun H locs hI => ?_)
      obtain ⟨μ100, eμ100, h⟩ := nm_some h
      rw [← eμ100] at hI
      obtain ⟨x101, ex101, h⟩ := nm_some h
      refine lv_iinc (v := x101) (lv' := [(1, .int x101), (0, .ref (ρ 0))]) hx hb dX6_readText_57 hl (k := 1) rfl (by rw [ex101]; rfl) (by decide) rfl (fun ls hl => ?_)
      refine lv_goto (tgt := 37) hx hb dX6_readText_60 (by decide) ?_
      exact ih11 x101 μ100 H locs ls (lv_sub hl [1, 0] rfl) hI h
