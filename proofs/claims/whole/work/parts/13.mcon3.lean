/-! the reference: contracts -/
set_option maxHeartbeats 4000000 in
set_option maxRecDepth 100000 in
theorem c_M_statement (l : Launch) (D : va_G) (cI : ClassId) (ρ : Nat → Nat) (hgt : Nat) (hh : 4 ≤ hgt)  {μ ν : St} (h : f_M_statement μ = some ν) : CV l yX6_statement cX6_statement 3 hgt TM cI D ρ [.ref (ρ 0)] μ ν := by
  obtain ⟨g, rfl⟩ : ∃ g, hgt = g + 1 := ⟨hgt - 1, by omega⟩
  unfold f_M_statement at h
  refine CV_of (own := RX6) (by decide) rfl (Nat.le_of_ble_eq_true rfl) ?_
  intro p e s m args below meth c Q A H locs X hI hend ls hl
  have hx := X.1.1
  have hb := X.1.2.1
  have hl : lv_has ls 3 [(0, .ref (ρ 0))] := hl
  refine lv_aload_n hx hb dX6_statement_0 rfl (lv_at hl 0 rfl) ?_
  obtain ⟨x2, hc1, h⟩ := ca_some h
  refine rc_vi (o := 0) (As := []) X hI (c_M_token l D cI ρ g (by omega) hc1) rfl rfl gV_X6_113 hd_X6_token (by decide) (Nat.le_refl _) hl.1 rfl (Nat.le_of_ble_eq_true rfl) dX6_statement_1 (fun H locs hI => ?_)
  refine lv_istore_n (lv' := [(1, .int x2), (0, .ref (ρ 0))]) hx hb dX6_statement_4 rfl hl (by decide) rfl (fun ls hl => ?_)
  refine lv_iload_n hx hb dX6_statement_5 rfl (lv_at hl 0 rfl) ?_
  refine lv_bipush (v := 9) hx hb dX6_statement_6 (by decide) ?_
  refine lv_icmp_ne (tgt := 16) hx hb dX6_statement_8 (by decide) (fun c3 => ?_) (fun c3 => ?_)
  · have h := it_neg c3 h
    refine lv_aload_n hx hb dX6_statement_16 rfl (lv_at hl 1 rfl) ?_
    refine lv_aload_n hx hb dX6_statement_17 rfl (lv_at hl 1 rfl) ?_
    refine lv_bipush (v := 8) hx hb dX6_statement_18 (by decide) ?_
    refine lv_iconst (v := 0) hx hb dX6_statement_20 (by decide) ?_
    obtain ⟨x5, μ6, hc4, h⟩ := ca2_some h
    refine rc_vi (o := 0) (As := [.int (8 : Int32), .int (0 : Int32)]) X hI (c_M_emit l D cI ρ g (by omega) hc4) rfl rfl gV_X6_158 hd_X6_emit (by decide) (Nat.le_refl _) hl.1 rfl (Nat.le_of_ble_eq_true rfl) dX6_statement_21 (fun H locs hI => ?_)
    refine rg_put X hI (o := 0) (j := 36) (k := 136) rfl rfl rfl rfl inG6 tyX6 tyX6_ok nmX6 (by decide) rfl wF_X6_168 rfl rfl rfl rfl dX6_statement_24 (fun H locs hI => ?_)
    obtain ⟨μ7, eμ7, h⟩ := nm_some h
    rw [← eμ7] at hI
    refine lv_aload_n hx hb dX6_statement_27 rfl (lv_at hl 1 rfl) ?_
    refine lv_iload_n hx hb dX6_statement_28 rfl (lv_at hl 0 rfl) ?_
    refine lv_bipush (v := 32) hx hb dX6_statement_29 (by decide) ?_
    refine lv_bipush (v := 39) hx hb dX6_statement_31 (by decide) ?_
    obtain ⟨x9, hc8, h⟩ := ca_some h
    refine rc_si (As := [.int x2, .int (32 : Int32), .int (39 : Int32)]) X hI (c_M_in l D cI ρ g (by omega) hc8) gV_X6_132 hd_X6_in (by decide) (Nat.le_refl _) hl.1 rfl (Nat.le_of_ble_eq_true rfl) dX6_statement_33 (fun H locs hI => ?_)
    obtain ⟨k11, ek11, h⟩ := jn_some h
    have hj12 : ∀ (y13 : Int32) (H : Heap) (locs : List Loc) (ls : Array Slot), lv_has ls 3 [(0, .ref (ρ 0)), (1, .int x2)] → RI TM cI D A s.heap ρ μ7 H locs → k11 y13 = some ν → W p l e (rmL (g + 1)) s m args below meth c H locs 0 0 Q (F0 m 62 ls [.int y13, .ref (ρ 0)]) := by
      intro y13 H locs ls hl hI h
      rw [ek11] at h
      try dsimp only at h
      refine rg_put X hI (o := 0) (j := 35) (k := 135) rfl rfl rfl rfl inG6 tyX6 tyX6_ok nmX6 (by decide) rfl wF_X6_171 rfl rfl rfl rfl dX6_statement_62 (fun H locs hI => ?_)
      obtain ⟨μ14, eμ14, h⟩ := nm_some h
      rw [← eμ14] at hI
      refine lv_iload_n hx hb dX6_statement_65 rfl (lv_at hl 1 rfl) ?_
      refine lv_bipush (v := 32) hx hb dX6_statement_66 (by decide) ?_
      refine lv_bipush (v := 39) hx hb dX6_statement_68 (by decide) ?_
      obtain ⟨x16, hc15, h⟩ := ca_some h
      refine rc_si (As := [.int x2, .int (32 : Int32), .int (39 : Int32)]) X hI (c_M_in l D cI ρ g (by omega) hc15) gV_X6_132 hd_X6_in (by decide) (Nat.le_refl _) hl.1 rfl (Nat.le_of_ble_eq_true rfl) dX6_statement_70 (fun H locs hI => ?_)
      obtain ⟨k18, ek18, h⟩ := jn_some h
      have hj19 : ∀ (H : Heap) (locs : List Loc) (ls : Array Slot), lv_has ls 3 [(0, .ref (ρ 0)), (1, .int x2)] → RI TM cI D A s.heap ρ μ14 H locs → k18 = some ν → W p l e (rmL (g + 1)) s m args below meth c H locs 0 0 Q (F0 m 87 ls []) := by
        intro H locs ls hl hI h
        rw [ek18] at h
        refine lv_aload_n hx hb dX6_statement_87 rfl (lv_at hl 0 rfl) ?_
        refine lv_aload_n hx hb dX6_statement_88 rfl (lv_at hl 0 rfl) ?_
        refine rg_get X hI (o := 0) (j := 35) (k := 135) rfl rfl rfl inG6 (by decide) rfl wF_X6_171 dX6_statement_89 ?_
        refine lv_bipush (v := 9) hx hb dX6_statement_92 (by decide) ?_
        obtain ⟨k21, ek21, h⟩ := jn_some h
        have hj22 : ∀ (y23 : Int32) (ls : Array Slot), lv_has ls 3 [(0, .ref (ρ 0))] → k21 y23 = some ν → W p l e (rmL (g + 1)) s m args below meth c H locs 0 0 Q (F0 m 108 ls [.int y23, .ref (ρ 0)]) := by
          intro y23 ls hl h
          rw [ek21] at h
          try dsimp only at h
          refine rg_put X hI (o := 0) (j := 34) (k := 134) rfl rfl rfl rfl inG6 tyX6 tyX6_ok nmX6 (by decide) rfl wF_X6_174 rfl rfl rfl rfl dX6_statement_108 (fun H locs hI => ?_)
          obtain ⟨μ24, eμ24, h⟩ := nm_some h
          rw [← eμ24] at hI
          refine lv_aload_n hx hb dX6_statement_111 rfl (lv_at hl 0 rfl) ?_
          refine lv_dup hx hb dX6_statement_112 rfl ?_
          refine rg_get X hI (o := 0) (j := 5) (k := 105) rfl rfl rfl inG6 (by decide) rfl wF_X6_104 dX6_statement_113 ?_
          refine lv_iconst (v := 1) hx hb dX6_statement_116 (by decide) ?_
          refine lv_iadd hx hb dX6_statement_117 ?_
          refine rg_put X hI (o := 0) (j := 5) (k := 105) rfl rfl rfl rfl inG6 tyX6 tyX6_ok nmX6 (by decide) rfl wF_X6_104 rfl rfl rfl rfl dX6_statement_118 (fun H locs hI => ?_)
          obtain ⟨μ25, eμ25, h⟩ := nm_some h
          rw [← eμ25] at hI
          refine lv_aload_n hx hb dX6_statement_121 rfl (lv_at hl 0 rfl) ?_
          refine lv_bipush (v := 12) hx hb dX6_statement_122 (by decide) ?_
          obtain ⟨x27, μ28, hc26, h⟩ := ca2_some h
          refine rc_vi (o := 0) (As := [.int (12 : Int32)]) X hI (c_M_must l D cI ρ g (by omega) hc26) rfl rfl gV_X6_128 hd_X6_must (by decide) (Nat.le_refl _) hl.1 rfl (Nat.le_of_ble_eq_true rfl) dX6_statement_124 (fun H locs hI => ?_)
          refine lv_if_eq (tgt := 368) hx hb dX6_statement_127 (by decide) (fun c29 => ?_) (fun c29 => ?_)
          · have h := it_pos c29 h
            cases h
            exact hend H locs _ _ hI dX6_statement_368
          · have h := it_neg c29 h
            refine lv_aload_n hx hb dX6_statement_130 rfl (lv_at hl 0 rfl) ?_
            refine lv_iconst (v := 4) hx hb dX6_statement_131 (by decide) ?_
            obtain ⟨μ31, hc30, h⟩ := ca_some h
            refine rc_vv (o := 0) (As := [.int (4 : Int32)]) X hI (c_M_worth l D cI ρ g (by omega) hc30) rfl rfl gV_X6_177 hd_X6_worth (by decide) (Nat.le_refl _) hl.1 rfl (Nat.le_of_ble_eq_true rfl) dX6_statement_132 (fun H locs hI => ?_)
            refine lv_goto (tgt := 368) hx hb dX6_statement_135 (by decide) ?_
            cases h
            exact hend H locs _ _ hI dX6_statement_368
        refine lv_icmp_ne (tgt := 104) hx hb dX6_statement_94 (by decide) (fun c32 => ?_) (fun c32 => ?_)
        · have h := it_neg c32 h
          refine lv_iload_n hx hb dX6_statement_104 rfl (lv_at hl 1 rfl) ?_
          refine lv_bipush (v := 44) hx hb dX6_statement_105 (by decide) ?_
          refine lv_isub hx hb dX6_statement_107 ?_
          exact hj22 (x2 - (44 : Int32)) ls (lv_sub hl [0] rfl) h
        · have h := it_pos c32 h
          refine lv_iload_n hx hb dX6_statement_97 rfl (lv_at hl 1 rfl) ?_
          refine lv_bipush (v := 32) hx hb dX6_statement_98 (by decide) ?_
          refine lv_isub hx hb dX6_statement_100 ?_
          refine lv_goto (tgt := 108) hx hb dX6_statement_101 (by decide) ?_
          exact hj22 (x2 - (32 : Int32)) ls (lv_sub hl [0] rfl) h
      refine lv_if_ne (tgt := 87) hx hb dX6_statement_73 (by decide) (fun c33 => ?_) (fun c33 => ?_)
      · have h := it_neg c33 h
        exact hj19 H locs ls (lv_sub hl [0, 1] rfl) hI h
      · have h := it_pos c33 h
        refine lv_iload_n hx hb dX6_statement_76 rfl (lv_at hl 1 rfl) ?_
        refine lv_bipush (v := 44) hx hb dX6_statement_77 (by decide) ?_
        refine lv_bipush (v := 51) hx hb dX6_statement_79 (by decide) ?_
        obtain ⟨x35, hc34, h⟩ := ca_some h
        refine rc_si (As := [.int x2, .int (44 : Int32), .int (51 : Int32)]) X hI (c_M_in l D cI ρ g (by omega) hc34) gV_X6_132 hd_X6_in (by decide) (Nat.le_refl _) hl.1 rfl (Nat.le_of_ble_eq_true rfl) dX6_statement_81 (fun H locs hI => ?_)
        refine lv_if_eq (tgt := 138) hx hb dX6_statement_84 (by decide) (fun c36 => ?_) (fun c36 => ?_)
        · have h := it_pos c36 h
          refine lv_iload_n hx hb dX6_statement_138 rfl (lv_at hl 1 rfl) ?_
          refine lv_bipush (v := 40) hx hb dX6_statement_139 (by decide) ?_
          refine lv_bipush (v := 43) hx hb dX6_statement_141 (by decide) ?_
          obtain ⟨x38, hc37, h⟩ := ca_some h
          refine rc_si (As := [.int x2, .int (40 : Int32), .int (43 : Int32)]) X hI (c_M_in l D cI ρ g (by omega) hc37) gV_X6_132 hd_X6_in (by decide) (Nat.le_refl _) hl.1 rfl (Nat.le_of_ble_eq_true rfl) dX6_statement_143 (fun H locs hI => ?_)
          refine lv_if_eq (tgt := 184) hx hb dX6_statement_146 (by decide) (fun c39 => ?_) (fun c39 => ?_)
          · have h := it_pos c39 h
            refine lv_iload_n hx hb dX6_statement_184 rfl (lv_at hl 1 rfl) ?_
            refine lv_bipush (v := 52) hx hb dX6_statement_185 (by decide) ?_
            refine lv_bipush (v := 57) hx hb dX6_statement_187 (by decide) ?_
            obtain ⟨x41, hc40, h⟩ := ca_some h
            refine rc_si (As := [.int x2, .int (52 : Int32), .int (57 : Int32)]) X hI (c_M_in l D cI ρ g (by omega) hc40) gV_X6_132 hd_X6_in (by decide) (Nat.le_refl _) hl.1 rfl (Nat.le_of_ble_eq_true rfl) dX6_statement_189 (fun H locs hI => ?_)
            refine lv_if_eq (tgt := 275) hx hb dX6_statement_192 (by decide) (fun c42 => ?_) (fun c42 => ?_)
            · have h := it_pos c42 h
              refine lv_iload_n hx hb dX6_statement_275 rfl (lv_at hl 1 rfl) ?_
              obtain ⟨k44, ek44, h⟩ := jn_some h
              have hj45 : ∀ (ls : Array Slot), lv_has ls 3 [(0, .ref (ρ 0)), (1, .int x2)] → k44 = some ν → W p l e (rmL (g + 1)) s m args below meth c H locs 0 0 Q (F0 m 284 ls []) := by
                intro ls hl h
                rw [ek44] at h
                refine lv_aload_n hx hb dX6_statement_284 rfl (lv_at hl 0 rfl) ?_
                refine lv_dup hx hb dX6_statement_285 rfl ?_
                refine rg_get X hI (o := 0) (j := 5) (k := 105) rfl rfl rfl inG6 (by decide) rfl wF_X6_104 dX6_statement_286 ?_
                refine lv_iconst (v := 1) hx hb dX6_statement_289 (by decide) ?_
                refine lv_iadd hx hb dX6_statement_290 ?_
                refine rg_put X hI (o := 0) (j := 5) (k := 105) rfl rfl rfl rfl inG6 tyX6 tyX6_ok nmX6 (by decide) rfl wF_X6_104 rfl rfl rfl rfl dX6_statement_291 (fun H locs hI => ?_)
                obtain ⟨μ46, eμ46, h⟩ := nm_some h
                rw [← eμ46] at hI
                refine lv_aload_n hx hb dX6_statement_294 rfl (lv_at hl 0 rfl) ?_
                refine lv_bipush (v := 6) hx hb dX6_statement_295 (by decide) ?_
                obtain ⟨x48, μ49, hc47, h⟩ := ca2_some h
                refine rc_vi (o := 0) (As := [.int (6 : Int32)]) X hI (c_M_must l D cI ρ g (by omega) hc47) rfl rfl gV_X6_128 hd_X6_must (by decide) (Nat.le_refl _) hl.1 rfl (Nat.le_of_ble_eq_true rfl) dX6_statement_297 (fun H locs hI => ?_)
                refine lv_if_eq (tgt := 368) hx hb dX6_statement_300 (by decide) (fun c50 => ?_) (fun c50 => ?_)
                · have h := it_pos c50 h
                  cases h
                  exact hend H locs _ _ hI dX6_statement_368
                · have h := it_neg c50 h
                  refine lv_aload_n hx hb dX6_statement_303 rfl (lv_at hl 0 rfl) ?_
                  refine lv_iload_n hx hb dX6_statement_304 rfl (lv_at hl 1 rfl) ?_
                  obtain ⟨k52, ek52, h⟩ := jn_some h
                  have hj53 : ∀ (y54 : Int32) (ls : Array Slot), lv_has ls 3 [] → k52 y54 = some ν → W p l e (rmL (g + 1)) s m args below meth c H locs 0 0 Q (F0 m 314 ls [.int y54, .ref (ρ 0)]) := by
                    intro y54 ls hl h
                    rw [ek52] at h
                    try dsimp only at h
                    obtain ⟨μ56, hc55, h⟩ := ca_some h
                    refine rc_vv (o := 0) (As := [.int y54]) X hI (c_M_worth l D cI ρ g (by omega) hc55) rfl rfl gV_X6_177 hd_X6_worth (by decide) (Nat.le_refl _) hl.1 rfl (Nat.le_of_ble_eq_true rfl) dX6_statement_314 (fun H locs hI => ?_)
                    refine lv_goto (tgt := 368) hx hb dX6_statement_317 (by decide) ?_
                    cases h
                    exact hend H locs _ _ hI dX6_statement_368
                  refine lv_if_ne (tgt := 312) hx hb dX6_statement_305 (by decide) (fun c57 => ?_) (fun c57 => ?_)
                  · have h := it_neg c57 h
                    refine lv_bipush (v := 6) hx hb dX6_statement_312 (by decide) ?_
                    exact hj53 (6 : Int32) ls (lv_sub hl [] rfl) h
                  · have h := it_pos c57 h
                    refine lv_iconst (v := 5) hx hb dX6_statement_308 (by decide) ?_
                    refine lv_goto (tgt := 314) hx hb dX6_statement_309 (by decide) ?_
                    exact hj53 (5 : Int32) ls (lv_sub hl [] rfl) h
              refine lv_if_eq (tgt := 284) hx hb dX6_statement_276 (by decide) (fun c58 => ?_) (fun c58 => ?_)
              · have h := it_pos c58 h
                exact hj45 ls (lv_sub hl [0, 1] rfl) h
              · have h := it_neg c58 h
                refine lv_iload_n hx hb dX6_statement_279 rfl (lv_at hl 1 rfl) ?_
                refine lv_iconst (v := 2) hx hb dX6_statement_280 (by decide) ?_
                refine lv_icmp_ne (tgt := 320) hx hb dX6_statement_281 (by decide) (fun c59 => ?_) (fun c59 => ?_)
                · have h := it_neg c59 h
                  refine lv_iload_n hx hb dX6_statement_320 rfl (lv_at hl 1 rfl) ?_
                  refine lv_iconst (v := 3) hx hb dX6_statement_321 (by decide) ?_
                  obtain ⟨k61, ek61, h⟩ := jn_some h
                  have hj62 : ∀ (ls : Array Slot), lv_has ls 3 [(0, .ref (ρ 0)), (1, .int x2)] → k61 = some ν → W p l e (rmL (g + 1)) s m args below meth c H locs 0 0 Q (F0 m 330 ls []) := by
                    intro ls hl h
                    rw [ek61] at h
                    refine lv_aload_n hx hb dX6_statement_330 rfl (lv_at hl 0 rfl) ?_
                    refine lv_dup hx hb dX6_statement_331 rfl ?_
                    refine rg_get X hI (o := 0) (j := 5) (k := 105) rfl rfl rfl inG6 (by decide) rfl wF_X6_104 dX6_statement_332 ?_
                    refine lv_iconst (v := 1) hx hb dX6_statement_335 (by decide) ?_
                    refine lv_iadd hx hb dX6_statement_336 ?_
                    refine rg_put X hI (o := 0) (j := 5) (k := 105) rfl rfl rfl rfl inG6 tyX6 tyX6_ok nmX6 (by decide) rfl wF_X6_104 rfl rfl rfl rfl dX6_statement_337 (fun H locs hI => ?_)
                    obtain ⟨μ63, eμ63, h⟩ := nm_some h
                    rw [← eμ63] at hI
                    refine lv_aload_n hx hb dX6_statement_340 rfl (lv_at hl 0 rfl) ?_
                    refine lv_iload_n hx hb dX6_statement_341 rfl (lv_at hl 1 rfl) ?_
                    refine lv_iconst (v := 3) hx hb dX6_statement_342 (by decide) ?_
                    obtain ⟨k65, ek65, h⟩ := jn_some h
                    have hj66 : ∀ (y67 : Int32) (ls : Array Slot), lv_has ls 3 [] → k65 y67 = some ν → W p l e (rmL (g + 1)) s m args below meth c H locs 0 0 Q (F0 m 353 ls [.int y67, .ref (ρ 0)]) := by
                      intro y67 ls hl h
                      rw [ek65] at h
                      try dsimp only at h
                      obtain ⟨μ69, hc68, h⟩ := ca_some h
                      refine rc_vv (o := 0) (As := [.int y67]) X hI (c_M_worth l D cI ρ g (by omega) hc68) rfl rfl gV_X6_177 hd_X6_worth (by decide) (Nat.le_refl _) hl.1 rfl (Nat.le_of_ble_eq_true rfl) dX6_statement_353 (fun H locs hI => ?_)
                      refine lv_goto (tgt := 368) hx hb dX6_statement_356 (by decide) ?_
                      cases h
                      exact hend H locs _ _ hI dX6_statement_368
                    refine lv_icmp_ne (tgt := 351) hx hb dX6_statement_343 (by decide) (fun c70 => ?_) (fun c70 => ?_)
                    · have h := it_neg c70 h
                      refine lv_bipush (v := 8) hx hb dX6_statement_351 (by decide) ?_
                      exact hj66 (8 : Int32) ls (lv_sub hl [] rfl) h
                    · have h := it_pos c70 h
                      refine lv_bipush (v := 7) hx hb dX6_statement_346 (by decide) ?_
                      refine lv_goto (tgt := 353) hx hb dX6_statement_348 (by decide) ?_
                      exact hj66 (7 : Int32) ls (lv_sub hl [] rfl) h
                  refine lv_icmp_eq (tgt := 330) hx hb dX6_statement_322 (by decide) (fun c71 => ?_) (fun c71 => ?_)
                  · have h := it_pos c71 h
                    exact hj62 ls (lv_sub hl [0, 1] rfl) h
                  · have h := it_neg c71 h
                    refine lv_iload_n hx hb dX6_statement_325 rfl (lv_at hl 1 rfl) ?_
                    refine lv_iconst (v := 4) hx hb dX6_statement_326 (by decide) ?_
                    refine lv_icmp_ne (tgt := 359) hx hb dX6_statement_327 (by decide) (fun c72 => ?_) (fun c72 => ?_)
                    · have h := it_neg c72 h
                      refine lv_aload_n hx hb dX6_statement_359 rfl (lv_at hl 0 rfl) ?_
                      refine lv_iconst (v := 1) hx hb dX6_statement_360 (by decide) ?_
                      refine lv_aload_n hx hb dX6_statement_361 rfl (lv_at hl 0 rfl) ?_
                      refine rg_get X hI (o := 0) (j := 5) (k := 105) rfl rfl rfl inG6 (by decide) rfl wF_X6_104 dX6_statement_362 ?_
                      obtain ⟨μ74, hc73, h⟩ := ca_some h
                      refine rc_vv (o := 0) (As := [.int (1 : Int32), .int (μ14 105 0)]) X hI (c_M_wrong l D cI ρ g (by omega) hc73) rfl rfl gV_X6_117 hd_X6_wrong (by decide) (Nat.le_refl _) hl.1 rfl (Nat.le_of_ble_eq_true rfl) dX6_statement_365 (fun H locs hI => ?_)
                      cases h
                      exact hend H locs _ _ hI dX6_statement_368
                    · have h := it_pos c72 h
                      exact hj62 ls (lv_sub hl [0, 1] rfl) h
                · have h := it_pos c59 h
                  exact hj45 ls (lv_sub hl [0, 1] rfl) h
            · have h := it_neg c42 h
              refine lv_aload_n hx hb dX6_statement_195 rfl (lv_at hl 0 rfl) ?_
              obtain ⟨x76, μ77, hc75, h⟩ := ca2_some h
              refine rc_vi (o := 0) (As := []) X hI (c_M_call l D cI ρ g (by omega) hc75) rfl rfl gV_X6_181 hd_X6_call (by decide) (Nat.le_refl _) hl.1 rfl (Nat.le_of_ble_eq_true rfl) dX6_statement_196 (fun H locs hI => ?_)
              refine lv_istore_n (lv' := [(2, .int x76), (0, .ref (ρ 0)), (1, .int x2)]) hx hb dX6_statement_199 rfl hl (by decide) rfl (fun ls hl => ?_)
              refine lv_aload_n hx hb dX6_statement_200 rfl (lv_at hl 1 rfl) ?_
              refine lv_bipush (v := 6) hx hb dX6_statement_201 (by decide) ?_
              obtain ⟨x79, μ80, hc78, h⟩ := ca2_some h
              refine rc_vi (o := 0) (As := [.int (6 : Int32)]) X hI (c_M_must l D cI ρ g (by omega) hc78) rfl rfl gV_X6_128 hd_X6_must (by decide) (Nat.le_refl _) hl.1 rfl (Nat.le_of_ble_eq_true rfl) dX6_statement_203 (fun H locs hI => ?_)
              refine lv_if_ne (tgt := 210) hx hb dX6_statement_206 (by decide) (fun c81 => ?_) (fun c81 => ?_)
              · have h := it_neg c81 h
                refine lv_aload_n hx hb dX6_statement_210 rfl (lv_at hl 1 rfl) ?_
                obtain ⟨x83, hc82, h⟩ := ca_some h
                refine rc_vi (o := 0) (As := []) X hI (c_M_token l D cI ρ g (by omega) hc82) rfl rfl gV_X6_113 hd_X6_token (by decide) (Nat.le_refl _) hl.1 rfl (Nat.le_of_ble_eq_true rfl) dX6_statement_211 (fun H locs hI => ?_)
                refine lv_bipush (v := 7) hx hb dX6_statement_214 (by decide) ?_
                obtain ⟨k85, ek85, h⟩ := jn_some h
                have hj86 : ∀ (μ84 : St) (H : Heap) (locs : List Loc) (ls : Array Slot), lv_has ls 3 [] → RI TM cI D A s.heap ρ μ84 H locs → k85 μ84 = some ν → W p l e (rmL (g + 1)) s m args below meth c H locs 0 0 Q (F0 m 272 ls []) := by
                  intro μ84 H locs ls hl hI h
                  rw [ek85] at h
                  try dsimp only at h
                  refine lv_goto (tgt := 368) hx hb dX6_statement_272 (by decide) ?_
                  cases h
                  exact hend H locs _ _ hI dX6_statement_368
                refine lv_icmp_ne (tgt := 252) hx hb dX6_statement_216 (by decide) (fun c87 => ?_) (fun c87 => ?_)
                · have h := it_neg c87 h
                  refine lv_aload_n hx hb dX6_statement_252 rfl (lv_at hl 1 rfl) ?_
                  refine lv_bipush (v := 9) hx hb dX6_statement_253 (by decide) ?_
                  obtain ⟨μ89, hc88, h⟩ := ca_some h
                  refine rc_vv (o := 0) (As := [.int (9 : Int32)]) X hI (c_M_worth l D cI ρ g (by omega) hc88) rfl rfl gV_X6_177 hd_X6_worth (by decide) (Nat.le_refl _) hl.1 rfl (Nat.le_of_ble_eq_true rfl) dX6_statement_255 (fun H locs hI => ?_)
                  refine lv_aload_n hx hb dX6_statement_258 rfl (lv_at hl 1 rfl) ?_
                  refine rg_getR X hI (o := 0) (j := 30) (k := 19) rfl rfl rfl inG6 (by decide) rfl wF_X6_64 dX6_statement_259 ?_
                  refine lv_iconst (v := 0) hx hb dX6_statement_262 (by decide) ?_
                  refine lv_iload_n hx hb dX6_statement_263 rfl (lv_at hl 0 rfl) ?_
                  obtain ⟨hn90, h⟩ := gd_some h
                  refine rg_ast X hI (o := 19) rfl rfl hn90 dX6_statement_264 (fun H locs hI => ?_)
                  obtain ⟨μ91, eμ91, h⟩ := nm_some h
                  rw [← eμ91] at hI
                  refine lv_aload_n hx hb dX6_statement_265 rfl (lv_at hl 1 rfl) ?_
                  refine rg_getR X hI (o := 0) (j := 21) (k := 12) rfl rfl rfl inG6 (by decide) rfl wF_X6_43 dX6_statement_266 ?_
                  refine lv_iload_n hx hb dX6_statement_269 rfl (lv_at hl 0 rfl) ?_
                  refine lv_iconst (v := 1) hx hb dX6_statement_270 (by decide) ?_
                  obtain ⟨hn92, h⟩ := gd_some h
                  refine rg_ast X hI (o := 12) rfl rfl hn92 dX6_statement_271 (fun H locs hI => ?_)
                  obtain ⟨μ93, eμ93, h⟩ := nm_some h
                  rw [← eμ93] at hI
                  exact hj86 μ93 H locs ls (lv_sub hl [] rfl) hI h
                · have h := it_pos c87 h
                  refine lv_aload_n hx hb dX6_statement_219 rfl (lv_at hl 1 rfl) ?_
                  refine lv_dup hx hb dX6_statement_220 rfl ?_
                  refine rg_get X hI (o := 0) (j := 5) (k := 105) rfl rfl rfl inG6 (by decide) rfl wF_X6_104 dX6_statement_221 ?_
                  refine lv_iconst (v := 1) hx hb dX6_statement_224 (by decide) ?_
                  refine lv_iadd hx hb dX6_statement_225 ?_
                  refine rg_put X hI (o := 0) (j := 5) (k := 105) rfl rfl rfl rfl inG6 tyX6 tyX6_ok nmX6 (by decide) rfl wF_X6_104 rfl rfl rfl rfl dX6_statement_226 (fun H locs hI => ?_)
                  obtain ⟨μ94, eμ94, h⟩ := nm_some h
                  rw [← eμ94] at hI
                  refine lv_aload_n hx hb dX6_statement_229 rfl (lv_at hl 1 rfl) ?_
                  refine lv_iload_n hx hb dX6_statement_230 rfl (lv_at hl 0 rfl) ?_
                  obtain ⟨μ96, hc95, h⟩ := ca_some h
                  refine rc_vv (o := 0) (As := [.int x76]) X hI (c_M_callEnds l D cI ρ g (by omega) hc95) rfl rfl gV_X6_184 hd_X6_callEnds (by decide) (Nat.le_refl _) hl.1 rfl (Nat.le_of_ble_eq_true rfl) dX6_statement_231 (fun H locs hI => ?_)
                  refine lv_aload_n hx hb dX6_statement_234 rfl (lv_at hl 1 rfl) ?_
                  refine lv_bipush (v := 12) hx hb dX6_statement_235 (by decide) ?_
                  refine lv_iconst (v := 0) hx hb dX6_statement_237 (by decide) ?_
                  obtain ⟨x98, μ99, hc97, h⟩ := ca2_some h
                  refine rc_vi (o := 0) (As := [.int (12 : Int32), .int (0 : Int32)]) X hI (c_M_emit l D cI ρ g (by omega) hc97) rfl rfl gV_X6_158 hd_X6_emit (by decide) (Nat.le_refl _) hl.1 rfl (Nat.le_of_ble_eq_true rfl) dX6_statement_238 (fun H locs hI => ?_)
                  refine lv_pop hx hb dX6_statement_241 rfl ?_
                  refine lv_aload_n hx hb dX6_statement_242 rfl (lv_at hl 1 rfl) ?_
                  refine lv_bipush (v := 10) hx hb dX6_statement_243 (by decide) ?_
                  obtain ⟨x101, μ102, hc100, h⟩ := ca2_some h
                  refine rc_vi (o := 0) (As := [.int (10 : Int32)]) X hI (c_M_must l D cI ρ g (by omega) hc100) rfl rfl gV_X6_128 hd_X6_must (by decide) (Nat.le_refl _) hl.1 rfl (Nat.le_of_ble_eq_true rfl) dX6_statement_245 (fun H locs hI => ?_)
                  refine lv_pop hx hb dX6_statement_248 rfl ?_
                  refine lv_goto (tgt := 272) hx hb dX6_statement_249 (by decide) ?_
                  exact hj86 μ102 H locs ls (lv_sub hl [] rfl) hI h
              · have h := it_pos c81 h
                cases h
                exact hend H locs _ _ hI dX6_statement_209
          · have h := it_neg c39 h
            refine lv_aload_n hx hb dX6_statement_149 rfl (lv_at hl 0 rfl) ?_
            refine lv_iload_n hx hb dX6_statement_150 rfl (lv_at hl 1 rfl) ?_
            refine lv_bipush (v := 40) hx hb dX6_statement_151 (by decide) ?_
            refine lv_isub hx hb dX6_statement_153 ?_
            refine rg_put X hI (o := 0) (j := 34) (k := 134) rfl rfl rfl rfl inG6 tyX6 tyX6_ok nmX6 (by decide) rfl wF_X6_174 rfl rfl rfl rfl dX6_statement_154 (fun H locs hI => ?_)
            obtain ⟨μ103, eμ103, h⟩ := nm_some h
            rw [← eμ103] at hI
            refine lv_aload_n hx hb dX6_statement_157 rfl (lv_at hl 0 rfl) ?_
            refine lv_dup hx hb dX6_statement_158 rfl ?_
            refine rg_get X hI (o := 0) (j := 5) (k := 105) rfl rfl rfl inG6 (by decide) rfl wF_X6_104 dX6_statement_159 ?_
            refine lv_iconst (v := 1) hx hb dX6_statement_162 (by decide) ?_
            refine lv_iadd hx hb dX6_statement_163 ?_
            refine rg_put X hI (o := 0) (j := 5) (k := 105) rfl rfl rfl rfl inG6 tyX6 tyX6_ok nmX6 (by decide) rfl wF_X6_104 rfl rfl rfl rfl dX6_statement_164 (fun H locs hI => ?_)
            obtain ⟨μ104, eμ104, h⟩ := nm_some h
            rw [← eμ104] at hI
            refine lv_aload_n hx hb dX6_statement_167 rfl (lv_at hl 0 rfl) ?_
            refine lv_bipush (v := 21) hx hb dX6_statement_168 (by decide) ?_
            obtain ⟨x106, μ107, hc105, h⟩ := ca2_some h
            refine rc_vi (o := 0) (As := [.int (21 : Int32)]) X hI (c_M_must l D cI ρ g (by omega) hc105) rfl rfl gV_X6_128 hd_X6_must (by decide) (Nat.le_refl _) hl.1 rfl (Nat.le_of_ble_eq_true rfl) dX6_statement_170 (fun H locs hI => ?_)
            refine lv_if_eq (tgt := 368) hx hb dX6_statement_173 (by decide) (fun c108 => ?_) (fun c108 => ?_)
            · have h := it_pos c108 h
              cases h
              exact hend H locs _ _ hI dX6_statement_368
            · have h := it_neg c108 h
              refine lv_aload_n hx hb dX6_statement_176 rfl (lv_at hl 0 rfl) ?_
              refine lv_iconst (v := 3) hx hb dX6_statement_177 (by decide) ?_
              obtain ⟨μ110, hc109, h⟩ := ca_some h
              refine rc_vv (o := 0) (As := [.int (3 : Int32)]) X hI (c_M_worth l D cI ρ g (by omega) hc109) rfl rfl gV_X6_177 hd_X6_worth (by decide) (Nat.le_refl _) hl.1 rfl (Nat.le_of_ble_eq_true rfl) dX6_statement_178 (fun H locs hI => ?_)
              refine lv_goto (tgt := 368) hx hb dX6_statement_181 (by decide) ?_
              cases h
              exact hend H locs _ _ hI dX6_statement_368
        · have h := it_neg c36 h
          exact hj19 H locs ls (lv_sub hl [0, 1] rfl) hI h
    refine lv_if_eq (tgt := 44) hx hb dX6_statement_36 (by decide) (fun c111 => ?_) (fun c111 => ?_)
    · have h := it_pos c111 h
      refine lv_iload_n hx hb dX6_statement_44 rfl (lv_at hl 0 rfl) ?_
      refine lv_bipush (v := 44) hx hb dX6_statement_45 (by decide) ?_
      refine lv_bipush (v := 51) hx hb dX6_statement_47 (by decide) ?_
      obtain ⟨x113, hc112, h⟩ := ca_some h
      refine rc_si (As := [.int x2, .int (44 : Int32), .int (51 : Int32)]) X hI (c_M_in l D cI ρ g (by omega) hc112) gV_X6_132 hd_X6_in (by decide) (Nat.le_refl _) hl.1 rfl (Nat.le_of_ble_eq_true rfl) dX6_statement_49 (fun H locs hI => ?_)
      refine lv_if_eq (tgt := 60) hx hb dX6_statement_52 (by decide) (fun c114 => ?_) (fun c114 => ?_)
      · have h := it_pos c114 h
        refine lv_bipush (v := 11) hx hb dX6_statement_60 (by decide) ?_
        exact hj12 (11 : Int32) H locs ls (lv_sub hl [1, 0] rfl) hI h
      · have h := it_neg c114 h
        refine lv_bipush (v := 10) hx hb dX6_statement_55 (by decide) ?_
        refine lv_goto (tgt := 62) hx hb dX6_statement_57 (by decide) ?_
        exact hj12 (10 : Int32) H locs ls (lv_sub hl [1, 0] rfl) hI h
    · have h := it_neg c111 h
      refine lv_bipush (v := 9) hx hb dX6_statement_39 (by decide) ?_
      refine lv_goto (tgt := 62) hx hb dX6_statement_41 (by decide) ?_
      exact hj12 (9 : Int32) H locs ls (lv_sub hl [1, 0] rfl) hI h
  · have h := it_pos c3 h
    refine lv_aload_n hx hb dX6_statement_11 rfl (lv_at hl 1 rfl) ?_
    obtain ⟨μ116, hc115, h⟩ := ca_some h
    refine rc_vv (o := 0) (As := []) X hI (c_M_blockEnds l D cI ρ g (by omega) hc115) rfl rfl gV_X6_165 hd_X6_blockEnds (by decide) (Nat.le_refl _) hl.1 rfl (Nat.le_of_ble_eq_true rfl) dX6_statement_12 (fun H locs hI => ?_)
    cases h
    exact hend H locs _ _ hI dX6_statement_15
set_option maxHeartbeats 4000000 in
set_option maxRecDepth 100000 in
theorem c_M_piece (l : Launch) (D : va_G) (cI : ClassId) (ρ : Nat → Nat) (hgt : Nat) (hh : 4 ≤ hgt)  {μ ν : St} (h : f_M_piece μ = some ν) : CV l yX6_piece cX6_piece 4 hgt TM cI D ρ [.ref (ρ 0)] μ ν := by
  obtain ⟨g, rfl⟩ : ∃ g, hgt = g + 1 := ⟨hgt - 1, by omega⟩
  unfold f_M_piece at h
  refine CV_of (own := RX6) (by decide) rfl (Nat.le_of_ble_eq_true rfl) ?_
  intro p e s m args below meth c Q A H locs X hI hend ls hl
  have hx := X.1.1
  have hb := X.1.2.1
  have hl : lv_has ls 4 [(0, .ref (ρ 0))] := hl
  refine lv_aload_n hx hb dX6_piece_0 rfl (lv_at hl 0 rfl) ?_
  obtain ⟨x2, hc1, h⟩ := ca_some h
  refine rc_vi (o := 0) (As := []) X hI (c_M_token l D cI ρ g (by omega) hc1) rfl rfl gV_X6_113 hd_X6_token (by decide) (Nat.le_refl _) hl.1 rfl (Nat.le_of_ble_eq_true rfl) dX6_piece_1 (fun H locs hI => ?_)
  refine lv_istore_n (lv' := [(1, .int x2), (0, .ref (ρ 0))]) hx hb dX6_piece_4 rfl hl (by decide) rfl (fun ls hl => ?_)
  refine lv_aload_n hx hb dX6_piece_5 rfl (lv_at hl 1 rfl) ?_
  refine rg_get X hI (o := 0) (j := 26) (k := 126) rfl rfl rfl inG6 (by decide) rfl wF_X6_146 dX6_piece_6 ?_
  refine lv_iconst (v := 1) hx hb dX6_piece_9 (by decide) ?_
  refine lv_isub hx hb dX6_piece_10 ?_
  obtain ⟨x3, ex3, h⟩ := nm_some h
  refine rg_top ex3 ?_
  refine lv_istore_n (lv' := [(2, .int x3), (1, .int x2), (0, .ref (ρ 0))]) hx hb dX6_piece_11 rfl hl (by decide) rfl (fun ls hl => ?_)
  refine lv_aload_n hx hb dX6_piece_12 rfl (lv_at hl 2 rfl) ?_
  refine rg_getR X hI (o := 0) (j := 28) (k := 17) rfl rfl rfl inG6 (by decide) rfl wF_X6_58 dX6_piece_13 ?_
  refine lv_iload_n hx hb dX6_piece_16 rfl (lv_at hl 0 rfl) ?_
  obtain ⟨hn4, h⟩ := gd_some h
  refine rg_ald X hI (o := 17) rfl hn4 dX6_piece_17 ?_
  obtain ⟨x5, ex5, h⟩ := nm_some h
  refine rg_top ex5 ?_
  refine lv_iconst (v := -1) hx hb dX6_piece_18 (by decide) ?_
  obtain ⟨k7, ek7, h⟩ := jn_some h
  have hj8 : ∀ (ls : Array Slot), lv_has ls 4 [(0, .ref (ρ 0)), (1, .int x2)] → k7 = some ν → W p l e (rmL (g + 1)) s m args below meth c H locs 0 0 Q (F0 m 63 ls []) := by
    intro ls hl h
    rw [ek7] at h
    refine lv_aload_n hx hb dX6_piece_63 rfl (lv_at hl 0 rfl) ?_
    refine lv_iconst (v := 4) hx hb dX6_piece_64 (by decide) ?_
    refine rg_put X hI (o := 0) (j := 6) (k := 106) rfl rfl rfl rfl inG6 tyX6 tyX6_ok nmX6 (by decide) rfl wF_X6_143 rfl rfl rfl rfl dX6_piece_65 (fun H locs hI => ?_)
    obtain ⟨μ9, eμ9, h⟩ := nm_some h
    rw [← eμ9] at hI
    refine lv_iload_n hx hb dX6_piece_68 rfl (lv_at hl 1 rfl) ?_
    refine lv_bipush (v := 64) hx hb dX6_piece_69 (by decide) ?_
    refine lv_sipush (v := 191) hx hb dX6_piece_71 (by decide) ?_
    obtain ⟨x11, hc10, h⟩ := ca_some h
    refine rc_si (As := [.int x2, .int (64 : Int32), .int (191 : Int32)]) X hI (c_M_in l D cI ρ g (by omega) hc10) gV_X6_132 hd_X6_in (by decide) (Nat.le_refl _) hl.1 rfl (Nat.le_of_ble_eq_true rfl) dX6_piece_74 (fun H locs hI => ?_)
    refine lv_if_eq (tgt := 103) hx hb dX6_piece_77 (by decide) (fun c12 => ?_) (fun c12 => ?_)
    · have h := it_pos c12 h
      refine lv_iload_n hx hb dX6_piece_103 rfl (lv_at hl 1 rfl) ?_
      refine lv_iconst (v := 5) hx hb dX6_piece_104 (by decide) ?_
      refine lv_icmp_ne (tgt := 128) hx hb dX6_piece_105 (by decide) (fun c13 => ?_) (fun c13 => ?_)
      · have h := it_neg c13 h
        refine lv_iload_n hx hb dX6_piece_128 rfl (lv_at hl 1 rfl) ?_
        refine lv_bipush (v := 32) hx hb dX6_piece_129 (by decide) ?_
        refine lv_bipush (v := 39) hx hb dX6_piece_131 (by decide) ?_
        obtain ⟨x15, hc14, h⟩ := ca_some h
        refine rc_si (As := [.int x2, .int (32 : Int32), .int (39 : Int32)]) X hI (c_M_in l D cI ρ g (by omega) hc14) gV_X6_132 hd_X6_in (by decide) (Nat.le_refl _) hl.1 rfl (Nat.le_of_ble_eq_true rfl) dX6_piece_133 (fun H locs hI => ?_)
        obtain ⟨k17, ek17, h⟩ := jn_some h
        have hj18 : ∀ (H : Heap) (locs : List Loc) (ls : Array Slot), lv_has ls 4 [(0, .ref (ρ 0)), (1, .int x2)] → RI TM cI D A s.heap ρ μ9 H locs → k17 = some ν → W p l e (rmL (g + 1)) s m args below meth c H locs 0 0 Q (F0 m 150 ls []) := by
          intro H locs ls hl hI h
          rw [ek17] at h
          refine lv_aload_n hx hb dX6_piece_150 rfl (lv_at hl 0 rfl) ?_
          refine lv_iload_n hx hb dX6_piece_151 rfl (lv_at hl 1 rfl) ?_
          refine lv_bipush (v := 40) hx hb dX6_piece_152 (by decide) ?_
          obtain ⟨k20, ek20, h⟩ := jn_some h
          have hj21 : ∀ (y22 : Int32) (ls : Array Slot), lv_has ls 4 [(0, .ref (ρ 0)), (1, .int x2)] → k20 y22 = some ν → W p l e (rmL (g + 1)) s m args below meth c H locs 0 0 Q (F0 m 162 ls [.int y22, .ref (ρ 0)]) := by
            intro y22 ls hl h
            rw [ek20] at h
            try dsimp only at h
            refine lv_iload_n hx hb dX6_piece_162 rfl (lv_at hl 1 rfl) ?_
            refine lv_bipush (v := 40) hx hb dX6_piece_163 (by decide) ?_
            obtain ⟨k24, ek24, h⟩ := jn_some h
            have hj25 : ∀ (y26 : Int32) (ls : Array Slot), lv_has ls 4 [(0, .ref (ρ 0))] → k24 y26 = some ν → W p l e (rmL (g + 1)) s m args below meth c H locs 0 0 Q (F0 m 179 ls [.int y26, .int y22, .ref (ρ 0)]) := by
              intro y26 ls hl h
              rw [ek24] at h
              try dsimp only at h
              obtain ⟨x28, μ29, hc27, h⟩ := ca2_some h
              refine rc_vi (o := 0) (As := [.int y22, .int y26]) X hI (c_M_emit l D cI ρ g (by omega) hc27) rfl rfl gV_X6_158 hd_X6_emit (by decide) (Nat.le_refl _) hl.1 rfl (Nat.le_of_ble_eq_true rfl) dX6_piece_179 (fun H locs hI => ?_)
              refine lv_pop hx hb dX6_piece_182 rfl ?_
              refine lv_aload_n hx hb dX6_piece_183 rfl (lv_at hl 0 rfl) ?_
              refine lv_dup hx hb dX6_piece_184 rfl ?_
              refine rg_get X hI (o := 0) (j := 5) (k := 105) rfl rfl rfl inG6 (by decide) rfl wF_X6_104 dX6_piece_185 ?_
              refine lv_iconst (v := 1) hx hb dX6_piece_188 (by decide) ?_
              refine lv_iadd hx hb dX6_piece_189 ?_
              refine rg_put X hI (o := 0) (j := 5) (k := 105) rfl rfl rfl rfl inG6 tyX6 tyX6_ok nmX6 (by decide) rfl wF_X6_104 rfl rfl rfl rfl dX6_piece_190 (fun H locs hI => ?_)
              obtain ⟨μ30, eμ30, h⟩ := nm_some h
              rw [← eμ30] at hI
              refine lv_goto (tgt := 305) hx hb dX6_piece_193 (by decide) ?_
              cases h
              exact hend H locs _ _ hI dX6_piece_305
            refine lv_icmp_ge (tgt := 175) hx hb dX6_piece_165 (by decide) (fun c31 => ?_) (fun c31 => ?_)
            · have h := it_pos c31 h
              refine lv_iload_n hx hb dX6_piece_175 rfl (lv_at hl 1 rfl) ?_
              refine lv_bipush (v := 44) hx hb dX6_piece_176 (by decide) ?_
              refine lv_isub hx hb dX6_piece_178 ?_
              exact hj25 (x2 - (44 : Int32)) ls (lv_sub hl [0] rfl) h
            · have h := it_neg c31 h
              refine lv_iload_n hx hb dX6_piece_168 rfl (lv_at hl 1 rfl) ?_
              refine lv_bipush (v := 32) hx hb dX6_piece_169 (by decide) ?_
              refine lv_isub hx hb dX6_piece_171 ?_
              refine lv_goto (tgt := 179) hx hb dX6_piece_172 (by decide) ?_
              exact hj25 (x2 - (32 : Int32)) ls (lv_sub hl [0] rfl) h
          refine lv_icmp_ge (tgt := 161) hx hb dX6_piece_154 (by decide) (fun c32 => ?_) (fun c32 => ?_)
          · have h := it_pos c32 h
            refine lv_iconst (v := 3) hx hb dX6_piece_161 (by decide) ?_
            exact hj21 (3 : Int32) ls (lv_sub hl [0, 1] rfl) h
          · have h := it_neg c32 h
            refine lv_iconst (v := 2) hx hb dX6_piece_157 (by decide) ?_
            refine lv_goto (tgt := 162) hx hb dX6_piece_158 (by decide) ?_
            exact hj21 (2 : Int32) ls (lv_sub hl [0, 1] rfl) h
        refine lv_if_ne (tgt := 150) hx hb dX6_piece_136 (by decide) (fun c33 => ?_) (fun c33 => ?_)
        · have h := it_neg c33 h
          exact hj18 H locs ls (lv_sub hl [0, 1] rfl) hI h
        · have h := it_pos c33 h
          refine lv_iload_n hx hb dX6_piece_139 rfl (lv_at hl 1 rfl) ?_
          refine lv_bipush (v := 44) hx hb dX6_piece_140 (by decide) ?_
          refine lv_bipush (v := 51) hx hb dX6_piece_142 (by decide) ?_
          obtain ⟨x35, hc34, h⟩ := ca_some h
          refine rc_si (As := [.int x2, .int (44 : Int32), .int (51 : Int32)]) X hI (c_M_in l D cI ρ g (by omega) hc34) gV_X6_132 hd_X6_in (by decide) (Nat.le_refl _) hl.1 rfl (Nat.le_of_ble_eq_true rfl) dX6_piece_144 (fun H locs hI => ?_)
          refine lv_if_eq (tgt := 196) hx hb dX6_piece_147 (by decide) (fun c36 => ?_) (fun c36 => ?_)
          · have h := it_pos c36 h
            refine lv_iload_n hx hb dX6_piece_196 rfl (lv_at hl 1 rfl) ?_
            refine lv_bipush (v := 40) hx hb dX6_piece_197 (by decide) ?_
            refine lv_bipush (v := 43) hx hb dX6_piece_199 (by decide) ?_
            obtain ⟨x38, hc37, h⟩ := ca_some h
            refine rc_si (As := [.int x2, .int (40 : Int32), .int (43 : Int32)]) X hI (c_M_in l D cI ρ g (by omega) hc37) gV_X6_132 hd_X6_in (by decide) (Nat.le_refl _) hl.1 rfl (Nat.le_of_ble_eq_true rfl) dX6_piece_201 (fun H locs hI => ?_)
            refine lv_if_eq (tgt := 238) hx hb dX6_piece_204 (by decide) (fun c39 => ?_) (fun c39 => ?_)
            · have h := it_pos c39 h
              refine lv_iload_n hx hb dX6_piece_238 rfl (lv_at hl 1 rfl) ?_
              refine lv_bipush (v := 52) hx hb dX6_piece_239 (by decide) ?_
              refine lv_bipush (v := 57) hx hb dX6_piece_241 (by decide) ?_
              obtain ⟨x41, hc40, h⟩ := ca_some h
              refine rc_si (As := [.int x2, .int (52 : Int32), .int (57 : Int32)]) X hI (c_M_in l D cI ρ g (by omega) hc40) gV_X6_132 hd_X6_in (by decide) (Nat.le_refl _) hl.1 rfl (Nat.le_of_ble_eq_true rfl) dX6_piece_243 (fun H locs hI => ?_)
              refine lv_if_eq (tgt := 271) hx hb dX6_piece_246 (by decide) (fun c42 => ?_) (fun c42 => ?_)
              · have h := it_pos c42 h
                refine lv_iload_n hx hb dX6_piece_271 rfl (lv_at hl 1 rfl) ?_
                refine lv_bipush (v := 6) hx hb dX6_piece_272 (by decide) ?_
                refine lv_icmp_ne (tgt := 296) hx hb dX6_piece_274 (by decide) (fun c43 => ?_) (fun c43 => ?_)
                · have h := it_neg c43 h
                  refine lv_aload_n hx hb dX6_piece_296 rfl (lv_at hl 0 rfl) ?_
                  refine lv_iconst (v := 1) hx hb dX6_piece_297 (by decide) ?_
                  refine lv_aload_n hx hb dX6_piece_298 rfl (lv_at hl 0 rfl) ?_
                  refine rg_get X hI (o := 0) (j := 5) (k := 105) rfl rfl rfl inG6 (by decide) rfl wF_X6_104 dX6_piece_299 ?_
                  obtain ⟨μ45, hc44, h⟩ := ca_some h
                  refine rc_vv (o := 0) (As := [.int (1 : Int32), .int (μ9 105 0)]) X hI (c_M_wrong l D cI ρ g (by omega) hc44) rfl rfl gV_X6_117 hd_X6_wrong (by decide) (Nat.le_refl _) hl.1 rfl (Nat.le_of_ble_eq_true rfl) dX6_piece_302 (fun H locs hI => ?_)
                  cases h
                  exact hend H locs _ _ hI dX6_piece_305
                · have h := it_pos c43 h
                  refine lv_aload_n hx hb dX6_piece_277 rfl (lv_at hl 0 rfl) ?_
                  refine lv_dup hx hb dX6_piece_278 rfl ?_
                  refine rg_get X hI (o := 0) (j := 5) (k := 105) rfl rfl rfl inG6 (by decide) rfl wF_X6_104 dX6_piece_279 ?_
                  refine lv_iconst (v := 1) hx hb dX6_piece_282 (by decide) ?_
                  refine lv_iadd hx hb dX6_piece_283 ?_
                  refine rg_put X hI (o := 0) (j := 5) (k := 105) rfl rfl rfl rfl inG6 tyX6 tyX6_ok nmX6 (by decide) rfl wF_X6_104 rfl rfl rfl rfl dX6_piece_284 (fun H locs hI => ?_)
                  obtain ⟨μ46, eμ46, h⟩ := nm_some h
                  rw [← eμ46] at hI
                  refine lv_aload_n hx hb dX6_piece_287 rfl (lv_at hl 0 rfl) ?_
                  refine lv_iconst (v := 0) hx hb dX6_piece_288 (by decide) ?_
                  refine lv_iconst (v := 0) hx hb dX6_piece_289 (by decide) ?_
                  obtain ⟨μ48, hc47, h⟩ := ca_some h
                  refine rc_vv (o := 0) (As := [.int (0 : Int32), .int (0 : Int32)]) X hI (c_M_enters l D cI ρ g (by omega) hc47) rfl rfl gV_X6_152 hd_X6_enters (by decide) (Nat.le_refl _) hl.1 rfl (Nat.le_of_ble_eq_true rfl) dX6_piece_290 (fun H locs hI => ?_)
                  refine lv_goto (tgt := 305) hx hb dX6_piece_293 (by decide) ?_
                  cases h
                  exact hend H locs _ _ hI dX6_piece_305
              · have h := it_neg c42 h
                refine lv_aload_n hx hb dX6_piece_249 rfl (lv_at hl 0 rfl) ?_
                obtain ⟨x50, μ51, hc49, h⟩ := ca2_some h
                refine rc_vi (o := 0) (As := []) X hI (c_M_call l D cI ρ g (by omega) hc49) rfl rfl gV_X6_181 hd_X6_call (by decide) (Nat.le_refl _) hl.1 rfl (Nat.le_of_ble_eq_true rfl) dX6_piece_250 (fun H locs hI => ?_)
                refine lv_istore_n (lv' := [(3, .int x50), (0, .ref (ρ 0)), (1, .int x2)]) hx hb dX6_piece_253 rfl hl (by decide) rfl (fun ls hl => ?_)
                refine lv_aload_n hx hb dX6_piece_254 rfl (lv_at hl 1 rfl) ?_
                refine lv_bipush (v := 6) hx hb dX6_piece_255 (by decide) ?_
                obtain ⟨x53, μ54, hc52, h⟩ := ca2_some h
                refine rc_vi (o := 0) (As := [.int (6 : Int32)]) X hI (c_M_must l D cI ρ g (by omega) hc52) rfl rfl gV_X6_128 hd_X6_must (by decide) (Nat.le_refl _) hl.1 rfl (Nat.le_of_ble_eq_true rfl) dX6_piece_257 (fun H locs hI => ?_)
                obtain ⟨k56, ek56, h⟩ := jn_some h
                have hj57 : ∀ (μ55 : St) (H : Heap) (locs : List Loc) (ls : Array Slot), lv_has ls 4 [] → RI TM cI D A s.heap ρ μ55 H locs → k56 μ55 = some ν → W p l e (rmL (g + 1)) s m args below meth c H locs 0 0 Q (F0 m 268 ls []) := by
                  intro μ55 H locs ls hl hI h
                  rw [ek56] at h
                  try dsimp only at h
                  refine lv_goto (tgt := 305) hx hb dX6_piece_268 (by decide) ?_
                  cases h
                  exact hend H locs _ _ hI dX6_piece_305
                refine lv_if_eq (tgt := 268) hx hb dX6_piece_260 (by decide) (fun c58 => ?_) (fun c58 => ?_)
                · have h := it_pos c58 h
                  exact hj57 μ54 H locs ls (lv_sub hl [] rfl) hI h
                · have h := it_neg c58 h
                  refine lv_aload_n hx hb dX6_piece_263 rfl (lv_at hl 1 rfl) ?_
                  refine lv_iload_n hx hb dX6_piece_264 rfl (lv_at hl 0 rfl) ?_
                  obtain ⟨μ60, hc59, h⟩ := ca_some h
                  refine rc_vv (o := 0) (As := [.int x50]) X hI (c_M_arguments l D cI ρ g (by omega) hc59) rfl rfl gV_X6_187 hd_X6_arguments (by decide) (Nat.le_refl _) hl.1 rfl (Nat.le_of_ble_eq_true rfl) dX6_piece_265 (fun H locs hI => ?_)
                  exact hj57 μ60 H locs ls (lv_sub hl [] rfl) hI h
            · have h := it_neg c39 h
              refine lv_aload_n hx hb dX6_piece_207 rfl (lv_at hl 0 rfl) ?_
              refine lv_dup hx hb dX6_piece_208 rfl ?_
              refine rg_get X hI (o := 0) (j := 5) (k := 105) rfl rfl rfl inG6 (by decide) rfl wF_X6_104 dX6_piece_209 ?_
              refine lv_iconst (v := 1) hx hb dX6_piece_212 (by decide) ?_
              refine lv_iadd hx hb dX6_piece_213 ?_
              refine rg_put X hI (o := 0) (j := 5) (k := 105) rfl rfl rfl rfl inG6 tyX6 tyX6_ok nmX6 (by decide) rfl wF_X6_104 rfl rfl rfl rfl dX6_piece_214 (fun H locs hI => ?_)
              obtain ⟨μ61, eμ61, h⟩ := nm_some h
              rw [← eμ61] at hI
              refine lv_aload_n hx hb dX6_piece_217 rfl (lv_at hl 0 rfl) ?_
              refine lv_bipush (v := 21) hx hb dX6_piece_218 (by decide) ?_
              obtain ⟨x63, μ64, hc62, h⟩ := ca2_some h
              refine rc_vi (o := 0) (As := [.int (21 : Int32)]) X hI (c_M_must l D cI ρ g (by omega) hc62) rfl rfl gV_X6_128 hd_X6_must (by decide) (Nat.le_refl _) hl.1 rfl (Nat.le_of_ble_eq_true rfl) dX6_piece_220 (fun H locs hI => ?_)
              refine lv_if_eq (tgt := 305) hx hb dX6_piece_223 (by decide) (fun c65 => ?_) (fun c65 => ?_)
              · have h := it_pos c65 h
                cases h
                exact hend H locs _ _ hI dX6_piece_305
              · have h := it_neg c65 h
                refine lv_aload_n hx hb dX6_piece_226 rfl (lv_at hl 0 rfl) ?_
                refine lv_iconst (v := 1) hx hb dX6_piece_227 (by decide) ?_
                refine lv_iload_n hx hb dX6_piece_228 rfl (lv_at hl 1 rfl) ?_
                refine lv_bipush (v := 40) hx hb dX6_piece_229 (by decide) ?_
                refine lv_isub hx hb dX6_piece_231 ?_
                obtain ⟨μ67, hc66, h⟩ := ca_some h
                refine rc_vv (o := 0) (As := [.int (1 : Int32), .int (x2 - (40 : Int32))]) X hI (c_M_enters l D cI ρ g (by omega) hc66) rfl rfl gV_X6_152 hd_X6_enters (by decide) (Nat.le_refl _) hl.1 rfl (Nat.le_of_ble_eq_true rfl) dX6_piece_232 (fun H locs hI => ?_)
                refine lv_goto (tgt := 305) hx hb dX6_piece_235 (by decide) ?_
                cases h
                exact hend H locs _ _ hI dX6_piece_305
          · have h := it_neg c36 h
            exact hj18 H locs ls (lv_sub hl [0, 1] rfl) hI h
      · have h := it_pos c13 h
        refine lv_aload_n hx hb dX6_piece_108 rfl (lv_at hl 0 rfl) ?_
        refine lv_iconst (v := 1) hx hb dX6_piece_109 (by decide) ?_
        refine lv_iconst (v := 0) hx hb dX6_piece_110 (by decide) ?_
        obtain ⟨x69, μ70, hc68, h⟩ := ca2_some h
        refine rc_vi (o := 0) (As := [.int (1 : Int32), .int (0 : Int32)]) X hI (c_M_emit l D cI ρ g (by omega) hc68) rfl rfl gV_X6_158 hd_X6_emit (by decide) (Nat.le_refl _) hl.1 rfl (Nat.le_of_ble_eq_true rfl) dX6_piece_111 (fun H locs hI => ?_)
        refine lv_pop hx hb dX6_piece_114 rfl ?_
        refine lv_aload_n hx hb dX6_piece_115 rfl (lv_at hl 0 rfl) ?_
        refine lv_dup hx hb dX6_piece_116 rfl ?_
        refine rg_get X hI (o := 0) (j := 5) (k := 105) rfl rfl rfl inG6 (by decide) rfl wF_X6_104 dX6_piece_117 ?_
        refine lv_iconst (v := 1) hx hb dX6_piece_120 (by decide) ?_
        refine lv_iadd hx hb dX6_piece_121 ?_
        refine rg_put X hI (o := 0) (j := 5) (k := 105) rfl rfl rfl rfl inG6 tyX6 tyX6_ok nmX6 (by decide) rfl wF_X6_104 rfl rfl rfl rfl dX6_piece_122 (fun H locs hI => ?_)
        obtain ⟨μ71, eμ71, h⟩ := nm_some h
        rw [← eμ71] at hI
        refine lv_goto (tgt := 305) hx hb dX6_piece_125 (by decide) ?_
        cases h
        exact hend H locs _ _ hI dX6_piece_305
    · have h := it_neg c12 h
      refine lv_aload_n hx hb dX6_piece_80 rfl (lv_at hl 0 rfl) ?_
      refine lv_iconst (v := 0) hx hb dX6_piece_81 (by decide) ?_
      refine lv_iload_n hx hb dX6_piece_82 rfl (lv_at hl 1 rfl) ?_
      refine lv_bipush (v := 64) hx hb dX6_piece_83 (by decide) ?_
      refine lv_isub hx hb dX6_piece_85 ?_
      obtain ⟨x73, μ74, hc72, h⟩ := ca2_some h
      refine rc_vi (o := 0) (As := [.int (0 : Int32), .int (x2 - (64 : Int32))]) X hI (c_M_emit l D cI ρ g (by omega) hc72) rfl rfl gV_X6_158 hd_X6_emit (by decide) (Nat.le_refl _) hl.1 rfl (Nat.le_of_ble_eq_true rfl) dX6_piece_86 (fun H locs hI => ?_)
      refine lv_pop hx hb dX6_piece_89 rfl ?_
      refine lv_aload_n hx hb dX6_piece_90 rfl (lv_at hl 0 rfl) ?_
      refine lv_dup hx hb dX6_piece_91 rfl ?_
      refine rg_get X hI (o := 0) (j := 5) (k := 105) rfl rfl rfl inG6 (by decide) rfl wF_X6_104 dX6_piece_92 ?_
      refine lv_iconst (v := 1) hx hb dX6_piece_95 (by decide) ?_
      refine lv_iadd hx hb dX6_piece_96 ?_
      refine rg_put X hI (o := 0) (j := 5) (k := 105) rfl rfl rfl rfl inG6 tyX6 tyX6_ok nmX6 (by decide) rfl wF_X6_104 rfl rfl rfl rfl dX6_piece_97 (fun H locs hI => ?_)
      obtain ⟨μ75, eμ75, h⟩ := nm_some h
      rw [← eμ75] at hI
      refine lv_goto (tgt := 305) hx hb dX6_piece_100 (by decide) ?_
      cases h
      exact hend H locs _ _ hI dX6_piece_305
  refine lv_icmp_ne (tgt := 63) hx hb dX6_piece_19 (by decide) (fun c76 => ?_) (fun c76 => ?_)
  · have h := it_neg c76 h
    exact hj8 ls (lv_sub hl [2, 1] rfl) h
  · have h := it_pos c76 h
    refine lv_iload_n hx hb dX6_piece_22 rfl (lv_at hl 1 rfl) ?_
    refine lv_bipush (v := 14) hx hb dX6_piece_23 (by decide) ?_
    obtain ⟨k78, ek78, h⟩ := jn_some h
    have hj79 : ∀ (ls : Array Slot), lv_has ls 4 [(0, .ref (ρ 0)), (1, .int x2), (2, .int x3)] → k78 = some ν → W p l e (rmL (g + 1)) s m args below meth c H locs 0 0 Q (F0 m 34 ls []) := by
      intro ls hl h
      rw [ek78] at h
      refine lv_aload_n hx hb dX6_piece_34 rfl (lv_at hl 0 rfl) ?_
      refine rg_getR X hI (o := 0) (j := 28) (k := 17) rfl rfl rfl inG6 (by decide) rfl wF_X6_58 dX6_piece_35 ?_
      refine lv_iload_n hx hb dX6_piece_38 rfl (lv_at hl 2 rfl) ?_
      refine lv_iload_n hx hb dX6_piece_39 rfl (lv_at hl 1 rfl) ?_
      refine lv_bipush (v := 14) hx hb dX6_piece_40 (by decide) ?_
      obtain ⟨k81, ek81, h⟩ := jn_some h
      have hj82 : ∀ (y83 : Int32) (ls : Array Slot), lv_has ls 4 [(0, .ref (ρ 0))] → k81 y83 = some ν → W p l e (rmL (g + 1)) s m args below meth c H locs 0 0 Q (F0 m 51 ls [.int y83, .int x3, .ref (ρ 17)]) := by
        intro y83 ls hl h
        rw [ek81] at h
        try dsimp only at h
        obtain ⟨hn84, h⟩ := gd_some h
        refine rg_ast X hI (o := 17) rfl rfl hn84 dX6_piece_51 (fun H locs hI => ?_)
        obtain ⟨μ85, eμ85, h⟩ := nm_some h
        rw [← eμ85] at hI
        refine lv_aload_n hx hb dX6_piece_52 rfl (lv_at hl 0 rfl) ?_
        refine lv_dup hx hb dX6_piece_53 rfl ?_
        refine rg_get X hI (o := 0) (j := 5) (k := 105) rfl rfl rfl inG6 (by decide) rfl wF_X6_104 dX6_piece_54 ?_
        refine lv_iconst (v := 1) hx hb dX6_piece_57 (by decide) ?_
        refine lv_iadd hx hb dX6_piece_58 ?_
        refine rg_put X hI (o := 0) (j := 5) (k := 105) rfl rfl rfl rfl inG6 tyX6 tyX6_ok nmX6 (by decide) rfl wF_X6_104 rfl rfl rfl rfl dX6_piece_59 (fun H locs hI => ?_)
        obtain ⟨μ86, eμ86, h⟩ := nm_some h
        rw [← eμ86] at hI
        cases h
        exact hend H locs _ _ hI dX6_piece_62
      refine lv_icmp_ne (tgt := 49) hx hb dX6_piece_42 (by decide) (fun c87 => ?_) (fun c87 => ?_)
      · have h := it_neg c87 h
        refine lv_bipush (v := 6) hx hb dX6_piece_49 (by decide) ?_
        exact hj82 (6 : Int32) ls (lv_sub hl [0] rfl) h
      · have h := it_pos c87 h
        refine lv_iconst (v := 5) hx hb dX6_piece_45 (by decide) ?_
        refine lv_goto (tgt := 51) hx hb dX6_piece_46 (by decide) ?_
        exact hj82 (5 : Int32) ls (lv_sub hl [0] rfl) h
    refine lv_icmp_eq (tgt := 34) hx hb dX6_piece_25 (by decide) (fun c88 => ?_) (fun c88 => ?_)
    · have h := it_pos c88 h
      exact hj79 ls (lv_sub hl [2, 1, 0] rfl) h
    · have h := it_neg c88 h
      refine lv_iload_n hx hb dX6_piece_28 rfl (lv_at hl 1 rfl) ?_
      refine lv_bipush (v := 20) hx hb dX6_piece_29 (by decide) ?_
      refine lv_icmp_ne (tgt := 63) hx hb dX6_piece_31 (by decide) (fun c89 => ?_) (fun c89 => ?_)
      · have h := it_neg c89 h
        exact hj8 ls (lv_sub hl [2, 1] rfl) h
      · have h := it_pos c89 h
        exact hj79 ls (lv_sub hl [2, 1, 0] rfl) h
