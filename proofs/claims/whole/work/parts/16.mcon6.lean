/-! the reference: contracts -/
set_option maxHeartbeats 4000000 in
set_option maxRecDepth 100000 in
theorem c_M_run (l : Launch) (D : va_G) (cI : ClassId) (ρ : Nat → Nat) {N : Nat} (hgt : Nat) (hh : 5 ≤ hgt) {a1 : Int32} {μ ν : St} {r : Int32} (h : f_M_run N a1 μ = some (r, ν)) : CI l yX6_run cX6_run 4 (some .int) hgt TM cI D ρ [.ref (ρ 0), .int a1] μ r ν := by
  obtain ⟨g, rfl⟩ : ∃ g, hgt = g + 1 := ⟨hgt - 1, by omega⟩
  unfold f_M_run at h
  refine CI_of (own := RX6) (by decide) rfl (Nat.le_of_ble_eq_true rfl) rfl ?_
  intro p e s m args below meth c Q A H locs X hI hend ls hl
  have hx := X.1.1
  have hb := X.1.2.1
  have hl : lv_has ls 4 [(0, .ref (ρ 0)), (1, .int a1)] := hl
  refine lv_aload_n hx hb dX6_run_0 rfl (lv_at hl 0 rfl) ?_
  refine lv_iload_n hx hb dX6_run_1 rfl (lv_at hl 1 rfl) ?_
  refine lv_iconst (v := 1) hx hb dX6_run_2 (by decide) ?_
  obtain ⟨k2, ek2, h⟩ := jn_some h
  have hj3 : ∀ (y4 : Int32) (ls : Array Slot), lv_has ls 4 [(0, .ref (ρ 0)), (1, .int a1)] → k2 y4 = some (r, ν) → W p l e (rmL (g + 1)) s m args below meth c H locs 0 0 Q (F0 m 29 ls [.int y4, .ref (ρ 0)]) := by
    intro y4 ls hl h
    rw [ek2] at h
    try dsimp only at h
    refine rg_put X hI (o := 0) (j := 0) (k := 100) rfl rfl rfl rfl inG6 tyX6 tyX6_ok nmX6 (by decide) rfl wF_X6_97 rfl rfl rfl rfl dX6_run_29 (fun H locs hI => ?_)
    obtain ⟨μ5, eμ5, h⟩ := nm_some h
    rw [← eμ5] at hI
    refine lv_aload_n hx hb dX6_run_32 rfl (lv_at hl 0 rfl) ?_
    refine rg_get X hI (o := 0) (j := 0) (k := 100) rfl rfl rfl inG6 (by decide) rfl wF_X6_97 dX6_run_33 ?_
    refine lv_if_le (tgt := 41) hx hb dX6_run_36 (by decide) (fun c6 => ?_) (fun c6 => ?_)
    · have h := it_pos c6 h
      refine lv_aload_n hx hb dX6_run_41 rfl (lv_at hl 0 rfl) ?_
      refine lv_aload_n hx hb dX6_run_42 rfl (lv_at hl 0 rfl) ?_
      refine rg_get X hI (o := 0) (j := 37) (k := 137) rfl rfl rfl inG6 (by decide) rfl wF_X6_233 dX6_run_43 ?_
      refine lv_iconst (v := 2) hx hb dX6_run_46 (by decide) ?_
      obtain ⟨k8, ek8, h⟩ := jn_some h
      have hj9 : ∀ (y10 : Int32) (ls : Array Slot), lv_has ls 4 [(0, .ref (ρ 0)), (1, .int a1)] → k8 y10 = some (r, ν) → W p l e (rmL (g + 1)) s m args below meth c H locs 0 0 Q (F0 m 65 ls [.int y10, .ref (ρ 0)]) := by
        intro y10 ls hl h
        rw [ek8] at h
        try dsimp only at h
        refine rg_put X hI (o := 0) (j := 37) (k := 137) rfl rfl rfl rfl inG6 tyX6 tyX6_ok nmX6 (by decide) rfl wF_X6_233 rfl rfl rfl rfl dX6_run_65 (fun H locs hI => ?_)
        obtain ⟨μ11, eμ11, h⟩ := nm_some h
        rw [← eμ11] at hI
        refine lv_iconst (v := 0) hx hb dX6_run_68 (by decide) ?_
        refine lv_istore_n (lv' := [(2, .int (0 : Int32)), (0, .ref (ρ 0)), (1, .int a1)]) hx hb dX6_run_69 rfl hl (by decide) rfl (fun ls hl => ?_)
        refine lv_iconst (v := 1) hx hb dX6_run_70 (by decide) ?_
        refine lv_istore_n (lv' := [(3, .int (1 : Int32)), (2, .int (0 : Int32)), (0, .ref (ρ 0)), (1, .int a1)]) hx hb dX6_run_71 rfl hl (by decide) rfl (fun ls hl => ?_)
        refine lp_elim (fun (k15 : Int32 → Int32 → St → Option (Int32 × St)) => ∀ (x12 : Int32) (x13 : Int32) (μ14 : St) (H : Heap) (locs : List Loc) (ls : Array Slot), lv_has ls 4 [(0, .ref (ρ 0)), (1, .int a1), (2, .int x12), (3, .int x13)] → RI TM cI D A s.heap ρ μ14 H locs → k15 x12 x13 μ14 = some (r, ν) → W p l e (rmL (g + 1)) s m args below meth c H locs 0 0 Q (F0 m 72 ls [])) ?_ ?_ N (0 : Int32) (1 : Int32) μ11 H locs ls (lv_sub hl [2, 3, 1, 0] rfl) hI h
        · intro x12 x13 μ14 H locs ls hl hI h
          cases h
        · intro k15 ih16 x12 x13 μ14 H locs ls hl hI h
          try dsimp only at h
          refine lv_aload_n hx hb dX6_run_72 rfl (lv_at hl 0 rfl) ?_
          refine rg_get X hI (o := 0) (j := 37) (k := 137) rfl rfl rfl inG6 (by decide) rfl wF_X6_233 dX6_run_73 ?_
          refine lv_iconst (v := 1) hx hb dX6_run_76 (by decide) ?_
          refine lv_icmp_ne (tgt := 190) hx hb dX6_run_77 (by decide) (fun c17 => ?_) (fun c17 => ?_)
          · have h := it_neg c17 h
            refine lv_aload_n hx hb dX6_run_190 rfl (lv_at hl 0 rfl) ?_
            refine rg_get X hI (o := 0) (j := 37) (k := 137) rfl rfl rfl inG6 (by decide) rfl wF_X6_233 dX6_run_191 ?_
            cases h
            exact hend H locs _ _ hI dX6_run_194
          · have h := it_pos c17 h
            refine lv_iload_n hx hb dX6_run_80 rfl (lv_at hl 3 rfl) ?_
            refine lv_if_eq (tgt := 190) hx hb dX6_run_81 (by decide) (fun c18 => ?_) (fun c18 => ?_)
            · have h := it_pos c18 h
              refine lv_aload_n hx hb dX6_run_190 rfl (lv_at hl 0 rfl) ?_
              refine rg_get X hI (o := 0) (j := 37) (k := 137) rfl rfl rfl inG6 (by decide) rfl wF_X6_233 dX6_run_191 ?_
              cases h
              exact hend H locs _ _ hI dX6_run_194
            · have h := it_neg c18 h
              refine lv_aload_n hx hb dX6_run_84 rfl (lv_at hl 0 rfl) ?_
              refine rg_getR X hI (o := 0) (j := 11) (k := 4) rfl rfl rfl inG6 (by decide) rfl wF_X6_19 dX6_run_85 ?_
              refine lv_aload_n hx hb dX6_run_88 rfl (lv_at hl 0 rfl) ?_
              refine rg_get X hI (o := 0) (j := 38) (k := 138) rfl rfl rfl inG6 (by decide) rfl wF_X6_239 dX6_run_89 ?_
              obtain ⟨hn19, h⟩ := gd_some h
              refine rg_ald X hI (o := 4) rfl hn19 dX6_run_92 ?_
              obtain ⟨x20, ex20, h⟩ := nm_some h
              refine rg_top ex20 ?_
              refine lv_bipush (v := 8) hx hb dX6_run_93 (by decide) ?_
              refine lv_icmp_ne (tgt := 151) hx hb dX6_run_95 (by decide) (fun c21 => ?_) (fun c21 => ?_)
              · have h := it_neg c21 h
                refine lv_aload_n hx hb dX6_run_151 rfl (lv_at hl 0 rfl) ?_
                refine lv_dup hx hb dX6_run_152 rfl ?_
                refine rg_get X hI (o := 0) (j := 38) (k := 138) rfl rfl rfl inG6 (by decide) rfl wF_X6_239 dX6_run_153 ?_
                refine lv_iconst (v := 1) hx hb dX6_run_156 (by decide) ?_
                refine lv_iadd hx hb dX6_run_157 ?_
                refine rg_put X hI (o := 0) (j := 38) (k := 138) rfl rfl rfl rfl inG6 tyX6 tyX6_ok nmX6 (by decide) rfl wF_X6_239 rfl rfl rfl rfl dX6_run_158 (fun H locs hI => ?_)
                obtain ⟨μ22, eμ22, h⟩ := nm_some h
                rw [← eμ22] at hI
                refine lv_aload_n hx hb dX6_run_161 rfl (lv_at hl 0 rfl) ?_
                refine lv_aload_n hx hb dX6_run_162 rfl (lv_at hl 0 rfl) ?_
                refine rg_getR X hI (o := 0) (j := 11) (k := 4) rfl rfl rfl inG6 (by decide) rfl wF_X6_19 dX6_run_163 ?_
                refine lv_aload_n hx hb dX6_run_166 rfl (lv_at hl 0 rfl) ?_
                refine rg_get X hI (o := 0) (j := 38) (k := 138) rfl rfl rfl inG6 (by decide) rfl wF_X6_239 dX6_run_167 ?_
                refine lv_iconst (v := 1) hx hb dX6_run_170 (by decide) ?_
                refine lv_isub hx hb dX6_run_171 ?_
                obtain ⟨hn23, h⟩ := gd_some h
                refine rg_ald X hI (o := 4) rfl hn23 dX6_run_172 ?_
                obtain ⟨x24, ex24, h⟩ := nm_some h
                refine rg_top ex24 ?_
                refine lv_aload_n hx hb dX6_run_173 rfl (lv_at hl 0 rfl) ?_
                refine rg_getR X hI (o := 0) (j := 12) (k := 5) rfl rfl rfl inG6 (by decide) rfl wF_X6_22 dX6_run_174 ?_
                refine lv_aload_n hx hb dX6_run_177 rfl (lv_at hl 0 rfl) ?_
                refine rg_get X hI (o := 0) (j := 38) (k := 138) rfl rfl rfl inG6 (by decide) rfl wF_X6_239 dX6_run_178 ?_
                refine lv_iconst (v := 1) hx hb dX6_run_181 (by decide) ?_
                refine lv_isub hx hb dX6_run_182 ?_
                obtain ⟨hn25, h⟩ := gd_some h
                refine rg_ald X hI (o := 5) rfl hn25 dX6_run_183 ?_
                obtain ⟨x26, ex26, h⟩ := nm_some h
                refine rg_top ex26 ?_
                obtain ⟨μ28, hc27, h⟩ := ca_some h
                refine rc_vv (o := 0) (As := [.int x24, .int x26]) X hI (c_M_does l D cI ρ g (by omega) hc27) rfl rfl gV_X6_275 hd_X6_does (by decide) (Nat.le_refl _) hl.1 rfl (Nat.le_of_ble_eq_true rfl) dX6_run_184 (fun H locs hI => ?_)
                refine lv_goto (tgt := 72) hx hb dX6_run_187 (by decide) ?_
                exact ih16 x12 x13 μ28 H locs ls (lv_sub hl [0, 1, 2, 3] rfl) hI h
              · have h := it_pos c21 h
                refine lv_iload_n hx hb dX6_run_98 rfl (lv_at hl 2 rfl) ?_
                refine lv_iload_n hx hb dX6_run_99 rfl (lv_at hl 1 rfl) ?_
                obtain ⟨k30, ek30, h⟩ := jn_some h
                have hj31 : ∀ (y32 : Int32) (ls : Array Slot), lv_has ls 4 [(0, .ref (ρ 0)), (1, .int a1), (2, .int x12)] → k30 y32 = some (r, ν) → W p l e (rmL (g + 1)) s m args below meth c H locs 0 0 Q (F0 m 108 ls [.int y32]) := by
                  intro y32 ls hl h
                  rw [ek30] at h
                  try dsimp only at h
                  refine lv_istore_n (lv' := [(3, .int y32), (0, .ref (ρ 0)), (1, .int a1), (2, .int x12)]) hx hb dX6_run_108 rfl hl (by decide) rfl (fun ls hl => ?_)
                  obtain ⟨x33, ex33, h⟩ := nm_some h
                  refine lv_iinc (v := x33) (lv' := [(2, .int x33), (3, .int y32), (0, .ref (ρ 0)), (1, .int a1)]) hx hb dX6_run_109 hl (k := 3) rfl (by rw [ex33]; rfl) (by decide) rfl (fun ls hl => ?_)
                  refine lv_aload_n hx hb dX6_run_112 rfl (lv_at hl 2 rfl) ?_
                  refine lv_dup hx hb dX6_run_113 rfl ?_
                  refine rg_get X hI (o := 0) (j := 41) (k := 141) rfl rfl rfl inG6 (by decide) rfl wF_X6_218 dX6_run_114 ?_
                  refine lv_iload_n hx hb dX6_run_117 rfl (lv_at hl 1 rfl) ?_
                  obtain ⟨k35, ek35, h⟩ := jn_some h
                  have hj36 : ∀ (y37 : Int32) (ls : Array Slot), lv_has ls 4 [(0, .ref (ρ 0)), (1, .int a1), (2, .int x33), (3, .int y32)] → k35 y37 = some (r, ν) → W p l e (rmL (g + 1)) s m args below meth c H locs 0 0 Q (F0 m 126 ls [.int y37, .int (μ14 141 0), .ref (ρ 0)]) := by
                    intro y37 ls hl h
                    rw [ek35] at h
                    try dsimp only at h
                    refine lv_iadd hx hb dX6_run_126 ?_
                    refine rg_put X hI (o := 0) (j := 41) (k := 141) rfl rfl rfl rfl inG6 tyX6 tyX6_ok nmX6 (by decide) rfl wF_X6_218 rfl rfl rfl rfl dX6_run_127 (fun H locs hI => ?_)
                    obtain ⟨μ38, eμ38, h⟩ := nm_some h
                    rw [← eμ38] at hI
                    refine lv_aload_n hx hb dX6_run_130 rfl (lv_at hl 0 rfl) ?_
                    refine lv_dup hx hb dX6_run_131 rfl ?_
                    refine rg_get X hI (o := 0) (j := 38) (k := 138) rfl rfl rfl inG6 (by decide) rfl wF_X6_239 dX6_run_132 ?_
                    refine lv_iload_n hx hb dX6_run_135 rfl (lv_at hl 3 rfl) ?_
                    obtain ⟨k40, ek40, h⟩ := jn_some h
                    have hj41 : ∀ (y42 : Int32) (ls : Array Slot), lv_has ls 4 [(0, .ref (ρ 0)), (1, .int a1), (2, .int x33), (3, .int y32)] → k40 y42 = some (r, ν) → W p l e (rmL (g + 1)) s m args below meth c H locs 0 0 Q (F0 m 144 ls [.int y42, .int (μ38 138 0), .ref (ρ 0)]) := by
                      intro y42 ls hl h
                      rw [ek40] at h
                      try dsimp only at h
                      refine lv_iadd hx hb dX6_run_144 ?_
                      refine rg_put X hI (o := 0) (j := 38) (k := 138) rfl rfl rfl rfl inG6 tyX6 tyX6_ok nmX6 (by decide) rfl wF_X6_239 rfl rfl rfl rfl dX6_run_145 (fun H locs hI => ?_)
                      obtain ⟨μ43, eμ43, h⟩ := nm_some h
                      rw [← eμ43] at hI
                      refine lv_goto (tgt := 72) hx hb dX6_run_148 (by decide) ?_
                      exact ih16 x33 y32 μ43 H locs ls (lv_sub hl [0, 1, 2, 3] rfl) hI h
                    refine lv_if_eq (tgt := 143) hx hb dX6_run_136 (by decide) (fun c44 => ?_) (fun c44 => ?_)
                    · have h := it_pos c44 h
                      refine lv_iconst (v := 0) hx hb dX6_run_143 (by decide) ?_
                      exact hj41 (0 : Int32) ls (lv_sub hl [0, 1, 2, 3] rfl) h
                    · have h := it_neg c44 h
                      refine lv_iconst (v := 1) hx hb dX6_run_139 (by decide) ?_
                      refine lv_goto (tgt := 144) hx hb dX6_run_140 (by decide) ?_
                      exact hj41 (1 : Int32) ls (lv_sub hl [0, 1, 2, 3] rfl) h
                  refine lv_if_eq (tgt := 125) hx hb dX6_run_118 (by decide) (fun c45 => ?_) (fun c45 => ?_)
                  · have h := it_pos c45 h
                    refine lv_iconst (v := 0) hx hb dX6_run_125 (by decide) ?_
                    exact hj36 (0 : Int32) ls (lv_sub hl [2, 3, 0, 1] rfl) h
                  · have h := it_neg c45 h
                    refine lv_iconst (v := 1) hx hb dX6_run_121 (by decide) ?_
                    refine lv_goto (tgt := 126) hx hb dX6_run_122 (by decide) ?_
                    exact hj36 (1 : Int32) ls (lv_sub hl [2, 3, 0, 1] rfl) h
                refine lv_icmp_ge (tgt := 107) hx hb dX6_run_100 (by decide) (fun c46 => ?_) (fun c46 => ?_)
                · have h := it_pos c46 h
                  refine lv_iconst (v := 0) hx hb dX6_run_107 (by decide) ?_
                  exact hj31 (0 : Int32) ls (lv_sub hl [0, 1, 2] rfl) h
                · have h := it_neg c46 h
                  refine lv_iconst (v := 1) hx hb dX6_run_103 (by decide) ?_
                  refine lv_goto (tgt := 108) hx hb dX6_run_104 (by decide) ?_
                  exact hj31 (1 : Int32) ls (lv_sub hl [0, 1, 2] rfl) h
      obtain ⟨k48, ek48, h⟩ := jn_some h
      have hj49 : ∀ (ls : Array Slot), lv_has ls 4 [(0, .ref (ρ 0)), (1, .int a1)] → k48 = some (r, ν) → W p l e (rmL (g + 1)) s m args below meth c H locs 0 0 Q (F0 m 61 ls [.ref (ρ 0)]) := by
        intro ls hl h
        rw [ek48] at h
        refine lv_aload_n hx hb dX6_run_61 rfl (lv_at hl 0 rfl) ?_
        refine rg_get X hI (o := 0) (j := 37) (k := 137) rfl rfl rfl inG6 (by decide) rfl wF_X6_233 dX6_run_62 ?_
        exact hj9 (μ5 137 0) ls (lv_sub hl [0, 1] rfl) h
      refine lv_icmp_ne (tgt := 61) hx hb dX6_run_47 (by decide) (fun c50 => ?_) (fun c50 => ?_)
      · have h := it_neg c50 h
        exact hj49 ls (lv_sub hl [0, 1] rfl) h
      · have h := it_pos c50 h
        refine lv_aload_n hx hb dX6_run_50 rfl (lv_at hl 0 rfl) ?_
        refine rg_get X hI (o := 0) (j := 40) (k := 140) rfl rfl rfl inG6 (by decide) rfl wF_X6_245 dX6_run_51 ?_
        refine lv_if_le (tgt := 61) hx hb dX6_run_54 (by decide) (fun c51 => ?_) (fun c51 => ?_)
        · have h := it_pos c51 h
          exact hj49 ls (lv_sub hl [0, 1] rfl) h
        · have h := it_neg c51 h
          refine lv_iconst (v := 1) hx hb dX6_run_57 (by decide) ?_
          refine lv_goto (tgt := 65) hx hb dX6_run_58 (by decide) ?_
          exact hj9 (1 : Int32) ls (lv_sub hl [0, 1] rfl) h
    · have h := it_neg c6 h
      refine lv_iconst (v := 0) hx hb dX6_run_39 (by decide) ?_
      cases h
      exact hend H locs _ _ hI dX6_run_40
  obtain ⟨k53, ek53, h⟩ := jn_some h
  have hj54 : ∀ (ls : Array Slot), lv_has ls 4 [(0, .ref (ρ 0)), (1, .int a1)] → k53 = some (r, ν) → W p l e (rmL (g + 1)) s m args below meth c H locs 0 0 Q (F0 m 13 ls [.ref (ρ 0)]) := by
    intro ls hl h
    rw [ek53] at h
    refine lv_iconst (v := 1) hx hb dX6_run_13 (by decide) ?_
    refine lv_goto (tgt := 29) hx hb dX6_run_14 (by decide) ?_
    exact hj3 (1 : Int32) ls (lv_sub hl [0, 1] rfl) h
  refine lv_icmp_lt (tgt := 13) hx hb dX6_run_3 (by decide) (fun c55 => ?_) (fun c55 => ?_)
  · have h := it_pos c55 h
    exact hj54 ls (lv_sub hl [0, 1] rfl) h
  · have h := it_neg c55 h
    refine lv_iload_n hx hb dX6_run_6 rfl (lv_at hl 1 rfl) ?_
    refine lv_sipush (v := 200) hx hb dX6_run_7 (by decide) ?_
    refine lv_icmp_le (tgt := 17) hx hb dX6_run_10 (by decide) (fun c56 => ?_) (fun c56 => ?_)
    · have h := it_pos c56 h
      refine lv_aload_n hx hb dX6_run_17 rfl (lv_at hl 0 rfl) ?_
      refine rg_get X hI (o := 0) (j := 37) (k := 137) rfl rfl rfl inG6 (by decide) rfl wF_X6_233 dX6_run_18 ?_
      refine lv_if_ne (tgt := 28) hx hb dX6_run_21 (by decide) (fun c57 => ?_) (fun c57 => ?_)
      · have h := it_neg c57 h
        refine lv_iconst (v := 0) hx hb dX6_run_28 (by decide) ?_
        exact hj3 (0 : Int32) ls (lv_sub hl [0, 1] rfl) h
      · have h := it_pos c57 h
        refine lv_iconst (v := 2) hx hb dX6_run_24 (by decide) ?_
        refine lv_goto (tgt := 29) hx hb dX6_run_25 (by decide) ?_
        exact hj3 (2 : Int32) ls (lv_sub hl [0, 1] rfl) h
    · have h := it_neg c56 h
      exact hj54 ls (lv_sub hl [0, 1] rfl) h
set_option maxHeartbeats 4000000 in
set_option maxRecDepth 100000 in
theorem c_M_words (l : Launch) (D : va_G) (cI : ClassId) (ρ : Nat → Nat) {N : Nat} (hgt : Nat) (hh : 1 ≤ hgt) {a1 : Int32} {a2 : Int32} {μ ν : St} {r : Int32} (h : f_M_words N a1 a2 μ = some (r, ν)) : CI l yX6_words cX6_words 5 (some .int) hgt TM cI D ρ [.ref (ρ 0), .int a1, .int a2] μ r ν := by
  obtain ⟨g, rfl⟩ : ∃ g, hgt = g + 1 := ⟨hgt - 1, by omega⟩
  unfold f_M_words at h
  refine CI_of (own := RX6) (by decide) rfl (Nat.le_of_ble_eq_true rfl) rfl ?_
  intro p e s m args below meth c Q A H locs X hI hend ls hl
  have hx := X.1.1
  have hb := X.1.2.1
  have hl : lv_has ls 5 [(0, .ref (ρ 0)), (1, .int a1), (2, .int a2)] := hl
  refine lv_iload_n hx hb dX6_words_0 rfl (lv_at hl 2 rfl) ?_
  refine lv_iconst (v := 1) hx hb dX6_words_1 (by decide) ?_
  obtain ⟨k2, ek2, h⟩ := jn_some h
  have hj3 : ∀ (y4 : Int32) (ls : Array Slot), lv_has ls 5 [(0, .ref (ρ 0)), (1, .int a1), (2, .int a2)] → k2 y4 = some (r, ν) → W p l e (rmL (g + 1)) s m args below meth c H locs 0 0 Q (F0 m 15 ls [.int y4]) := by
    intro y4 ls hl h
    rw [ek2] at h
    try dsimp only at h
    refine lv_istore_n (lv' := [(3, .int y4), (0, .ref (ρ 0)), (1, .int a1), (2, .int a2)]) hx hb dX6_words_15 rfl hl (by decide) rfl (fun ls hl => ?_)
    refine lv_iconst (v := 0) hx hb dX6_words_16 (by decide) ?_
    refine lv_istore (lv' := [(4, .int (0 : Int32)), (3, .int y4), (0, .ref (ρ 0)), (1, .int a1), (2, .int a2)]) hx hb dX6_words_17 hl (by decide) rfl (fun ls hl => ?_)
    refine lp_elim (fun (k8 : Int32 → Int32 → Option (Int32 × St)) => ∀ (x5 : Int32) (x6 : Int32) (ls : Array Slot), lv_has ls 5 [(0, .ref (ρ 0)), (1, .int a1), (2, .int a2), (3, .int x5), (4, .int x6)] → k8 x5 x6 = some (r, ν) → W p l e (rmL (g + 1)) s m args below meth c H locs 0 0 Q (F0 m 19 ls [])) ?_ ?_ N y4 (0 : Int32) ls (lv_sub hl [2, 3, 4, 1, 0] rfl) h
    · intro x5 x6 ls hl h
      cases h
    · intro k8 ih9 x5 x6 ls hl h
      try dsimp only at h
      refine lv_iload hx hb dX6_words_19 (lv_at hl 4 rfl) ?_
      refine lv_iload_n hx hb dX6_words_21 rfl (lv_at hl 2 rfl) ?_
      obtain ⟨k11, ek11, h⟩ := jn_some h
      have hj12 : ∀ (ls : Array Slot), lv_has ls 5 [(0, .ref (ρ 0)), (1, .int a1), (2, .int a2), (3, .int x5)] → k11 = some (r, ν) → W p l e (rmL (g + 1)) s m args below meth c H locs 0 0 Q (F0 m 58 ls []) := by
        intro ls hl h
        rw [ek11] at h
        refine lv_aload_n hx hb dX6_words_58 rfl (lv_at hl 0 rfl) ?_
        refine lv_iload_n hx hb dX6_words_59 rfl (lv_at hl 3 rfl) ?_
        obtain ⟨k14, ek14, h⟩ := jn_some h
        have hj15 : ∀ (y16 : Int32) (ls : Array Slot), lv_has ls 5 [(0, .ref (ρ 0)), (1, .int a1), (2, .int a2)] → k14 y16 = some (r, ν) → W p l e (rmL (g + 1)) s m args below meth c H locs 0 0 Q (F0 m 84 ls [.int y16, .ref (ρ 0)]) := by
          intro y16 ls hl h
          rw [ek14] at h
          try dsimp only at h
          refine rg_put X hI (o := 0) (j := 0) (k := 100) rfl rfl rfl rfl inG6 tyX6 tyX6_ok nmX6 (by decide) rfl wF_X6_97 rfl rfl rfl rfl dX6_words_84 (fun H locs hI => ?_)
          obtain ⟨μ17, eμ17, h⟩ := nm_some h
          rw [← eμ17] at hI
          refine lv_iload_n hx hb dX6_words_87 rfl (lv_at hl 2 rfl) ?_
          refine lv_iconst (v := 1) hx hb dX6_words_88 (by decide) ?_
          refine lv_isub hx hb dX6_words_89 ?_
          obtain ⟨x18, ex18, h⟩ := nm_some h
          refine rg_top ex18 ?_
          refine lv_istore (lv' := [(4, .int x18), (0, .ref (ρ 0)), (1, .int a1), (2, .int a2)]) hx hb dX6_words_90 hl (by decide) rfl (fun ls hl => ?_)
          refine lp_elim (fun (k21 : Int32 → St → Option (Int32 × St)) => ∀ (x19 : Int32) (μ20 : St) (H : Heap) (locs : List Loc) (ls : Array Slot), lv_has ls 5 [(0, .ref (ρ 0)), (1, .int a1), (4, .int x19)] → RI TM cI D A s.heap ρ μ20 H locs → k21 x19 μ20 = some (r, ν) → W p l e (rmL (g + 1)) s m args below meth c H locs 0 0 Q (F0 m 92 ls [])) ?_ ?_ N x18 μ17 H locs ls (lv_sub hl [1, 2, 0] rfl) hI h
          · intro x19 μ20 H locs ls hl hI h
            cases h
          · intro k21 ih22 x19 μ20 H locs ls hl hI h
            try dsimp only at h
            refine lv_iload hx hb dX6_words_92 (lv_at hl 2 rfl) ?_
            refine lv_if_lt (tgt := 140) hx hb dX6_words_94 (by decide) (fun c23 => ?_) (fun c23 => ?_)
            · have h := it_pos c23 h
              refine lv_aload_n hx hb dX6_words_140 rfl (lv_at hl 0 rfl) ?_
              refine rg_get X hI (o := 0) (j := 1) (k := 101) rfl rfl rfl inG6 (by decide) rfl wF_X6_101 dX6_words_141 ?_
              cases h
              exact hend H locs _ _ hI dX6_words_144
            · have h := it_neg c23 h
              refine lv_aload_n hx hb dX6_words_97 rfl (lv_at hl 0 rfl) ?_
              refine rg_get X hI (o := 0) (j := 0) (k := 100) rfl rfl rfl inG6 (by decide) rfl wF_X6_97 dX6_words_98 ?_
              refine lv_if_ne (tgt := 140) hx hb dX6_words_101 (by decide) (fun c24 => ?_) (fun c24 => ?_)
              · have h := it_neg c24 h
                refine lv_aload_n hx hb dX6_words_140 rfl (lv_at hl 0 rfl) ?_
                refine rg_get X hI (o := 0) (j := 1) (k := 101) rfl rfl rfl inG6 (by decide) rfl wF_X6_101 dX6_words_141 ?_
                cases h
                exact hend H locs _ _ hI dX6_words_144
              · have h := it_pos c24 h
                refine lv_aload_n hx hb dX6_words_104 rfl (lv_at hl 0 rfl) ?_
                refine rg_getR X hI (o := 0) (j := 2) (k := 1) rfl rfl rfl inG6 (by decide) rfl wF_X6_7 dX6_words_105 ?_
                refine lv_aload_n hx hb dX6_words_108 rfl (lv_at hl 0 rfl) ?_
                refine rg_get X hI (o := 0) (j := 1) (k := 101) rfl rfl rfl inG6 (by decide) rfl wF_X6_101 dX6_words_109 ?_
                refine lv_iload_n hx hb dX6_words_112 rfl (lv_at hl 1 rfl) ?_
                refine lv_bipush (v := 8) hx hb dX6_words_113 (by decide) ?_
                refine lv_iload hx hb dX6_words_115 (lv_at hl 2 rfl) ?_
                refine lv_imul hx hb dX6_words_117 ?_
                refine lv_ishr hx hb dX6_words_118 ?_
                refine lv_sipush (v := 255) hx hb dX6_words_119 (by decide) ?_
                refine lv_iand hx hb dX6_words_122 ?_
                obtain ⟨hn25, h⟩ := gd_some h
                refine rg_ast X hI (o := 1) rfl rfl hn25 dX6_words_123 (fun H locs hI => ?_)
                obtain ⟨μ26, eμ26, h⟩ := nm_some h
                rw [← eμ26] at hI
                refine lv_aload_n hx hb dX6_words_124 rfl (lv_at hl 0 rfl) ?_
                refine lv_dup hx hb dX6_words_125 rfl ?_
                refine rg_get X hI (o := 0) (j := 1) (k := 101) rfl rfl rfl inG6 (by decide) rfl wF_X6_101 dX6_words_126 ?_
                refine lv_iconst (v := 1) hx hb dX6_words_129 (by decide) ?_
                refine lv_iadd hx hb dX6_words_130 ?_
                refine rg_put X hI (o := 0) (j := 1) (k := 101) rfl rfl rfl rfl inG6 tyX6 tyX6_ok nmX6 (by decide) rfl wF_X6_101 rfl rfl rfl rfl dX6_words_131 (fun H locs hI => ?_)
                obtain ⟨μ27, eμ27, h⟩ := nm_some h
                rw [← eμ27] at hI
                obtain ⟨x28, ex28, h⟩ := nm_some h
                refine lv_iinc (v := x28) (lv' := [(4, .int x28), (0, .ref (ρ 0)), (1, .int a1)]) hx hb dX6_words_134 hl (k := 2) rfl (by rw [ex28]; rfl) (by decide) rfl (fun ls hl => ?_)
                refine lv_goto (tgt := 92) hx hb dX6_words_137 (by decide) ?_
                exact ih22 x28 μ27 H locs ls (lv_sub hl [1, 2, 0] rfl) hI h
        refine lv_if_ne (tgt := 67) hx hb dX6_words_60 (by decide) (fun c29 => ?_) (fun c29 => ?_)
        · have h := it_neg c29 h
          refine lv_aload_n hx hb dX6_words_67 rfl (lv_at hl 0 rfl) ?_
          refine rg_get X hI (o := 0) (j := 1) (k := 101) rfl rfl rfl inG6 (by decide) rfl wF_X6_101 dX6_words_68 ?_
          refine lv_iload_n hx hb dX6_words_71 rfl (lv_at hl 2 rfl) ?_
          refine lv_iadd hx hb dX6_words_72 ?_
          refine lv_sipush (v := 160) hx hb dX6_words_73 (by decide) ?_
          refine lv_icmp_le (tgt := 83) hx hb dX6_words_76 (by decide) (fun c30 => ?_) (fun c30 => ?_)
          · have h := it_pos c30 h
            refine lv_iconst (v := 0) hx hb dX6_words_83 (by decide) ?_
            exact hj15 (0 : Int32) ls (lv_sub hl [0, 1, 2] rfl) h
          · have h := it_neg c30 h
            refine lv_iconst (v := 2) hx hb dX6_words_79 (by decide) ?_
            refine lv_goto (tgt := 84) hx hb dX6_words_80 (by decide) ?_
            exact hj15 (2 : Int32) ls (lv_sub hl [0, 1, 2] rfl) h
        · have h := it_pos c29 h
          refine lv_iconst (v := 1) hx hb dX6_words_63 (by decide) ?_
          refine lv_goto (tgt := 84) hx hb dX6_words_64 (by decide) ?_
          exact hj15 (1 : Int32) ls (lv_sub hl [0, 1, 2] rfl) h
      refine lv_icmp_ge (tgt := 58) hx hb dX6_words_22 (by decide) (fun c31 => ?_) (fun c31 => ?_)
      · have h := it_pos c31 h
        exact hj12 ls (lv_sub hl [0, 1, 2, 3] rfl) h
      · have h := it_neg c31 h
        refine lv_iload_n hx hb dX6_words_25 rfl (lv_at hl 3 rfl) ?_
        refine lv_if_eq (tgt := 58) hx hb dX6_words_26 (by decide) (fun c32 => ?_) (fun c32 => ?_)
        · have h := it_pos c32 h
          exact hj12 ls (lv_sub hl [0, 1, 2, 3] rfl) h
        · have h := it_neg c32 h
          refine lv_iload_n hx hb dX6_words_29 rfl (lv_at hl 1 rfl) ?_
          refine lv_bipush (v := 8) hx hb dX6_words_30 (by decide) ?_
          refine lv_iload hx hb dX6_words_32 (lv_at hl 4 rfl) ?_
          refine lv_imul hx hb dX6_words_34 ?_
          refine lv_ishr hx hb dX6_words_35 ?_
          refine lv_sipush (v := 255) hx hb dX6_words_36 (by decide) ?_
          refine lv_iand hx hb dX6_words_39 ?_
          refine lv_sipush (v := 191) hx hb dX6_words_40 (by decide) ?_
          obtain ⟨k34, ek34, h⟩ := jn_some h
          have hj35 : ∀ (y36 : Int32) (ls : Array Slot), lv_has ls 5 [(0, .ref (ρ 0)), (1, .int a1), (2, .int a2), (4, .int x6)] → k34 y36 = some (r, ν) → W p l e (rmL (g + 1)) s m args below meth c H locs 0 0 Q (F0 m 51 ls [.int y36]) := by
            intro y36 ls hl h
            rw [ek34] at h
            try dsimp only at h
            refine lv_istore_n (lv' := [(3, .int y36), (0, .ref (ρ 0)), (1, .int a1), (2, .int a2), (4, .int x6)]) hx hb dX6_words_51 rfl hl (by decide) rfl (fun ls hl => ?_)
            obtain ⟨x37, ex37, h⟩ := nm_some h
            refine lv_iinc (v := x37) (lv' := [(4, .int x37), (3, .int y36), (0, .ref (ρ 0)), (1, .int a1), (2, .int a2)]) hx hb dX6_words_52 hl (k := 4) rfl (by rw [ex37]; rfl) (by decide) rfl (fun ls hl => ?_)
            refine lv_goto (tgt := 19) hx hb dX6_words_55 (by decide) ?_
            exact ih9 y36 x37 ls (lv_sub hl [2, 3, 4, 1, 0] rfl) h
          refine lv_icmp_gt (tgt := 50) hx hb dX6_words_43 (by decide) (fun c38 => ?_) (fun c38 => ?_)
          · have h := it_pos c38 h
            refine lv_iconst (v := 0) hx hb dX6_words_50 (by decide) ?_
            exact hj35 (0 : Int32) ls (lv_sub hl [0, 1, 2, 4] rfl) h
          · have h := it_neg c38 h
            refine lv_iconst (v := 1) hx hb dX6_words_46 (by decide) ?_
            refine lv_goto (tgt := 51) hx hb dX6_words_47 (by decide) ?_
            exact hj35 (1 : Int32) ls (lv_sub hl [0, 1, 2, 4] rfl) h
  obtain ⟨k40, ek40, h⟩ := jn_some h
  have hj41 : ∀ (ls : Array Slot), lv_has ls 5 [(0, .ref (ρ 0)), (1, .int a1), (2, .int a2)] → k40 = some (r, ν) → W p l e (rmL (g + 1)) s m args below meth c H locs 0 0 Q (F0 m 14 ls []) := by
    intro ls hl h
    rw [ek40] at h
    refine lv_iconst (v := 0) hx hb dX6_words_14 (by decide) ?_
    exact hj3 (0 : Int32) ls (lv_sub hl [0, 1, 2] rfl) h
  refine lv_icmp_lt (tgt := 14) hx hb dX6_words_2 (by decide) (fun c42 => ?_) (fun c42 => ?_)
  · have h := it_pos c42 h
    exact hj41 ls (lv_sub hl [0, 1, 2] rfl) h
  · have h := it_neg c42 h
    refine lv_iload_n hx hb dX6_words_5 rfl (lv_at hl 2 rfl) ?_
    refine lv_iconst (v := 4) hx hb dX6_words_6 (by decide) ?_
    refine lv_icmp_gt (tgt := 14) hx hb dX6_words_7 (by decide) (fun c43 => ?_) (fun c43 => ?_)
    · have h := it_pos c43 h
      exact hj41 ls (lv_sub hl [0, 1, 2] rfl) h
    · have h := it_neg c43 h
      refine lv_iconst (v := 1) hx hb dX6_words_10 (by decide) ?_
      refine lv_goto (tgt := 15) hx hb dX6_words_11 (by decide) ?_
      exact hj3 (1 : Int32) ls (lv_sub hl [0, 1, 2] rfl) h
set_option maxHeartbeats 4000000 in
set_option maxRecDepth 100000 in
theorem c_M_shown (l : Launch) (D : va_G) (cI : ClassId) (ρ : Nat → Nat) (hgt : Nat) (hh : 1 ≤ hgt) {a1 : Int32} {μ ν : St} {r : Int32} (h : f_M_shown a1 μ = some (r, ν)) : CI l yX6_shown cX6_shown 2 (some .int) hgt TM cI D ρ [.ref (ρ 0), .int a1] μ r ν := by
  obtain ⟨g, rfl⟩ : ∃ g, hgt = g + 1 := ⟨hgt - 1, by omega⟩
  unfold f_M_shown at h
  refine CI_of (own := RX6) (by decide) rfl (Nat.le_of_ble_eq_true rfl) rfl ?_
  intro p e s m args below meth c Q A H locs X hI hend ls hl
  have hx := X.1.1
  have hb := X.1.2.1
  have hl : lv_has ls 2 [(0, .ref (ρ 0)), (1, .int a1)] := hl
  refine lv_aload_n hx hb dX6_shown_0 rfl (lv_at hl 0 rfl) ?_
  refine lv_iload_n hx hb dX6_shown_1 rfl (lv_at hl 1 rfl) ?_
  obtain ⟨k2, ek2, h⟩ := jn_some h
  have hj3 : ∀ (y4 : Int32) (ls : Array Slot), lv_has ls 2 [(0, .ref (ρ 0)), (1, .int a1)] → k2 y4 = some (r, ν) → W p l e (rmL (g + 1)) s m args below meth c H locs 0 0 Q (F0 m 24 ls [.int y4, .ref (ρ 0)]) := by
    intro y4 ls hl h
    rw [ek2] at h
    try dsimp only at h
    refine rg_put X hI (o := 0) (j := 0) (k := 100) rfl rfl rfl rfl inG6 tyX6 tyX6_ok nmX6 (by decide) rfl wF_X6_97 rfl rfl rfl rfl dX6_shown_24 (fun H locs hI => ?_)
    obtain ⟨μ5, eμ5, h⟩ := nm_some h
    rw [← eμ5] at hI
    refine lv_aload_n hx hb dX6_shown_27 rfl (lv_at hl 0 rfl) ?_
    refine rg_get X hI (o := 0) (j := 0) (k := 100) rfl rfl rfl inG6 (by decide) rfl wF_X6_97 dX6_shown_28 ?_
    refine lv_if_le (tgt := 38) hx hb dX6_shown_31 (by decide) (fun c6 => ?_) (fun c6 => ?_)
    · have h := it_pos c6 h
      refine lv_aload_n hx hb dX6_shown_38 rfl (lv_at hl 0 rfl) ?_
      refine rg_getR X hI (o := 0) (j := 45) (k := 25) rfl rfl rfl inG6 (by decide) rfl wF_X6_82 dX6_shown_39 ?_
      refine lv_aload_n hx hb dX6_shown_42 rfl (lv_at hl 0 rfl) ?_
      refine rg_get X hI (o := 0) (j := 39) (k := 139) rfl rfl rfl inG6 (by decide) rfl wF_X6_215 dX6_shown_43 ?_
      refine lv_iconst (v := 1) hx hb dX6_shown_46 (by decide) ?_
      refine lv_isub hx hb dX6_shown_47 ?_
      refine lv_iload_n hx hb dX6_shown_48 rfl (lv_at hl 1 rfl) ?_
      refine lv_isub hx hb dX6_shown_49 ?_
      refine lv_bipush (v := 32) hx hb dX6_shown_50 (by decide) ?_
      obtain ⟨hz7, h⟩ := gd_some h
      refine lv_irem hx hb dX6_shown_52 (nz_ne hz7) ?_
      obtain ⟨hn8, h⟩ := gd_some h
      refine rg_ald X hI (o := 25) rfl hn8 dX6_shown_53 ?_
      obtain ⟨x9, ex9, h⟩ := nm_some h
      refine rg_top ex9 ?_
      cases h
      exact hend H locs _ _ hI dX6_shown_54
    · have h := it_neg c6 h
      refine lv_iconst (v := 0) hx hb dX6_shown_34 (by decide) ?_
      refine lv_goto (tgt := 54) hx hb dX6_shown_35 (by decide) ?_
      cases h
      exact hend H locs _ _ hI dX6_shown_54
  obtain ⟨k11, ek11, h⟩ := jn_some h
  have hj12 : ∀ (ls : Array Slot), lv_has ls 2 [(0, .ref (ρ 0)), (1, .int a1)] → k11 = some (r, ν) → W p l e (rmL (g + 1)) s m args below meth c H locs 0 0 Q (F0 m 19 ls [.ref (ρ 0)]) := by
    intro ls hl h
    rw [ek11] at h
    refine lv_iconst (v := 1) hx hb dX6_shown_19 (by decide) ?_
    refine lv_goto (tgt := 24) hx hb dX6_shown_20 (by decide) ?_
    exact hj3 (1 : Int32) ls (lv_sub hl [0, 1] rfl) h
  refine lv_if_lt (tgt := 19) hx hb dX6_shown_2 (by decide) (fun c13 => ?_) (fun c13 => ?_)
  · have h := it_pos c13 h
    exact hj12 ls (lv_sub hl [0, 1] rfl) h
  · have h := it_neg c13 h
    refine lv_iload_n hx hb dX6_shown_5 rfl (lv_at hl 1 rfl) ?_
    refine lv_aload_n hx hb dX6_shown_6 rfl (lv_at hl 0 rfl) ?_
    refine rg_get X hI (o := 0) (j := 39) (k := 139) rfl rfl rfl inG6 (by decide) rfl wF_X6_215 dX6_shown_7 ?_
    refine lv_icmp_ge (tgt := 19) hx hb dX6_shown_10 (by decide) (fun c14 => ?_) (fun c14 => ?_)
    · have h := it_pos c14 h
      exact hj12 ls (lv_sub hl [0, 1] rfl) h
    · have h := it_neg c14 h
      refine lv_iload_n hx hb dX6_shown_13 rfl (lv_at hl 1 rfl) ?_
      refine lv_bipush (v := 32) hx hb dX6_shown_14 (by decide) ?_
      refine lv_icmp_lt (tgt := 23) hx hb dX6_shown_16 (by decide) (fun c15 => ?_) (fun c15 => ?_)
      · have h := it_pos c15 h
        refine lv_iconst (v := 0) hx hb dX6_shown_23 (by decide) ?_
        exact hj3 (0 : Int32) ls (lv_sub hl [0, 1] rfl) h
      · have h := it_neg c15 h
        exact hj12 ls (lv_sub hl [0, 1] rfl) h
set_option maxHeartbeats 4000000 in
set_option maxRecDepth 100000 in
theorem c_M_global (l : Launch) (D : va_G) (cI : ClassId) (ρ : Nat → Nat) (hgt : Nat) (hh : 1 ≤ hgt) {a1 : Int32} {μ ν : St} {r : Int32} (h : f_M_global a1 μ = some (r, ν)) : CI l yX6_global cX6_global 2 (some .int) hgt TM cI D ρ [.ref (ρ 0), .int a1] μ r ν := by
  obtain ⟨g, rfl⟩ : ∃ g, hgt = g + 1 := ⟨hgt - 1, by omega⟩
  unfold f_M_global at h
  refine CI_of (own := RX6) (by decide) rfl (Nat.le_of_ble_eq_true rfl) rfl ?_
  intro p e s m args below meth c Q A H locs X hI hend ls hl
  have hx := X.1.1
  have hb := X.1.2.1
  have hl : lv_has ls 2 [(0, .ref (ρ 0)), (1, .int a1)] := hl
  refine lv_aload_n hx hb dX6_global_0 rfl (lv_at hl 0 rfl) ?_
  refine lv_iload_n hx hb dX6_global_1 rfl (lv_at hl 1 rfl) ?_
  obtain ⟨k2, ek2, h⟩ := jn_some h
  have hj3 : ∀ (y4 : Int32) (ls : Array Slot), lv_has ls 2 [(0, .ref (ρ 0)), (1, .int a1)] → k2 y4 = some (r, ν) → W p l e (rmL (g + 1)) s m args below meth c H locs 0 0 Q (F0 m 16 ls [.int y4, .ref (ρ 0)]) := by
    intro y4 ls hl h
    rw [ek2] at h
    try dsimp only at h
    refine rg_put X hI (o := 0) (j := 0) (k := 100) rfl rfl rfl rfl inG6 tyX6 tyX6_ok nmX6 (by decide) rfl wF_X6_97 rfl rfl rfl rfl dX6_global_16 (fun H locs hI => ?_)
    obtain ⟨μ5, eμ5, h⟩ := nm_some h
    rw [← eμ5] at hI
    refine lv_aload_n hx hb dX6_global_19 rfl (lv_at hl 0 rfl) ?_
    refine rg_get X hI (o := 0) (j := 0) (k := 100) rfl rfl rfl inG6 (by decide) rfl wF_X6_97 dX6_global_20 ?_
    refine lv_if_le (tgt := 30) hx hb dX6_global_23 (by decide) (fun c6 => ?_) (fun c6 => ?_)
    · have h := it_pos c6 h
      refine lv_aload_n hx hb dX6_global_30 rfl (lv_at hl 0 rfl) ?_
      refine rg_getR X hI (o := 0) (j := 42) (k := 22) rfl rfl rfl inG6 (by decide) rfl wF_X6_73 dX6_global_31 ?_
      refine lv_iload_n hx hb dX6_global_34 rfl (lv_at hl 1 rfl) ?_
      obtain ⟨hn7, h⟩ := gd_some h
      refine rg_ald X hI (o := 22) rfl hn7 dX6_global_35 ?_
      obtain ⟨x8, ex8, h⟩ := nm_some h
      refine rg_top ex8 ?_
      cases h
      exact hend H locs _ _ hI dX6_global_36
    · have h := it_neg c6 h
      refine lv_iconst (v := 0) hx hb dX6_global_26 (by decide) ?_
      refine lv_goto (tgt := 36) hx hb dX6_global_27 (by decide) ?_
      cases h
      exact hend H locs _ _ hI dX6_global_36
  obtain ⟨k10, ek10, h⟩ := jn_some h
  have hj11 : ∀ (ls : Array Slot), lv_has ls 2 [(0, .ref (ρ 0)), (1, .int a1)] → k10 = some (r, ν) → W p l e (rmL (g + 1)) s m args below meth c H locs 0 0 Q (F0 m 11 ls [.ref (ρ 0)]) := by
    intro ls hl h
    rw [ek10] at h
    refine lv_iconst (v := 1) hx hb dX6_global_11 (by decide) ?_
    refine lv_goto (tgt := 16) hx hb dX6_global_12 (by decide) ?_
    exact hj3 (1 : Int32) ls (lv_sub hl [0, 1] rfl) h
  refine lv_if_lt (tgt := 11) hx hb dX6_global_2 (by decide) (fun c12 => ?_) (fun c12 => ?_)
  · have h := it_pos c12 h
    exact hj11 ls (lv_sub hl [0, 1] rfl) h
  · have h := it_neg c12 h
    refine lv_iload_n hx hb dX6_global_5 rfl (lv_at hl 1 rfl) ?_
    refine lv_bipush (v := 7) hx hb dX6_global_6 (by decide) ?_
    refine lv_icmp_le (tgt := 15) hx hb dX6_global_8 (by decide) (fun c13 => ?_) (fun c13 => ?_)
    · have h := it_pos c13 h
      refine lv_iconst (v := 0) hx hb dX6_global_15 (by decide) ?_
      exact hj3 (0 : Int32) ls (lv_sub hl [0, 1] rfl) h
    · have h := it_neg c13 h
      exact hj11 ls (lv_sub hl [0, 1] rfl) h
set_option maxHeartbeats 4000000 in
set_option maxRecDepth 100000 in
theorem c_M_array (l : Launch) (D : va_G) (cI : ClassId) (ρ : Nat → Nat) (hgt : Nat) (hh : 1 ≤ hgt) {a1 : Int32} {a2 : Int32} {μ ν : St} {r : Int32} (h : f_M_array a1 a2 μ = some (r, ν)) : CI l yX6_array cX6_array 3 (some .int) hgt TM cI D ρ [.ref (ρ 0), .int a1, .int a2] μ r ν := by
  obtain ⟨g, rfl⟩ : ∃ g, hgt = g + 1 := ⟨hgt - 1, by omega⟩
  unfold f_M_array at h
  refine CI_of (own := RX6) (by decide) rfl (Nat.le_of_ble_eq_true rfl) rfl ?_
  intro p e s m args below meth c Q A H locs X hI hend ls hl
  have hx := X.1.1
  have hb := X.1.2.1
  have hl : lv_has ls 3 [(0, .ref (ρ 0)), (1, .int a1), (2, .int a2)] := hl
  refine lv_aload_n hx hb dX6_array_0 rfl (lv_at hl 0 rfl) ?_
  refine lv_iload_n hx hb dX6_array_1 rfl (lv_at hl 1 rfl) ?_
  obtain ⟨k2, ek2, h⟩ := jn_some h
  have hj3 : ∀ (y4 : Int32) (ls : Array Slot), lv_has ls 3 [(0, .ref (ρ 0)), (1, .int a1), (2, .int a2)] → k2 y4 = some (r, ν) → W p l e (rmL (g + 1)) s m args below meth c H locs 0 0 Q (F0 m 25 ls [.int y4, .ref (ρ 0)]) := by
    intro y4 ls hl h
    rw [ek2] at h
    try dsimp only at h
    refine rg_put X hI (o := 0) (j := 0) (k := 100) rfl rfl rfl rfl inG6 tyX6 tyX6_ok nmX6 (by decide) rfl wF_X6_97 rfl rfl rfl rfl dX6_array_25 (fun H locs hI => ?_)
    obtain ⟨μ5, eμ5, h⟩ := nm_some h
    rw [← eμ5] at hI
    refine lv_aload_n hx hb dX6_array_28 rfl (lv_at hl 0 rfl) ?_
    refine rg_get X hI (o := 0) (j := 0) (k := 100) rfl rfl rfl inG6 (by decide) rfl wF_X6_97 dX6_array_29 ?_
    refine lv_if_le (tgt := 39) hx hb dX6_array_32 (by decide) (fun c6 => ?_) (fun c6 => ?_)
    · have h := it_pos c6 h
      refine lv_aload_n hx hb dX6_array_39 rfl (lv_at hl 0 rfl) ?_
      refine rg_getR X hI (o := 0) (j := 43) (k := 23) rfl rfl rfl inG6 (by decide) rfl wF_X6_76 dX6_array_40 ?_
      refine lv_bipush (v := 8) hx hb dX6_array_43 (by decide) ?_
      refine lv_iload_n hx hb dX6_array_45 rfl (lv_at hl 1 rfl) ?_
      refine lv_imul hx hb dX6_array_46 ?_
      refine lv_iload_n hx hb dX6_array_47 rfl (lv_at hl 2 rfl) ?_
      refine lv_iadd hx hb dX6_array_48 ?_
      obtain ⟨hn7, h⟩ := gd_some h
      refine rg_ald X hI (o := 23) rfl hn7 dX6_array_49 ?_
      obtain ⟨x8, ex8, h⟩ := nm_some h
      refine rg_top ex8 ?_
      cases h
      exact hend H locs _ _ hI dX6_array_50
    · have h := it_neg c6 h
      refine lv_iconst (v := 0) hx hb dX6_array_35 (by decide) ?_
      refine lv_goto (tgt := 50) hx hb dX6_array_36 (by decide) ?_
      cases h
      exact hend H locs _ _ hI dX6_array_50
  obtain ⟨k10, ek10, h⟩ := jn_some h
  have hj11 : ∀ (ls : Array Slot), lv_has ls 3 [(0, .ref (ρ 0)), (1, .int a1), (2, .int a2)] → k10 = some (r, ν) → W p l e (rmL (g + 1)) s m args below meth c H locs 0 0 Q (F0 m 20 ls [.ref (ρ 0)]) := by
    intro ls hl h
    rw [ek10] at h
    refine lv_iconst (v := 1) hx hb dX6_array_20 (by decide) ?_
    refine lv_goto (tgt := 25) hx hb dX6_array_21 (by decide) ?_
    exact hj3 (1 : Int32) ls (lv_sub hl [0, 1, 2] rfl) h
  refine lv_if_lt (tgt := 20) hx hb dX6_array_2 (by decide) (fun c12 => ?_) (fun c12 => ?_)
  · have h := it_pos c12 h
    exact hj11 ls (lv_sub hl [0, 1, 2] rfl) h
  · have h := it_neg c12 h
    refine lv_iload_n hx hb dX6_array_5 rfl (lv_at hl 1 rfl) ?_
    refine lv_iconst (v := 3) hx hb dX6_array_6 (by decide) ?_
    refine lv_icmp_gt (tgt := 20) hx hb dX6_array_7 (by decide) (fun c13 => ?_) (fun c13 => ?_)
    · have h := it_pos c13 h
      exact hj11 ls (lv_sub hl [0, 1, 2] rfl) h
    · have h := it_neg c13 h
      refine lv_iload_n hx hb dX6_array_10 rfl (lv_at hl 2 rfl) ?_
      refine lv_if_lt (tgt := 20) hx hb dX6_array_11 (by decide) (fun c14 => ?_) (fun c14 => ?_)
      · have h := it_pos c14 h
        exact hj11 ls (lv_sub hl [0, 1, 2] rfl) h
      · have h := it_neg c14 h
        refine lv_iload_n hx hb dX6_array_14 rfl (lv_at hl 2 rfl) ?_
        refine lv_bipush (v := 7) hx hb dX6_array_15 (by decide) ?_
        refine lv_icmp_le (tgt := 24) hx hb dX6_array_17 (by decide) (fun c15 => ?_) (fun c15 => ?_)
        · have h := it_pos c15 h
          refine lv_iconst (v := 0) hx hb dX6_array_24 (by decide) ?_
          exact hj3 (0 : Int32) ls (lv_sub hl [0, 1, 2] rfl) h
        · have h := it_neg c15 h
          exact hj11 ls (lv_sub hl [0, 1, 2] rfl) h
set_option maxHeartbeats 4000000 in
set_option maxRecDepth 100000 in
theorem c_M_about (l : Launch) (D : va_G) (cI : ClassId) (ρ : Nat → Nat) (hgt : Nat) (hh : 1 ≤ hgt) {a1 : Int32} {μ ν : St} {r : Int32} (h : f_M_about a1 μ = some (r, ν)) : CI l yX6_about cX6_about 2 (some .int) hgt TM cI D ρ [.ref (ρ 0), .int a1] μ r ν := by
  obtain ⟨g, rfl⟩ : ∃ g, hgt = g + 1 := ⟨hgt - 1, by omega⟩
  unfold f_M_about at h
  refine CI_of (own := RX6) (by decide) rfl (Nat.le_of_ble_eq_true rfl) rfl ?_
  intro p e s m args below meth c Q A H locs X hI hend ls hl
  have hx := X.1.1
  have hb := X.1.2.1
  have hl : lv_has ls 2 [(0, .ref (ρ 0)), (1, .int a1)] := hl
  refine lv_aload_n hx hb dX6_about_0 rfl (lv_at hl 0 rfl) ?_
  refine lv_iconst (v := 0) hx hb dX6_about_1 (by decide) ?_
  refine rg_put X hI (o := 0) (j := 0) (k := 100) rfl rfl rfl rfl inG6 tyX6 tyX6_ok nmX6 (by decide) rfl wF_X6_97 rfl rfl rfl rfl dX6_about_2 (fun H locs hI => ?_)
  obtain ⟨μ1, eμ1, h⟩ := nm_some h
  rw [← eμ1] at hI
  refine lv_iload_n hx hb dX6_about_5 rfl (lv_at hl 1 rfl) ?_
  by_cases c2 : a1 = (0 : Int32)
  · have h := it_pos c2 h
    refine rg_top c2.symm ?_
    refine lv_tableIn (off := 42) (tgt := 48) hx hb dX6_about_6 (by decide) (by decide) (by decide) (by decide) ?_
    refine lv_aload_n hx hb dX6_about_48 rfl (lv_at hl 0 rfl) ?_
    refine rg_get X hI (o := 0) (j := 37) (k := 137) rfl rfl rfl inG6 (by decide) rfl wF_X6_233 dX6_about_49 ?_
    cases h
    exact hend H locs _ _ hI dX6_about_52
  · have h := it_neg c2 h
    by_cases c3 : a1 = (1 : Int32)
    · have h := it_pos c3 h
      refine rg_top c3.symm ?_
      refine lv_tableIn (off := 47) (tgt := 53) hx hb dX6_about_6 (by decide) (by decide) (by decide) (by decide) ?_
      refine lv_aload_n hx hb dX6_about_53 rfl (lv_at hl 0 rfl) ?_
      refine rg_get X hI (o := 0) (j := 1) (k := 101) rfl rfl rfl inG6 (by decide) rfl wF_X6_101 dX6_about_54 ?_
      cases h
      exact hend H locs _ _ hI dX6_about_57
    · have h := it_neg c3 h
      by_cases c4 : a1 = (2 : Int32)
      · have h := it_pos c4 h
        refine rg_top c4.symm ?_
        refine lv_tableIn (off := 52) (tgt := 58) hx hb dX6_about_6 (by decide) (by decide) (by decide) (by decide) ?_
        refine lv_aload_n hx hb dX6_about_58 rfl (lv_at hl 0 rfl) ?_
        refine rg_get X hI (o := 0) (j := 17) (k := 117) rfl rfl rfl inG6 (by decide) rfl wF_X6_230 dX6_about_59 ?_
        cases h
        exact hend H locs _ _ hI dX6_about_62
      · have h := it_neg c4 h
        by_cases c5 : a1 = (3 : Int32)
        · have h := it_pos c5 h
          refine rg_top c5.symm ?_
          refine lv_tableIn (off := 57) (tgt := 63) hx hb dX6_about_6 (by decide) (by decide) (by decide) (by decide) ?_
          refine lv_aload_n hx hb dX6_about_63 rfl (lv_at hl 0 rfl) ?_
          refine rg_get X hI (o := 0) (j := 41) (k := 141) rfl rfl rfl inG6 (by decide) rfl wF_X6_218 dX6_about_64 ?_
          cases h
          exact hend H locs _ _ hI dX6_about_67
        · have h := it_neg c5 h
          by_cases c6 : a1 = (4 : Int32)
          · have h := it_pos c6 h
            refine rg_top c6.symm ?_
            refine lv_tableIn (off := 62) (tgt := 68) hx hb dX6_about_6 (by decide) (by decide) (by decide) (by decide) ?_
            refine lv_aload_n hx hb dX6_about_68 rfl (lv_at hl 0 rfl) ?_
            refine rg_get X hI (o := 0) (j := 39) (k := 139) rfl rfl rfl inG6 (by decide) rfl wF_X6_215 dX6_about_69 ?_
            cases h
            exact hend H locs _ _ hI dX6_about_72
          · have h := it_neg c6 h
            by_cases c7 : a1 = (5 : Int32)
            · have h := it_pos c7 h
              refine rg_top c7.symm ?_
              refine lv_tableIn (off := 67) (tgt := 73) hx hb dX6_about_6 (by decide) (by decide) (by decide) (by decide) ?_
              refine lv_aload_n hx hb dX6_about_73 rfl (lv_at hl 0 rfl) ?_
              refine rg_get X hI (o := 0) (j := 40) (k := 140) rfl rfl rfl inG6 (by decide) rfl wF_X6_245 dX6_about_74 ?_
              cases h
              exact hend H locs _ _ hI dX6_about_77
            · have h := it_neg c7 h
              by_cases c8 : a1 = (6 : Int32)
              · have h := it_pos c8 h
                refine rg_top c8.symm ?_
                refine lv_tableIn (off := 72) (tgt := 78) hx hb dX6_about_6 (by decide) (by decide) (by decide) (by decide) ?_
                refine lv_aload_n hx hb dX6_about_78 rfl (lv_at hl 0 rfl) ?_
                refine rg_get X hI (o := 0) (j := 46) (k := 146) rfl rfl rfl inG6 (by decide) rfl wF_X6_221 dX6_about_79 ?_
                cases h
                exact hend H locs _ _ hI dX6_about_82
              · have h := it_neg c8 h
                have hdf : W p l e (rmL (g + 1)) s m args below meth c H locs 0 0 Q (F0 m 83 ls []) := by
                  refine lv_iconst (v := -1) hx hb dX6_about_83 (by decide) ?_
                  cases h
                  exact hend H locs _ _ hI dX6_about_84
                have c2 := ne_toInt (z := 0) rfl c2
                have c3 := ne_toInt (z := 1) rfl c3
                have c4 := ne_toInt (z := 2) rfl c4
                have c5 := ne_toInt (z := 3) rfl c5
                have c6 := ne_toInt (z := 4) rfl c6
                have c7 := ne_toInt (z := 5) rfl c7
                have c8 := ne_toInt (z := 6) rfl c8
                exact lv_tableOut (tgt := 83) hx hb dX6_about_6 (by omega) (by decide) hdf
