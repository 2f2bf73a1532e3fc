/-! the reference: contracts -/
set_option maxHeartbeats 4000000 in
set_option maxRecDepth 100000 in
theorem c_M_nothing (l : Launch) (D : va_G) (cI : ClassId) (ρ : Nat → Nat) {N : Nat} (hgt : Nat) (hh : 1 ≤ hgt)  {μ ν : St} (h : f_M_nothing N μ = some ν) : CV l yX6_nothing cX6_nothing 2 hgt TM cI D ρ [.ref (ρ 0)] μ ν := by
  obtain ⟨g, rfl⟩ : ∃ g, hgt = g + 1 := ⟨hgt - 1, by omega⟩
  unfold f_M_nothing at h
  refine CV_of (own := RX6) (by decide) rfl (Nat.le_of_ble_eq_true rfl) ?_
  intro p e s m args below meth c Q A H locs X hI hend ls hl
  have hx := X.1.1
  have hb := X.1.2.1
  have hl : lv_has ls 2 [(0, .ref (ρ 0))] := hl
  refine lv_iconst (v := 0) hx hb dX6_nothing_0 (by decide) ?_
  refine lv_istore_n (lv' := [(1, .int (0 : Int32)), (0, .ref (ρ 0))]) hx hb dX6_nothing_1 rfl hl (by decide) rfl (fun ls hl => ?_)
  refine lp_elim (fun (k3 : Int32 → St → Option St) => ∀ (x1 : Int32) (μ2 : St) (H : Heap) (locs : List Loc) (ls : Array Slot), lv_has ls 2 [(0, .ref (ρ 0)), (1, .int x1)] → RI TM cI D A s.heap ρ μ2 H locs → k3 x1 μ2 = some ν → W p l e (rmL (g + 1)) s m args below meth c H locs 0 0 Q (F0 m 2 ls [])) ?_ ?_ N (0 : Int32) μ H locs ls (lv_sub hl [1, 0] rfl) hI h
  · intro x1 μ2 H locs ls hl hI h
    cases h
  · intro k3 ih4 x1 μ2 H locs ls hl hI h
    try dsimp only at h
    refine lv_iload_n hx hb dX6_nothing_2 rfl (lv_at hl 1 rfl) ?_
    refine lv_bipush (v := 8) hx hb dX6_nothing_3 (by decide) ?_
    refine lv_icmp_ge (tgt := 21) hx hb dX6_nothing_5 (by decide) (fun c5 => ?_) (fun c5 => ?_)
    · have h := it_pos c5 h
      refine lv_iconst (v := 0) hx hb dX6_nothing_21 (by decide) ?_
      refine lv_istore_n (lv' := [(1, .int (0 : Int32)), (0, .ref (ρ 0))]) hx hb dX6_nothing_22 rfl hl (by decide) rfl (fun ls hl => ?_)
      refine lp_elim (fun (k8 : Int32 → St → Option St) => ∀ (x6 : Int32) (μ7 : St) (H : Heap) (locs : List Loc) (ls : Array Slot), lv_has ls 2 [(0, .ref (ρ 0)), (1, .int x6)] → RI TM cI D A s.heap ρ μ7 H locs → k8 x6 μ7 = some ν → W p l e (rmL (g + 1)) s m args below meth c H locs 0 0 Q (F0 m 23 ls [])) ?_ ?_ N (0 : Int32) μ2 H locs ls (lv_sub hl [1, 0] rfl) hI h
      · intro x6 μ7 H locs ls hl hI h
        cases h
      · intro k8 ih9 x6 μ7 H locs ls hl hI h
        try dsimp only at h
        refine lv_iload_n hx hb dX6_nothing_23 rfl (lv_at hl 1 rfl) ?_
        refine lv_bipush (v := 32) hx hb dX6_nothing_24 (by decide) ?_
        refine lv_icmp_ge (tgt := 42) hx hb dX6_nothing_26 (by decide) (fun c10 => ?_) (fun c10 => ?_)
        · have h := it_pos c10 h
          refine lv_aload_n hx hb dX6_nothing_42 rfl (lv_at hl 0 rfl) ?_
          refine lv_iconst (v := 0) hx hb dX6_nothing_43 (by decide) ?_
          refine rg_put X hI (o := 0) (j := 39) (k := 139) rfl rfl rfl rfl inG6 tyX6 tyX6_ok nmX6 (by decide) rfl wF_X6_215 rfl rfl rfl rfl dX6_nothing_44 (fun H locs hI => ?_)
          obtain ⟨μ11, eμ11, h⟩ := nm_some h
          rw [← eμ11] at hI
          refine lv_aload_n hx hb dX6_nothing_47 rfl (lv_at hl 0 rfl) ?_
          refine lv_iconst (v := 0) hx hb dX6_nothing_48 (by decide) ?_
          refine rg_put X hI (o := 0) (j := 41) (k := 141) rfl rfl rfl rfl inG6 tyX6 tyX6_ok nmX6 (by decide) rfl wF_X6_218 rfl rfl rfl rfl dX6_nothing_49 (fun H locs hI => ?_)
          obtain ⟨μ12, eμ12, h⟩ := nm_some h
          rw [← eμ12] at hI
          refine lv_aload_n hx hb dX6_nothing_52 rfl (lv_at hl 0 rfl) ?_
          refine lv_iconst (v := 0) hx hb dX6_nothing_53 (by decide) ?_
          refine rg_put X hI (o := 0) (j := 46) (k := 146) rfl rfl rfl rfl inG6 tyX6 tyX6_ok nmX6 (by decide) rfl wF_X6_221 rfl rfl rfl rfl dX6_nothing_54 (fun H locs hI => ?_)
          obtain ⟨μ13, eμ13, h⟩ := nm_some h
          rw [← eμ13] at hI
          refine lv_aload_n hx hb dX6_nothing_57 rfl (lv_at hl 0 rfl) ?_
          refine lv_iconst (v := 0) hx hb dX6_nothing_58 (by decide) ?_
          refine rg_put X hI (o := 0) (j := 47) (k := 147) rfl rfl rfl rfl inG6 tyX6 tyX6_ok nmX6 (by decide) rfl wF_X6_224 rfl rfl rfl rfl dX6_nothing_59 (fun H locs hI => ?_)
          obtain ⟨μ14, eμ14, h⟩ := nm_some h
          rw [← eμ14] at hI
          cases h
          exact hend H locs _ _ hI dX6_nothing_62
        · have h := it_neg c10 h
          refine lv_aload_n hx hb dX6_nothing_29 rfl (lv_at hl 0 rfl) ?_
          refine rg_getR X hI (o := 0) (j := 43) (k := 23) rfl rfl rfl inG6 (by decide) rfl wF_X6_76 dX6_nothing_30 ?_
          refine lv_iload_n hx hb dX6_nothing_33 rfl (lv_at hl 1 rfl) ?_
          refine lv_iconst (v := 0) hx hb dX6_nothing_34 (by decide) ?_
          obtain ⟨hn15, h⟩ := gd_some h
          refine rg_ast X hI (o := 23) rfl rfl hn15 dX6_nothing_35 (fun H locs hI => ?_)
          obtain ⟨μ16, eμ16, h⟩ := nm_some h
          rw [← eμ16] at hI
          obtain ⟨x17, ex17, h⟩ := nm_some h
          refine lv_iinc (v := x17) (lv' := [(1, .int x17), (0, .ref (ρ 0))]) hx hb dX6_nothing_36 hl (k := 1) rfl (by rw [ex17]; rfl) (by decide) rfl (fun ls hl => ?_)
          refine lv_goto (tgt := 23) hx hb dX6_nothing_39 (by decide) ?_
          exact ih9 x17 μ16 H locs ls (lv_sub hl [1, 0] rfl) hI h
    · have h := it_neg c5 h
      refine lv_aload_n hx hb dX6_nothing_8 rfl (lv_at hl 0 rfl) ?_
      refine rg_getR X hI (o := 0) (j := 42) (k := 22) rfl rfl rfl inG6 (by decide) rfl wF_X6_73 dX6_nothing_9 ?_
      refine lv_iload_n hx hb dX6_nothing_12 rfl (lv_at hl 1 rfl) ?_
      refine lv_iconst (v := 0) hx hb dX6_nothing_13 (by decide) ?_
      obtain ⟨hn18, h⟩ := gd_some h
      refine rg_ast X hI (o := 22) rfl rfl hn18 dX6_nothing_14 (fun H locs hI => ?_)
      obtain ⟨μ19, eμ19, h⟩ := nm_some h
      rw [← eμ19] at hI
      obtain ⟨x20, ex20, h⟩ := nm_some h
      refine lv_iinc (v := x20) (lv' := [(1, .int x20), (0, .ref (ρ 0))]) hx hb dX6_nothing_15 hl (k := 1) rfl (by rw [ex20]; rfl) (by decide) rfl (fun ls hl => ?_)
      refine lv_goto (tgt := 2) hx hb dX6_nothing_18 (by decide) ?_
      exact ih4 x20 μ19 H locs ls (lv_sub hl [1, 0] rfl) hI h
set_option maxHeartbeats 4000000 in
set_option maxRecDepth 100000 in
theorem c_M_enter (l : Launch) (D : va_G) (cI : ClassId) (ρ : Nat → Nat) {N : Nat} (hgt : Nat) (hh : 1 ≤ hgt) {a1 : Int32} {a2 : Int32} {μ ν : St} (h : f_M_enter N a1 a2 μ = some ν) : CV l yX6_enter cX6_enter 4 hgt TM cI D ρ [.ref (ρ 0), .int a1, .int a2] μ ν := by
  obtain ⟨g, rfl⟩ : ∃ g, hgt = g + 1 := ⟨hgt - 1, by omega⟩
  unfold f_M_enter at h
  refine CV_of (own := RX6) (by decide) rfl (Nat.le_of_ble_eq_true rfl) ?_
  intro p e s m args below meth c Q A H locs X hI hend ls hl
  have hx := X.1.1
  have hb := X.1.2.1
  have hl : lv_has ls 4 [(0, .ref (ρ 0)), (1, .int a1), (2, .int a2)] := hl
  refine lv_aload_n hx hb dX6_enter_0 rfl (lv_at hl 0 rfl) ?_
  refine rg_getR X hI (o := 0) (j := 49) (k := 27) rfl rfl rfl inG6 (by decide) rfl wF_X6_88 dX6_enter_1 ?_
  refine lv_aload_n hx hb dX6_enter_4 rfl (lv_at hl 0 rfl) ?_
  refine rg_get X hI (o := 0) (j := 46) (k := 146) rfl rfl rfl inG6 (by decide) rfl wF_X6_221 dX6_enter_5 ?_
  refine lv_iload_n hx hb dX6_enter_8 rfl (lv_at hl 2 rfl) ?_
  obtain ⟨hn1, h⟩ := gd_some h
  refine rg_ast X hI (o := 27) rfl rfl hn1 dX6_enter_9 (fun H locs hI => ?_)
  obtain ⟨μ2, eμ2, h⟩ := nm_some h
  rw [← eμ2] at hI
  refine lv_aload_n hx hb dX6_enter_10 rfl (lv_at hl 0 rfl) ?_
  refine rg_getR X hI (o := 0) (j := 50) (k := 28) rfl rfl rfl inG6 (by decide) rfl wF_X6_91 dX6_enter_11 ?_
  refine lv_aload_n hx hb dX6_enter_14 rfl (lv_at hl 0 rfl) ?_
  refine rg_get X hI (o := 0) (j := 46) (k := 146) rfl rfl rfl inG6 (by decide) rfl wF_X6_221 dX6_enter_15 ?_
  refine lv_aload_n hx hb dX6_enter_18 rfl (lv_at hl 0 rfl) ?_
  refine rg_get X hI (o := 0) (j := 47) (k := 147) rfl rfl rfl inG6 (by decide) rfl wF_X6_224 dX6_enter_19 ?_
  obtain ⟨hn3, h⟩ := gd_some h
  refine rg_ast X hI (o := 28) rfl rfl hn3 dX6_enter_22 (fun H locs hI => ?_)
  obtain ⟨μ4, eμ4, h⟩ := nm_some h
  rw [← eμ4] at hI
  refine lv_iconst (v := 0) hx hb dX6_enter_23 (by decide) ?_
  refine lv_istore_n (lv' := [(3, .int (0 : Int32)), (0, .ref (ρ 0)), (1, .int a1), (2, .int a2)]) hx hb dX6_enter_24 rfl hl (by decide) rfl (fun ls hl => ?_)
  refine lp_elim (fun (k7 : Int32 → St → Option St) => ∀ (x5 : Int32) (μ6 : St) (H : Heap) (locs : List Loc) (ls : Array Slot), lv_has ls 4 [(0, .ref (ρ 0)), (1, .int a1), (3, .int x5)] → RI TM cI D A s.heap ρ μ6 H locs → k7 x5 μ6 = some ν → W p l e (rmL (g + 1)) s m args below meth c H locs 0 0 Q (F0 m 25 ls [])) ?_ ?_ N (0 : Int32) μ4 H locs ls (lv_sub hl [1, 2, 0] rfl) hI h
  · intro x5 μ6 H locs ls hl hI h
    cases h
  · intro k7 ih8 x5 μ6 H locs ls hl hI h
    try dsimp only at h
    refine lv_iload_n hx hb dX6_enter_25 rfl (lv_at hl 2 rfl) ?_
    refine lv_bipush (v := 8) hx hb dX6_enter_26 (by decide) ?_
    refine lv_icmp_ge (tgt := 52) hx hb dX6_enter_28 (by decide) (fun c9 => ?_) (fun c9 => ?_)
    · have h := it_pos c9 h
      refine lv_aload_n hx hb dX6_enter_52 rfl (lv_at hl 0 rfl) ?_
      refine lv_dup hx hb dX6_enter_53 rfl ?_
      refine rg_get X hI (o := 0) (j := 46) (k := 146) rfl rfl rfl inG6 (by decide) rfl wF_X6_221 dX6_enter_54 ?_
      refine lv_iconst (v := 1) hx hb dX6_enter_57 (by decide) ?_
      refine lv_iadd hx hb dX6_enter_58 ?_
      refine rg_put X hI (o := 0) (j := 46) (k := 146) rfl rfl rfl rfl inG6 tyX6 tyX6_ok nmX6 (by decide) rfl wF_X6_221 rfl rfl rfl rfl dX6_enter_59 (fun H locs hI => ?_)
      obtain ⟨μ10, eμ10, h⟩ := nm_some h
      rw [← eμ10] at hI
      refine lv_aload_n hx hb dX6_enter_62 rfl (lv_at hl 0 rfl) ?_
      refine lv_aload_n hx hb dX6_enter_63 rfl (lv_at hl 0 rfl) ?_
      refine rg_getR X hI (o := 0) (j := 15) (k := 8) rfl rfl rfl inG6 (by decide) rfl wF_X6_31 dX6_enter_64 ?_
      refine lv_iload_n hx hb dX6_enter_67 rfl (lv_at hl 1 rfl) ?_
      obtain ⟨hn11, h⟩ := gd_some h
      refine rg_ald X hI (o := 8) rfl hn11 dX6_enter_68 ?_
      obtain ⟨x12, ex12, h⟩ := nm_some h
      refine rg_top ex12 ?_
      refine rg_put X hI (o := 0) (j := 38) (k := 138) rfl rfl rfl rfl inG6 tyX6 tyX6_ok nmX6 (by decide) rfl wF_X6_239 rfl rfl rfl rfl dX6_enter_69 (fun H locs hI => ?_)
      obtain ⟨μ13, eμ13, h⟩ := nm_some h
      rw [← eμ13] at hI
      cases h
      exact hend H locs _ _ hI dX6_enter_72
    · have h := it_neg c9 h
      refine lv_aload_n hx hb dX6_enter_31 rfl (lv_at hl 0 rfl) ?_
      refine rg_getR X hI (o := 0) (j := 48) (k := 26) rfl rfl rfl inG6 (by decide) rfl wF_X6_85 dX6_enter_32 ?_
      refine lv_bipush (v := 8) hx hb dX6_enter_35 (by decide) ?_
      refine lv_aload_n hx hb dX6_enter_37 rfl (lv_at hl 0 rfl) ?_
      refine rg_get X hI (o := 0) (j := 46) (k := 146) rfl rfl rfl inG6 (by decide) rfl wF_X6_221 dX6_enter_38 ?_
      refine lv_imul hx hb dX6_enter_41 ?_
      refine lv_iload_n hx hb dX6_enter_42 rfl (lv_at hl 2 rfl) ?_
      refine lv_iadd hx hb dX6_enter_43 ?_
      refine lv_iconst (v := 0) hx hb dX6_enter_44 (by decide) ?_
      obtain ⟨hn14, h⟩ := gd_some h
      refine rg_ast X hI (o := 26) rfl rfl hn14 dX6_enter_45 (fun H locs hI => ?_)
      obtain ⟨μ15, eμ15, h⟩ := nm_some h
      rw [← eμ15] at hI
      obtain ⟨x16, ex16, h⟩ := nm_some h
      refine lv_iinc (v := x16) (lv' := [(3, .int x16), (0, .ref (ρ 0)), (1, .int a1)]) hx hb dX6_enter_46 hl (k := 2) rfl (by rw [ex16]; rfl) (by decide) rfl (fun ls hl => ?_)
      refine lv_goto (tgt := 25) hx hb dX6_enter_49 (by decide) ?_
      exact ih8 x16 μ15 H locs ls (lv_sub hl [1, 2, 0] rfl) hI h
set_option maxHeartbeats 4000000 in
set_option maxRecDepth 100000 in
theorem c_M_compile (l : Launch) (D : va_G) (cI : ClassId) (ρ : Nat → Nat) {N : Nat} (hgt : Nat) (hh : 7 ≤ hgt)  {μ ν : St} {r : Int32} (h : f_M_compile N μ = some (r, ν)) : CI l yX6_compile cX6_compile 2 (some .int) hgt TM cI D ρ [.ref (ρ 0)] μ r ν := by
  obtain ⟨g, rfl⟩ : ∃ g, hgt = g + 1 := ⟨hgt - 1, by omega⟩
  unfold f_M_compile at h
  refine CI_of (own := RX6) (by decide) rfl (Nat.le_of_ble_eq_true rfl) rfl ?_
  intro p e s m args below meth c Q A H locs X hI hend ls hl
  have hx := X.1.1
  have hb := X.1.2.1
  have hl : lv_has ls 2 [(0, .ref (ρ 0))] := hl
  refine lv_aload_n hx hb dX6_compile_0 rfl (lv_at hl 0 rfl) ?_
  refine lv_iconst (v := 0) hx hb dX6_compile_1 (by decide) ?_
  refine rg_put X hI (o := 0) (j := 0) (k := 100) rfl rfl rfl rfl inG6 tyX6 tyX6_ok nmX6 (by decide) rfl wF_X6_97 rfl rfl rfl rfl dX6_compile_2 (fun H locs hI => ?_)
  obtain ⟨μ1, eμ1, h⟩ := nm_some h
  rw [← eμ1] at hI
  refine lv_aload_n hx hb dX6_compile_5 rfl (lv_at hl 0 rfl) ?_
  obtain ⟨μ3, hc2, h⟩ := ca_some h
  refine rc_vv (o := 0) (As := []) X hI (c_M_readText l D cI ρ g (by omega) hc2) rfl rfl gV_X6_227 hd_X6_readText (by decide) (Nat.le_refl _) hl.1 rfl (Nat.le_of_ble_eq_true rfl) dX6_compile_6 (fun H locs hI => ?_)
  refine lv_aload_n hx hb dX6_compile_9 rfl (lv_at hl 0 rfl) ?_
  refine lv_iconst (v := 0) hx hb dX6_compile_10 (by decide) ?_
  refine rg_put X hI (o := 0) (j := 1) (k := 101) rfl rfl rfl rfl inG6 tyX6 tyX6_ok nmX6 (by decide) rfl wF_X6_101 rfl rfl rfl rfl dX6_compile_11 (fun H locs hI => ?_)
  obtain ⟨μ4, eμ4, h⟩ := nm_some h
  rw [← eμ4] at hI
  refine lv_aload_n hx hb dX6_compile_14 rfl (lv_at hl 0 rfl) ?_
  refine rg_get X hI (o := 0) (j := 3) (k := 103) rfl rfl rfl inG6 (by decide) rfl wF_X6_107 dX6_compile_15 ?_
  refine lv_if_le (tgt := 35) hx hb dX6_compile_18 (by decide) (fun c5 => ?_) (fun c5 => ?_)
  · have h := it_pos c5 h
    refine lv_aload_n hx hb dX6_compile_35 rfl (lv_at hl 0 rfl) ?_
    refine lv_iconst (v := 0) hx hb dX6_compile_36 (by decide) ?_
    refine rg_put X hI (o := 0) (j := 17) (k := 117) rfl rfl rfl rfl inG6 tyX6 tyX6_ok nmX6 (by decide) rfl wF_X6_230 rfl rfl rfl rfl dX6_compile_37 (fun H locs hI => ?_)
    obtain ⟨μ6, eμ6, h⟩ := nm_some h
    rw [← eμ6] at hI
    refine lv_iconst (v := 0) hx hb dX6_compile_40 (by decide) ?_
    refine lv_istore_n (lv' := [(1, .int (0 : Int32)), (0, .ref (ρ 0))]) hx hb dX6_compile_41 rfl hl (by decide) rfl (fun ls hl => ?_)
    refine lp_elim (fun (k9 : Int32 → St → Option (Int32 × St)) => ∀ (x7 : Int32) (μ8 : St) (H : Heap) (locs : List Loc) (ls : Array Slot), lv_has ls 2 [(0, .ref (ρ 0)), (1, .int x7)] → RI TM cI D A s.heap ρ μ8 H locs → k9 x7 μ8 = some (r, ν) → W p l e (rmL (g + 1)) s m args below meth c H locs 0 0 Q (F0 m 42 ls [])) ?_ ?_ N (0 : Int32) μ6 H locs ls (lv_sub hl [1, 0] rfl) hI h
    · intro x7 μ8 H locs ls hl hI h
      cases h
    · intro k9 ih10 x7 μ8 H locs ls hl hI h
      try dsimp only at h
      refine lv_iload_n hx hb dX6_compile_42 rfl (lv_at hl 1 rfl) ?_
      refine lv_bipush (v := 6) hx hb dX6_compile_43 (by decide) ?_
      refine lv_icmp_ge (tgt := 101) hx hb dX6_compile_45 (by decide) (fun c11 => ?_) (fun c11 => ?_)
      · have h := it_pos c11 h
        refine lv_iconst (v := 0) hx hb dX6_compile_101 (by decide) ?_
        refine lv_istore_n (lv' := [(1, .int (0 : Int32)), (0, .ref (ρ 0))]) hx hb dX6_compile_102 rfl hl (by decide) rfl (fun ls hl => ?_)
        refine lp_elim (fun (k14 : Int32 → St → Option (Int32 × St)) => ∀ (x12 : Int32) (μ13 : St) (H : Heap) (locs : List Loc) (ls : Array Slot), lv_has ls 2 [(0, .ref (ρ 0)), (1, .int x12)] → RI TM cI D A s.heap ρ μ13 H locs → k14 x12 μ13 = some (r, ν) → W p l e (rmL (g + 1)) s m args below meth c H locs 0 0 Q (F0 m 103 ls [])) ?_ ?_ N (0 : Int32) μ8 H locs ls (lv_sub hl [1, 0] rfl) hI h
        · intro x12 μ13 H locs ls hl hI h
          cases h
        · intro k14 ih15 x12 μ13 H locs ls hl hI h
          try dsimp only at h
          refine lv_iload_n hx hb dX6_compile_103 rfl (lv_at hl 1 rfl) ?_
          refine lv_aload_n hx hb dX6_compile_104 rfl (lv_at hl 0 rfl) ?_
          refine rg_get X hI (o := 0) (j := 8) (k := 108) rfl rfl rfl inG6 (by decide) rfl wF_X6_121 dX6_compile_105 ?_
          refine lv_icmp_ge (tgt := 166) hx hb dX6_compile_108 (by decide) (fun c16 => ?_) (fun c16 => ?_)
          · have h := it_pos c16 h
            refine lv_aload_n hx hb dX6_compile_166 rfl (lv_at hl 0 rfl) ?_
            refine lv_iconst (v := 0) hx hb dX6_compile_167 (by decide) ?_
            refine rg_put X hI (o := 0) (j := 37) (k := 137) rfl rfl rfl rfl inG6 tyX6 tyX6_ok nmX6 (by decide) rfl wF_X6_233 rfl rfl rfl rfl dX6_compile_168 (fun H locs hI => ?_)
            obtain ⟨μ17, eμ17, h⟩ := nm_some h
            rw [← eμ17] at hI
            refine lv_aload_n hx hb dX6_compile_171 rfl (lv_at hl 0 rfl) ?_
            obtain ⟨μ19, hc18, h⟩ := ca_some h
            refine rc_vv (o := 0) (As := []) X hI (c_M_nothing l D cI ρ g (by omega) hc18) rfl rfl gV_X6_236 hd_X6_nothing (by decide) (Nat.le_refl _) hl.1 rfl (Nat.le_of_ble_eq_true rfl) dX6_compile_172 (fun H locs hI => ?_)
            refine lv_aload_n hx hb dX6_compile_175 rfl (lv_at hl 0 rfl) ?_
            refine rg_get X hI (o := 0) (j := 17) (k := 117) rfl rfl rfl inG6 (by decide) rfl wF_X6_230 dX6_compile_176 ?_
            cases h
            exact hend H locs _ _ hI dX6_compile_179
          · have h := it_neg c16 h
            refine lv_aload_n hx hb dX6_compile_111 rfl (lv_at hl 0 rfl) ?_
            refine rg_getR X hI (o := 0) (j := 11) (k := 4) rfl rfl rfl inG6 (by decide) rfl wF_X6_19 dX6_compile_112 ?_
            refine lv_iload_n hx hb dX6_compile_115 rfl (lv_at hl 1 rfl) ?_
            refine lv_aload_n hx hb dX6_compile_116 rfl (lv_at hl 0 rfl) ?_
            refine rg_getR X hI (o := 0) (j := 9) (k := 2) rfl rfl rfl inG6 (by decide) rfl wF_X6_13 dX6_compile_117 ?_
            refine lv_iload_n hx hb dX6_compile_120 rfl (lv_at hl 1 rfl) ?_
            obtain ⟨hn20, h⟩ := gd_some h
            refine rg_ald X hI (o := 2) rfl hn20 dX6_compile_121 ?_
            obtain ⟨x21, ex21, h⟩ := nm_some h
            refine rg_top ex21 ?_
            obtain ⟨hn22, h⟩ := gd_some h
            refine rg_ast X hI (o := 4) rfl rfl hn22 dX6_compile_122 (fun H locs hI => ?_)
            obtain ⟨μ23, eμ23, h⟩ := nm_some h
            rw [← eμ23] at hI
            refine lv_aload_n hx hb dX6_compile_123 rfl (lv_at hl 0 rfl) ?_
            refine rg_getR X hI (o := 0) (j := 12) (k := 5) rfl rfl rfl inG6 (by decide) rfl wF_X6_22 dX6_compile_124 ?_
            refine lv_iload_n hx hb dX6_compile_127 rfl (lv_at hl 1 rfl) ?_
            refine lv_aload_n hx hb dX6_compile_128 rfl (lv_at hl 0 rfl) ?_
            refine rg_getR X hI (o := 0) (j := 9) (k := 2) rfl rfl rfl inG6 (by decide) rfl wF_X6_13 dX6_compile_129 ?_
            refine lv_iload_n hx hb dX6_compile_132 rfl (lv_at hl 1 rfl) ?_
            obtain ⟨hn24, h⟩ := gd_some h
            refine rg_ald X hI (o := 2) rfl hn24 dX6_compile_133 ?_
            obtain ⟨x25, ex25, h⟩ := nm_some h
            refine rg_top ex25 ?_
            refine lv_bipush (v := 7) hx hb dX6_compile_134 (by decide) ?_
            obtain ⟨k27, ek27, h⟩ := jn_some h
            have hj28 : ∀ (y29 : Int32) (ls : Array Slot), lv_has ls 2 [(0, .ref (ρ 0)), (1, .int x12)] → k27 y29 = some (r, ν) → W p l e (rmL (g + 1)) s m args below meth c H locs 0 0 Q (F0 m 159 ls [.int y29, .int x12, .ref (ρ 5)]) := by
              intro y29 ls hl h
              rw [ek27] at h
              try dsimp only at h
              obtain ⟨hn30, h⟩ := gd_some h
              refine rg_ast X hI (o := 5) rfl rfl hn30 dX6_compile_159 (fun H locs hI => ?_)
              obtain ⟨μ31, eμ31, h⟩ := nm_some h
              rw [← eμ31] at hI
              obtain ⟨x32, ex32, h⟩ := nm_some h
              refine lv_iinc (v := x32) (lv' := [(1, .int x32), (0, .ref (ρ 0))]) hx hb dX6_compile_160 hl (k := 1) rfl (by rw [ex32]; rfl) (by decide) rfl (fun ls hl => ?_)
              refine lv_goto (tgt := 103) hx hb dX6_compile_163 (by decide) ?_
              exact ih15 x32 μ31 H locs ls (lv_sub hl [1, 0] rfl) hI h
            refine lv_icmp_ne (tgt := 153) hx hb dX6_compile_136 (by decide) (fun c33 => ?_) (fun c33 => ?_)
            · have h := it_neg c33 h
              refine lv_aload_n hx hb dX6_compile_153 rfl (lv_at hl 0 rfl) ?_
              refine rg_getR X hI (o := 0) (j := 10) (k := 3) rfl rfl rfl inG6 (by decide) rfl wF_X6_16 dX6_compile_154 ?_
              refine lv_iload_n hx hb dX6_compile_157 rfl (lv_at hl 1 rfl) ?_
              obtain ⟨hn34, h⟩ := gd_some h
              refine rg_ald X hI (o := 3) rfl hn34 dX6_compile_158 ?_
              obtain ⟨x35, ex35, h⟩ := nm_some h
              refine rg_top ex35 ?_
              exact hj28 x35 ls (lv_sub hl [0, 1] rfl) h
            · have h := it_pos c33 h
              refine lv_aload_n hx hb dX6_compile_139 rfl (lv_at hl 0 rfl) ?_
              refine rg_getR X hI (o := 0) (j := 20) (k := 11) rfl rfl rfl inG6 (by decide) rfl wF_X6_40 dX6_compile_140 ?_
              refine lv_aload_n hx hb dX6_compile_143 rfl (lv_at hl 0 rfl) ?_
              refine rg_getR X hI (o := 0) (j := 10) (k := 3) rfl rfl rfl inG6 (by decide) rfl wF_X6_16 dX6_compile_144 ?_
              refine lv_iload_n hx hb dX6_compile_147 rfl (lv_at hl 1 rfl) ?_
              obtain ⟨hn36, h⟩ := gd_some h
              refine rg_ald X hI (o := 3) rfl hn36 dX6_compile_148 ?_
              obtain ⟨x37, ex37, h⟩ := nm_some h
              refine rg_top ex37 ?_
              obtain ⟨hn38, h⟩ := gd_some h
              refine rg_ald X hI (o := 11) rfl hn38 dX6_compile_149 ?_
              obtain ⟨x39, ex39, h⟩ := nm_some h
              refine rg_top ex39 ?_
              refine lv_goto (tgt := 159) hx hb dX6_compile_150 (by decide) ?_
              exact hj28 x39 ls (lv_sub hl [0, 1] rfl) h
      · have h := it_neg c11 h
        refine lv_aload_n hx hb dX6_compile_48 rfl (lv_at hl 0 rfl) ?_
        refine rg_getR X hI (o := 0) (j := 15) (k := 8) rfl rfl rfl inG6 (by decide) rfl wF_X6_31 dX6_compile_49 ?_
        refine lv_iload_n hx hb dX6_compile_52 rfl (lv_at hl 1 rfl) ?_
        refine lv_aload_n hx hb dX6_compile_53 rfl (lv_at hl 0 rfl) ?_
        refine rg_getR X hI (o := 0) (j := 13) (k := 6) rfl rfl rfl inG6 (by decide) rfl wF_X6_25 dX6_compile_54 ?_
        refine lv_iload_n hx hb dX6_compile_57 rfl (lv_at hl 1 rfl) ?_
        obtain ⟨hn40, h⟩ := gd_some h
        refine rg_ald X hI (o := 6) rfl hn40 dX6_compile_58 ?_
        obtain ⟨x41, ex41, h⟩ := nm_some h
        refine rg_top ex41 ?_
        obtain ⟨hn42, h⟩ := gd_some h
        refine rg_ast X hI (o := 8) rfl rfl hn42 dX6_compile_59 (fun H locs hI => ?_)
        obtain ⟨μ43, eμ43, h⟩ := nm_some h
        rw [← eμ43] at hI
        refine lv_aload_n hx hb dX6_compile_60 rfl (lv_at hl 0 rfl) ?_
        refine rg_getR X hI (o := 0) (j := 16) (k := 9) rfl rfl rfl inG6 (by decide) rfl wF_X6_34 dX6_compile_61 ?_
        refine lv_iload_n hx hb dX6_compile_64 rfl (lv_at hl 1 rfl) ?_
        refine lv_aload_n hx hb dX6_compile_65 rfl (lv_at hl 0 rfl) ?_
        refine rg_getR X hI (o := 0) (j := 14) (k := 7) rfl rfl rfl inG6 (by decide) rfl wF_X6_28 dX6_compile_66 ?_
        refine lv_iload_n hx hb dX6_compile_69 rfl (lv_at hl 1 rfl) ?_
        obtain ⟨hn44, h⟩ := gd_some h
        refine rg_ald X hI (o := 7) rfl hn44 dX6_compile_70 ?_
        obtain ⟨x45, ex45, h⟩ := nm_some h
        refine rg_top ex45 ?_
        obtain ⟨hn46, h⟩ := gd_some h
        refine rg_ast X hI (o := 9) rfl rfl hn46 dX6_compile_71 (fun H locs hI => ?_)
        obtain ⟨μ47, eμ47, h⟩ := nm_some h
        rw [← eμ47] at hI
        refine lv_aload_n hx hb dX6_compile_72 rfl (lv_at hl 0 rfl) ?_
        refine lv_dup hx hb dX6_compile_73 rfl ?_
        refine rg_get X hI (o := 0) (j := 17) (k := 117) rfl rfl rfl inG6 (by decide) rfl wF_X6_230 dX6_compile_74 ?_
        refine lv_aload_n hx hb dX6_compile_77 rfl (lv_at hl 0 rfl) ?_
        refine rg_getR X hI (o := 0) (j := 15) (k := 8) rfl rfl rfl inG6 (by decide) rfl wF_X6_31 dX6_compile_78 ?_
        refine lv_iload_n hx hb dX6_compile_81 rfl (lv_at hl 1 rfl) ?_
        obtain ⟨hn48, h⟩ := gd_some h
        refine rg_ald X hI (o := 8) rfl hn48 dX6_compile_82 ?_
        obtain ⟨x49, ex49, h⟩ := nm_some h
        refine rg_top ex49 ?_
        obtain ⟨k51, ek51, h⟩ := jn_some h
        have hj52 : ∀ (y53 : Int32) (ls : Array Slot), lv_has ls 2 [(0, .ref (ρ 0)), (1, .int x7)] → k51 y53 = some (r, ν) → W p l e (rmL (g + 1)) s m args below meth c H locs 0 0 Q (F0 m 91 ls [.int y53, .int (μ47 117 0), .ref (ρ 0)]) := by
          intro y53 ls hl h
          rw [ek51] at h
          try dsimp only at h
          refine lv_iadd hx hb dX6_compile_91 ?_
          refine rg_put X hI (o := 0) (j := 17) (k := 117) rfl rfl rfl rfl inG6 tyX6 tyX6_ok nmX6 (by decide) rfl wF_X6_230 rfl rfl rfl rfl dX6_compile_92 (fun H locs hI => ?_)
          obtain ⟨μ54, eμ54, h⟩ := nm_some h
          rw [← eμ54] at hI
          obtain ⟨x55, ex55, h⟩ := nm_some h
          refine lv_iinc (v := x55) (lv' := [(1, .int x55), (0, .ref (ρ 0))]) hx hb dX6_compile_95 hl (k := 1) rfl (by rw [ex55]; rfl) (by decide) rfl (fun ls hl => ?_)
          refine lv_goto (tgt := 42) hx hb dX6_compile_98 (by decide) ?_
          exact ih10 x55 μ54 H locs ls (lv_sub hl [1, 0] rfl) hI h
        refine lv_if_lt (tgt := 90) hx hb dX6_compile_83 (by decide) (fun c56 => ?_) (fun c56 => ?_)
        · have h := it_pos c56 h
          refine lv_iconst (v := 0) hx hb dX6_compile_90 (by decide) ?_
          exact hj52 (0 : Int32) ls (lv_sub hl [0, 1] rfl) h
        · have h := it_neg c56 h
          refine lv_iconst (v := 1) hx hb dX6_compile_86 (by decide) ?_
          refine lv_goto (tgt := 91) hx hb dX6_compile_87 (by decide) ?_
          exact hj52 (1 : Int32) ls (lv_sub hl [0, 1] rfl) h
  · have h := it_neg c5 h
    refine lv_sipush (v := -1000) hx hb dX6_compile_21 (by decide) ?_
    refine lv_aload_n hx hb dX6_compile_24 rfl (lv_at hl 0 rfl) ?_
    refine rg_get X hI (o := 0) (j := 3) (k := 103) rfl rfl rfl inG6 (by decide) rfl wF_X6_107 dX6_compile_25 ?_
    refine lv_imul hx hb dX6_compile_28 ?_
    refine lv_aload_n hx hb dX6_compile_29 rfl (lv_at hl 0 rfl) ?_
    refine rg_get X hI (o := 0) (j := 4) (k := 104) rfl rfl rfl inG6 (by decide) rfl wF_X6_110 dX6_compile_30 ?_
    refine lv_isub hx hb dX6_compile_33 ?_
    cases h
    exact hend H locs _ _ hI dX6_compile_34
set_option maxHeartbeats 4000000 in
set_option maxRecDepth 100000 in
theorem c_M_start (l : Launch) (D : va_G) (cI : ClassId) (ρ : Nat → Nat) {N : Nat} (hgt : Nat) (hh : 2 ≤ hgt)  {μ ν : St} {r : Int32} (h : f_M_start N μ = some (r, ν)) : CI l yX6_start cX6_start 1 (some .boolean) hgt TM cI D ρ [.ref (ρ 0)] μ r ν := by
  obtain ⟨g, rfl⟩ : ∃ g, hgt = g + 1 := ⟨hgt - 1, by omega⟩
  unfold f_M_start at h
  refine CZ_of (own := RX6) (by decide) rfl (Nat.le_of_ble_eq_true rfl) rfl ?_
  intro p e s m args below meth c Q A H locs X hI hend ls hl
  have hx := X.1.1
  have hb := X.1.2.1
  have hl : lv_has ls 1 [(0, .ref (ρ 0))] := hl
  refine lv_aload_n hx hb dX6_start_0 rfl (lv_at hl 0 rfl) ?_
  refine lv_aload_n hx hb dX6_start_1 rfl (lv_at hl 0 rfl) ?_
  refine rg_get X hI (o := 0) (j := 17) (k := 117) rfl rfl rfl inG6 (by decide) rfl wF_X6_230 dX6_start_2 ?_
  obtain ⟨k2, ek2, h⟩ := jn_some h
  have hj3 : ∀ (y4 : Int32) (ls : Array Slot), lv_has ls 1 [(0, .ref (ρ 0))] → k2 y4 = some (r, ν) → W p l e (rmL (g + 1)) s m args below meth c H locs 0 0 Q (F0 m 13 ls [.int y4, .ref (ρ 0)]) := by
    intro y4 ls hl h
    rw [ek2] at h
    try dsimp only at h
    refine rg_put X hI (o := 0) (j := 0) (k := 100) rfl rfl rfl rfl inG6 tyX6 tyX6_ok nmX6 (by decide) rfl wF_X6_97 rfl rfl rfl rfl dX6_start_13 (fun H locs hI => ?_)
    obtain ⟨μ5, eμ5, h⟩ := nm_some h
    rw [← eμ5] at hI
    refine lv_aload_n hx hb dX6_start_16 rfl (lv_at hl 0 rfl) ?_
    refine rg_get X hI (o := 0) (j := 0) (k := 100) rfl rfl rfl inG6 (by decide) rfl wF_X6_97 dX6_start_17 ?_
    refine lv_if_le (tgt := 25) hx hb dX6_start_20 (by decide) (fun c6 => ?_) (fun c6 => ?_)
    · have h := it_pos c6 h
      refine lv_aload_n hx hb dX6_start_25 rfl (lv_at hl 0 rfl) ?_
      obtain ⟨μ8, hc7, h⟩ := ca_some h
      refine rc_vv (o := 0) (As := []) X hI (c_M_nothing l D cI ρ g (by omega) hc7) rfl rfl gV_X6_236 hd_X6_nothing (by decide) (Nat.le_refl _) hl.1 rfl (Nat.le_of_ble_eq_true rfl) dX6_start_26 (fun H locs hI => ?_)
      refine lv_aload_n hx hb dX6_start_29 rfl (lv_at hl 0 rfl) ?_
      refine lv_iconst (v := 0) hx hb dX6_start_30 (by decide) ?_
      refine lv_iconst (v := 0) hx hb dX6_start_31 (by decide) ?_
      obtain ⟨μ10, hc9, h⟩ := ca_some h
      refine rc_vv (o := 0) (As := [.int (0 : Int32), .int (0 : Int32)]) X hI (c_M_enter l D cI ρ g (by omega) hc9) rfl rfl gV_X6_242 hd_X6_enter (by decide) (Nat.le_refl _) hl.1 rfl (Nat.le_of_ble_eq_true rfl) dX6_start_32 (fun H locs hI => ?_)
      refine lv_aload_n hx hb dX6_start_35 rfl (lv_at hl 0 rfl) ?_
      refine lv_iconst (v := 1) hx hb dX6_start_36 (by decide) ?_
      refine rg_put X hI (o := 0) (j := 37) (k := 137) rfl rfl rfl rfl inG6 tyX6 tyX6_ok nmX6 (by decide) rfl wF_X6_233 rfl rfl rfl rfl dX6_start_37 (fun H locs hI => ?_)
      obtain ⟨μ11, eμ11, h⟩ := nm_some h
      rw [← eμ11] at hI
      refine lv_iconst (v := 1) hx hb dX6_start_40 (by decide) ?_
      cases h
      exact hend H locs _ _ (by decide) hI dX6_start_41
    · have h := it_neg c6 h
      refine lv_iconst (v := 0) hx hb dX6_start_23 (by decide) ?_
      cases h
      exact hend H locs _ _ (by decide) hI dX6_start_24
  refine lv_if_ne (tgt := 12) hx hb dX6_start_5 (by decide) (fun c12 => ?_) (fun c12 => ?_)
  · have h := it_neg c12 h
    refine lv_iconst (v := 0) hx hb dX6_start_12 (by decide) ?_
    exact hj3 (0 : Int32) ls (lv_sub hl [0] rfl) h
  · have h := it_pos c12 h
    refine lv_iconst (v := 1) hx hb dX6_start_8 (by decide) ?_
    refine lv_goto (tgt := 13) hx hb dX6_start_9 (by decide) ?_
    exact hj3 (1 : Int32) ls (lv_sub hl [0] rfl) h
set_option maxHeartbeats 4000000 in
set_option maxRecDepth 100000 in
theorem c_M_key (l : Launch) (D : va_G) (cI : ClassId) (ρ : Nat → Nat) (hgt : Nat) (hh : 1 ≤ hgt) {a1 : Int32} {μ ν : St} {r : Int32} (h : f_M_key a1 μ = some (r, ν)) : CI l yX6_key cX6_key 2 (some .int) hgt TM cI D ρ [.ref (ρ 0), .int a1] μ r ν := by
  obtain ⟨g, rfl⟩ : ∃ g, hgt = g + 1 := ⟨hgt - 1, by omega⟩
  unfold f_M_key at h
  refine CI_of (own := RX6) (by decide) rfl (Nat.le_of_ble_eq_true rfl) rfl ?_
  intro p e s m args below meth c Q A H locs X hI hend ls hl
  have hx := X.1.1
  have hb := X.1.2.1
  have hl : lv_has ls 2 [(0, .ref (ρ 0)), (1, .int a1)] := hl
  refine lv_aload_n hx hb dX6_key_0 rfl (lv_at hl 0 rfl) ?_
  refine lv_iload_n hx hb dX6_key_1 rfl (lv_at hl 1 rfl) ?_
  refine lv_sipush (v := -32768) hx hb dX6_key_2 (by decide) ?_
  obtain ⟨k2, ek2, h⟩ := jn_some h
  have hj3 : ∀ (y4 : Int32) (ls : Array Slot), lv_has ls 2 [(0, .ref (ρ 0)), (1, .int a1)] → k2 y4 = some (r, ν) → W p l e (rmL (g + 1)) s m args below meth c H locs 0 0 Q (F0 m 33 ls [.int y4, .ref (ρ 0)]) := by
    intro y4 ls hl h
    rw [ek2] at h
    try dsimp only at h
    refine rg_put X hI (o := 0) (j := 0) (k := 100) rfl rfl rfl rfl inG6 tyX6 tyX6_ok nmX6 (by decide) rfl wF_X6_97 rfl rfl rfl rfl dX6_key_33 (fun H locs hI => ?_)
    obtain ⟨μ5, eμ5, h⟩ := nm_some h
    rw [← eμ5] at hI
    refine lv_aload_n hx hb dX6_key_36 rfl (lv_at hl 0 rfl) ?_
    refine rg_get X hI (o := 0) (j := 0) (k := 100) rfl rfl rfl inG6 (by decide) rfl wF_X6_97 dX6_key_37 ?_
    refine lv_if_ne (tgt := 63) hx hb dX6_key_40 (by decide) (fun c6 => ?_) (fun c6 => ?_)
    · have h := it_neg c6 h
      refine lv_aload_n hx hb dX6_key_63 rfl (lv_at hl 0 rfl) ?_
      refine rg_get X hI (o := 0) (j := 40) (k := 140) rfl rfl rfl inG6 (by decide) rfl wF_X6_245 dX6_key_64 ?_
      cases h
      exact hend H locs _ _ hI dX6_key_67
    · have h := it_pos c6 h
      refine lv_aload_n hx hb dX6_key_43 rfl (lv_at hl 0 rfl) ?_
      refine rg_getR X hI (o := 0) (j := 44) (k := 24) rfl rfl rfl inG6 (by decide) rfl wF_X6_79 dX6_key_44 ?_
      refine lv_aload_n hx hb dX6_key_47 rfl (lv_at hl 0 rfl) ?_
      refine rg_get X hI (o := 0) (j := 40) (k := 140) rfl rfl rfl inG6 (by decide) rfl wF_X6_245 dX6_key_48 ?_
      refine lv_iload_n hx hb dX6_key_51 rfl (lv_at hl 1 rfl) ?_
      obtain ⟨hn7, h⟩ := gd_some h
      refine rg_ast X hI (o := 24) rfl rfl hn7 dX6_key_52 (fun H locs hI => ?_)
      obtain ⟨μ8, eμ8, h⟩ := nm_some h
      rw [← eμ8] at hI
      refine lv_aload_n hx hb dX6_key_53 rfl (lv_at hl 0 rfl) ?_
      refine lv_dup hx hb dX6_key_54 rfl ?_
      refine rg_get X hI (o := 0) (j := 40) (k := 140) rfl rfl rfl inG6 (by decide) rfl wF_X6_245 dX6_key_55 ?_
      refine lv_iconst (v := 1) hx hb dX6_key_58 (by decide) ?_
      refine lv_iadd hx hb dX6_key_59 ?_
      refine rg_put X hI (o := 0) (j := 40) (k := 140) rfl rfl rfl rfl inG6 tyX6 tyX6_ok nmX6 (by decide) rfl wF_X6_245 rfl rfl rfl rfl dX6_key_60 (fun H locs hI => ?_)
      obtain ⟨μ9, eμ9, h⟩ := nm_some h
      rw [← eμ9] at hI
      refine lv_aload_n hx hb dX6_key_63 rfl (lv_at hl 0 rfl) ?_
      refine rg_get X hI (o := 0) (j := 40) (k := 140) rfl rfl rfl inG6 (by decide) rfl wF_X6_245 dX6_key_64 ?_
      cases h
      exact hend H locs _ _ hI dX6_key_67
  obtain ⟨k11, ek11, h⟩ := jn_some h
  have hj12 : ∀ (ls : Array Slot), lv_has ls 2 [(0, .ref (ρ 0)), (1, .int a1)] → k11 = some (r, ν) → W p l e (rmL (g + 1)) s m args below meth c H locs 0 0 Q (F0 m 15 ls [.ref (ρ 0)]) := by
    intro ls hl h
    rw [ek11] at h
    refine lv_iconst (v := 1) hx hb dX6_key_15 (by decide) ?_
    refine lv_goto (tgt := 33) hx hb dX6_key_16 (by decide) ?_
    exact hj3 (1 : Int32) ls (lv_sub hl [0, 1] rfl) h
  refine lv_icmp_lt (tgt := 15) hx hb dX6_key_5 (by decide) (fun c13 => ?_) (fun c13 => ?_)
  · have h := it_pos c13 h
    exact hj12 ls (lv_sub hl [0, 1] rfl) h
  · have h := it_neg c13 h
    refine lv_iload_n hx hb dX6_key_8 rfl (lv_at hl 1 rfl) ?_
    refine lv_sipush (v := 32767) hx hb dX6_key_9 (by decide) ?_
    refine lv_icmp_le (tgt := 19) hx hb dX6_key_12 (by decide) (fun c14 => ?_) (fun c14 => ?_)
    · have h := it_pos c14 h
      refine lv_aload_n hx hb dX6_key_19 rfl (lv_at hl 0 rfl) ?_
      refine rg_get X hI (o := 0) (j := 40) (k := 140) rfl rfl rfl inG6 (by decide) rfl wF_X6_245 dX6_key_20 ?_
      refine lv_bipush (v := 8) hx hb dX6_key_23 (by decide) ?_
      refine lv_icmp_ne (tgt := 32) hx hb dX6_key_25 (by decide) (fun c15 => ?_) (fun c15 => ?_)
      · have h := it_neg c15 h
        refine lv_iconst (v := 0) hx hb dX6_key_32 (by decide) ?_
        exact hj3 (0 : Int32) ls (lv_sub hl [0, 1] rfl) h
      · have h := it_pos c15 h
        refine lv_iconst (v := 2) hx hb dX6_key_28 (by decide) ?_
        refine lv_goto (tgt := 33) hx hb dX6_key_29 (by decide) ?_
        exact hj3 (2 : Int32) ls (lv_sub hl [0, 1] rfl) h
    · have h := it_neg c14 h
      exact hj12 ls (lv_sub hl [0, 1] rfl) h
set_option maxHeartbeats 4000000 in
set_option maxRecDepth 100000 in
theorem c_M_reads (l : Launch) (D : va_G) (cI : ClassId) (ρ : Nat → Nat) {N : Nat} (hgt : Nat) (hh : 3 ≤ hgt)  {μ ν : St} (h : f_M_reads N μ = some ν) : CV l yX6_reads cX6_reads 2 hgt TM cI D ρ [.ref (ρ 0)] μ ν := by
  obtain ⟨g, rfl⟩ : ∃ g, hgt = g + 1 := ⟨hgt - 1, by omega⟩
  unfold f_M_reads at h
  refine CV_of (own := RX6) (by decide) rfl (Nat.le_of_ble_eq_true rfl) ?_
  intro p e s m args below meth c Q A H locs X hI hend ls hl
  have hx := X.1.1
  have hb := X.1.2.1
  have hl : lv_has ls 2 [(0, .ref (ρ 0))] := hl
  refine lv_aload_n hx hb dX6_reads_0 rfl (lv_at hl 0 rfl) ?_
  refine rg_get X hI (o := 0) (j := 40) (k := 140) rfl rfl rfl inG6 (by decide) rfl wF_X6_245 dX6_reads_1 ?_
  refine lv_if_ne (tgt := 23) hx hb dX6_reads_4 (by decide) (fun c1 => ?_) (fun c1 => ?_)
  · have h := it_neg c1 h
    refine lv_aload_n hx hb dX6_reads_23 rfl (lv_at hl 0 rfl) ?_
    refine lv_aload_n hx hb dX6_reads_24 rfl (lv_at hl 0 rfl) ?_
    refine rg_getR X hI (o := 0) (j := 44) (k := 24) rfl rfl rfl inG6 (by decide) rfl wF_X6_79 dX6_reads_25 ?_
    refine lv_iconst (v := 0) hx hb dX6_reads_28 (by decide) ?_
    obtain ⟨hn2, h⟩ := gd_some h
    refine rg_ald X hI (o := 24) rfl hn2 dX6_reads_29 ?_
    obtain ⟨x3, ex3, h⟩ := nm_some h
    refine rg_top ex3 ?_
    obtain ⟨μ5, hc4, h⟩ := ca_some h
    refine rc_vv (o := 0) (As := [.int x3]) X hI (c_M_push l D cI ρ g (by omega) hc4) rfl rfl gV_X6_251 hd_X6_push (by decide) (Nat.le_refl _) hl.1 rfl (Nat.le_of_ble_eq_true rfl) dX6_reads_30 (fun H locs hI => ?_)
    refine lv_aload_n hx hb dX6_reads_33 rfl (lv_at hl 0 rfl) ?_
    refine lv_dup hx hb dX6_reads_34 rfl ?_
    refine rg_get X hI (o := 0) (j := 40) (k := 140) rfl rfl rfl inG6 (by decide) rfl wF_X6_245 dX6_reads_35 ?_
    refine lv_iconst (v := 1) hx hb dX6_reads_38 (by decide) ?_
    refine lv_isub hx hb dX6_reads_39 ?_
    refine rg_put X hI (o := 0) (j := 40) (k := 140) rfl rfl rfl rfl inG6 tyX6 tyX6_ok nmX6 (by decide) rfl wF_X6_245 rfl rfl rfl rfl dX6_reads_40 (fun H locs hI => ?_)
    obtain ⟨μ6, eμ6, h⟩ := nm_some h
    rw [← eμ6] at hI
    refine lv_iconst (v := 0) hx hb dX6_reads_43 (by decide) ?_
    refine lv_istore_n (lv' := [(1, .int (0 : Int32)), (0, .ref (ρ 0))]) hx hb dX6_reads_44 rfl hl (by decide) rfl (fun ls hl => ?_)
    refine lp_elim (fun (k9 : Int32 → St → Option St) => ∀ (x7 : Int32) (μ8 : St) (H : Heap) (locs : List Loc) (ls : Array Slot), lv_has ls 2 [(0, .ref (ρ 0)), (1, .int x7)] → RI TM cI D A s.heap ρ μ8 H locs → k9 x7 μ8 = some ν → W p l e (rmL (g + 1)) s m args below meth c H locs 0 0 Q (F0 m 45 ls [])) ?_ ?_ N (0 : Int32) μ6 H locs ls (lv_sub hl [1, 0] rfl) hI h
    · intro x7 μ8 H locs ls hl hI h
      cases h
    · intro k9 ih10 x7 μ8 H locs ls hl hI h
      try dsimp only at h
      refine lv_iload_n hx hb dX6_reads_45 rfl (lv_at hl 1 rfl) ?_
      refine lv_aload_n hx hb dX6_reads_46 rfl (lv_at hl 0 rfl) ?_
      refine rg_get X hI (o := 0) (j := 40) (k := 140) rfl rfl rfl inG6 (by decide) rfl wF_X6_245 dX6_reads_47 ?_
      refine lv_icmp_ge (tgt := 73) hx hb dX6_reads_50 (by decide) (fun c11 => ?_) (fun c11 => ?_)
      · have h := it_pos c11 h
        cases h
        exact hend H locs _ _ hI dX6_reads_73
      · have h := it_neg c11 h
        refine lv_aload_n hx hb dX6_reads_53 rfl (lv_at hl 0 rfl) ?_
        refine rg_getR X hI (o := 0) (j := 44) (k := 24) rfl rfl rfl inG6 (by decide) rfl wF_X6_79 dX6_reads_54 ?_
        refine lv_iload_n hx hb dX6_reads_57 rfl (lv_at hl 1 rfl) ?_
        refine lv_aload_n hx hb dX6_reads_58 rfl (lv_at hl 0 rfl) ?_
        refine rg_getR X hI (o := 0) (j := 44) (k := 24) rfl rfl rfl inG6 (by decide) rfl wF_X6_79 dX6_reads_59 ?_
        refine lv_iload_n hx hb dX6_reads_62 rfl (lv_at hl 1 rfl) ?_
        refine lv_iconst (v := 1) hx hb dX6_reads_63 (by decide) ?_
        refine lv_iadd hx hb dX6_reads_64 ?_
        obtain ⟨hn12, h⟩ := gd_some h
        refine rg_ald X hI (o := 24) rfl hn12 dX6_reads_65 ?_
        obtain ⟨x13, ex13, h⟩ := nm_some h
        refine rg_top ex13 ?_
        obtain ⟨hn14, h⟩ := gd_some h
        refine rg_ast X hI (o := 24) rfl rfl hn14 dX6_reads_66 (fun H locs hI => ?_)
        obtain ⟨μ15, eμ15, h⟩ := nm_some h
        rw [← eμ15] at hI
        obtain ⟨x16, ex16, h⟩ := nm_some h
        refine lv_iinc (v := x16) (lv' := [(1, .int x16), (0, .ref (ρ 0))]) hx hb dX6_reads_67 hl (k := 1) rfl (by rw [ex16]; rfl) (by decide) rfl (fun ls hl => ?_)
        refine lv_goto (tgt := 45) hx hb dX6_reads_70 (by decide) ?_
        exact ih10 x16 μ15 H locs ls (lv_sub hl [1, 0] rfl) hI h
  · have h := it_pos c1 h
    refine lv_aload_n hx hb dX6_reads_7 rfl (lv_at hl 0 rfl) ?_
    refine lv_iconst (v := 2) hx hb dX6_reads_8 (by decide) ?_
    refine rg_put X hI (o := 0) (j := 37) (k := 137) rfl rfl rfl rfl inG6 tyX6 tyX6_ok nmX6 (by decide) rfl wF_X6_233 rfl rfl rfl rfl dX6_reads_9 (fun H locs hI => ?_)
    obtain ⟨μ17, eμ17, h⟩ := nm_some h
    rw [← eμ17] at hI
    refine lv_aload_n hx hb dX6_reads_12 rfl (lv_at hl 0 rfl) ?_
    refine lv_dup hx hb dX6_reads_13 rfl ?_
    refine rg_get X hI (o := 0) (j := 38) (k := 138) rfl rfl rfl inG6 (by decide) rfl wF_X6_239 dX6_reads_14 ?_
    refine lv_iconst (v := 1) hx hb dX6_reads_17 (by decide) ?_
    refine lv_isub hx hb dX6_reads_18 ?_
    refine rg_put X hI (o := 0) (j := 38) (k := 138) rfl rfl rfl rfl inG6 tyX6 tyX6_ok nmX6 (by decide) rfl wF_X6_239 rfl rfl rfl rfl dX6_reads_19 (fun H locs hI => ?_)
    obtain ⟨μ18, eμ18, h⟩ := nm_some h
    rw [← eμ18] at hI
    cases h
    exact hend H locs _ _ hI dX6_reads_22
set_option maxHeartbeats 4000000 in
set_option maxRecDepth 100000 in
theorem c_M_operates (l : Launch) (D : va_G) (cI : ClassId) (ρ : Nat → Nat) (hgt : Nat) (hh : 3 ≤ hgt) {a1 : Int32} {μ ν : St} (h : f_M_operates a1 μ = some ν) : CV l yX6_operates cX6_operates 4 hgt TM cI D ρ [.ref (ρ 0), .int a1] μ ν := by
  obtain ⟨g, rfl⟩ : ∃ g, hgt = g + 1 := ⟨hgt - 1, by omega⟩
  unfold f_M_operates at h
  refine CV_of (own := RX6) (by decide) rfl (Nat.le_of_ble_eq_true rfl) ?_
  intro p e s m args below meth c Q A H locs X hI hend ls hl
  have hx := X.1.1
  have hb := X.1.2.1
  have hl : lv_has ls 4 [(0, .ref (ρ 0)), (1, .int a1)] := hl
  refine lv_aload_n hx hb dX6_operates_0 rfl (lv_at hl 0 rfl) ?_
  obtain ⟨x2, μ3, hc1, h⟩ := ca2_some h
  refine rc_vi (o := 0) (As := []) X hI (c_M_pop l D cI ρ g (by omega) hc1) rfl rfl gV_X6_254 hd_X6_pop (by decide) (Nat.le_refl _) hl.1 rfl (Nat.le_of_ble_eq_true rfl) dX6_operates_1 (fun H locs hI => ?_)
  refine lv_istore_n (lv' := [(2, .int x2), (0, .ref (ρ 0)), (1, .int a1)]) hx hb dX6_operates_4 rfl hl (by decide) rfl (fun ls hl => ?_)
  refine lv_aload_n hx hb dX6_operates_5 rfl (lv_at hl 1 rfl) ?_
  obtain ⟨x5, μ6, hc4, h⟩ := ca2_some h
  refine rc_vi (o := 0) (As := []) X hI (c_M_pop l D cI ρ g (by omega) hc4) rfl rfl gV_X6_254 hd_X6_pop (by decide) (Nat.le_refl _) hl.1 rfl (Nat.le_of_ble_eq_true rfl) dX6_operates_6 (fun H locs hI => ?_)
  refine lv_istore_n (lv' := [(3, .int x5), (2, .int x2), (0, .ref (ρ 0)), (1, .int a1)]) hx hb dX6_operates_9 rfl hl (by decide) rfl (fun ls hl => ?_)
  refine lv_iload_n hx hb dX6_operates_10 rfl (lv_at hl 3 rfl) ?_
  refine lv_bipush (v := 16) hx hb dX6_operates_11 (by decide) ?_
  obtain ⟨k8, ek8, h⟩ := jn_some h
  have hj9 : ∀ (ls : Array Slot), lv_has ls 4 [(0, .ref (ρ 0)), (1, .int a1), (2, .int x2), (3, .int x5)] → k8 = some ν → W p l e (rmL (g + 1)) s m args below meth c H locs 0 0 Q (F0 m 32 ls []) := by
    intro ls hl h
    rw [ek8] at h
    refine lv_aload_n hx hb dX6_operates_32 rfl (lv_at hl 0 rfl) ?_
    refine lv_iload_n hx hb dX6_operates_33 rfl (lv_at hl 1 rfl) ?_
    refine lv_bipush (v := 13) hx hb dX6_operates_34 (by decide) ?_
    obtain ⟨k11, ek11, h⟩ := jn_some h
    have hj12 : ∀ (y13 : Int32) (ls : Array Slot), lv_has ls 4 [] → k11 y13 = some ν → W p l e (rmL (g + 1)) s m args below meth c H locs 0 0 Q (F0 m 122 ls [.int y13, .ref (ρ 0)]) := by
      intro y13 ls hl h
      rw [ek11] at h
      try dsimp only at h
      obtain ⟨μ15, hc14, h⟩ := ca_some h
      refine rc_vv (o := 0) (As := [.int y13]) X hI (c_M_push l D cI ρ g (by omega) hc14) rfl rfl gV_X6_251 hd_X6_push (by decide) (Nat.le_refl _) hl.1 rfl (Nat.le_of_ble_eq_true rfl) dX6_operates_122 (fun H locs hI => ?_)
      cases h
      exact hend H locs _ _ hI dX6_operates_125
    refine lv_icmp_ne (tgt := 45) hx hb dX6_operates_36 (by decide) (fun c16 => ?_) (fun c16 => ?_)
    · have h := it_neg c16 h
      refine lv_iload_n hx hb dX6_operates_45 rfl (lv_at hl 1 rfl) ?_
      refine lv_bipush (v := 14) hx hb dX6_operates_46 (by decide) ?_
      refine lv_icmp_ne (tgt := 57) hx hb dX6_operates_48 (by decide) (fun c17 => ?_) (fun c17 => ?_)
      · have h := it_neg c17 h
        refine lv_iload_n hx hb dX6_operates_57 rfl (lv_at hl 1 rfl) ?_
        refine lv_bipush (v := 15) hx hb dX6_operates_58 (by decide) ?_
        refine lv_icmp_ne (tgt := 69) hx hb dX6_operates_60 (by decide) (fun c18 => ?_) (fun c18 => ?_)
        · have h := it_neg c18 h
          refine lv_iload_n hx hb dX6_operates_69 rfl (lv_at hl 1 rfl) ?_
          refine lv_bipush (v := 16) hx hb dX6_operates_70 (by decide) ?_
          refine lv_icmp_ne (tgt := 81) hx hb dX6_operates_72 (by decide) (fun c19 => ?_) (fun c19 => ?_)
          · have h := it_neg c19 h
            refine lv_iload_n hx hb dX6_operates_81 rfl (lv_at hl 1 rfl) ?_
            refine lv_bipush (v := 17) hx hb dX6_operates_82 (by decide) ?_
            refine lv_icmp_ne (tgt := 93) hx hb dX6_operates_84 (by decide) (fun c20 => ?_) (fun c20 => ?_)
            · have h := it_neg c20 h
              refine lv_iload_n hx hb dX6_operates_93 rfl (lv_at hl 1 rfl) ?_
              refine lv_bipush (v := 18) hx hb dX6_operates_94 (by decide) ?_
              refine lv_icmp_ne (tgt := 112) hx hb dX6_operates_96 (by decide) (fun c21 => ?_) (fun c21 => ?_)
              · have h := it_neg c21 h
                refine lv_iload_n hx hb dX6_operates_112 rfl (lv_at hl 3 rfl) ?_
                refine lv_iload_n hx hb dX6_operates_113 rfl (lv_at hl 2 rfl) ?_
                refine lv_icmp_ne (tgt := 121) hx hb dX6_operates_114 (by decide) (fun c22 => ?_) (fun c22 => ?_)
                · have h := it_neg c22 h
                  refine lv_iconst (v := 0) hx hb dX6_operates_121 (by decide) ?_
                  exact hj12 (0 : Int32) ls (lv_sub hl [] rfl) h
                · have h := it_pos c22 h
                  refine lv_iconst (v := 1) hx hb dX6_operates_117 (by decide) ?_
                  refine lv_goto (tgt := 122) hx hb dX6_operates_118 (by decide) ?_
                  exact hj12 (1 : Int32) ls (lv_sub hl [] rfl) h
              · have h := it_pos c21 h
                refine lv_iload_n hx hb dX6_operates_99 rfl (lv_at hl 3 rfl) ?_
                refine lv_iload_n hx hb dX6_operates_100 rfl (lv_at hl 2 rfl) ?_
                refine lv_icmp_ge (tgt := 108) hx hb dX6_operates_101 (by decide) (fun c23 => ?_) (fun c23 => ?_)
                · have h := it_pos c23 h
                  refine lv_iconst (v := 0) hx hb dX6_operates_108 (by decide) ?_
                  refine lv_goto (tgt := 122) hx hb dX6_operates_109 (by decide) ?_
                  exact hj12 (0 : Int32) ls (lv_sub hl [] rfl) h
                · have h := it_neg c23 h
                  refine lv_iconst (v := 1) hx hb dX6_operates_104 (by decide) ?_
                  refine lv_goto (tgt := 122) hx hb dX6_operates_105 (by decide) ?_
                  exact hj12 (1 : Int32) ls (lv_sub hl [] rfl) h
            · have h := it_pos c20 h
              refine lv_iload_n hx hb dX6_operates_87 rfl (lv_at hl 3 rfl) ?_
              refine lv_iload_n hx hb dX6_operates_88 rfl (lv_at hl 2 rfl) ?_
              obtain ⟨hz24, h⟩ := gd_some h
              refine lv_irem hx hb dX6_operates_89 (nz_ne hz24) ?_
              refine lv_goto (tgt := 122) hx hb dX6_operates_90 (by decide) ?_
              exact hj12 (x5 - x5 / x2 * x2) ls (lv_sub hl [] rfl) h
          · have h := it_pos c19 h
            refine lv_iload_n hx hb dX6_operates_75 rfl (lv_at hl 3 rfl) ?_
            refine lv_iload_n hx hb dX6_operates_76 rfl (lv_at hl 2 rfl) ?_
            obtain ⟨hz25, h⟩ := gd_some h
            refine lv_idiv hx hb dX6_operates_77 (nz_ne hz25) ?_
            refine lv_goto (tgt := 122) hx hb dX6_operates_78 (by decide) ?_
            exact hj12 (x5 / x2) ls (lv_sub hl [] rfl) h
        · have h := it_pos c18 h
          refine lv_iload_n hx hb dX6_operates_63 rfl (lv_at hl 3 rfl) ?_
          refine lv_iload_n hx hb dX6_operates_64 rfl (lv_at hl 2 rfl) ?_
          refine lv_imul hx hb dX6_operates_65 ?_
          refine lv_goto (tgt := 122) hx hb dX6_operates_66 (by decide) ?_
          exact hj12 (x5 * x2) ls (lv_sub hl [] rfl) h
      · have h := it_pos c17 h
        refine lv_iload_n hx hb dX6_operates_51 rfl (lv_at hl 3 rfl) ?_
        refine lv_iload_n hx hb dX6_operates_52 rfl (lv_at hl 2 rfl) ?_
        refine lv_isub hx hb dX6_operates_53 ?_
        refine lv_goto (tgt := 122) hx hb dX6_operates_54 (by decide) ?_
        exact hj12 (x5 - x2) ls (lv_sub hl [] rfl) h
    · have h := it_pos c16 h
      refine lv_iload_n hx hb dX6_operates_39 rfl (lv_at hl 3 rfl) ?_
      refine lv_iload_n hx hb dX6_operates_40 rfl (lv_at hl 2 rfl) ?_
      refine lv_iadd hx hb dX6_operates_41 ?_
      refine lv_goto (tgt := 122) hx hb dX6_operates_42 (by decide) ?_
      exact hj12 (x5 + x2) ls (lv_sub hl [] rfl) h
  obtain ⟨k27, ek27, h⟩ := jn_some h
  have hj28 : ∀ (ls : Array Slot), lv_has ls 4 [(0, .ref (ρ 0)), (1, .int a1), (2, .int x2), (3, .int x5)] → k27 = some ν → W p l e (rmL (g + 1)) s m args below meth c H locs 0 0 Q (F0 m 22 ls []) := by
    intro ls hl h
    rw [ek27] at h
    refine lv_iload_n hx hb dX6_operates_22 rfl (lv_at hl 2 rfl) ?_
    refine lv_if_ne (tgt := 32) hx hb dX6_operates_23 (by decide) (fun c29 => ?_) (fun c29 => ?_)
    · have h := it_neg c29 h
      exact hj9 ls (lv_sub hl [0, 1, 2, 3] rfl) h
    · have h := it_pos c29 h
      refine lv_aload_n hx hb dX6_operates_26 rfl (lv_at hl 0 rfl) ?_
      refine lv_iconst (v := 4) hx hb dX6_operates_27 (by decide) ?_
      refine rg_put X hI (o := 0) (j := 37) (k := 137) rfl rfl rfl rfl inG6 tyX6 tyX6_ok nmX6 (by decide) rfl wF_X6_233 rfl rfl rfl rfl dX6_operates_28 (fun H locs hI => ?_)
      obtain ⟨μ30, eμ30, h⟩ := nm_some h
      rw [← eμ30] at hI
      cases h
      exact hend H locs _ _ hI dX6_operates_31
  refine lv_icmp_eq (tgt := 22) hx hb dX6_operates_13 (by decide) (fun c31 => ?_) (fun c31 => ?_)
  · have h := it_pos c31 h
    exact hj28 ls (lv_sub hl [2, 3, 1, 0] rfl) h
  · have h := it_neg c31 h
    refine lv_iload_n hx hb dX6_operates_16 rfl (lv_at hl 3 rfl) ?_
    refine lv_bipush (v := 17) hx hb dX6_operates_17 (by decide) ?_
    refine lv_icmp_ne (tgt := 32) hx hb dX6_operates_19 (by decide) (fun c32 => ?_) (fun c32 => ?_)
    · have h := it_neg c32 h
      exact hj9 ls (lv_sub hl [2, 3, 1, 0] rfl) h
    · have h := it_pos c32 h
      exact hj28 ls (lv_sub hl [2, 3, 1, 0] rfl) h
set_option maxHeartbeats 4000000 in
set_option maxRecDepth 100000 in
theorem c_M_calls (l : Launch) (D : va_G) (cI : ClassId) (ρ : Nat → Nat) {N : Nat} (hgt : Nat) (hh : 2 ≤ hgt) {a1 : Int32} {μ ν : St} (h : f_M_calls N a1 μ = some ν) : CV l yX6_calls cX6_calls 5 hgt TM cI D ρ [.ref (ρ 0), .int a1] μ ν := by
  obtain ⟨g, rfl⟩ : ∃ g, hgt = g + 1 := ⟨hgt - 1, by omega⟩
  unfold f_M_calls at h
  refine CV_of (own := RX6) (by decide) rfl (Nat.le_of_ble_eq_true rfl) ?_
  intro p e s m args below meth c Q A H locs X hI hend ls hl
  have hx := X.1.1
  have hb := X.1.2.1
  have hl : lv_has ls 5 [(0, .ref (ρ 0)), (1, .int a1)] := hl
  refine lv_aload_n hx hb dX6_calls_0 rfl (lv_at hl 0 rfl) ?_
  refine rg_get X hI (o := 0) (j := 46) (k := 146) rfl rfl rfl inG6 (by decide) rfl wF_X6_221 dX6_calls_1 ?_
  refine lv_bipush (v := 10) hx hb dX6_calls_4 (by decide) ?_
  refine lv_icmp_ne (tgt := 16) hx hb dX6_calls_6 (by decide) (fun c1 => ?_) (fun c1 => ?_)
  · have h := it_neg c1 h
    refine lv_aload_n hx hb dX6_calls_16 rfl (lv_at hl 0 rfl) ?_
    refine rg_getR X hI (o := 0) (j := 16) (k := 9) rfl rfl rfl inG6 (by decide) rfl wF_X6_34 dX6_calls_17 ?_
    refine lv_iload_n hx hb dX6_calls_20 rfl (lv_at hl 1 rfl) ?_
    obtain ⟨hn2, h⟩ := gd_some h
    refine rg_ald X hI (o := 9) rfl hn2 dX6_calls_21 ?_
    obtain ⟨x3, ex3, h⟩ := nm_some h
    refine rg_top ex3 ?_
    refine lv_istore_n (lv' := [(2, .int x3), (0, .ref (ρ 0)), (1, .int a1)]) hx hb dX6_calls_22 rfl hl (by decide) rfl (fun ls hl => ?_)
    refine lv_aload_n hx hb dX6_calls_23 rfl (lv_at hl 1 rfl) ?_
    refine rg_get X hI (o := 0) (j := 47) (k := 147) rfl rfl rfl inG6 (by decide) rfl wF_X6_224 dX6_calls_24 ?_
    refine lv_iload_n hx hb dX6_calls_27 rfl (lv_at hl 0 rfl) ?_
    refine lv_isub hx hb dX6_calls_28 ?_
    obtain ⟨x4, ex4, h⟩ := nm_some h
    refine rg_top ex4 ?_
    refine lv_istore_n (lv' := [(3, .int x4), (2, .int x3), (0, .ref (ρ 0)), (1, .int a1)]) hx hb dX6_calls_29 rfl hl (by decide) rfl (fun ls hl => ?_)
    refine lv_aload_n hx hb dX6_calls_30 rfl (lv_at hl 2 rfl) ?_
    refine lv_iload_n hx hb dX6_calls_31 rfl (lv_at hl 0 rfl) ?_
    refine rg_put X hI (o := 0) (j := 47) (k := 147) rfl rfl rfl rfl inG6 tyX6 tyX6_ok nmX6 (by decide) rfl wF_X6_224 rfl rfl rfl rfl dX6_calls_32 (fun H locs hI => ?_)
    obtain ⟨μ5, eμ5, h⟩ := nm_some h
    rw [← eμ5] at hI
    refine lv_aload_n hx hb dX6_calls_35 rfl (lv_at hl 2 rfl) ?_
    refine lv_iload_n hx hb dX6_calls_36 rfl (lv_at hl 3 rfl) ?_
    refine lv_aload_n hx hb dX6_calls_37 rfl (lv_at hl 2 rfl) ?_
    refine rg_get X hI (o := 0) (j := 38) (k := 138) rfl rfl rfl inG6 (by decide) rfl wF_X6_239 dX6_calls_38 ?_
    obtain ⟨μ7, hc6, h⟩ := ca_some h
    refine rc_vv (o := 0) (As := [.int a1, .int (μ5 138 0)]) X hI (c_M_enter l D cI ρ g (by omega) hc6) rfl rfl gV_X6_242 hd_X6_enter (by decide) (Nat.le_refl _) hl.1 rfl (Nat.le_of_ble_eq_true rfl) dX6_calls_41 (fun H locs hI => ?_)
    refine lv_iconst (v := 0) hx hb dX6_calls_44 (by decide) ?_
    refine lv_istore (lv' := [(4, .int (0 : Int32)), (3, .int x4), (2, .int x3), (0, .ref (ρ 0)), (1, .int a1)]) hx hb dX6_calls_45 hl (by decide) rfl (fun ls hl => ?_)
    refine lp_elim (fun (k10 : Int32 → St → Option St) => ∀ (x8 : Int32) (μ9 : St) (H : Heap) (locs : List Loc) (ls : Array Slot), lv_has ls 5 [(0, .ref (ρ 0)), (2, .int x3), (3, .int x4), (4, .int x8)] → RI TM cI D A s.heap ρ μ9 H locs → k10 x8 μ9 = some ν → W p l e (rmL (g + 1)) s m args below meth c H locs 0 0 Q (F0 m 47 ls [])) ?_ ?_ N (0 : Int32) μ7 H locs ls (lv_sub hl [3, 2, 1, 0] rfl) hI h
    · intro x8 μ9 H locs ls hl hI h
      cases h
    · intro k10 ih11 x8 μ9 H locs ls hl hI h
      try dsimp only at h
      refine lv_iload hx hb dX6_calls_47 (lv_at hl 3 rfl) ?_
      refine lv_iload_n hx hb dX6_calls_49 rfl (lv_at hl 1 rfl) ?_
      refine lv_icmp_ge (tgt := 85) hx hb dX6_calls_50 (by decide) (fun c12 => ?_) (fun c12 => ?_)
      · have h := it_pos c12 h
        cases h
        exact hend H locs _ _ hI dX6_calls_85
      · have h := it_neg c12 h
        refine lv_aload_n hx hb dX6_calls_53 rfl (lv_at hl 0 rfl) ?_
        refine rg_getR X hI (o := 0) (j := 48) (k := 26) rfl rfl rfl inG6 (by decide) rfl wF_X6_85 dX6_calls_54 ?_
        refine lv_bipush (v := 8) hx hb dX6_calls_57 (by decide) ?_
        refine lv_aload_n hx hb dX6_calls_59 rfl (lv_at hl 0 rfl) ?_
        refine rg_get X hI (o := 0) (j := 46) (k := 146) rfl rfl rfl inG6 (by decide) rfl wF_X6_221 dX6_calls_60 ?_
        refine lv_iconst (v := 1) hx hb dX6_calls_63 (by decide) ?_
        refine lv_isub hx hb dX6_calls_64 ?_
        refine lv_imul hx hb dX6_calls_65 ?_
        refine lv_iload hx hb dX6_calls_66 (lv_at hl 3 rfl) ?_
        refine lv_iadd hx hb dX6_calls_68 ?_
        refine lv_aload_n hx hb dX6_calls_69 rfl (lv_at hl 0 rfl) ?_
        refine rg_getR X hI (o := 0) (j := 51) (k := 29) rfl rfl rfl inG6 (by decide) rfl wF_X6_94 dX6_calls_70 ?_
        refine lv_iload_n hx hb dX6_calls_73 rfl (lv_at hl 2 rfl) ?_
        refine lv_iload hx hb dX6_calls_74 (lv_at hl 3 rfl) ?_
        refine lv_iadd hx hb dX6_calls_76 ?_
        obtain ⟨hn13, h⟩ := gd_some h
        refine rg_ald X hI (o := 29) rfl hn13 dX6_calls_77 ?_
        obtain ⟨x14, ex14, h⟩ := nm_some h
        refine rg_top ex14 ?_
        obtain ⟨hn15, h⟩ := gd_some h
        refine rg_ast X hI (o := 26) rfl rfl hn15 dX6_calls_78 (fun H locs hI => ?_)
        obtain ⟨μ16, eμ16, h⟩ := nm_some h
        rw [← eμ16] at hI
        obtain ⟨x17, ex17, h⟩ := nm_some h
        refine lv_iinc (v := x17) (lv' := [(4, .int x17), (0, .ref (ρ 0)), (2, .int x3), (3, .int x4)]) hx hb dX6_calls_79 hl (k := 3) rfl (by rw [ex17]; rfl) (by decide) rfl (fun ls hl => ?_)
        refine lv_goto (tgt := 47) hx hb dX6_calls_82 (by decide) ?_
        exact ih11 x17 μ16 H locs ls (lv_sub hl [1, 2, 3, 0] rfl) hI h
  · have h := it_pos c1 h
    refine lv_aload_n hx hb dX6_calls_9 rfl (lv_at hl 0 rfl) ?_
    refine lv_bipush (v := 6) hx hb dX6_calls_10 (by decide) ?_
    refine rg_put X hI (o := 0) (j := 37) (k := 137) rfl rfl rfl rfl inG6 tyX6 tyX6_ok nmX6 (by decide) rfl wF_X6_233 rfl rfl rfl rfl dX6_calls_12 (fun H locs hI => ?_)
    obtain ⟨μ18, eμ18, h⟩ := nm_some h
    rw [← eμ18] at hI
    cases h
    exact hend H locs _ _ hI dX6_calls_15
set_option maxHeartbeats 4000000 in
set_option maxRecDepth 100000 in
theorem c_M_returns (l : Launch) (D : va_G) (cI : ClassId) (ρ : Nat → Nat) (hgt : Nat) (hh : 3 ≤ hgt)  {μ ν : St} (h : f_M_returns μ = some ν) : CV l yX6_returns cX6_returns 2 hgt TM cI D ρ [.ref (ρ 0)] μ ν := by
  obtain ⟨g, rfl⟩ : ∃ g, hgt = g + 1 := ⟨hgt - 1, by omega⟩
  unfold f_M_returns at h
  refine CV_of (own := RX6) (by decide) rfl (Nat.le_of_ble_eq_true rfl) ?_
  intro p e s m args below meth c Q A H locs X hI hend ls hl
  have hx := X.1.1
  have hb := X.1.2.1
  have hl : lv_has ls 2 [(0, .ref (ρ 0))] := hl
  refine lv_aload_n hx hb dX6_returns_0 rfl (lv_at hl 0 rfl) ?_
  obtain ⟨x2, μ3, hc1, h⟩ := ca2_some h
  refine rc_vi (o := 0) (As := []) X hI (c_M_pop l D cI ρ g (by omega) hc1) rfl rfl gV_X6_254 hd_X6_pop (by decide) (Nat.le_refl _) hl.1 rfl (Nat.le_of_ble_eq_true rfl) dX6_returns_1 (fun H locs hI => ?_)
  refine lv_istore_n (lv' := [(1, .int x2), (0, .ref (ρ 0))]) hx hb dX6_returns_4 rfl hl (by decide) rfl (fun ls hl => ?_)
  refine lv_aload_n hx hb dX6_returns_5 rfl (lv_at hl 1 rfl) ?_
  refine lv_dup hx hb dX6_returns_6 rfl ?_
  refine rg_get X hI (o := 0) (j := 46) (k := 146) rfl rfl rfl inG6 (by decide) rfl wF_X6_221 dX6_returns_7 ?_
  refine lv_iconst (v := 1) hx hb dX6_returns_10 (by decide) ?_
  refine lv_isub hx hb dX6_returns_11 ?_
  refine rg_put X hI (o := 0) (j := 46) (k := 146) rfl rfl rfl rfl inG6 tyX6 tyX6_ok nmX6 (by decide) rfl wF_X6_221 rfl rfl rfl rfl dX6_returns_12 (fun H locs hI => ?_)
  obtain ⟨μ4, eμ4, h⟩ := nm_some h
  rw [← eμ4] at hI
  refine lv_aload_n hx hb dX6_returns_15 rfl (lv_at hl 1 rfl) ?_
  refine lv_aload_n hx hb dX6_returns_16 rfl (lv_at hl 1 rfl) ?_
  refine rg_getR X hI (o := 0) (j := 50) (k := 28) rfl rfl rfl inG6 (by decide) rfl wF_X6_91 dX6_returns_17 ?_
  refine lv_aload_n hx hb dX6_returns_20 rfl (lv_at hl 1 rfl) ?_
  refine rg_get X hI (o := 0) (j := 46) (k := 146) rfl rfl rfl inG6 (by decide) rfl wF_X6_221 dX6_returns_21 ?_
  obtain ⟨hn5, h⟩ := gd_some h
  refine rg_ald X hI (o := 28) rfl hn5 dX6_returns_24 ?_
  obtain ⟨x6, ex6, h⟩ := nm_some h
  refine rg_top ex6 ?_
  refine rg_put X hI (o := 0) (j := 47) (k := 147) rfl rfl rfl rfl inG6 tyX6 tyX6_ok nmX6 (by decide) rfl wF_X6_224 rfl rfl rfl rfl dX6_returns_25 (fun H locs hI => ?_)
  obtain ⟨μ7, eμ7, h⟩ := nm_some h
  rw [← eμ7] at hI
  refine lv_aload_n hx hb dX6_returns_28 rfl (lv_at hl 1 rfl) ?_
  refine rg_get X hI (o := 0) (j := 46) (k := 146) rfl rfl rfl inG6 (by decide) rfl wF_X6_221 dX6_returns_29 ?_
  refine lv_if_ne (tgt := 41) hx hb dX6_returns_32 (by decide) (fun c8 => ?_) (fun c8 => ?_)
  · have h := it_neg c8 h
    refine lv_aload_n hx hb dX6_returns_41 rfl (lv_at hl 1 rfl) ?_
    refine lv_aload_n hx hb dX6_returns_42 rfl (lv_at hl 1 rfl) ?_
    refine rg_getR X hI (o := 0) (j := 49) (k := 27) rfl rfl rfl inG6 (by decide) rfl wF_X6_88 dX6_returns_43 ?_
    refine lv_aload_n hx hb dX6_returns_46 rfl (lv_at hl 1 rfl) ?_
    refine rg_get X hI (o := 0) (j := 46) (k := 146) rfl rfl rfl inG6 (by decide) rfl wF_X6_221 dX6_returns_47 ?_
    obtain ⟨hn9, h⟩ := gd_some h
    refine rg_ald X hI (o := 27) rfl hn9 dX6_returns_50 ?_
    obtain ⟨x10, ex10, h⟩ := nm_some h
    refine rg_top ex10 ?_
    refine rg_put X hI (o := 0) (j := 38) (k := 138) rfl rfl rfl rfl inG6 tyX6 tyX6_ok nmX6 (by decide) rfl wF_X6_239 rfl rfl rfl rfl dX6_returns_51 (fun H locs hI => ?_)
    obtain ⟨μ11, eμ11, h⟩ := nm_some h
    rw [← eμ11] at hI
    refine lv_aload_n hx hb dX6_returns_54 rfl (lv_at hl 1 rfl) ?_
    refine lv_iload_n hx hb dX6_returns_55 rfl (lv_at hl 0 rfl) ?_
    obtain ⟨μ13, hc12, h⟩ := ca_some h
    refine rc_vv (o := 0) (As := [.int x2]) X hI (c_M_push l D cI ρ g (by omega) hc12) rfl rfl gV_X6_251 hd_X6_push (by decide) (Nat.le_refl _) hl.1 rfl (Nat.le_of_ble_eq_true rfl) dX6_returns_56 (fun H locs hI => ?_)
    cases h
    exact hend H locs _ _ hI dX6_returns_59
  · have h := it_pos c8 h
    refine lv_aload_n hx hb dX6_returns_35 rfl (lv_at hl 1 rfl) ?_
    refine lv_iconst (v := 3) hx hb dX6_returns_36 (by decide) ?_
    refine rg_put X hI (o := 0) (j := 37) (k := 137) rfl rfl rfl rfl inG6 tyX6 tyX6_ok nmX6 (by decide) rfl wF_X6_233 rfl rfl rfl rfl dX6_returns_37 (fun H locs hI => ?_)
    obtain ⟨μ14, eμ14, h⟩ := nm_some h
    rw [← eμ14] at hI
    cases h
    exact hend H locs _ _ hI dX6_returns_40
set_option maxHeartbeats 4000000 in
set_option maxRecDepth 100000 in
theorem c_M_place (l : Launch) (D : va_G) (cI : ClassId) (ρ : Nat → Nat) (hgt : Nat) (hh : 3 ≤ hgt) {a1 : Int32} {a2 : Int32} {μ ν : St} (h : f_M_place a1 a2 μ = some ν) : CV l yX6_place cX6_place 5 hgt TM cI D ρ [.ref (ρ 0), .int a1, .int a2] μ ν := by
  obtain ⟨g, rfl⟩ : ∃ g, hgt = g + 1 := ⟨hgt - 1, by omega⟩
  unfold f_M_place at h
  refine CV_of (own := RX6) (by decide) rfl (Nat.le_of_ble_eq_true rfl) ?_
  intro p e s m args below meth c Q A H locs X hI hend ls hl
  have hx := X.1.1
  have hb := X.1.2.1
  have hl : lv_has ls 5 [(0, .ref (ρ 0)), (1, .int a1), (2, .int a2)] := hl
  refine lv_iload_n hx hb dX6_place_0 rfl (lv_at hl 2 rfl) ?_
  obtain ⟨k2, ek2, h⟩ := jn_some h
  have hj3 : ∀ (y4 : Int32) (μ1 : St) (H : Heap) (locs : List Loc) (ls : Array Slot), lv_has ls 5 [(0, .ref (ρ 0)), (1, .int a1), (2, .int a2)] → RI TM cI D A s.heap ρ μ1 H locs → k2 y4 μ1 = some ν → W p l e (rmL (g + 1)) s m args below meth c H locs 0 0 Q (F0 m 12 ls [.int y4]) := by
    intro y4 μ1 H locs ls hl hI h
    rw [ek2] at h
    try dsimp only at h
    refine lv_istore_n (lv' := [(3, .int y4), (0, .ref (ρ 0)), (1, .int a1), (2, .int a2)]) hx hb dX6_place_12 rfl hl (by decide) rfl (fun ls hl => ?_)
    refine lv_aload_n hx hb dX6_place_13 rfl (lv_at hl 1 rfl) ?_
    obtain ⟨x6, μ7, hc5, h⟩ := ca2_some h
    refine rc_vi (o := 0) (As := []) X hI (c_M_pop l D cI ρ g (by omega) hc5) rfl rfl gV_X6_254 hd_X6_pop (by decide) (Nat.le_refl _) hl.1 rfl (Nat.le_of_ble_eq_true rfl) dX6_place_14 (fun H locs hI => ?_)
    refine lv_istore (lv' := [(4, .int x6), (3, .int y4), (0, .ref (ρ 0)), (1, .int a1), (2, .int a2)]) hx hb dX6_place_17 hl (by decide) rfl (fun ls hl => ?_)
    refine lv_iload hx hb dX6_place_19 (lv_at hl 0 rfl) ?_
    obtain ⟨k9, ek9, h⟩ := jn_some h
    have hj10 : ∀ (ls : Array Slot), lv_has ls 5 [(0, .ref (ρ 0))] → k9 = some ν → W p l e (rmL (g + 1)) s m args below meth c H locs 0 0 Q (F0 m 31 ls []) := by
      intro ls hl h
      rw [ek9] at h
      refine lv_aload_n hx hb dX6_place_31 rfl (lv_at hl 0 rfl) ?_
      refine lv_iconst (v := 5) hx hb dX6_place_32 (by decide) ?_
      refine rg_put X hI (o := 0) (j := 37) (k := 137) rfl rfl rfl rfl inG6 tyX6 tyX6_ok nmX6 (by decide) rfl wF_X6_233 rfl rfl rfl rfl dX6_place_33 (fun H locs hI => ?_)
      obtain ⟨μ11, eμ11, h⟩ := nm_some h
      rw [← eμ11] at hI
      refine lv_goto (tgt := 75) hx hb dX6_place_36 (by decide) ?_
      cases h
      exact hend H locs _ _ hI dX6_place_75
    refine lv_if_lt (tgt := 31) hx hb dX6_place_21 (by decide) (fun c12 => ?_) (fun c12 => ?_)
    · have h := it_pos c12 h
      exact hj10 ls (lv_sub hl [2] rfl) h
    · have h := it_neg c12 h
      refine lv_iload hx hb dX6_place_24 (lv_at hl 0 rfl) ?_
      refine lv_bipush (v := 7) hx hb dX6_place_26 (by decide) ?_
      refine lv_icmp_le (tgt := 39) hx hb dX6_place_28 (by decide) (fun c13 => ?_) (fun c13 => ?_)
      · have h := it_pos c13 h
        refine lv_iload_n hx hb dX6_place_39 rfl (lv_at hl 4 rfl) ?_
        refine lv_if_eq (tgt := 59) hx hb dX6_place_40 (by decide) (fun c14 => ?_) (fun c14 => ?_)
        · have h := it_pos c14 h
          refine lv_aload_n hx hb dX6_place_59 rfl (lv_at hl 2 rfl) ?_
          refine lv_aload_n hx hb dX6_place_60 rfl (lv_at hl 2 rfl) ?_
          refine rg_getR X hI (o := 0) (j := 43) (k := 23) rfl rfl rfl inG6 (by decide) rfl wF_X6_76 dX6_place_61 ?_
          refine lv_bipush (v := 8) hx hb dX6_place_64 (by decide) ?_
          refine lv_iload_n hx hb dX6_place_66 rfl (lv_at hl 3 rfl) ?_
          refine lv_imul hx hb dX6_place_67 ?_
          refine lv_iload hx hb dX6_place_68 (lv_at hl 0 rfl) ?_
          refine lv_iadd hx hb dX6_place_70 ?_
          obtain ⟨hn15, h⟩ := gd_some h
          refine rg_ald X hI (o := 23) rfl hn15 dX6_place_71 ?_
          obtain ⟨x16, ex16, h⟩ := nm_some h
          refine rg_top ex16 ?_
          obtain ⟨μ18, hc17, h⟩ := ca_some h
          refine rc_vv (o := 0) (As := [.int x16]) X hI (c_M_push l D cI ρ g (by omega) hc17) rfl rfl gV_X6_251 hd_X6_push (by decide) (Nat.le_refl _) hl.1 rfl (Nat.le_of_ble_eq_true rfl) dX6_place_72 (fun H locs hI => ?_)
          cases h
          exact hend H locs _ _ hI dX6_place_75
        · have h := it_neg c14 h
          refine lv_aload_n hx hb dX6_place_43 rfl (lv_at hl 2 rfl) ?_
          refine rg_getR X hI (o := 0) (j := 43) (k := 23) rfl rfl rfl inG6 (by decide) rfl wF_X6_76 dX6_place_44 ?_
          refine lv_bipush (v := 8) hx hb dX6_place_47 (by decide) ?_
          refine lv_iload_n hx hb dX6_place_49 rfl (lv_at hl 3 rfl) ?_
          refine lv_imul hx hb dX6_place_50 ?_
          refine lv_iload hx hb dX6_place_51 (lv_at hl 0 rfl) ?_
          refine lv_iadd hx hb dX6_place_53 ?_
          refine lv_iload_n hx hb dX6_place_54 rfl (lv_at hl 1 rfl) ?_
          obtain ⟨hn19, h⟩ := gd_some h
          refine rg_ast X hI (o := 23) rfl rfl hn19 dX6_place_55 (fun H locs hI => ?_)
          obtain ⟨μ20, eμ20, h⟩ := nm_some h
          rw [← eμ20] at hI
          refine lv_goto (tgt := 75) hx hb dX6_place_56 (by decide) ?_
          cases h
          exact hend H locs _ _ hI dX6_place_75
      · have h := it_neg c13 h
        exact hj10 ls (lv_sub hl [2] rfl) h
  refine lv_if_eq (tgt := 11) hx hb dX6_place_1 (by decide) (fun c21 => ?_) (fun c21 => ?_)
  · have h := it_pos c21 h
    refine lv_iconst (v := 0) hx hb dX6_place_11 (by decide) ?_
    exact hj3 (0 : Int32) μ H locs ls (lv_sub hl [0, 1, 2] rfl) hI h
  · have h := it_neg c21 h
    refine lv_aload_n hx hb dX6_place_4 rfl (lv_at hl 0 rfl) ?_
    obtain ⟨x23, μ24, hc22, h⟩ := ca2_some h
    refine rc_vi (o := 0) (As := []) X hI (c_M_pop l D cI ρ g (by omega) hc22) rfl rfl gV_X6_254 hd_X6_pop (by decide) (Nat.le_refl _) hl.1 rfl (Nat.le_of_ble_eq_true rfl) dX6_place_5 (fun H locs hI => ?_)
    refine lv_goto (tgt := 12) hx hb dX6_place_8 (by decide) ?_
    exact hj3 x23 μ24 H locs ls (lv_sub hl [0, 1, 2] rfl) hI h
set_option maxHeartbeats 4000000 in
set_option maxRecDepth 100000 in
theorem c_M_prints (l : Launch) (D : va_G) (cI : ClassId) (ρ : Nat → Nat) (hgt : Nat) (hh : 2 ≤ hgt)  {μ ν : St} (h : f_M_prints μ = some ν) : CV l yX6_prints cX6_prints 1 hgt TM cI D ρ [.ref (ρ 0)] μ ν := by
  obtain ⟨g, rfl⟩ : ∃ g, hgt = g + 1 := ⟨hgt - 1, by omega⟩
  unfold f_M_prints at h
  refine CV_of (own := RX6) (by decide) rfl (Nat.le_of_ble_eq_true rfl) ?_
  intro p e s m args below meth c Q A H locs X hI hend ls hl
  have hx := X.1.1
  have hb := X.1.2.1
  have hl : lv_has ls 1 [(0, .ref (ρ 0))] := hl
  refine lv_aload_n hx hb dX6_prints_0 rfl (lv_at hl 0 rfl) ?_
  refine rg_getR X hI (o := 0) (j := 45) (k := 25) rfl rfl rfl inG6 (by decide) rfl wF_X6_82 dX6_prints_1 ?_
  refine lv_aload_n hx hb dX6_prints_4 rfl (lv_at hl 0 rfl) ?_
  refine rg_get X hI (o := 0) (j := 39) (k := 139) rfl rfl rfl inG6 (by decide) rfl wF_X6_215 dX6_prints_5 ?_
  refine lv_bipush (v := 32) hx hb dX6_prints_8 (by decide) ?_
  obtain ⟨hz1, h⟩ := gd_some h
  refine lv_irem hx hb dX6_prints_10 (nz_ne hz1) ?_
  refine lv_aload_n hx hb dX6_prints_11 rfl (lv_at hl 0 rfl) ?_
  obtain ⟨x3, μ4, hc2, h⟩ := ca2_some h
  refine rc_vi (o := 0) (As := []) X hI (c_M_pop l D cI ρ g (by omega) hc2) rfl rfl gV_X6_254 hd_X6_pop (by decide) (Nat.le_refl _) hl.1 rfl (Nat.le_of_ble_eq_true rfl) dX6_prints_12 (fun H locs hI => ?_)
  obtain ⟨hn5, h⟩ := gd_some h
  refine rg_ast X hI (o := 25) rfl rfl hn5 dX6_prints_15 (fun H locs hI => ?_)
  obtain ⟨μ6, eμ6, h⟩ := nm_some h
  rw [← eμ6] at hI
  refine lv_aload_n hx hb dX6_prints_16 rfl (lv_at hl 0 rfl) ?_
  refine lv_dup hx hb dX6_prints_17 rfl ?_
  refine rg_get X hI (o := 0) (j := 39) (k := 139) rfl rfl rfl inG6 (by decide) rfl wF_X6_215 dX6_prints_18 ?_
  refine lv_iconst (v := 1) hx hb dX6_prints_21 (by decide) ?_
  refine lv_iadd hx hb dX6_prints_22 ?_
  refine rg_put X hI (o := 0) (j := 39) (k := 139) rfl rfl rfl rfl inG6 tyX6 tyX6_ok nmX6 (by decide) rfl wF_X6_215 rfl rfl rfl rfl dX6_prints_23 (fun H locs hI => ?_)
  obtain ⟨μ7, eμ7, h⟩ := nm_some h
  rw [← eμ7] at hI
  cases h
  exact hend H locs _ _ hI dX6_prints_26
set_option maxHeartbeats 4000000 in
set_option maxRecDepth 100000 in
theorem c_M_does (l : Launch) (D : va_G) (cI : ClassId) (ρ : Nat → Nat) {N : Nat} (hgt : Nat) (hh : 4 ≤ hgt) {a1 : Int32} {a2 : Int32} {μ ν : St} (h : f_M_does N a1 a2 μ = some ν) : CV l yX6_does cX6_does 4 hgt TM cI D ρ [.ref (ρ 0), .int a1, .int a2] μ ν := by
  obtain ⟨g, rfl⟩ : ∃ g, hgt = g + 1 := ⟨hgt - 1, by omega⟩
  unfold f_M_does at h
  refine CV_of (own := RX6) (by decide) rfl (Nat.le_of_ble_eq_true rfl) ?_
  intro p e s m args below meth c Q A H locs X hI hend ls hl
  have hx := X.1.1
  have hb := X.1.2.1
  have hl : lv_has ls 4 [(0, .ref (ρ 0)), (1, .int a1), (2, .int a2)] := hl
  refine lv_bipush (v := 8) hx hb dX6_does_0 (by decide) ?_
  refine lv_aload_n hx hb dX6_does_2 rfl (lv_at hl 0 rfl) ?_
  refine rg_get X hI (o := 0) (j := 46) (k := 146) rfl rfl rfl inG6 (by decide) rfl wF_X6_221 dX6_does_3 ?_
  refine lv_iconst (v := 1) hx hb dX6_does_6 (by decide) ?_
  refine lv_isub hx hb dX6_does_7 ?_
  refine lv_imul hx hb dX6_does_8 ?_
  obtain ⟨x1, ex1, h⟩ := nm_some h
  refine rg_top ex1 ?_
  refine lv_istore_n (lv' := [(3, .int x1), (0, .ref (ρ 0)), (1, .int a1), (2, .int a2)]) hx hb dX6_does_9 rfl hl (by decide) rfl (fun ls hl => ?_)
  refine lv_iload_n hx hb dX6_does_10 rfl (lv_at hl 2 rfl) ?_
  by_cases c2 : a1 = (0 : Int32)
  · have h := it_pos c2 h
    refine rg_top c2.symm ?_
    refine lv_tableIn (off := 81) (tgt := 92) hx hb dX6_does_11 (by decide) (by decide) (by decide) (by decide) ?_
    refine lv_aload_n hx hb dX6_does_92 rfl (lv_at hl 1 rfl) ?_
    refine lv_iload_n hx hb dX6_does_93 rfl (lv_at hl 3 rfl) ?_
    obtain ⟨μ4, hc3, h⟩ := ca_some h
    refine rc_vv (o := 0) (As := [.int a2]) X hI (c_M_push l D cI ρ g (by omega) hc3) rfl rfl gV_X6_251 hd_X6_push (by decide) (Nat.le_refl _) hl.1 rfl (Nat.le_of_ble_eq_true rfl) dX6_does_94 (fun H locs hI => ?_)
    refine lv_goto (tgt := 280) hx hb dX6_does_97 (by decide) ?_
    cases h
    exact hend H locs _ _ hI dX6_does_280
  · have h := it_neg c2 h
    by_cases c5 : a1 = (1 : Int32)
    · have h := it_pos c5 h
      refine rg_top c5.symm ?_
      refine lv_tableIn (off := 89) (tgt := 100) hx hb dX6_does_11 (by decide) (by decide) (by decide) (by decide) ?_
      refine lv_aload_n hx hb dX6_does_100 rfl (lv_at hl 1 rfl) ?_
      obtain ⟨μ7, hc6, h⟩ := ca_some h
      refine rc_vv (o := 0) (As := []) X hI (c_M_reads l D cI ρ g (by omega) hc6) rfl rfl gV_X6_257 hd_X6_reads (by decide) (Nat.le_refl _) hl.1 rfl (Nat.le_of_ble_eq_true rfl) dX6_does_101 (fun H locs hI => ?_)
      refine lv_goto (tgt := 280) hx hb dX6_does_104 (by decide) ?_
      cases h
      exact hend H locs _ _ hI dX6_does_280
    · have h := it_neg c5 h
      by_cases c8 : a1 = (2 : Int32)
      · have h := it_pos c8 h
        refine rg_top c8.symm ?_
        refine lv_tableIn (off := 96) (tgt := 107) hx hb dX6_does_11 (by decide) (by decide) (by decide) (by decide) ?_
        refine lv_aload_n hx hb dX6_does_107 rfl (lv_at hl 1 rfl) ?_
        refine lv_aload_n hx hb dX6_does_108 rfl (lv_at hl 1 rfl) ?_
        refine rg_getR X hI (o := 0) (j := 42) (k := 22) rfl rfl rfl inG6 (by decide) rfl wF_X6_73 dX6_does_109 ?_
        refine lv_iload_n hx hb dX6_does_112 rfl (lv_at hl 3 rfl) ?_
        obtain ⟨hn9, h⟩ := gd_some h
        refine rg_ald X hI (o := 22) rfl hn9 dX6_does_113 ?_
        obtain ⟨x10, ex10, h⟩ := nm_some h
        refine rg_top ex10 ?_
        obtain ⟨μ12, hc11, h⟩ := ca_some h
        refine rc_vv (o := 0) (As := [.int x10]) X hI (c_M_push l D cI ρ g (by omega) hc11) rfl rfl gV_X6_251 hd_X6_push (by decide) (Nat.le_refl _) hl.1 rfl (Nat.le_of_ble_eq_true rfl) dX6_does_114 (fun H locs hI => ?_)
        refine lv_goto (tgt := 280) hx hb dX6_does_117 (by decide) ?_
        cases h
        exact hend H locs _ _ hI dX6_does_280
      · have h := it_neg c8 h
        by_cases c13 : a1 = (3 : Int32)
        · have h := it_pos c13 h
          refine rg_top c13.symm ?_
          refine lv_tableIn (off := 109) (tgt := 120) hx hb dX6_does_11 (by decide) (by decide) (by decide) (by decide) ?_
          refine lv_aload_n hx hb dX6_does_120 rfl (lv_at hl 1 rfl) ?_
          refine lv_aload_n hx hb dX6_does_121 rfl (lv_at hl 1 rfl) ?_
          refine rg_getR X hI (o := 0) (j := 48) (k := 26) rfl rfl rfl inG6 (by decide) rfl wF_X6_85 dX6_does_122 ?_
          refine lv_iload_n hx hb dX6_does_125 rfl (lv_at hl 0 rfl) ?_
          refine lv_iload_n hx hb dX6_does_126 rfl (lv_at hl 3 rfl) ?_
          refine lv_iadd hx hb dX6_does_127 ?_
          obtain ⟨hn14, h⟩ := gd_some h
          refine rg_ald X hI (o := 26) rfl hn14 dX6_does_128 ?_
          obtain ⟨x15, ex15, h⟩ := nm_some h
          refine rg_top ex15 ?_
          obtain ⟨μ17, hc16, h⟩ := ca_some h
          refine rc_vv (o := 0) (As := [.int x15]) X hI (c_M_push l D cI ρ g (by omega) hc16) rfl rfl gV_X6_251 hd_X6_push (by decide) (Nat.le_refl _) hl.1 rfl (Nat.le_of_ble_eq_true rfl) dX6_does_129 (fun H locs hI => ?_)
          refine lv_goto (tgt := 280) hx hb dX6_does_132 (by decide) ?_
          cases h
          exact hend H locs _ _ hI dX6_does_280
        · have h := it_neg c13 h
          by_cases c18 : a1 = (4 : Int32)
          · have h := it_pos c18 h
            refine rg_top c18.symm ?_
            refine lv_tableIn (off := 124) (tgt := 135) hx hb dX6_does_11 (by decide) (by decide) (by decide) (by decide) ?_
            refine lv_aload_n hx hb dX6_does_135 rfl (lv_at hl 1 rfl) ?_
            refine lv_iload_n hx hb dX6_does_136 rfl (lv_at hl 3 rfl) ?_
            refine lv_iconst (v := 0) hx hb dX6_does_137 (by decide) ?_
            obtain ⟨μ20, hc19, h⟩ := ca_some h
            refine rc_vv (o := 0) (As := [.int a2, .int (0 : Int32)]) X hI (c_M_place l D cI ρ g (by omega) hc19) rfl rfl gV_X6_260 hd_X6_place (by decide) (Nat.le_refl _) hl.1 rfl (Nat.le_of_ble_eq_true rfl) dX6_does_138 (fun H locs hI => ?_)
            refine lv_goto (tgt := 280) hx hb dX6_does_141 (by decide) ?_
            cases h
            exact hend H locs _ _ hI dX6_does_280
          · have h := it_neg c18 h
            by_cases c21 : a1 = (5 : Int32)
            · have h := it_pos c21 h
              refine rg_top c21.symm ?_
              refine lv_tableIn (off := 133) (tgt := 144) hx hb dX6_does_11 (by decide) (by decide) (by decide) (by decide) ?_
              refine lv_aload_n hx hb dX6_does_144 rfl (lv_at hl 1 rfl) ?_
              refine lv_aload_n hx hb dX6_does_145 rfl (lv_at hl 1 rfl) ?_
              obtain ⟨x23, μ24, hc22, h⟩ := ca2_some h
              refine rc_vi (o := 0) (As := []) X hI (c_M_pop l D cI ρ g (by omega) hc22) rfl rfl gV_X6_254 hd_X6_pop (by decide) (Nat.le_refl _) hl.1 rfl (Nat.le_of_ble_eq_true rfl) dX6_does_146 (fun H locs hI => ?_)
              refine lv_ineg hx hb dX6_does_149 ?_
              obtain ⟨μ26, hc25, h⟩ := ca_some h
              refine rc_vv (o := 0) (As := [.int (-x23)]) X hI (c_M_push l D cI ρ g (by omega) hc25) rfl rfl gV_X6_251 hd_X6_push (by decide) (Nat.le_refl _) hl.1 rfl (Nat.le_of_ble_eq_true rfl) dX6_does_150 (fun H locs hI => ?_)
              refine lv_goto (tgt := 280) hx hb dX6_does_153 (by decide) ?_
              cases h
              exact hend H locs _ _ hI dX6_does_280
            · have h := it_neg c21 h
              by_cases c27 : a1 = (6 : Int32)
              · have h := it_pos c27 h
                refine rg_top c27.symm ?_
                refine lv_tableIn (off := 145) (tgt := 156) hx hb dX6_does_11 (by decide) (by decide) (by decide) (by decide) ?_
                refine lv_aload_n hx hb dX6_does_156 rfl (lv_at hl 1 rfl) ?_
                refine lv_aload_n hx hb dX6_does_157 rfl (lv_at hl 1 rfl) ?_
                obtain ⟨x29, μ30, hc28, h⟩ := ca2_some h
                refine rc_vi (o := 0) (As := []) X hI (c_M_pop l D cI ρ g (by omega) hc28) rfl rfl gV_X6_254 hd_X6_pop (by decide) (Nat.le_refl _) hl.1 rfl (Nat.le_of_ble_eq_true rfl) dX6_does_158 (fun H locs hI => ?_)
                obtain ⟨k32, ek32, h⟩ := jn_some h
                have hj33 : ∀ (y34 : Int32) (ls : Array Slot), lv_has ls 4 [] → k32 y34 = some ν → W p l e (rmL (g + 1)) s m args below meth c H locs 0 0 Q (F0 m 169 ls [.int y34, .ref (ρ 0)]) := by
                  intro y34 ls hl h
                  rw [ek32] at h
                  try dsimp only at h
                  obtain ⟨μ36, hc35, h⟩ := ca_some h
                  refine rc_vv (o := 0) (As := [.int y34]) X hI (c_M_push l D cI ρ g (by omega) hc35) rfl rfl gV_X6_251 hd_X6_push (by decide) (Nat.le_refl _) hl.1 rfl (Nat.le_of_ble_eq_true rfl) dX6_does_169 (fun H locs hI => ?_)
                  refine lv_goto (tgt := 280) hx hb dX6_does_172 (by decide) ?_
                  cases h
                  exact hend H locs _ _ hI dX6_does_280
                refine lv_if_ne (tgt := 168) hx hb dX6_does_161 (by decide) (fun c37 => ?_) (fun c37 => ?_)
                · have h := it_neg c37 h
                  refine lv_iconst (v := 0) hx hb dX6_does_168 (by decide) ?_
                  exact hj33 (0 : Int32) ls (lv_sub hl [] rfl) h
                · have h := it_pos c37 h
                  refine lv_iconst (v := 1) hx hb dX6_does_164 (by decide) ?_
                  refine lv_goto (tgt := 169) hx hb dX6_does_165 (by decide) ?_
                  exact hj33 (1 : Int32) ls (lv_sub hl [] rfl) h
              · have h := it_neg c27 h
                by_cases c38 : a1 = (7 : Int32)
                · have h := it_pos c38 h
                  refine rg_top c38.symm ?_
                  refine lv_tableIn (off := 164) (tgt := 175) hx hb dX6_does_11 (by decide) (by decide) (by decide) (by decide) ?_
                  refine lv_aload_n hx hb dX6_does_175 rfl (lv_at hl 1 rfl) ?_
                  refine lv_iload_n hx hb dX6_does_176 rfl (lv_at hl 3 rfl) ?_
                  obtain ⟨μ40, hc39, h⟩ := ca_some h
                  refine rc_vv (o := 0) (As := [.int a2]) X hI (c_M_calls l D cI ρ g (by omega) hc39) rfl rfl gV_X6_264 hd_X6_calls (by decide) (Nat.le_refl _) hl.1 rfl (Nat.le_of_ble_eq_true rfl) dX6_does_177 (fun H locs hI => ?_)
                  refine lv_goto (tgt := 280) hx hb dX6_does_180 (by decide) ?_
                  cases h
                  exact hend H locs _ _ hI dX6_does_280
                · have h := it_neg c38 h
                  by_cases c41 : a1 = (9 : Int32)
                  · have h := it_pos c41 h
                    refine rg_top c41.symm ?_
                    refine lv_tableIn (off := 172) (tgt := 183) hx hb dX6_does_11 (by decide) (by decide) (by decide) (by decide) ?_
                    refine lv_aload_n hx hb dX6_does_183 rfl (lv_at hl 1 rfl) ?_
                    refine rg_getR X hI (o := 0) (j := 42) (k := 22) rfl rfl rfl inG6 (by decide) rfl wF_X6_73 dX6_does_184 ?_
                    refine lv_iload_n hx hb dX6_does_187 rfl (lv_at hl 3 rfl) ?_
                    refine lv_aload_n hx hb dX6_does_188 rfl (lv_at hl 1 rfl) ?_
                    obtain ⟨x43, μ44, hc42, h⟩ := ca2_some h
                    refine rc_vi (o := 0) (As := []) X hI (c_M_pop l D cI ρ g (by omega) hc42) rfl rfl gV_X6_254 hd_X6_pop (by decide) (Nat.le_refl _) hl.1 rfl (Nat.le_of_ble_eq_true rfl) dX6_does_189 (fun H locs hI => ?_)
                    obtain ⟨hn45, h⟩ := gd_some h
                    refine rg_ast X hI (o := 22) rfl rfl hn45 dX6_does_192 (fun H locs hI => ?_)
                    obtain ⟨μ46, eμ46, h⟩ := nm_some h
                    rw [← eμ46] at hI
                    refine lv_goto (tgt := 280) hx hb dX6_does_193 (by decide) ?_
                    cases h
                    exact hend H locs _ _ hI dX6_does_280
                  · have h := it_neg c41 h
                    by_cases c47 : a1 = (10 : Int32)
                    · have h := it_pos c47 h
                      refine rg_top c47.symm ?_
                      refine lv_tableIn (off := 185) (tgt := 196) hx hb dX6_does_11 (by decide) (by decide) (by decide) (by decide) ?_
                      refine lv_aload_n hx hb dX6_does_196 rfl (lv_at hl 1 rfl) ?_
                      refine rg_getR X hI (o := 0) (j := 48) (k := 26) rfl rfl rfl inG6 (by decide) rfl wF_X6_85 dX6_does_197 ?_
                      refine lv_iload_n hx hb dX6_does_200 rfl (lv_at hl 0 rfl) ?_
                      refine lv_iload_n hx hb dX6_does_201 rfl (lv_at hl 3 rfl) ?_
                      refine lv_iadd hx hb dX6_does_202 ?_
                      refine lv_aload_n hx hb dX6_does_203 rfl (lv_at hl 1 rfl) ?_
                      obtain ⟨x49, μ50, hc48, h⟩ := ca2_some h
                      refine rc_vi (o := 0) (As := []) X hI (c_M_pop l D cI ρ g (by omega) hc48) rfl rfl gV_X6_254 hd_X6_pop (by decide) (Nat.le_refl _) hl.1 rfl (Nat.le_of_ble_eq_true rfl) dX6_does_204 (fun H locs hI => ?_)
                      obtain ⟨hn51, h⟩ := gd_some h
                      refine rg_ast X hI (o := 26) rfl rfl hn51 dX6_does_207 (fun H locs hI => ?_)
                      obtain ⟨μ52, eμ52, h⟩ := nm_some h
                      rw [← eμ52] at hI
                      refine lv_goto (tgt := 280) hx hb dX6_does_208 (by decide) ?_
                      cases h
                      exact hend H locs _ _ hI dX6_does_280
                    · have h := it_neg c47 h
                      by_cases c53 : a1 = (11 : Int32)
                      · have h := it_pos c53 h
                        refine rg_top c53.symm ?_
                        refine lv_tableIn (off := 200) (tgt := 211) hx hb dX6_does_11 (by decide) (by decide) (by decide) (by decide) ?_
                        refine lv_aload_n hx hb dX6_does_211 rfl (lv_at hl 1 rfl) ?_
                        refine lv_iload_n hx hb dX6_does_212 rfl (lv_at hl 3 rfl) ?_
                        refine lv_iconst (v := 1) hx hb dX6_does_213 (by decide) ?_
                        obtain ⟨μ55, hc54, h⟩ := ca_some h
                        refine rc_vv (o := 0) (As := [.int a2, .int (1 : Int32)]) X hI (c_M_place l D cI ρ g (by omega) hc54) rfl rfl gV_X6_260 hd_X6_place (by decide) (Nat.le_refl _) hl.1 rfl (Nat.le_of_ble_eq_true rfl) dX6_does_214 (fun H locs hI => ?_)
                        refine lv_goto (tgt := 280) hx hb dX6_does_217 (by decide) ?_
                        cases h
                        exact hend H locs _ _ hI dX6_does_280
                      · have h := it_neg c53 h
                        by_cases c56 : a1 = (12 : Int32)
                        · have h := it_pos c56 h
                          refine rg_top c56.symm ?_
                          refine lv_tableIn (off := 209) (tgt := 220) hx hb dX6_does_11 (by decide) (by decide) (by decide) (by decide) ?_
                          refine lv_aload_n hx hb dX6_does_220 rfl (lv_at hl 1 rfl) ?_
                          obtain ⟨x58, μ59, hc57, h⟩ := ca2_some h
                          refine rc_vi (o := 0) (As := []) X hI (c_M_pop l D cI ρ g (by omega) hc57) rfl rfl gV_X6_254 hd_X6_pop (by decide) (Nat.le_refl _) hl.1 rfl (Nat.le_of_ble_eq_true rfl) dX6_does_221 (fun H locs hI => ?_)
                          refine lv_pop hx hb dX6_does_224 rfl ?_
                          refine lv_goto (tgt := 280) hx hb dX6_does_225 (by decide) ?_
                          cases h
                          exact hend H locs _ _ hI dX6_does_280
                        · have h := it_neg c56 h
                          by_cases c60 : a1 = (13 : Int32)
                          · have h := it_pos c60 h
                            refine rg_top c60.symm ?_
                            refine lv_tableIn (off := 217) (tgt := 228) hx hb dX6_does_11 (by decide) (by decide) (by decide) (by decide) ?_
                            refine lv_aload_n hx hb dX6_does_228 rfl (lv_at hl 1 rfl) ?_
                            refine lv_aload_n hx hb dX6_does_229 rfl (lv_at hl 1 rfl) ?_
                            obtain ⟨x62, μ63, hc61, h⟩ := ca2_some h
                            refine rc_vi (o := 0) (As := []) X hI (c_M_pop l D cI ρ g (by omega) hc61) rfl rfl gV_X6_254 hd_X6_pop (by decide) (Nat.le_refl _) hl.1 rfl (Nat.le_of_ble_eq_true rfl) dX6_does_230 (fun H locs hI => ?_)
                            obtain ⟨k65, ek65, h⟩ := jn_some h
                            have hj66 : ∀ (y67 : Int32) (ls : Array Slot), lv_has ls 4 [] → k65 y67 = some ν → W p l e (rmL (g + 1)) s m args below meth c H locs 0 0 Q (F0 m 244 ls [.int y67, .ref (ρ 0)]) := by
                              intro y67 ls hl h
                              rw [ek65] at h
                              try dsimp only at h
                              refine rg_put X hI (o := 0) (j := 38) (k := 138) rfl rfl rfl rfl inG6 tyX6 tyX6_ok nmX6 (by decide) rfl wF_X6_239 rfl rfl rfl rfl dX6_does_244 (fun H locs hI => ?_)
                              obtain ⟨μ68, eμ68, h⟩ := nm_some h
                              rw [← eμ68] at hI
                              refine lv_goto (tgt := 280) hx hb dX6_does_247 (by decide) ?_
                              cases h
                              exact hend H locs _ _ hI dX6_does_280
                            refine lv_if_ne (tgt := 240) hx hb dX6_does_233 (by decide) (fun c69 => ?_) (fun c69 => ?_)
                            · have h := it_neg c69 h
                              refine lv_aload_n hx hb dX6_does_240 rfl (lv_at hl 1 rfl) ?_
                              refine rg_get X hI (o := 0) (j := 38) (k := 138) rfl rfl rfl inG6 (by decide) rfl wF_X6_239 dX6_does_241 ?_
                              exact hj66 (μ63 138 0) ls (lv_sub hl [] rfl) h
                            · have h := it_pos c69 h
                              refine lv_iload_n hx hb dX6_does_236 rfl (lv_at hl 3 rfl) ?_
                              refine lv_goto (tgt := 244) hx hb dX6_does_237 (by decide) ?_
                              exact hj66 a2 ls (lv_sub hl [] rfl) h
                          · have h := it_neg c60 h
                            by_cases c70 : a1 = (14 : Int32)
                            · have h := it_pos c70 h
                              refine rg_top c70.symm ?_
                              refine lv_tableIn (off := 239) (tgt := 250) hx hb dX6_does_11 (by decide) (by decide) (by decide) (by decide) ?_
                              refine lv_aload_n hx hb dX6_does_250 rfl (lv_at hl 1 rfl) ?_
                              refine lv_iload_n hx hb dX6_does_251 rfl (lv_at hl 3 rfl) ?_
                              refine rg_put X hI (o := 0) (j := 38) (k := 138) rfl rfl rfl rfl inG6 tyX6 tyX6_ok nmX6 (by decide) rfl wF_X6_239 rfl rfl rfl rfl dX6_does_252 (fun H locs hI => ?_)
                              obtain ⟨μ71, eμ71, h⟩ := nm_some h
                              rw [← eμ71] at hI
                              refine lv_goto (tgt := 280) hx hb dX6_does_255 (by decide) ?_
                              cases h
                              exact hend H locs _ _ hI dX6_does_280
                            · have h := it_neg c70 h
                              by_cases c72 : a1 = (15 : Int32)
                              · have h := it_pos c72 h
                                refine rg_top c72.symm ?_
                                refine lv_tableIn (off := 247) (tgt := 258) hx hb dX6_does_11 (by decide) (by decide) (by decide) (by decide) ?_
                                refine lv_aload_n hx hb dX6_does_258 rfl (lv_at hl 1 rfl) ?_
                                obtain ⟨μ74, hc73, h⟩ := ca_some h
                                refine rc_vv (o := 0) (As := []) X hI (c_M_returns l D cI ρ g (by omega) hc73) rfl rfl gV_X6_266 hd_X6_returns (by decide) (Nat.le_refl _) hl.1 rfl (Nat.le_of_ble_eq_true rfl) dX6_does_259 (fun H locs hI => ?_)
                                refine lv_goto (tgt := 280) hx hb dX6_does_262 (by decide) ?_
                                cases h
                                exact hend H locs _ _ hI dX6_does_280
                              · have h := it_neg c72 h
                                by_cases c75 : a1 = (16 : Int32)
                                · have h := it_pos c75 h
                                  refine rg_top c75.symm ?_
                                  refine lv_tableIn (off := 254) (tgt := 265) hx hb dX6_does_11 (by decide) (by decide) (by decide) (by decide) ?_
                                  refine lv_aload_n hx hb dX6_does_265 rfl (lv_at hl 1 rfl) ?_
                                  obtain ⟨μ77, hc76, h⟩ := ca_some h
                                  refine rc_vv (o := 0) (As := []) X hI (c_M_prints l D cI ρ g (by omega) hc76) rfl rfl gV_X6_269 hd_X6_prints (by decide) (Nat.le_refl _) hl.1 rfl (Nat.le_of_ble_eq_true rfl) dX6_does_266 (fun H locs hI => ?_)
                                  refine lv_goto (tgt := 280) hx hb dX6_does_269 (by decide) ?_
                                  cases h
                                  exact hend H locs _ _ hI dX6_does_280
                                · have h := it_neg c75 h
                                  have hdf : W p l e (rmL (g + 1)) s m args below meth c H locs 0 0 Q (F0 m 272 ls []) := by
                                    refine lv_aload_n hx hb dX6_does_272 rfl (lv_at hl 1 rfl) ?_
                                    refine lv_iload_n hx hb dX6_does_273 rfl (lv_at hl 2 rfl) ?_
                                    refine lv_bipush (v := 20) hx hb dX6_does_274 (by decide) ?_
                                    refine lv_isub hx hb dX6_does_276 ?_
                                    obtain ⟨μ79, hc78, h⟩ := ca_some h
                                    refine rc_vv (o := 0) (As := [.int (a1 - (20 : Int32))]) X hI (c_M_operates l D cI ρ g (by omega) hc78) rfl rfl gV_X6_272 hd_X6_operates (by decide) (Nat.le_refl _) hl.1 rfl (Nat.le_of_ble_eq_true rfl) dX6_does_277 (fun H locs hI => ?_)
                                    cases h
                                    exact hend H locs _ _ hI dX6_does_280
                                  by_cases c80 : a1 = (8 : Int32)
                                  · refine rg_top c80.symm ?_
                                    exact lv_tableIn (off := 261) (tgt := 272) hx hb dX6_does_11 (by decide) (by decide) (by decide) (by decide) hdf
                                  have c2 := ne_toInt (z := 0) rfl c2
                                  have c5 := ne_toInt (z := 1) rfl c5
                                  have c8 := ne_toInt (z := 2) rfl c8
                                  have c13 := ne_toInt (z := 3) rfl c13
                                  have c18 := ne_toInt (z := 4) rfl c18
                                  have c21 := ne_toInt (z := 5) rfl c21
                                  have c27 := ne_toInt (z := 6) rfl c27
                                  have c38 := ne_toInt (z := 7) rfl c38
                                  have c41 := ne_toInt (z := 9) rfl c41
                                  have c47 := ne_toInt (z := 10) rfl c47
                                  have c53 := ne_toInt (z := 11) rfl c53
                                  have c56 := ne_toInt (z := 12) rfl c56
                                  have c60 := ne_toInt (z := 13) rfl c60
                                  have c70 := ne_toInt (z := 14) rfl c70
                                  have c72 := ne_toInt (z := 15) rfl c72
                                  have c75 := ne_toInt (z := 16) rfl c75
                                  have c80 := ne_toInt (z := 8) rfl c80
                                  exact lv_tableOut (tgt := 272) hx hb dX6_does_11 (by omega) (by decide) hdf
