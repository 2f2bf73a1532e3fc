/-! the class: contracts -/
set_option maxHeartbeats 4000000 in
set_option maxRecDepth 100000 in
theorem c_E_state (l : Launch) (D : va_G) (cI : ClassId) (ρ : Nat → Nat) (hgt : Nat) (hh : 1 ≤ hgt)  {μ : St} {r : Int32} (h : f_E_state μ = some r) : CI l yX2_state cX2_state 1 (some .int) hgt TC cI D ρ [.ref (ρ 6)] μ r μ := by
  obtain ⟨g, rfl⟩ : ∃ g, hgt = g + 1 := ⟨hgt - 1, by omega⟩
  unfold f_E_state at h
  refine CI_of (own := RX2) (by decide) rfl (Nat.le_of_ble_eq_true rfl) rfl ?_
  intro p e s m args below meth c Q A H locs X hI hend ls hl
  have hx := X.1.1
  have hb := X.1.2.1
  have hl : lv_has ls 1 [(0, .ref (ρ 6))] := hl
  refine lv_aload_n hx hb dX2_state_0 rfl (lv_at hl 0 rfl) ?_
  refine rg_get X hI (o := 6) (j := 8) (k := 228) rfl rfl rfl inG2 (by decide) rfl wF_X2_30 dX2_state_1 ?_
  cases h
  exact hend H locs _ _ hI dX2_state_4
set_option maxHeartbeats 4000000 in
set_option maxRecDepth 100000 in
theorem c_E_begun (l : Launch) (D : va_G) (cI : ClassId) (ρ : Nat → Nat) (hgt : Nat) (hh : 1 ≤ hgt)  {μ : St} {r : Int32} (h : f_E_begun μ = some r) : CI l yX2_begun cX2_begun 1 (some .int) hgt TC cI D ρ [.ref (ρ 6)] μ r μ := by
  obtain ⟨g, rfl⟩ : ∃ g, hgt = g + 1 := ⟨hgt - 1, by omega⟩
  unfold f_E_begun at h
  refine CI_of (own := RX2) (by decide) rfl (Nat.le_of_ble_eq_true rfl) rfl ?_
  intro p e s m args below meth c Q A H locs X hI hend ls hl
  have hx := X.1.1
  have hb := X.1.2.1
  have hl : lv_has ls 1 [(0, .ref (ρ 6))] := hl
  refine lv_aload_n hx hb dX2_begun_0 rfl (lv_at hl 0 rfl) ?_
  refine rg_get X hI (o := 6) (j := 9) (k := 229) rfl rfl rfl inG2 (by decide) rfl wF_X2_34 dX2_begun_1 ?_
  cases h
  exact hend H locs _ _ hI dX2_begun_4
set_option maxHeartbeats 4000000 in
set_option maxRecDepth 100000 in
theorem c_E_countShown (l : Launch) (D : va_G) (cI : ClassId) (ρ : Nat → Nat) (hgt : Nat) (hh : 1 ≤ hgt)  {μ : St} {r : Int32} (h : f_E_countShown μ = some r) : CI l yX2_countShown cX2_countShown 1 (some .int) hgt TC cI D ρ [.ref (ρ 6)] μ r μ := by
  obtain ⟨g, rfl⟩ : ∃ g, hgt = g + 1 := ⟨hgt - 1, by omega⟩
  unfold f_E_countShown at h
  refine CI_of (own := RX2) (by decide) rfl (Nat.le_of_ble_eq_true rfl) rfl ?_
  intro p e s m args below meth c Q A H locs X hI hend ls hl
  have hx := X.1.1
  have hb := X.1.2.1
  have hl : lv_has ls 1 [(0, .ref (ρ 6))] := hl
  refine lv_aload_n hx hb dX2_countShown_0 rfl (lv_at hl 0 rfl) ?_
  refine rg_get X hI (o := 6) (j := 10) (k := 230) rfl rfl rfl inG2 (by decide) rfl wF_X2_37 dX2_countShown_1 ?_
  cases h
  exact hend H locs _ _ hI dX2_countShown_4
set_option maxHeartbeats 4000000 in
set_option maxRecDepth 100000 in
theorem c_E_running (l : Launch) (D : va_G) (cI : ClassId) (ρ : Nat → Nat) (hgt : Nat) (hh : 1 ≤ hgt)  {μ : St} {r : Int32} (h : f_E_running μ = some r) : CI l yX2_running cX2_running 1 (some .int) hgt TC cI D ρ [.ref (ρ 6)] μ r μ := by
  obtain ⟨g, rfl⟩ : ∃ g, hgt = g + 1 := ⟨hgt - 1, by omega⟩
  unfold f_E_running at h
  refine CI_of (own := RX2) (by decide) rfl (Nat.le_of_ble_eq_true rfl) rfl ?_
  intro p e s m args below meth c Q A H locs X hI hend ls hl
  have hx := X.1.1
  have hb := X.1.2.1
  have hl : lv_has ls 1 [(0, .ref (ρ 6))] := hl
  refine lv_aload_n hx hb dX2_running_0 rfl (lv_at hl 0 rfl) ?_
  refine rg_get X hI (o := 6) (j := 11) (k := 231) rfl rfl rfl inG2 (by decide) rfl wF_X2_40 dX2_running_1 ?_
  cases h
  exact hend H locs _ _ hI dX2_running_4
set_option maxHeartbeats 4000000 in
set_option maxRecDepth 100000 in
theorem c_E_hasShown (l : Launch) (D : va_G) (cI : ClassId) (ρ : Nat → Nat) (hgt : Nat) (hh : 1 ≤ hgt) {a1 : Int32} {μ : St} {r : Int32} (h : f_E_hasShown a1 μ = some r) : CI l yX2_hasShown cX2_hasShown 2 (some .boolean) hgt TC cI D ρ [.ref (ρ 6), .int a1] μ r μ := by
  obtain ⟨g, rfl⟩ : ∃ g, hgt = g + 1 := ⟨hgt - 1, by omega⟩
  unfold f_E_hasShown at h
  refine CZ_of (own := RX2) (by decide) rfl (Nat.le_of_ble_eq_true rfl) rfl ?_
  intro p e s m args below meth c Q A H locs X hI hend ls hl
  have hx := X.1.1
  have hb := X.1.2.1
  have hl : lv_has ls 2 [(0, .ref (ρ 6)), (1, .int a1)] := hl
  refine lv_iload_n hx hb dX2_hasShown_0 rfl (lv_at hl 1 rfl) ?_
  obtain ⟨k2, ek2, h⟩ := jn_some h
  have hj3 : ∀ (ls : Array Slot), lv_has ls 2 [] → k2 = some r → W p l e (rmL (g + 1)) s m args below meth c H locs 0 0 Q (F0 m 22 ls []) := by
    intro ls hl h
    rw [ek2] at h
    refine lv_iconst (v := 0) hx hb dX2_hasShown_22 (by decide) ?_
    cases h
    exact hend H locs _ _ (by decide) hI dX2_hasShown_23
  refine lv_if_lt (tgt := 22) hx hb dX2_hasShown_1 (by decide) (fun c4 => ?_) (fun c4 => ?_)
  · have h := it_pos c4 h
    exact hj3 ls (lv_sub hl [] rfl) h
  · have h := it_neg c4 h
    refine lv_iload_n hx hb dX2_hasShown_4 rfl (lv_at hl 1 rfl) ?_
    refine lv_bipush (v := 32) hx hb dX2_hasShown_5 (by decide) ?_
    refine lv_icmp_ge (tgt := 22) hx hb dX2_hasShown_7 (by decide) (fun c5 => ?_) (fun c5 => ?_)
    · have h := it_pos c5 h
      exact hj3 ls (lv_sub hl [] rfl) h
    · have h := it_neg c5 h
      refine lv_iload_n hx hb dX2_hasShown_10 rfl (lv_at hl 1 rfl) ?_
      refine lv_aload_n hx hb dX2_hasShown_11 rfl (lv_at hl 0 rfl) ?_
      refine rg_get X hI (o := 6) (j := 10) (k := 230) rfl rfl rfl inG2 (by decide) rfl wF_X2_37 dX2_hasShown_12 ?_
      refine lv_icmp_ge (tgt := 22) hx hb dX2_hasShown_15 (by decide) (fun c6 => ?_) (fun c6 => ?_)
      · have h := it_pos c6 h
        exact hj3 ls (lv_sub hl [] rfl) h
      · have h := it_neg c6 h
        refine lv_iconst (v := 1) hx hb dX2_hasShown_18 (by decide) ?_
        refine lv_goto (tgt := 23) hx hb dX2_hasShown_19 (by decide) ?_
        cases h
        exact hend H locs _ _ (by decide) hI dX2_hasShown_23
set_option maxHeartbeats 4000000 in
set_option maxRecDepth 100000 in
theorem c_E_shownAt (l : Launch) (D : va_G) (cI : ClassId) (ρ : Nat → Nat) (hgt : Nat) (hh : 1 ≤ hgt) {a1 : Int32} {μ : St} {r : Int32} (h : f_E_shownAt a1 μ = some r) : CI l yX2_shownAt cX2_shownAt 2 (some .int) hgt TC cI D ρ [.ref (ρ 6), .int a1] μ r μ := by
  obtain ⟨g, rfl⟩ : ∃ g, hgt = g + 1 := ⟨hgt - 1, by omega⟩
  unfold f_E_shownAt at h
  refine CI_of (own := RX2) (by decide) rfl (Nat.le_of_ble_eq_true rfl) rfl ?_
  intro p e s m args below meth c Q A H locs X hI hend ls hl
  have hx := X.1.1
  have hb := X.1.2.1
  have hl : lv_has ls 2 [(0, .ref (ρ 6)), (1, .int a1)] := hl
  refine lv_aload_n hx hb dX2_shownAt_0 rfl (lv_at hl 0 rfl) ?_
  refine rg_getR X hI (o := 6) (j := 7) (k := 23) rfl rfl rfl inG2 (by decide) rfl wF_X2_27 dX2_shownAt_1 ?_
  refine lv_aload_n hx hb dX2_shownAt_4 rfl (lv_at hl 0 rfl) ?_
  refine rg_get X hI (o := 6) (j := 10) (k := 230) rfl rfl rfl inG2 (by decide) rfl wF_X2_37 dX2_shownAt_5 ?_
  refine lv_iconst (v := 1) hx hb dX2_shownAt_8 (by decide) ?_
  refine lv_isub hx hb dX2_shownAt_9 ?_
  refine lv_iload_n hx hb dX2_shownAt_10 rfl (lv_at hl 1 rfl) ?_
  refine lv_isub hx hb dX2_shownAt_11 ?_
  refine lv_bipush (v := 31) hx hb dX2_shownAt_12 (by decide) ?_
  refine lv_iand hx hb dX2_shownAt_14 ?_
  obtain ⟨hn1, h⟩ := gd_some h
  refine rg_ald X hI (o := 23) rfl hn1 dX2_shownAt_15 ?_
  obtain ⟨x2, ex2, h⟩ := nm_some h
  refine rg_top ex2 ?_
  cases h
  exact hend H locs _ _ hI dX2_shownAt_16
set_option maxHeartbeats 4000000 in
set_option maxRecDepth 100000 in
theorem c_E_globalAt (l : Launch) (D : va_G) (cI : ClassId) (ρ : Nat → Nat) (hgt : Nat) (hh : 1 ≤ hgt) {a1 : Int32} {μ : St} {r : Int32} (h : f_E_globalAt a1 μ = some r) : CI l yX2_globalAt cX2_globalAt 2 (some .int) hgt TC cI D ρ [.ref (ρ 6), .int a1] μ r μ := by
  obtain ⟨g, rfl⟩ : ∃ g, hgt = g + 1 := ⟨hgt - 1, by omega⟩
  unfold f_E_globalAt at h
  refine CI_of (own := RX2) (by decide) rfl (Nat.le_of_ble_eq_true rfl) rfl ?_
  intro p e s m args below meth c Q A H locs X hI hend ls hl
  have hx := X.1.1
  have hb := X.1.2.1
  have hl : lv_has ls 2 [(0, .ref (ρ 6)), (1, .int a1)] := hl
  refine lv_iload_n hx hb dX2_globalAt_0 rfl (lv_at hl 1 rfl) ?_
  obtain ⟨k2, ek2, h⟩ := jn_some h
  have hj3 : ∀ (ls : Array Slot), lv_has ls 2 [] → k2 = some r → W p l e (rmL (g + 1)) s m args below meth c H locs 0 0 Q (F0 m 22 ls []) := by
    intro ls hl h
    rw [ek2] at h
    refine lv_iconst (v := 0) hx hb dX2_globalAt_22 (by decide) ?_
    cases h
    exact hend H locs _ _ hI dX2_globalAt_23
  refine lv_if_lt (tgt := 22) hx hb dX2_globalAt_1 (by decide) (fun c4 => ?_) (fun c4 => ?_)
  · have h := it_pos c4 h
    exact hj3 ls (lv_sub hl [] rfl) h
  · have h := it_neg c4 h
    refine lv_iload_n hx hb dX2_globalAt_4 rfl (lv_at hl 1 rfl) ?_
    refine lv_aload_n hx hb dX2_globalAt_5 rfl (lv_at hl 0 rfl) ?_
    refine rg_getR X hI (o := 6) (j := 2) (k := 18) rfl rfl rfl inG2 (by decide) rfl wF_X2_11 dX2_globalAt_6 ?_
    refine rg_len X hI (o := 18) (v := 8) rfl (by decide) dX2_globalAt_9 ?_
    refine lv_icmp_ge (tgt := 22) hx hb dX2_globalAt_10 (by decide) (fun c5 => ?_) (fun c5 => ?_)
    · have h := it_pos c5 h
      exact hj3 ls (lv_sub hl [] rfl) h
    · have h := it_neg c5 h
      refine lv_aload_n hx hb dX2_globalAt_13 rfl (lv_at hl 0 rfl) ?_
      refine rg_getR X hI (o := 6) (j := 2) (k := 18) rfl rfl rfl inG2 (by decide) rfl wF_X2_11 dX2_globalAt_14 ?_
      refine lv_iload_n hx hb dX2_globalAt_17 rfl (lv_at hl 1 rfl) ?_
      obtain ⟨hn6, h⟩ := gd_some h
      refine rg_ald X hI (o := 18) rfl hn6 dX2_globalAt_18 ?_
      obtain ⟨x7, ex7, h⟩ := nm_some h
      refine rg_top ex7 ?_
      refine lv_goto (tgt := 23) hx hb dX2_globalAt_19 (by decide) ?_
      cases h
      exact hend H locs _ _ hI dX2_globalAt_23
set_option maxHeartbeats 4000000 in
set_option maxRecDepth 100000 in
theorem c_E_placeAt (l : Launch) (D : va_G) (cI : ClassId) (ρ : Nat → Nat) (hgt : Nat) (hh : 1 ≤ hgt) {a1 : Int32} {a2 : Int32} {μ : St} {r : Int32} (h : f_E_placeAt a1 a2 μ = some r) : CI l yX2_placeAt cX2_placeAt 4 (some .int) hgt TC cI D ρ [.ref (ρ 6), .int a1, .int a2] μ r μ := by
  obtain ⟨g, rfl⟩ : ∃ g, hgt = g + 1 := ⟨hgt - 1, by omega⟩
  unfold f_E_placeAt at h
  refine CI_of (own := RX2) (by decide) rfl (Nat.le_of_ble_eq_true rfl) rfl ?_
  intro p e s m args below meth c Q A H locs X hI hend ls hl
  have hx := X.1.1
  have hb := X.1.2.1
  have hl : lv_has ls 4 [(0, .ref (ρ 6)), (1, .int a1), (2, .int a2)] := hl
  refine lv_iload_n hx hb dX2_placeAt_0 rfl (lv_at hl 1 rfl) ?_
  refine lv_bipush (v := 8) hx hb dX2_placeAt_1 (by decide) ?_
  refine lv_imul hx hb dX2_placeAt_3 ?_
  refine lv_iload_n hx hb dX2_placeAt_4 rfl (lv_at hl 2 rfl) ?_
  refine lv_iadd hx hb dX2_placeAt_5 ?_
  obtain ⟨x1, ex1, h⟩ := nm_some h
  refine rg_top ex1 ?_
  refine lv_istore_n (lv' := [(3, .int x1), (0, .ref (ρ 6)), (1, .int a1), (2, .int a2)]) hx hb dX2_placeAt_6 rfl hl (by decide) rfl (fun ls hl => ?_)
  refine lv_iload_n hx hb dX2_placeAt_7 rfl (lv_at hl 0 rfl) ?_
  obtain ⟨k3, ek3, h⟩ := jn_some h
  have hj4 : ∀ (ls : Array Slot), lv_has ls 4 [] → k3 = some r → W p l e (rmL (g + 1)) s m args below meth c H locs 0 0 Q (F0 m 29 ls []) := by
    intro ls hl h
    rw [ek3] at h
    refine lv_iconst (v := 0) hx hb dX2_placeAt_29 (by decide) ?_
    cases h
    exact hend H locs _ _ hI dX2_placeAt_30
  refine lv_if_lt (tgt := 29) hx hb dX2_placeAt_8 (by decide) (fun c5 => ?_) (fun c5 => ?_)
  · have h := it_pos c5 h
    exact hj4 ls (lv_sub hl [] rfl) h
  · have h := it_neg c5 h
    refine lv_iload_n hx hb dX2_placeAt_11 rfl (lv_at hl 0 rfl) ?_
    refine lv_aload_n hx hb dX2_placeAt_12 rfl (lv_at hl 1 rfl) ?_
    refine rg_getR X hI (o := 6) (j := 3) (k := 19) rfl rfl rfl inG2 (by decide) rfl wF_X2_15 dX2_placeAt_13 ?_
    refine rg_len X hI (o := 19) (v := 32) rfl (by decide) dX2_placeAt_16 ?_
    refine lv_icmp_ge (tgt := 29) hx hb dX2_placeAt_17 (by decide) (fun c6 => ?_) (fun c6 => ?_)
    · have h := it_pos c6 h
      exact hj4 ls (lv_sub hl [] rfl) h
    · have h := it_neg c6 h
      refine lv_aload_n hx hb dX2_placeAt_20 rfl (lv_at hl 1 rfl) ?_
      refine rg_getR X hI (o := 6) (j := 3) (k := 19) rfl rfl rfl inG2 (by decide) rfl wF_X2_15 dX2_placeAt_21 ?_
      refine lv_iload_n hx hb dX2_placeAt_24 rfl (lv_at hl 0 rfl) ?_
      obtain ⟨hn7, h⟩ := gd_some h
      refine rg_ald X hI (o := 19) rfl hn7 dX2_placeAt_25 ?_
      obtain ⟨x8, ex8, h⟩ := nm_some h
      refine rg_top ex8 ?_
      refine lv_goto (tgt := 30) hx hb dX2_placeAt_26 (by decide) ?_
      cases h
      exact hend H locs _ _ hI dX2_placeAt_30
set_option maxHeartbeats 4000000 in
set_option maxRecDepth 100000 in
theorem c_E_clear (l : Launch) (D : va_G) (cI : ClassId) (ρ : Nat → Nat) {N : Nat} (hgt : Nat) (hh : 1 ≤ hgt)  {μ ν : St} (h : f_E_clear N μ = some ν) : CV l yX2_clear cX2_clear 2 hgt TC cI D ρ [.ref (ρ 6)] μ ν := by
  obtain ⟨g, rfl⟩ : ∃ g, hgt = g + 1 := ⟨hgt - 1, by omega⟩
  unfold f_E_clear at h
  refine CV_of (own := RX2) (by decide) rfl (Nat.le_of_ble_eq_true rfl) ?_
  intro p e s m args below meth c Q A H locs X hI hend ls hl
  have hx := X.1.1
  have hb := X.1.2.1
  have hl : lv_has ls 2 [(0, .ref (ρ 6))] := hl
  refine lv_iconst (v := 0) hx hb dX2_clear_0 (by decide) ?_
  refine lv_istore_n (lv' := [(1, .int (0 : Int32)), (0, .ref (ρ 6))]) hx hb dX2_clear_1 rfl hl (by decide) rfl (fun ls hl => ?_)
  refine lp_elim (fun (k3 : Int32 → St → Option St) => ∀ (x1 : Int32) (μ2 : St) (H : Heap) (locs : List Loc) (ls : Array Slot), lv_has ls 2 [(0, .ref (ρ 6)), (1, .int x1)] → RI TC cI D A s.heap ρ μ2 H locs → k3 x1 μ2 = some ν → W p l e (rmL (g + 1)) s m args below meth c H locs 0 0 Q (F0 m 2 ls [])) ?_ ?_ N (0 : Int32) μ H locs ls (lv_sub hl [1, 0] rfl) hI h
  · intro x1 μ2 H locs ls hl hI h
    cases h
  · intro k3 ih4 x1 μ2 H locs ls hl hI h
    try dsimp only at h
    refine lv_iload_n hx hb dX2_clear_2 rfl (lv_at hl 1 rfl) ?_
    refine lv_bipush (v := 8) hx hb dX2_clear_3 (by decide) ?_
    refine lv_icmp_ge (tgt := 21) hx hb dX2_clear_5 (by decide) (fun c5 => ?_) (fun c5 => ?_)
    · have h := it_pos c5 h
      refine lv_iconst (v := 0) hx hb dX2_clear_21 (by decide) ?_
      refine lv_istore_n (lv' := [(1, .int (0 : Int32)), (0, .ref (ρ 6))]) hx hb dX2_clear_22 rfl hl (by decide) rfl (fun ls hl => ?_)
      refine lp_elim (fun (k8 : Int32 → St → Option St) => ∀ (x6 : Int32) (μ7 : St) (H : Heap) (locs : List Loc) (ls : Array Slot), lv_has ls 2 [(0, .ref (ρ 6)), (1, .int x6)] → RI TC cI D A s.heap ρ μ7 H locs → k8 x6 μ7 = some ν → W p l e (rmL (g + 1)) s m args below meth c H locs 0 0 Q (F0 m 23 ls [])) ?_ ?_ N (0 : Int32) μ2 H locs ls (lv_sub hl [1, 0] rfl) hI h
      · intro x6 μ7 H locs ls hl hI h
        cases h
      · intro k8 ih9 x6 μ7 H locs ls hl hI h
        try dsimp only at h
        refine lv_iload_n hx hb dX2_clear_23 rfl (lv_at hl 1 rfl) ?_
        refine lv_bipush (v := 32) hx hb dX2_clear_24 (by decide) ?_
        refine lv_icmp_ge (tgt := 42) hx hb dX2_clear_26 (by decide) (fun c10 => ?_) (fun c10 => ?_)
        · have h := it_pos c10 h
          refine lv_aload_n hx hb dX2_clear_42 rfl (lv_at hl 0 rfl) ?_
          refine lv_iconst (v := 0) hx hb dX2_clear_43 (by decide) ?_
          refine rg_put X hI (o := 6) (j := 8) (k := 228) rfl rfl rfl rfl inG2 tyX2 tyX2_ok nmX2 (by decide) rfl wF_X2_30 rfl rfl rfl rfl dX2_clear_44 (fun H locs hI => ?_)
          obtain ⟨μ11, eμ11, h⟩ := nm_some h
          rw [← eμ11] at hI
          refine lv_aload_n hx hb dX2_clear_47 rfl (lv_at hl 0 rfl) ?_
          refine lv_iconst (v := 0) hx hb dX2_clear_48 (by decide) ?_
          refine rg_put X hI (o := 6) (j := 9) (k := 229) rfl rfl rfl rfl inG2 tyX2 tyX2_ok nmX2 (by decide) rfl wF_X2_34 rfl rfl rfl rfl dX2_clear_49 (fun H locs hI => ?_)
          obtain ⟨μ12, eμ12, h⟩ := nm_some h
          rw [← eμ12] at hI
          refine lv_aload_n hx hb dX2_clear_52 rfl (lv_at hl 0 rfl) ?_
          refine lv_iconst (v := 0) hx hb dX2_clear_53 (by decide) ?_
          refine rg_put X hI (o := 6) (j := 10) (k := 230) rfl rfl rfl rfl inG2 tyX2 tyX2_ok nmX2 (by decide) rfl wF_X2_37 rfl rfl rfl rfl dX2_clear_54 (fun H locs hI => ?_)
          obtain ⟨μ13, eμ13, h⟩ := nm_some h
          rw [← eμ13] at hI
          refine lv_aload_n hx hb dX2_clear_57 rfl (lv_at hl 0 rfl) ?_
          refine lv_iconst (v := 0) hx hb dX2_clear_58 (by decide) ?_
          refine rg_put X hI (o := 6) (j := 11) (k := 231) rfl rfl rfl rfl inG2 tyX2 tyX2_ok nmX2 (by decide) rfl wF_X2_40 rfl rfl rfl rfl dX2_clear_59 (fun H locs hI => ?_)
          obtain ⟨μ14, eμ14, h⟩ := nm_some h
          rw [← eμ14] at hI
          refine lv_aload_n hx hb dX2_clear_62 rfl (lv_at hl 0 rfl) ?_
          refine lv_iconst (v := 0) hx hb dX2_clear_63 (by decide) ?_
          refine rg_put X hI (o := 6) (j := 12) (k := 232) rfl rfl rfl rfl inG2 tyX2 tyX2_ok nmX2 (by decide) rfl wF_X2_43 rfl rfl rfl rfl dX2_clear_64 (fun H locs hI => ?_)
          obtain ⟨μ15, eμ15, h⟩ := nm_some h
          rw [← eμ15] at hI
          refine lv_aload_n hx hb dX2_clear_67 rfl (lv_at hl 0 rfl) ?_
          refine lv_iconst (v := 0) hx hb dX2_clear_68 (by decide) ?_
          refine rg_put X hI (o := 6) (j := 13) (k := 233) rfl rfl rfl rfl inG2 tyX2 tyX2_ok nmX2 (by decide) rfl wF_X2_46 rfl rfl rfl rfl dX2_clear_69 (fun H locs hI => ?_)
          obtain ⟨μ16, eμ16, h⟩ := nm_some h
          rw [← eμ16] at hI
          cases h
          exact hend H locs _ _ hI dX2_clear_72
        · have h := it_neg c10 h
          refine lv_aload_n hx hb dX2_clear_29 rfl (lv_at hl 0 rfl) ?_
          refine rg_getR X hI (o := 6) (j := 3) (k := 19) rfl rfl rfl inG2 (by decide) rfl wF_X2_15 dX2_clear_30 ?_
          refine lv_iload_n hx hb dX2_clear_33 rfl (lv_at hl 1 rfl) ?_
          refine lv_iconst (v := 0) hx hb dX2_clear_34 (by decide) ?_
          obtain ⟨hn17, h⟩ := gd_some h
          refine rg_ast X hI (o := 19) rfl rfl hn17 dX2_clear_35 (fun H locs hI => ?_)
          obtain ⟨μ18, eμ18, h⟩ := nm_some h
          rw [← eμ18] at hI
          obtain ⟨x19, ex19, h⟩ := nm_some h
          refine lv_iinc (v := x19) (lv' := [(1, .int x19), (0, .ref (ρ 6))]) hx hb dX2_clear_36 hl (k := 1) rfl (by rw [ex19]; rfl) (by decide) rfl (fun ls hl => ?_)
          refine lv_goto (tgt := 23) hx hb dX2_clear_39 (by decide) ?_
          exact ih9 x19 μ18 H locs ls (lv_sub hl [1, 0] rfl) hI h
    · have h := it_neg c5 h
      refine lv_aload_n hx hb dX2_clear_8 rfl (lv_at hl 0 rfl) ?_
      refine rg_getR X hI (o := 6) (j := 2) (k := 18) rfl rfl rfl inG2 (by decide) rfl wF_X2_11 dX2_clear_9 ?_
      refine lv_iload_n hx hb dX2_clear_12 rfl (lv_at hl 1 rfl) ?_
      refine lv_iconst (v := 0) hx hb dX2_clear_13 (by decide) ?_
      obtain ⟨hn20, h⟩ := gd_some h
      refine rg_ast X hI (o := 18) rfl rfl hn20 dX2_clear_14 (fun H locs hI => ?_)
      obtain ⟨μ21, eμ21, h⟩ := nm_some h
      rw [← eμ21] at hI
      obtain ⟨x22, ex22, h⟩ := nm_some h
      refine lv_iinc (v := x22) (lv' := [(1, .int x22), (0, .ref (ρ 6))]) hx hb dX2_clear_15 hl (k := 1) rfl (by rw [ex22]; rfl) (by decide) rfl (fun ls hl => ?_)
      refine lv_goto (tgt := 2) hx hb dX2_clear_18 (by decide) ?_
      exact ih4 x22 μ21 H locs ls (lv_sub hl [1, 0] rfl) hI h
set_option maxHeartbeats 4000000 in
set_option maxRecDepth 100000 in
theorem c_E_push (l : Launch) (D : va_G) (cI : ClassId) (ρ : Nat → Nat) (hgt : Nat) (hh : 1 ≤ hgt) {a1 : Int32} {μ ν : St} (h : f_E_push a1 μ = some ν) : CV l yX2_push cX2_push 2 hgt TC cI D ρ [.ref (ρ 6), .int a1] μ ν := by
  obtain ⟨g, rfl⟩ : ∃ g, hgt = g + 1 := ⟨hgt - 1, by omega⟩
  unfold f_E_push at h
  refine CV_of (own := RX2) (by decide) rfl (Nat.le_of_ble_eq_true rfl) ?_
  intro p e s m args below meth c Q A H locs X hI hend ls hl
  have hx := X.1.1
  have hb := X.1.2.1
  have hl : lv_has ls 2 [(0, .ref (ρ 6)), (1, .int a1)] := hl
  refine lv_aload_n hx hb dX2_push_0 rfl (lv_at hl 0 rfl) ?_
  refine rg_get X hI (o := 6) (j := 12) (k := 232) rfl rfl rfl inG2 (by decide) rfl wF_X2_43 dX2_push_1 ?_
  refine lv_if_lt (tgt := 40) hx hb dX2_push_4 (by decide) (fun c1 => ?_) (fun c1 => ?_)
  · have h := it_pos c1 h
    cases h
    exact hend H locs _ _ hI dX2_push_40
  · have h := it_neg c1 h
    refine lv_aload_n hx hb dX2_push_7 rfl (lv_at hl 0 rfl) ?_
    refine rg_get X hI (o := 6) (j := 12) (k := 232) rfl rfl rfl inG2 (by decide) rfl wF_X2_43 dX2_push_8 ?_
    refine lv_aload_n hx hb dX2_push_11 rfl (lv_at hl 0 rfl) ?_
    refine rg_getR X hI (o := 6) (j := 6) (k := 22) rfl rfl rfl inG2 (by decide) rfl wF_X2_24 dX2_push_12 ?_
    refine rg_len X hI (o := 22) (v := 512) rfl (by decide) dX2_push_15 ?_
    refine lv_icmp_ge (tgt := 40) hx hb dX2_push_16 (by decide) (fun c2 => ?_) (fun c2 => ?_)
    · have h := it_pos c2 h
      cases h
      exact hend H locs _ _ hI dX2_push_40
    · have h := it_neg c2 h
      refine lv_aload_n hx hb dX2_push_19 rfl (lv_at hl 0 rfl) ?_
      refine rg_getR X hI (o := 6) (j := 6) (k := 22) rfl rfl rfl inG2 (by decide) rfl wF_X2_24 dX2_push_20 ?_
      refine lv_aload_n hx hb dX2_push_23 rfl (lv_at hl 0 rfl) ?_
      refine rg_get X hI (o := 6) (j := 12) (k := 232) rfl rfl rfl inG2 (by decide) rfl wF_X2_43 dX2_push_24 ?_
      refine lv_iload_n hx hb dX2_push_27 rfl (lv_at hl 1 rfl) ?_
      refine lv_i2s hx hb dX2_push_28 rfl ?_
      obtain ⟨hn3, h⟩ := gd_some h
      refine rg_ast X hI (o := 22) rfl rfl hn3 dX2_push_29 (fun H locs hI => ?_)
      obtain ⟨μ4, eμ4, h⟩ := nm_some h
      rw [← eμ4] at hI
      refine lv_aload_n hx hb dX2_push_30 rfl (lv_at hl 0 rfl) ?_
      refine lv_dup hx hb dX2_push_31 rfl ?_
      refine rg_get X hI (o := 6) (j := 12) (k := 232) rfl rfl rfl inG2 (by decide) rfl wF_X2_43 dX2_push_32 ?_
      refine lv_iconst (v := 1) hx hb dX2_push_35 (by decide) ?_
      refine lv_iadd hx hb dX2_push_36 ?_
      refine rg_put X hI (o := 6) (j := 12) (k := 232) rfl rfl rfl rfl inG2 tyX2 tyX2_ok nmX2 (by decide) rfl wF_X2_43 rfl rfl rfl rfl dX2_push_37 (fun H locs hI => ?_)
      obtain ⟨μ5, eμ5, h⟩ := nm_some h
      rw [← eμ5] at hI
      cases h
      exact hend H locs _ _ hI dX2_push_40
set_option maxHeartbeats 4000000 in
set_option maxRecDepth 100000 in
theorem c_E_pop (l : Launch) (D : va_G) (cI : ClassId) (ρ : Nat → Nat) (hgt : Nat) (hh : 1 ≤ hgt)  {μ ν : St} {r : Int32} (h : f_E_pop μ = some (r, ν)) : CI l yX2_pop cX2_pop 1 (some .int) hgt TC cI D ρ [.ref (ρ 6)] μ r ν := by
  obtain ⟨g, rfl⟩ : ∃ g, hgt = g + 1 := ⟨hgt - 1, by omega⟩
  unfold f_E_pop at h
  refine CI_of (own := RX2) (by decide) rfl (Nat.le_of_ble_eq_true rfl) rfl ?_
  intro p e s m args below meth c Q A H locs X hI hend ls hl
  have hx := X.1.1
  have hb := X.1.2.1
  have hl : lv_has ls 1 [(0, .ref (ρ 6))] := hl
  refine lv_aload_n hx hb dX2_pop_0 rfl (lv_at hl 0 rfl) ?_
  refine rg_get X hI (o := 6) (j := 12) (k := 232) rfl rfl rfl inG2 (by decide) rfl wF_X2_43 dX2_pop_1 ?_
  refine lv_iconst (v := 1) hx hb dX2_pop_4 (by decide) ?_
  refine lv_icmp_lt (tgt := 20) hx hb dX2_pop_5 (by decide) (fun c1 => ?_) (fun c1 => ?_)
  · have h := it_pos c1 h
    refine lv_iconst (v := 0) hx hb dX2_pop_20 (by decide) ?_
    cases h
    exact hend H locs _ _ hI dX2_pop_21
  · have h := it_neg c1 h
    refine lv_aload_n hx hb dX2_pop_8 rfl (lv_at hl 0 rfl) ?_
    refine rg_get X hI (o := 6) (j := 12) (k := 232) rfl rfl rfl inG2 (by decide) rfl wF_X2_43 dX2_pop_9 ?_
    refine lv_aload_n hx hb dX2_pop_12 rfl (lv_at hl 0 rfl) ?_
    refine rg_getR X hI (o := 6) (j := 6) (k := 22) rfl rfl rfl inG2 (by decide) rfl wF_X2_24 dX2_pop_13 ?_
    refine rg_len X hI (o := 22) (v := 512) rfl (by decide) dX2_pop_16 ?_
    refine lv_icmp_le (tgt := 22) hx hb dX2_pop_17 (by decide) (fun c2 => ?_) (fun c2 => ?_)
    · have h := it_pos c2 h
      refine lv_aload_n hx hb dX2_pop_22 rfl (lv_at hl 0 rfl) ?_
      refine lv_dup hx hb dX2_pop_23 rfl ?_
      refine rg_get X hI (o := 6) (j := 12) (k := 232) rfl rfl rfl inG2 (by decide) rfl wF_X2_43 dX2_pop_24 ?_
      refine lv_iconst (v := 1) hx hb dX2_pop_27 (by decide) ?_
      refine lv_isub hx hb dX2_pop_28 ?_
      refine rg_put X hI (o := 6) (j := 12) (k := 232) rfl rfl rfl rfl inG2 tyX2 tyX2_ok nmX2 (by decide) rfl wF_X2_43 rfl rfl rfl rfl dX2_pop_29 (fun H locs hI => ?_)
      obtain ⟨μ3, eμ3, h⟩ := nm_some h
      rw [← eμ3] at hI
      refine lv_aload_n hx hb dX2_pop_32 rfl (lv_at hl 0 rfl) ?_
      refine rg_getR X hI (o := 6) (j := 6) (k := 22) rfl rfl rfl inG2 (by decide) rfl wF_X2_24 dX2_pop_33 ?_
      refine lv_aload_n hx hb dX2_pop_36 rfl (lv_at hl 0 rfl) ?_
      refine rg_get X hI (o := 6) (j := 12) (k := 232) rfl rfl rfl inG2 (by decide) rfl wF_X2_43 dX2_pop_37 ?_
      obtain ⟨hn4, h⟩ := gd_some h
      refine rg_ald X hI (o := 22) rfl hn4 dX2_pop_40 ?_
      obtain ⟨x5, ex5, h⟩ := nm_some h
      refine rg_top ex5 ?_
      cases h
      exact hend H locs _ _ hI dX2_pop_41
    · have h := it_neg c2 h
      refine lv_iconst (v := 0) hx hb dX2_pop_20 (by decide) ?_
      cases h
      exact hend H locs _ _ hI dX2_pop_21
set_option maxHeartbeats 4000000 in
set_option maxRecDepth 100000 in
theorem c_E_setLocal (l : Launch) (D : va_G) (cI : ClassId) (ρ : Nat → Nat) (hgt : Nat) (hh : 1 ≤ hgt) {a1 : Int32} {a2 : Int32} {μ ν : St} (h : f_E_setLocal a1 a2 μ = some ν) : CV l yX2_setLocal cX2_setLocal 4 hgt TC cI D ρ [.ref (ρ 6), .int a1, .int a2] μ ν := by
  obtain ⟨g, rfl⟩ : ∃ g, hgt = g + 1 := ⟨hgt - 1, by omega⟩
  unfold f_E_setLocal at h
  refine CV_of (own := RX2) (by decide) rfl (Nat.le_of_ble_eq_true rfl) ?_
  intro p e s m args below meth c Q A H locs X hI hend ls hl
  have hx := X.1.1
  have hb := X.1.2.1
  have hl : lv_has ls 4 [(0, .ref (ρ 6)), (1, .int a1), (2, .int a2)] := hl
  refine lv_aload_n hx hb dX2_setLocal_0 rfl (lv_at hl 0 rfl) ?_
  refine rg_get X hI (o := 6) (j := 11) (k := 231) rfl rfl rfl inG2 (by decide) rfl wF_X2_40 dX2_setLocal_1 ?_
  refine lv_iconst (v := 1) hx hb dX2_setLocal_4 (by decide) ?_
  refine lv_isub hx hb dX2_setLocal_5 ?_
  refine lv_bipush (v := 8) hx hb dX2_setLocal_6 (by decide) ?_
  refine lv_imul hx hb dX2_setLocal_8 ?_
  refine lv_iload_n hx hb dX2_setLocal_9 rfl (lv_at hl 1 rfl) ?_
  refine lv_iadd hx hb dX2_setLocal_10 ?_
  obtain ⟨x1, ex1, h⟩ := nm_some h
  refine rg_top ex1 ?_
  refine lv_istore_n (lv' := [(3, .int x1), (0, .ref (ρ 6)), (1, .int a1), (2, .int a2)]) hx hb dX2_setLocal_11 rfl hl (by decide) rfl (fun ls hl => ?_)
  refine lv_iload_n hx hb dX2_setLocal_12 rfl (lv_at hl 0 rfl) ?_
  refine lv_if_lt (tgt := 32) hx hb dX2_setLocal_13 (by decide) (fun c2 => ?_) (fun c2 => ?_)
  · have h := it_pos c2 h
    cases h
    exact hend H locs _ _ hI dX2_setLocal_32
  · have h := it_neg c2 h
    refine lv_iload_n hx hb dX2_setLocal_16 rfl (lv_at hl 0 rfl) ?_
    refine lv_aload_n hx hb dX2_setLocal_17 rfl (lv_at hl 1 rfl) ?_
    refine rg_getR X hI (o := 6) (j := 4) (k := 20) rfl rfl rfl inG2 (by decide) rfl wF_X2_18 dX2_setLocal_18 ?_
    refine rg_len X hI (o := 20) (v := 80) rfl (by decide) dX2_setLocal_21 ?_
    refine lv_icmp_ge (tgt := 32) hx hb dX2_setLocal_22 (by decide) (fun c3 => ?_) (fun c3 => ?_)
    · have h := it_pos c3 h
      cases h
      exact hend H locs _ _ hI dX2_setLocal_32
    · have h := it_neg c3 h
      refine lv_aload_n hx hb dX2_setLocal_25 rfl (lv_at hl 1 rfl) ?_
      refine rg_getR X hI (o := 6) (j := 4) (k := 20) rfl rfl rfl inG2 (by decide) rfl wF_X2_18 dX2_setLocal_26 ?_
      refine lv_iload_n hx hb dX2_setLocal_29 rfl (lv_at hl 0 rfl) ?_
      refine lv_iload_n hx hb dX2_setLocal_30 rfl (lv_at hl 3 rfl) ?_
      obtain ⟨hn4, h⟩ := gd_some h
      refine rg_ast X hI (o := 20) rfl rfl hn4 dX2_setLocal_31 (fun H locs hI => ?_)
      obtain ⟨μ5, eμ5, h⟩ := nm_some h
      rw [← eμ5] at hI
      cases h
      exact hend H locs _ _ hI dX2_setLocal_32
set_option maxHeartbeats 4000000 in
set_option maxRecDepth 100000 in
theorem c_E_localAt (l : Launch) (D : va_G) (cI : ClassId) (ρ : Nat → Nat) (hgt : Nat) (hh : 1 ≤ hgt) {a1 : Int32} {μ : St} {r : Int32} (h : f_E_localAt a1 μ = some r) : CI l yX2_localAt cX2_localAt 3 (some .int) hgt TC cI D ρ [.ref (ρ 6), .int a1] μ r μ := by
  obtain ⟨g, rfl⟩ : ∃ g, hgt = g + 1 := ⟨hgt - 1, by omega⟩
  unfold f_E_localAt at h
  refine CI_of (own := RX2) (by decide) rfl (Nat.le_of_ble_eq_true rfl) rfl ?_
  intro p e s m args below meth c Q A H locs X hI hend ls hl
  have hx := X.1.1
  have hb := X.1.2.1
  have hl : lv_has ls 3 [(0, .ref (ρ 6)), (1, .int a1)] := hl
  refine lv_aload_n hx hb dX2_localAt_0 rfl (lv_at hl 0 rfl) ?_
  refine rg_get X hI (o := 6) (j := 11) (k := 231) rfl rfl rfl inG2 (by decide) rfl wF_X2_40 dX2_localAt_1 ?_
  refine lv_iconst (v := 1) hx hb dX2_localAt_4 (by decide) ?_
  refine lv_isub hx hb dX2_localAt_5 ?_
  refine lv_bipush (v := 8) hx hb dX2_localAt_6 (by decide) ?_
  refine lv_imul hx hb dX2_localAt_8 ?_
  refine lv_iload_n hx hb dX2_localAt_9 rfl (lv_at hl 1 rfl) ?_
  refine lv_iadd hx hb dX2_localAt_10 ?_
  obtain ⟨x1, ex1, h⟩ := nm_some h
  refine rg_top ex1 ?_
  refine lv_istore_n (lv' := [(2, .int x1), (0, .ref (ρ 6)), (1, .int a1)]) hx hb dX2_localAt_11 rfl hl (by decide) rfl (fun ls hl => ?_)
  refine lv_iload_n hx hb dX2_localAt_12 rfl (lv_at hl 0 rfl) ?_
  obtain ⟨k3, ek3, h⟩ := jn_some h
  have hj4 : ∀ (ls : Array Slot), lv_has ls 3 [] → k3 = some r → W p l e (rmL (g + 1)) s m args below meth c H locs 0 0 Q (F0 m 34 ls []) := by
    intro ls hl h
    rw [ek3] at h
    refine lv_iconst (v := 0) hx hb dX2_localAt_34 (by decide) ?_
    cases h
    exact hend H locs _ _ hI dX2_localAt_35
  refine lv_if_lt (tgt := 34) hx hb dX2_localAt_13 (by decide) (fun c5 => ?_) (fun c5 => ?_)
  · have h := it_pos c5 h
    exact hj4 ls (lv_sub hl [] rfl) h
  · have h := it_neg c5 h
    refine lv_iload_n hx hb dX2_localAt_16 rfl (lv_at hl 0 rfl) ?_
    refine lv_aload_n hx hb dX2_localAt_17 rfl (lv_at hl 1 rfl) ?_
    refine rg_getR X hI (o := 6) (j := 4) (k := 20) rfl rfl rfl inG2 (by decide) rfl wF_X2_18 dX2_localAt_18 ?_
    refine rg_len X hI (o := 20) (v := 80) rfl (by decide) dX2_localAt_21 ?_
    refine lv_icmp_ge (tgt := 34) hx hb dX2_localAt_22 (by decide) (fun c6 => ?_) (fun c6 => ?_)
    · have h := it_pos c6 h
      exact hj4 ls (lv_sub hl [] rfl) h
    · have h := it_neg c6 h
      refine lv_aload_n hx hb dX2_localAt_25 rfl (lv_at hl 1 rfl) ?_
      refine rg_getR X hI (o := 6) (j := 4) (k := 20) rfl rfl rfl inG2 (by decide) rfl wF_X2_18 dX2_localAt_26 ?_
      refine lv_iload_n hx hb dX2_localAt_29 rfl (lv_at hl 0 rfl) ?_
      obtain ⟨hn7, h⟩ := gd_some h
      refine rg_ald X hI (o := 20) rfl hn7 dX2_localAt_30 ?_
      obtain ⟨x8, ex8, h⟩ := nm_some h
      refine rg_top ex8 ?_
      refine lv_goto (tgt := 35) hx hb dX2_localAt_31 (by decide) ?_
      cases h
      exact hend H locs _ _ hI dX2_localAt_35
set_option maxHeartbeats 4000000 in
set_option maxRecDepth 100000 in
theorem c_E_setGlobal (l : Launch) (D : va_G) (cI : ClassId) (ρ : Nat → Nat) (hgt : Nat) (hh : 1 ≤ hgt) {a1 : Int32} {a2 : Int32} {μ ν : St} (h : f_E_setGlobal a1 a2 μ = some ν) : CV l yX2_setGlobal cX2_setGlobal 3 hgt TC cI D ρ [.ref (ρ 6), .int a1, .int a2] μ ν := by
  obtain ⟨g, rfl⟩ : ∃ g, hgt = g + 1 := ⟨hgt - 1, by omega⟩
  unfold f_E_setGlobal at h
  refine CV_of (own := RX2) (by decide) rfl (Nat.le_of_ble_eq_true rfl) ?_
  intro p e s m args below meth c Q A H locs X hI hend ls hl
  have hx := X.1.1
  have hb := X.1.2.1
  have hl : lv_has ls 3 [(0, .ref (ρ 6)), (1, .int a1), (2, .int a2)] := hl
  refine lv_iload_n hx hb dX2_setGlobal_0 rfl (lv_at hl 1 rfl) ?_
  refine lv_if_lt (tgt := 20) hx hb dX2_setGlobal_1 (by decide) (fun c1 => ?_) (fun c1 => ?_)
  · have h := it_pos c1 h
    cases h
    exact hend H locs _ _ hI dX2_setGlobal_20
  · have h := it_neg c1 h
    refine lv_iload_n hx hb dX2_setGlobal_4 rfl (lv_at hl 1 rfl) ?_
    refine lv_aload_n hx hb dX2_setGlobal_5 rfl (lv_at hl 0 rfl) ?_
    refine rg_getR X hI (o := 6) (j := 2) (k := 18) rfl rfl rfl inG2 (by decide) rfl wF_X2_11 dX2_setGlobal_6 ?_
    refine rg_len X hI (o := 18) (v := 8) rfl (by decide) dX2_setGlobal_9 ?_
    refine lv_icmp_ge (tgt := 20) hx hb dX2_setGlobal_10 (by decide) (fun c2 => ?_) (fun c2 => ?_)
    · have h := it_pos c2 h
      cases h
      exact hend H locs _ _ hI dX2_setGlobal_20
    · have h := it_neg c2 h
      refine lv_aload_n hx hb dX2_setGlobal_13 rfl (lv_at hl 0 rfl) ?_
      refine rg_getR X hI (o := 6) (j := 2) (k := 18) rfl rfl rfl inG2 (by decide) rfl wF_X2_11 dX2_setGlobal_14 ?_
      refine lv_iload_n hx hb dX2_setGlobal_17 rfl (lv_at hl 1 rfl) ?_
      refine lv_iload_n hx hb dX2_setGlobal_18 rfl (lv_at hl 2 rfl) ?_
      obtain ⟨hn3, h⟩ := gd_some h
      refine rg_ast X hI (o := 18) rfl rfl hn3 dX2_setGlobal_19 (fun H locs hI => ?_)
      obtain ⟨μ4, eμ4, h⟩ := nm_some h
      rw [← eμ4] at hI
      cases h
      exact hend H locs _ _ hI dX2_setGlobal_20
set_option maxHeartbeats 4000000 in
set_option maxRecDepth 100000 in
theorem c_E_show (l : Launch) (D : va_G) (cI : ClassId) (ρ : Nat → Nat) (hgt : Nat) (hh : 1 ≤ hgt) {a1 : Int32} {μ ν : St} (h : f_E_show a1 μ = some ν) : CV l yX2_show cX2_show 2 hgt TC cI D ρ [.ref (ρ 6), .int a1] μ ν := by
  obtain ⟨g, rfl⟩ : ∃ g, hgt = g + 1 := ⟨hgt - 1, by omega⟩
  unfold f_E_show at h
  refine CV_of (own := RX2) (by decide) rfl (Nat.le_of_ble_eq_true rfl) ?_
  intro p e s m args below meth c Q A H locs X hI hend ls hl
  have hx := X.1.1
  have hb := X.1.2.1
  have hl : lv_has ls 2 [(0, .ref (ρ 6)), (1, .int a1)] := hl
  refine lv_aload_n hx hb dX2_show_0 rfl (lv_at hl 0 rfl) ?_
  refine rg_getR X hI (o := 6) (j := 7) (k := 23) rfl rfl rfl inG2 (by decide) rfl wF_X2_27 dX2_show_1 ?_
  refine lv_aload_n hx hb dX2_show_4 rfl (lv_at hl 0 rfl) ?_
  refine rg_get X hI (o := 6) (j := 10) (k := 230) rfl rfl rfl inG2 (by decide) rfl wF_X2_37 dX2_show_5 ?_
  refine lv_bipush (v := 31) hx hb dX2_show_8 (by decide) ?_
  refine lv_iand hx hb dX2_show_10 ?_
  refine lv_iload_n hx hb dX2_show_11 rfl (lv_at hl 1 rfl) ?_
  obtain ⟨hn1, h⟩ := gd_some h
  refine rg_ast X hI (o := 23) rfl rfl hn1 dX2_show_12 (fun H locs hI => ?_)
  obtain ⟨μ2, eμ2, h⟩ := nm_some h
  rw [← eμ2] at hI
  refine lv_aload_n hx hb dX2_show_13 rfl (lv_at hl 0 rfl) ?_
  refine lv_dup hx hb dX2_show_14 rfl ?_
  refine rg_get X hI (o := 6) (j := 10) (k := 230) rfl rfl rfl inG2 (by decide) rfl wF_X2_37 dX2_show_15 ?_
  refine lv_iconst (v := 1) hx hb dX2_show_18 (by decide) ?_
  refine lv_iadd hx hb dX2_show_19 ?_
  refine rg_put X hI (o := 6) (j := 10) (k := 230) rfl rfl rfl rfl inG2 tyX2 tyX2_ok nmX2 (by decide) rfl wF_X2_37 rfl rfl rfl rfl dX2_show_20 (fun H locs hI => ?_)
  obtain ⟨μ3, eμ3, h⟩ := nm_some h
  rw [← eμ3] at hI
  cases h
  exact hend H locs _ _ hI dX2_show_23
set_option maxHeartbeats 4000000 in
set_option maxRecDepth 100000 in
theorem c_E_enter (l : Launch) (D : va_G) (cI : ClassId) (ρ : Nat → Nat) {N : Nat} (hgt : Nat) (hh : 2 ≤ hgt) {a1 : Int32} {μ ν : St} (h : f_E_enter N a1 μ = some ν) : CV l yX2_enter cX2_enter 3 hgt TC cI D ρ [.ref (ρ 6), .int a1] μ ν := by
  obtain ⟨g, rfl⟩ : ∃ g, hgt = g + 1 := ⟨hgt - 1, by omega⟩
  unfold f_E_enter at h
  refine CV_of (own := RX2) (by decide) rfl (Nat.le_of_ble_eq_true rfl) ?_
  intro p e s m args below meth c Q A H locs X hI hend ls hl
  have hx := X.1.1
  have hb := X.1.2.1
  have hl : lv_has ls 3 [(0, .ref (ρ 6)), (1, .int a1)] := hl
  refine lv_aload_n hx hb dX2_enter_0 rfl (lv_at hl 0 rfl) ?_
  refine rg_get X hI (o := 6) (j := 11) (k := 231) rfl rfl rfl inG2 (by decide) rfl wF_X2_40 dX2_enter_1 ?_
  obtain ⟨k2, ek2, h⟩ := jn_some h
  have hj3 : ∀ (μ1 : St) (H : Heap) (locs : List Loc) (ls : Array Slot), lv_has ls 3 [(0, .ref (ρ 6)), (1, .int a1)] → RI TC cI D A s.heap ρ μ1 H locs → k2 μ1 = some ν → W p l e (rmL (g + 1)) s m args below meth c H locs 0 0 Q (F0 m 42 ls []) := by
    intro μ1 H locs ls hl hI h
    rw [ek2] at h
    try dsimp only at h
    refine lv_iconst (v := 0) hx hb dX2_enter_42 (by decide) ?_
    refine lv_istore_n (lv' := [(2, .int (0 : Int32)), (0, .ref (ρ 6)), (1, .int a1)]) hx hb dX2_enter_43 rfl hl (by decide) rfl (fun ls hl => ?_)
    refine lp_elim (fun (k6 : Int32 → St → Option St) => ∀ (x4 : Int32) (μ5 : St) (H : Heap) (locs : List Loc) (ls : Array Slot), lv_has ls 3 [(0, .ref (ρ 6)), (1, .int a1), (2, .int x4)] → RI TC cI D A s.heap ρ μ5 H locs → k6 x4 μ5 = some ν → W p l e (rmL (g + 1)) s m args below meth c H locs 0 0 Q (F0 m 44 ls [])) ?_ ?_ N (0 : Int32) μ1 H locs ls (lv_sub hl [1, 2, 0] rfl) hI h
    · intro x4 μ5 H locs ls hl hI h
      cases h
    · intro k6 ih7 x4 μ5 H locs ls hl hI h
      try dsimp only at h
      refine lv_iload_n hx hb dX2_enter_44 rfl (lv_at hl 2 rfl) ?_
      refine lv_bipush (v := 8) hx hb dX2_enter_45 (by decide) ?_
      refine lv_icmp_ge (tgt := 62) hx hb dX2_enter_47 (by decide) (fun c8 => ?_) (fun c8 => ?_)
      · have h := it_pos c8 h
        refine lv_aload_n hx hb dX2_enter_62 rfl (lv_at hl 0 rfl) ?_
        refine rg_getR X hI (o := 6) (j := 0) (k := 3) rfl rfl rfl inG2 (by decide) rfl wF_X2_49 dX2_enter_63 ?_
        refine lv_iload_n hx hb dX2_enter_66 rfl (lv_at hl 1 rfl) ?_
        obtain ⟨x10, hc9, h⟩ := ca_some h
        refine rc_vi (o := 3) (As := [.int a1]) X hI (c_P_parametersOf l D cI ρ g (by omega) hc9) rfl rfl gV_X2_139 hd_X3_parametersOf (by decide) (Nat.le_refl _) hl.1 rfl (Nat.le_of_ble_eq_true rfl) dX2_enter_67 (fun H locs hI => ?_)
        refine lv_iconst (v := 1) hx hb dX2_enter_70 (by decide) ?_
        refine lv_isub hx hb dX2_enter_71 ?_
        obtain ⟨x11, ex11, h⟩ := nm_some h
        refine rg_top ex11 ?_
        refine lv_istore_n (lv' := [(2, .int x11), (0, .ref (ρ 6)), (1, .int a1)]) hx hb dX2_enter_72 rfl hl (by decide) rfl (fun ls hl => ?_)
        refine lp_elim (fun (k14 : Int32 → St → Option St) => ∀ (x12 : Int32) (μ13 : St) (H : Heap) (locs : List Loc) (ls : Array Slot), lv_has ls 3 [(0, .ref (ρ 6)), (1, .int a1), (2, .int x12)] → RI TC cI D A s.heap ρ μ13 H locs → k14 x12 μ13 = some ν → W p l e (rmL (g + 1)) s m args below meth c H locs 0 0 Q (F0 m 73 ls [])) ?_ ?_ N x11 μ5 H locs ls (lv_sub hl [1, 2, 0] rfl) hI h
        · intro x12 μ13 H locs ls hl hI h
          cases h
        · intro k14 ih15 x12 μ13 H locs ls hl hI h
          try dsimp only at h
          refine lv_iload_n hx hb dX2_enter_73 rfl (lv_at hl 2 rfl) ?_
          refine lv_if_lt (tgt := 92) hx hb dX2_enter_74 (by decide) (fun c16 => ?_) (fun c16 => ?_)
          · have h := it_pos c16 h
            refine lv_aload_n hx hb dX2_enter_92 rfl (lv_at hl 0 rfl) ?_
            refine lv_aload_n hx hb dX2_enter_93 rfl (lv_at hl 0 rfl) ?_
            refine rg_getR X hI (o := 6) (j := 0) (k := 3) rfl rfl rfl inG2 (by decide) rfl wF_X2_49 dX2_enter_94 ?_
            refine lv_iload_n hx hb dX2_enter_97 rfl (lv_at hl 1 rfl) ?_
            obtain ⟨x18, hc17, h⟩ := ca_some h
            refine rc_vi (o := 3) (As := [.int a1]) X hI (c_P_entryOf l D cI ρ g (by omega) hc17) rfl rfl gV_X2_142 hd_X3_entryOf (by decide) (Nat.le_refl _) hl.1 rfl (Nat.le_of_ble_eq_true rfl) dX2_enter_98 (fun H locs hI => ?_)
            refine rg_put X hI (o := 6) (j := 13) (k := 233) rfl rfl rfl rfl inG2 tyX2 tyX2_ok nmX2 (by decide) rfl wF_X2_46 rfl rfl rfl rfl dX2_enter_101 (fun H locs hI => ?_)
            obtain ⟨μ19, eμ19, h⟩ := nm_some h
            rw [← eμ19] at hI
            cases h
            exact hend H locs _ _ hI dX2_enter_104
          · have h := it_neg c16 h
            refine lv_aload_n hx hb dX2_enter_77 rfl (lv_at hl 0 rfl) ?_
            refine lv_iload_n hx hb dX2_enter_78 rfl (lv_at hl 2 rfl) ?_
            refine lv_aload_n hx hb dX2_enter_79 rfl (lv_at hl 0 rfl) ?_
            obtain ⟨x21, μ22, hc20, h⟩ := ca2_some h
            refine rc_vi (o := 6) (As := []) X hI (c_E_pop l D cI ρ g (by omega) hc20) rfl rfl gV_X2_90 hd_X2_pop (by decide) (Nat.le_refl _) hl.1 rfl (Nat.le_of_ble_eq_true rfl) dX2_enter_80 (fun H locs hI => ?_)
            obtain ⟨μ24, hc23, h⟩ := ca_some h
            refine rc_vv (o := 6) (As := [.int x12, .int x21]) X hI (c_E_setLocal l D cI ρ g (by omega) hc23) rfl rfl gV_X2_114 hd_X2_setLocal (by decide) (Nat.le_refl _) hl.1 rfl (Nat.le_of_ble_eq_true rfl) dX2_enter_83 (fun H locs hI => ?_)
            obtain ⟨x25, ex25, h⟩ := nm_some h
            refine lv_iinc (v := x25) (lv' := [(2, .int x25), (0, .ref (ρ 6)), (1, .int a1)]) hx hb dX2_enter_86 hl (k := 2) rfl (by rw [ex25]; rfl) (by decide) rfl (fun ls hl => ?_)
            refine lv_goto (tgt := 73) hx hb dX2_enter_89 (by decide) ?_
            exact ih15 x25 μ24 H locs ls (lv_sub hl [1, 2, 0] rfl) hI h
      · have h := it_neg c8 h
        refine lv_aload_n hx hb dX2_enter_50 rfl (lv_at hl 0 rfl) ?_
        refine lv_iload_n hx hb dX2_enter_51 rfl (lv_at hl 2 rfl) ?_
        refine lv_iconst (v := 0) hx hb dX2_enter_52 (by decide) ?_
        obtain ⟨μ27, hc26, h⟩ := ca_some h
        refine rc_vv (o := 6) (As := [.int x4, .int (0 : Int32)]) X hI (c_E_setLocal l D cI ρ g (by omega) hc26) rfl rfl gV_X2_114 hd_X2_setLocal (by decide) (Nat.le_refl _) hl.1 rfl (Nat.le_of_ble_eq_true rfl) dX2_enter_53 (fun H locs hI => ?_)
        obtain ⟨x28, ex28, h⟩ := nm_some h
        refine lv_iinc (v := x28) (lv' := [(2, .int x28), (0, .ref (ρ 6)), (1, .int a1)]) hx hb dX2_enter_56 hl (k := 2) rfl (by rw [ex28]; rfl) (by decide) rfl (fun ls hl => ?_)
        refine lv_goto (tgt := 44) hx hb dX2_enter_59 (by decide) ?_
        exact ih7 x28 μ27 H locs ls (lv_sub hl [1, 2, 0] rfl) hI h
  refine lv_if_lt (tgt := 42) hx hb dX2_enter_4 (by decide) (fun c29 => ?_) (fun c29 => ?_)
  · have h := it_pos c29 h
    exact hj3 μ H locs ls (lv_sub hl [0, 1] rfl) hI h
  · have h := it_neg c29 h
    refine lv_aload_n hx hb dX2_enter_7 rfl (lv_at hl 0 rfl) ?_
    refine rg_get X hI (o := 6) (j := 11) (k := 231) rfl rfl rfl inG2 (by decide) rfl wF_X2_40 dX2_enter_8 ?_
    refine lv_aload_n hx hb dX2_enter_11 rfl (lv_at hl 0 rfl) ?_
    refine rg_getR X hI (o := 6) (j := 5) (k := 21) rfl rfl rfl inG2 (by decide) rfl wF_X2_21 dX2_enter_12 ?_
    refine rg_len X hI (o := 21) (v := 10) rfl (by decide) dX2_enter_15 ?_
    refine lv_icmp_ge (tgt := 42) hx hb dX2_enter_16 (by decide) (fun c30 => ?_) (fun c30 => ?_)
    · have h := it_pos c30 h
      exact hj3 μ H locs ls (lv_sub hl [0, 1] rfl) hI h
    · have h := it_neg c30 h
      refine lv_aload_n hx hb dX2_enter_19 rfl (lv_at hl 0 rfl) ?_
      refine rg_getR X hI (o := 6) (j := 5) (k := 21) rfl rfl rfl inG2 (by decide) rfl wF_X2_21 dX2_enter_20 ?_
      refine lv_aload_n hx hb dX2_enter_23 rfl (lv_at hl 0 rfl) ?_
      refine rg_get X hI (o := 6) (j := 11) (k := 231) rfl rfl rfl inG2 (by decide) rfl wF_X2_40 dX2_enter_24 ?_
      refine lv_aload_n hx hb dX2_enter_27 rfl (lv_at hl 0 rfl) ?_
      refine rg_get X hI (o := 6) (j := 13) (k := 233) rfl rfl rfl inG2 (by decide) rfl wF_X2_46 dX2_enter_28 ?_
      obtain ⟨hn31, h⟩ := gd_some h
      refine rg_ast X hI (o := 21) rfl rfl hn31 dX2_enter_31 (fun H locs hI => ?_)
      obtain ⟨μ32, eμ32, h⟩ := nm_some h
      rw [← eμ32] at hI
      refine lv_aload_n hx hb dX2_enter_32 rfl (lv_at hl 0 rfl) ?_
      refine lv_dup hx hb dX2_enter_33 rfl ?_
      refine rg_get X hI (o := 6) (j := 11) (k := 231) rfl rfl rfl inG2 (by decide) rfl wF_X2_40 dX2_enter_34 ?_
      refine lv_iconst (v := 1) hx hb dX2_enter_37 (by decide) ?_
      refine lv_iadd hx hb dX2_enter_38 ?_
      refine rg_put X hI (o := 6) (j := 11) (k := 231) rfl rfl rfl rfl inG2 tyX2 tyX2_ok nmX2 (by decide) rfl wF_X2_40 rfl rfl rfl rfl dX2_enter_39 (fun H locs hI => ?_)
      obtain ⟨μ33, eμ33, h⟩ := nm_some h
      rw [← eμ33] at hI
      exact hj3 μ33 H locs ls (lv_sub hl [0, 1] rfl) hI h
set_option maxHeartbeats 4000000 in
set_option maxRecDepth 100000 in
theorem c_E_call (l : Launch) (D : va_G) (cI : ClassId) (ρ : Nat → Nat) {N : Nat} (hgt : Nat) (hh : 3 ≤ hgt) {a1 : Int32} {μ ν : St} (h : f_E_call N a1 μ = some ν) : CV l yX2_call cX2_call 2 hgt TC cI D ρ [.ref (ρ 6), .int a1] μ ν := by
  obtain ⟨g, rfl⟩ : ∃ g, hgt = g + 1 := ⟨hgt - 1, by omega⟩
  unfold f_E_call at h
  refine CV_of (own := RX2) (by decide) rfl (Nat.le_of_ble_eq_true rfl) ?_
  intro p e s m args below meth c Q A H locs X hI hend ls hl
  have hx := X.1.1
  have hb := X.1.2.1
  have hl : lv_has ls 2 [(0, .ref (ρ 6)), (1, .int a1)] := hl
  refine lv_aload_n hx hb dX2_call_0 rfl (lv_at hl 0 rfl) ?_
  refine rg_get X hI (o := 6) (j := 11) (k := 231) rfl rfl rfl inG2 (by decide) rfl wF_X2_40 dX2_call_1 ?_
  refine lv_bipush (v := 10) hx hb dX2_call_4 (by decide) ?_
  refine lv_icmp_lt (tgt := 18) hx hb dX2_call_6 (by decide) (fun c1 => ?_) (fun c1 => ?_)
  · have h := it_pos c1 h
    refine lv_aload_n hx hb dX2_call_18 rfl (lv_at hl 0 rfl) ?_
    refine lv_iload_n hx hb dX2_call_19 rfl (lv_at hl 1 rfl) ?_
    obtain ⟨μ3, hc2, h⟩ := ca_some h
    refine rc_vv (o := 6) (As := [.int a1]) X hI (c_E_enter l D cI ρ g (by omega) hc2) rfl rfl gV_X2_60 hd_X2_enter (by decide) (Nat.le_refl _) hl.1 rfl (Nat.le_of_ble_eq_true rfl) dX2_call_20 (fun H locs hI => ?_)
    cases h
    exact hend H locs _ _ hI dX2_call_23
  · have h := it_neg c1 h
    refine lv_aload_n hx hb dX2_call_9 rfl (lv_at hl 0 rfl) ?_
    refine lv_bipush (v := 6) hx hb dX2_call_10 (by decide) ?_
    refine rg_put X hI (o := 6) (j := 8) (k := 228) rfl rfl rfl rfl inG2 tyX2 tyX2_ok nmX2 (by decide) rfl wF_X2_30 rfl rfl rfl rfl dX2_call_12 (fun H locs hI => ?_)
    obtain ⟨μ4, eμ4, h⟩ := nm_some h
    rw [← eμ4] at hI
    refine lv_goto (tgt := 23) hx hb dX2_call_15 (by decide) ?_
    cases h
    exact hend H locs _ _ hI dX2_call_23
set_option maxHeartbeats 4000000 in
set_option maxRecDepth 100000 in
theorem c_E_leave (l : Launch) (D : va_G) (cI : ClassId) (ρ : Nat → Nat) (hgt : Nat) (hh : 2 ≤ hgt)  {μ ν : St} (h : f_E_leave μ = some ν) : CV l yX2_leave cX2_leave 2 hgt TC cI D ρ [.ref (ρ 6)] μ ν := by
  obtain ⟨g, rfl⟩ : ∃ g, hgt = g + 1 := ⟨hgt - 1, by omega⟩
  unfold f_E_leave at h
  refine CV_of (own := RX2) (by decide) rfl (Nat.le_of_ble_eq_true rfl) ?_
  intro p e s m args below meth c Q A H locs X hI hend ls hl
  have hx := X.1.1
  have hb := X.1.2.1
  have hl : lv_has ls 2 [(0, .ref (ρ 6))] := hl
  refine lv_aload_n hx hb dX2_leave_0 rfl (lv_at hl 0 rfl) ?_
  obtain ⟨x2, μ3, hc1, h⟩ := ca2_some h
  refine rc_vi (o := 6) (As := []) X hI (c_E_pop l D cI ρ g (by omega) hc1) rfl rfl gV_X2_90 hd_X2_pop (by decide) (Nat.le_refl _) hl.1 rfl (Nat.le_of_ble_eq_true rfl) dX2_leave_1 (fun H locs hI => ?_)
  refine lv_istore_n (lv' := [(1, .int x2), (0, .ref (ρ 6))]) hx hb dX2_leave_4 rfl hl (by decide) rfl (fun ls hl => ?_)
  refine lv_aload_n hx hb dX2_leave_5 rfl (lv_at hl 1 rfl) ?_
  refine lv_dup hx hb dX2_leave_6 rfl ?_
  refine rg_get X hI (o := 6) (j := 11) (k := 231) rfl rfl rfl inG2 (by decide) rfl wF_X2_40 dX2_leave_7 ?_
  refine lv_iconst (v := 1) hx hb dX2_leave_10 (by decide) ?_
  refine lv_isub hx hb dX2_leave_11 ?_
  refine rg_put X hI (o := 6) (j := 11) (k := 231) rfl rfl rfl rfl inG2 tyX2 tyX2_ok nmX2 (by decide) rfl wF_X2_40 rfl rfl rfl rfl dX2_leave_12 (fun H locs hI => ?_)
  obtain ⟨μ4, eμ4, h⟩ := nm_some h
  rw [← eμ4] at hI
  refine lv_aload_n hx hb dX2_leave_15 rfl (lv_at hl 1 rfl) ?_
  refine rg_get X hI (o := 6) (j := 11) (k := 231) rfl rfl rfl inG2 (by decide) rfl wF_X2_40 dX2_leave_16 ?_
  obtain ⟨k6, ek6, h⟩ := jn_some h
  have hj7 : ∀ (ls : Array Slot), lv_has ls 2 [(0, .ref (ρ 6))] → k6 = some ν → W p l e (rmL (g + 1)) s m args below meth c H locs 0 0 Q (F0 m 55 ls []) := by
    intro ls hl h
    rw [ek6] at h
    refine lv_aload_n hx hb dX2_leave_55 rfl (lv_at hl 0 rfl) ?_
    refine lv_iconst (v := 0) hx hb dX2_leave_56 (by decide) ?_
    refine rg_put X hI (o := 6) (j := 11) (k := 231) rfl rfl rfl rfl inG2 tyX2 tyX2_ok nmX2 (by decide) rfl wF_X2_40 rfl rfl rfl rfl dX2_leave_57 (fun H locs hI => ?_)
    obtain ⟨μ8, eμ8, h⟩ := nm_some h
    rw [← eμ8] at hI
    refine lv_aload_n hx hb dX2_leave_60 rfl (lv_at hl 0 rfl) ?_
    refine lv_iconst (v := 3) hx hb dX2_leave_61 (by decide) ?_
    refine rg_put X hI (o := 6) (j := 8) (k := 228) rfl rfl rfl rfl inG2 tyX2 tyX2_ok nmX2 (by decide) rfl wF_X2_30 rfl rfl rfl rfl dX2_leave_62 (fun H locs hI => ?_)
    obtain ⟨μ9, eμ9, h⟩ := nm_some h
    rw [← eμ9] at hI
    cases h
    exact hend H locs _ _ hI dX2_leave_65
  refine lv_if_le (tgt := 55) hx hb dX2_leave_19 (by decide) (fun c10 => ?_) (fun c10 => ?_)
  · have h := it_pos c10 h
    exact hj7 ls (lv_sub hl [1] rfl) h
  · have h := it_neg c10 h
    refine lv_aload_n hx hb dX2_leave_22 rfl (lv_at hl 1 rfl) ?_
    refine rg_get X hI (o := 6) (j := 11) (k := 231) rfl rfl rfl inG2 (by decide) rfl wF_X2_40 dX2_leave_23 ?_
    refine lv_aload_n hx hb dX2_leave_26 rfl (lv_at hl 1 rfl) ?_
    refine rg_getR X hI (o := 6) (j := 5) (k := 21) rfl rfl rfl inG2 (by decide) rfl wF_X2_21 dX2_leave_27 ?_
    refine rg_len X hI (o := 21) (v := 10) rfl (by decide) dX2_leave_30 ?_
    refine lv_icmp_ge (tgt := 55) hx hb dX2_leave_31 (by decide) (fun c11 => ?_) (fun c11 => ?_)
    · have h := it_pos c11 h
      exact hj7 ls (lv_sub hl [1] rfl) h
    · have h := it_neg c11 h
      refine lv_aload_n hx hb dX2_leave_34 rfl (lv_at hl 1 rfl) ?_
      refine lv_aload_n hx hb dX2_leave_35 rfl (lv_at hl 1 rfl) ?_
      refine rg_getR X hI (o := 6) (j := 5) (k := 21) rfl rfl rfl inG2 (by decide) rfl wF_X2_21 dX2_leave_36 ?_
      refine lv_aload_n hx hb dX2_leave_39 rfl (lv_at hl 1 rfl) ?_
      refine rg_get X hI (o := 6) (j := 11) (k := 231) rfl rfl rfl inG2 (by decide) rfl wF_X2_40 dX2_leave_40 ?_
      obtain ⟨hn12, h⟩ := gd_some h
      refine rg_ald X hI (o := 21) rfl hn12 dX2_leave_43 ?_
      obtain ⟨x13, ex13, h⟩ := nm_some h
      refine rg_top ex13 ?_
      refine rg_put X hI (o := 6) (j := 13) (k := 233) rfl rfl rfl rfl inG2 tyX2 tyX2_ok nmX2 (by decide) rfl wF_X2_46 rfl rfl rfl rfl dX2_leave_44 (fun H locs hI => ?_)
      obtain ⟨μ14, eμ14, h⟩ := nm_some h
      rw [← eμ14] at hI
      refine lv_aload_n hx hb dX2_leave_47 rfl (lv_at hl 1 rfl) ?_
      refine lv_iload_n hx hb dX2_leave_48 rfl (lv_at hl 0 rfl) ?_
      obtain ⟨μ16, hc15, h⟩ := ca_some h
      refine rc_vv (o := 6) (As := [.int x2]) X hI (c_E_push l D cI ρ g (by omega) hc15) rfl rfl gV_X2_99 hd_X2_push (by decide) (Nat.le_refl _) hl.1 rfl (Nat.le_of_ble_eq_true rfl) dX2_leave_49 (fun H locs hI => ?_)
      refine lv_goto (tgt := 65) hx hb dX2_leave_52 (by decide) ?_
      cases h
      exact hend H locs _ _ hI dX2_leave_65
set_option maxHeartbeats 4000000 in
set_option maxRecDepth 100000 in
theorem c_E_read (l : Launch) (D : va_G) (cI : ClassId) (ρ : Nat → Nat) (hgt : Nat) (hh : 2 ≤ hgt)  {μ ν : St} (h : f_E_read μ = some ν) : CV l yX2_read cX2_read 1 hgt TC cI D ρ [.ref (ρ 6)] μ ν := by
  obtain ⟨g, rfl⟩ : ∃ g, hgt = g + 1 := ⟨hgt - 1, by omega⟩
  unfold f_E_read at h
  refine CV_of (own := RX2) (by decide) rfl (Nat.le_of_ble_eq_true rfl) ?_
  intro p e s m args below meth c Q A H locs X hI hend ls hl
  have hx := X.1.1
  have hb := X.1.2.1
  have hl : lv_has ls 1 [(0, .ref (ρ 6))] := hl
  refine lv_aload_n hx hb dX2_read_0 rfl (lv_at hl 0 rfl) ?_
  refine rg_getR X hI (o := 6) (j := 1) (k := 2) rfl rfl rfl inG2 (by decide) rfl wF_X2_53 dX2_read_1 ?_
  obtain ⟨x2, hc1, h⟩ := ca_some h
  refine rc_vi (o := 2) (As := []) X hI (c_K_count l D cI ρ g (by omega) hc1) rfl rfl gV_X2_64 hd_X1_count (by decide) (Nat.le_refl _) hl.1 rfl (Nat.le_of_ble_eq_true rfl) dX2_read_4 (fun H locs hI => ?_)
  refine lv_if_le (tgt := 24) hx hb dX2_read_7 (by decide) (fun c3 => ?_) (fun c3 => ?_)
  · have h := it_pos c3 h
    refine lv_aload_n hx hb dX2_read_24 rfl (lv_at hl 0 rfl) ?_
    refine lv_iconst (v := 2) hx hb dX2_read_25 (by decide) ?_
    refine rg_put X hI (o := 6) (j := 8) (k := 228) rfl rfl rfl rfl inG2 tyX2 tyX2_ok nmX2 (by decide) rfl wF_X2_30 rfl rfl rfl rfl dX2_read_26 (fun H locs hI => ?_)
    obtain ⟨μ4, eμ4, h⟩ := nm_some h
    rw [← eμ4] at hI
    refine lv_aload_n hx hb dX2_read_29 rfl (lv_at hl 0 rfl) ?_
    refine lv_dup hx hb dX2_read_30 rfl ?_
    refine rg_get X hI (o := 6) (j := 13) (k := 233) rfl rfl rfl inG2 (by decide) rfl wF_X2_46 dX2_read_31 ?_
    refine lv_iconst (v := 1) hx hb dX2_read_34 (by decide) ?_
    refine lv_isub hx hb dX2_read_35 ?_
    refine rg_put X hI (o := 6) (j := 13) (k := 233) rfl rfl rfl rfl inG2 tyX2 tyX2_ok nmX2 (by decide) rfl wF_X2_46 rfl rfl rfl rfl dX2_read_36 (fun H locs hI => ?_)
    obtain ⟨μ5, eμ5, h⟩ := nm_some h
    rw [← eμ5] at hI
    cases h
    exact hend H locs _ _ hI dX2_read_39
  · have h := it_neg c3 h
    refine lv_aload_n hx hb dX2_read_10 rfl (lv_at hl 0 rfl) ?_
    refine lv_aload_n hx hb dX2_read_11 rfl (lv_at hl 0 rfl) ?_
    refine rg_getR X hI (o := 6) (j := 1) (k := 2) rfl rfl rfl inG2 (by decide) rfl wF_X2_53 dX2_read_12 ?_
    obtain ⟨x7, μ8, hc6, h⟩ := ca2_some h
    refine rc_vi (o := 2) (As := []) X hI (c_K_take l D cI ρ g (by omega) hc6) rfl rfl gV_X2_132 hd_X1_take (by decide) (Nat.le_refl _) hl.1 rfl (Nat.le_of_ble_eq_true rfl) dX2_read_15 (fun H locs hI => ?_)
    obtain ⟨μ10, hc9, h⟩ := ca_some h
    refine rc_vv (o := 6) (As := [.int x7]) X hI (c_E_push l D cI ρ g (by omega) hc9) rfl rfl gV_X2_99 hd_X2_push (by decide) (Nat.le_refl _) hl.1 rfl (Nat.le_of_ble_eq_true rfl) dX2_read_18 (fun H locs hI => ?_)
    refine lv_goto (tgt := 39) hx hb dX2_read_21 (by decide) ?_
    cases h
    exact hend H locs _ _ hI dX2_read_39
set_option maxHeartbeats 4000000 in
set_option maxRecDepth 100000 in
theorem c_E_getPlace (l : Launch) (D : va_G) (cI : ClassId) (ρ : Nat → Nat) (hgt : Nat) (hh : 2 ≤ hgt) {a1 : Int32} {μ ν : St} (h : f_E_getPlace a1 μ = some ν) : CV l yX2_getPlace cX2_getPlace 3 hgt TC cI D ρ [.ref (ρ 6), .int a1] μ ν := by
  obtain ⟨g, rfl⟩ : ∃ g, hgt = g + 1 := ⟨hgt - 1, by omega⟩
  unfold f_E_getPlace at h
  refine CV_of (own := RX2) (by decide) rfl (Nat.le_of_ble_eq_true rfl) ?_
  intro p e s m args below meth c Q A H locs X hI hend ls hl
  have hx := X.1.1
  have hb := X.1.2.1
  have hl : lv_has ls 3 [(0, .ref (ρ 6)), (1, .int a1)] := hl
  refine lv_aload_n hx hb dX2_getPlace_0 rfl (lv_at hl 0 rfl) ?_
  obtain ⟨x2, μ3, hc1, h⟩ := ca2_some h
  refine rc_vi (o := 6) (As := []) X hI (c_E_pop l D cI ρ g (by omega) hc1) rfl rfl gV_X2_90 hd_X2_pop (by decide) (Nat.le_refl _) hl.1 rfl (Nat.le_of_ble_eq_true rfl) dX2_getPlace_1 (fun H locs hI => ?_)
  refine lv_istore_n (lv' := [(2, .int x2), (0, .ref (ρ 6)), (1, .int a1)]) hx hb dX2_getPlace_4 rfl hl (by decide) rfl (fun ls hl => ?_)
  refine lv_iload_n hx hb dX2_getPlace_5 rfl (lv_at hl 0 rfl) ?_
  obtain ⟨k5, ek5, h⟩ := jn_some h
  have hj6 : ∀ (ls : Array Slot), lv_has ls 3 [(0, .ref (ρ 6))] → k5 = some ν → W p l e (rmL (g + 1)) s m args below meth c H locs 0 0 Q (F0 m 15 ls []) := by
    intro ls hl h
    rw [ek5] at h
    refine lv_aload_n hx hb dX2_getPlace_15 rfl (lv_at hl 0 rfl) ?_
    refine lv_iconst (v := 5) hx hb dX2_getPlace_16 (by decide) ?_
    refine rg_put X hI (o := 6) (j := 8) (k := 228) rfl rfl rfl rfl inG2 tyX2 tyX2_ok nmX2 (by decide) rfl wF_X2_30 rfl rfl rfl rfl dX2_getPlace_17 (fun H locs hI => ?_)
    obtain ⟨μ7, eμ7, h⟩ := nm_some h
    rw [← eμ7] at hI
    refine lv_goto (tgt := 33) hx hb dX2_getPlace_20 (by decide) ?_
    cases h
    exact hend H locs _ _ hI dX2_getPlace_33
  refine lv_if_lt (tgt := 15) hx hb dX2_getPlace_6 (by decide) (fun c8 => ?_) (fun c8 => ?_)
  · have h := it_pos c8 h
    exact hj6 ls (lv_sub hl [1] rfl) h
  · have h := it_neg c8 h
    refine lv_iload_n hx hb dX2_getPlace_9 rfl (lv_at hl 0 rfl) ?_
    refine lv_bipush (v := 8) hx hb dX2_getPlace_10 (by decide) ?_
    refine lv_icmp_lt (tgt := 23) hx hb dX2_getPlace_12 (by decide) (fun c9 => ?_) (fun c9 => ?_)
    · have h := it_pos c9 h
      refine lv_aload_n hx hb dX2_getPlace_23 rfl (lv_at hl 1 rfl) ?_
      refine lv_aload_n hx hb dX2_getPlace_24 rfl (lv_at hl 1 rfl) ?_
      refine lv_iload_n hx hb dX2_getPlace_25 rfl (lv_at hl 2 rfl) ?_
      refine lv_iload_n hx hb dX2_getPlace_26 rfl (lv_at hl 0 rfl) ?_
      obtain ⟨x11, hc10, h⟩ := ca_some h
      refine rc_vi (o := 6) (As := [.int a1, .int x2]) X hI (c_E_placeAt l D cI ρ g (by omega) hc10) rfl rfl gV_X2_135 hd_X2_placeAt (by decide) (Nat.le_refl _) hl.1 rfl (Nat.le_of_ble_eq_true rfl) dX2_getPlace_27 (fun H locs hI => ?_)
      obtain ⟨μ13, hc12, h⟩ := ca_some h
      refine rc_vv (o := 6) (As := [.int x11]) X hI (c_E_push l D cI ρ g (by omega) hc12) rfl rfl gV_X2_99 hd_X2_push (by decide) (Nat.le_refl _) hl.1 rfl (Nat.le_of_ble_eq_true rfl) dX2_getPlace_30 (fun H locs hI => ?_)
      cases h
      exact hend H locs _ _ hI dX2_getPlace_33
    · have h := it_neg c9 h
      exact hj6 ls (lv_sub hl [1] rfl) h
set_option maxHeartbeats 4000000 in
set_option maxRecDepth 100000 in
theorem c_E_setPlace (l : Launch) (D : va_G) (cI : ClassId) (ρ : Nat → Nat) (hgt : Nat) (hh : 2 ≤ hgt) {a1 : Int32} {μ ν : St} (h : f_E_setPlace a1 μ = some ν) : CV l yX2_setPlace cX2_setPlace 5 hgt TC cI D ρ [.ref (ρ 6), .int a1] μ ν := by
  obtain ⟨g, rfl⟩ : ∃ g, hgt = g + 1 := ⟨hgt - 1, by omega⟩
  unfold f_E_setPlace at h
  refine CV_of (own := RX2) (by decide) rfl (Nat.le_of_ble_eq_true rfl) ?_
  intro p e s m args below meth c Q A H locs X hI hend ls hl
  have hx := X.1.1
  have hb := X.1.2.1
  have hl : lv_has ls 5 [(0, .ref (ρ 6)), (1, .int a1)] := hl
  refine lv_aload_n hx hb dX2_setPlace_0 rfl (lv_at hl 0 rfl) ?_
  obtain ⟨x2, μ3, hc1, h⟩ := ca2_some h
  refine rc_vi (o := 6) (As := []) X hI (c_E_pop l D cI ρ g (by omega) hc1) rfl rfl gV_X2_90 hd_X2_pop (by decide) (Nat.le_refl _) hl.1 rfl (Nat.le_of_ble_eq_true rfl) dX2_setPlace_1 (fun H locs hI => ?_)
  refine lv_istore_n (lv' := [(2, .int x2), (0, .ref (ρ 6)), (1, .int a1)]) hx hb dX2_setPlace_4 rfl hl (by decide) rfl (fun ls hl => ?_)
  refine lv_aload_n hx hb dX2_setPlace_5 rfl (lv_at hl 1 rfl) ?_
  obtain ⟨x5, μ6, hc4, h⟩ := ca2_some h
  refine rc_vi (o := 6) (As := []) X hI (c_E_pop l D cI ρ g (by omega) hc4) rfl rfl gV_X2_90 hd_X2_pop (by decide) (Nat.le_refl _) hl.1 rfl (Nat.le_of_ble_eq_true rfl) dX2_setPlace_6 (fun H locs hI => ?_)
  refine lv_istore_n (lv' := [(3, .int x5), (2, .int x2), (0, .ref (ρ 6)), (1, .int a1)]) hx hb dX2_setPlace_9 rfl hl (by decide) rfl (fun ls hl => ?_)
  refine lv_iload_n hx hb dX2_setPlace_10 rfl (lv_at hl 3 rfl) ?_
  refine lv_bipush (v := 8) hx hb dX2_setPlace_11 (by decide) ?_
  refine lv_imul hx hb dX2_setPlace_13 ?_
  refine lv_iload_n hx hb dX2_setPlace_14 rfl (lv_at hl 0 rfl) ?_
  refine lv_iadd hx hb dX2_setPlace_15 ?_
  obtain ⟨x7, ex7, h⟩ := nm_some h
  refine rg_top ex7 ?_
  refine lv_istore (lv' := [(4, .int x7), (3, .int x5), (2, .int x2), (0, .ref (ρ 6)), (1, .int a1)]) hx hb dX2_setPlace_16 hl (by decide) rfl (fun ls hl => ?_)
  refine lv_iload_n hx hb dX2_setPlace_18 rfl (lv_at hl 1 rfl) ?_
  obtain ⟨k9, ek9, h⟩ := jn_some h
  have hj10 : ∀ (ls : Array Slot), lv_has ls 5 [(0, .ref (ρ 6))] → k9 = some ν → W p l e (rmL (g + 1)) s m args below meth c H locs 0 0 Q (F0 m 28 ls []) := by
    intro ls hl h
    rw [ek9] at h
    refine lv_aload_n hx hb dX2_setPlace_28 rfl (lv_at hl 0 rfl) ?_
    refine lv_iconst (v := 5) hx hb dX2_setPlace_29 (by decide) ?_
    refine rg_put X hI (o := 6) (j := 8) (k := 228) rfl rfl rfl rfl inG2 tyX2 tyX2_ok nmX2 (by decide) rfl wF_X2_30 rfl rfl rfl rfl dX2_setPlace_30 (fun H locs hI => ?_)
    obtain ⟨μ11, eμ11, h⟩ := nm_some h
    rw [← eμ11] at hI
    refine lv_goto (tgt := 59) hx hb dX2_setPlace_33 (by decide) ?_
    cases h
    exact hend H locs _ _ hI dX2_setPlace_59
  refine lv_if_lt (tgt := 28) hx hb dX2_setPlace_19 (by decide) (fun c12 => ?_) (fun c12 => ?_)
  · have h := it_pos c12 h
    exact hj10 ls (lv_sub hl [3] rfl) h
  · have h := it_neg c12 h
    refine lv_iload_n hx hb dX2_setPlace_22 rfl (lv_at hl 1 rfl) ?_
    refine lv_bipush (v := 8) hx hb dX2_setPlace_23 (by decide) ?_
    refine lv_icmp_lt (tgt := 36) hx hb dX2_setPlace_25 (by decide) (fun c13 => ?_) (fun c13 => ?_)
    · have h := it_pos c13 h
      refine lv_iload hx hb dX2_setPlace_36 (lv_at hl 0 rfl) ?_
      refine lv_if_lt (tgt := 59) hx hb dX2_setPlace_38 (by decide) (fun c14 => ?_) (fun c14 => ?_)
      · have h := it_pos c14 h
        cases h
        exact hend H locs _ _ hI dX2_setPlace_59
      · have h := it_neg c14 h
        refine lv_iload hx hb dX2_setPlace_41 (lv_at hl 0 rfl) ?_
        refine lv_aload_n hx hb dX2_setPlace_43 rfl (lv_at hl 3 rfl) ?_
        refine rg_getR X hI (o := 6) (j := 3) (k := 19) rfl rfl rfl inG2 (by decide) rfl wF_X2_15 dX2_setPlace_44 ?_
        refine rg_len X hI (o := 19) (v := 32) rfl (by decide) dX2_setPlace_47 ?_
        refine lv_icmp_ge (tgt := 59) hx hb dX2_setPlace_48 (by decide) (fun c15 => ?_) (fun c15 => ?_)
        · have h := it_pos c15 h
          cases h
          exact hend H locs _ _ hI dX2_setPlace_59
        · have h := it_neg c15 h
          refine lv_aload_n hx hb dX2_setPlace_51 rfl (lv_at hl 3 rfl) ?_
          refine rg_getR X hI (o := 6) (j := 3) (k := 19) rfl rfl rfl inG2 (by decide) rfl wF_X2_15 dX2_setPlace_52 ?_
          refine lv_iload hx hb dX2_setPlace_55 (lv_at hl 0 rfl) ?_
          refine lv_iload_n hx hb dX2_setPlace_57 rfl (lv_at hl 2 rfl) ?_
          obtain ⟨hn16, h⟩ := gd_some h
          refine rg_ast X hI (o := 19) rfl rfl hn16 dX2_setPlace_58 (fun H locs hI => ?_)
          obtain ⟨μ17, eμ17, h⟩ := nm_some h
          rw [← eμ17] at hI
          cases h
          exact hend H locs _ _ hI dX2_setPlace_59
    · have h := it_neg c13 h
      exact hj10 ls (lv_sub hl [3] rfl) h
