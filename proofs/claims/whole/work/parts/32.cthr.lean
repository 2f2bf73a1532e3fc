/-! the class: contracts of the methods that may throw -/
def f_S_words (N : Nat) (a1 : Int32) (a2 : Int32) (μ : St) : Option (Nat × Int32 × St) :=
if a2 < (1 : Int32) then (
some (1, 0, μ))
else (
if a2 ≤ (4 : Int32) then (
lpk (fun (k5 : Int32 → Option (Nat × Int32 × St)) (x3 : Int32) =>
if a2 ≤ x3 then (
ca (f_T_length μ) fun x9 =>
if (x9 + a2) ≤ (160 : Int32) then (
nm (a2 - (1 : Int32)) fun x11 =>
lpk (fun (k14 : Int32 → St → Option (Nat × Int32 × St)) (x12 : Int32) (μ13 : St) =>
if x12 < 0 then (
ca (f_T_length μ13) fun x18 =>
some (0, x18, μ13))
else (
ca (f_S_byteOf a1 x12) fun x20 =>
ca (f_T_add x20 μ13) fun μ22 =>
nm (x12 + (-1 : Int32)) fun x23 =>
k14 x23 μ22)) (fun _ _ => none) N x11 μ)
else (
some (2, 0, μ)))
else (
ca (f_S_byteOf a1 x3) fun x25 =>
if x25 ≤ (191 : Int32) then (
nm (x3 + (1 : Int32)) fun x27 =>
k5 x27)
else (
some (1, 0, μ)))) (fun _ => none) N (0 : Int32))
else (
some (1, 0, μ)))
def f_S_start (N : Nat)  (μ : St) : Option (Nat × Int32 × St) :=
ca (f_P_functions μ) fun x2 =>
if x2 = 0 then (
some (2, 0, μ))
else (
ca (f_E_begin N μ) fun μ5 =>
some (0, (1 : Int32), μ5))
def f_S_key (a1 : Int32) (μ : St) : Option (Nat × Int32 × St) :=
if a1 < (-32768 : Int32) then (
some (1, 0, μ))
else (
if a1 ≤ (32767 : Int32) then (
ca (f_K_full μ) fun x4 =>
if x4 = 0 then (
ca (f_K_add a1 μ) fun μ7 =>
ca (f_K_count μ7) fun x9 =>
some (0, x9, μ7))
else (
some (2, 0, μ)))
else (
some (1, 0, μ)))
def f_S_run (N : Nat) (a1 : Int32) (μ : St) : Option (Nat × Int32 × St) :=
if a1 < (1 : Int32) then (
some (1, 0, μ))
else (
if a1 ≤ (200 : Int32) then (
ca (f_E_state μ) fun x4 =>
if x4 = 0 then (
some (2, 0, μ))
else (
ca2 (f_E_go N a1 μ) fun x7 μ8 =>
some (0, x7, μ8)))
else (
some (1, 0, μ)))
def f_S_shown (a1 : Int32) (μ : St) : Option (Nat × Int32 × St) :=
ca (f_E_hasShown a1 μ) fun x2 =>
if x2 = 0 then (
some (3, 0, μ))
else (
ca (f_E_shownAt a1 μ) fun x5 =>
some (0, x5, μ))
def f_S_global (a1 : Int32) (μ : St) : Option (Nat × Int32 × St) :=
if a1 < 0 then (
some (3, 0, μ))
else (
if a1 < (8 : Int32) then (
ca (f_E_globalAt a1 μ) fun x4 =>
some (0, x4, μ))
else (
some (3, 0, μ)))
def f_S_array (a1 : Int32) (a2 : Int32) (μ : St) : Option (Nat × Int32 × St) :=
if a1 < 0 then (
some (3, 0, μ))
else (
if (4 : Int32) ≤ a1 then (
some (3, 0, μ))
else (
if a2 < 0 then (
some (3, 0, μ))
else (
if a2 < (8 : Int32) then (
ca (f_E_placeAt a1 a2 μ) fun x6 =>
some (0, x6, μ))
else (
some (3, 0, μ)))))
set_option maxHeartbeats 4000000 in
set_option maxRecDepth 100000 in
theorem c_S_words (l : Launch) (D : va_G) (cI : ClassId) (ρ : Nat → Nat) {N : Nat} (hst : l.stackTraces = false) (hgt : Nat) (hh : 6 ≤ hgt) {a1 : Int32} {a2 : Int32} {μ ν : St} {k : Nat} {r : Int32} (h : f_S_words N a1 a2 μ = some (k, r, ν)) : CX l yX5_words cX5_words 4 (some .int) hgt TC cI D ρ [.ref (ρ 0), .int a1, .int a2] μ k r ν := by
  obtain ⟨g, rfl⟩ : ∃ g, hgt = g + 1 := ⟨hgt - 1, by omega⟩
  unfold f_S_words at h
  refine CX_of (by decide) rfl (Nat.le_of_ble_eq_true rfl) rfl hst (by omega) ?_
  intro p e s m args below meth c Q A H locs X hI hend hthr ls hl
  have hx := X.1.1
  have hb := X.1.2.1
  have hl : lv_has ls 4 [(0, .ref (ρ 0)), (1, .int a1), (2, .int a2)] := hl
  refine lv_iload_n hx hb dX5_words_0 rfl (lv_at hl 2 rfl) ?_
  refine lv_iconst (v := 1) hx hb dX5_words_1 (by decide) ?_
  refine lv_icmp_lt (tgt := 10) hx hb dX5_words_2 (by decide) (fun c1 => ?_) (fun c1 => ?_)
  · have h := it_pos c1 h
    cases h
    exact hthr H locs _ _ _ _ _ _ _ (by decide) hI hl.1 (Nat.le_of_ble_eq_true rfl) xsite_1 (List.mem_of_getElem? (i := 0) rfl) dX5_words_10 dX5_words_13 dX5_words_14 dX5_words_16 dX5_words_19
  · have h := it_neg c1 h
    refine lv_iload_n hx hb dX5_words_5 rfl (lv_at hl 2 rfl) ?_
    refine lv_iconst (v := 4) hx hb dX5_words_6 (by decide) ?_
    refine lv_icmp_le (tgt := 20) hx hb dX5_words_7 (by decide) (fun c2 => ?_) (fun c2 => ?_)
    · have h := it_pos c2 h
      refine lv_iconst (v := 0) hx hb dX5_words_20 (by decide) ?_
      refine lv_istore_n (lv' := [(3, .int (0 : Int32)), (0, .ref (ρ 0)), (1, .int a1), (2, .int a2)]) hx hb dX5_words_21 rfl hl (by decide) rfl (fun ls hl => ?_)
      refine lp_elim (fun (k5 : Int32 → Option (Nat × Int32 × St)) => ∀ (x3 : Int32) (H : Heap) (locs : List Loc) (ls : Array Slot), lv_has ls 4 [(0, .ref (ρ 0)), (1, .int a1), (2, .int a2), (3, .int x3)] → RI TC cI D A s.heap ρ μ H locs → k5 x3 = some (k, r, ν) → W p l e (rmX (g + 1)) s m args below meth c H locs 0 0 Q (F0 m 22 ls [])) ?_ ?_ N (0 : Int32) H locs ls (lv_sub hl [1, 2, 3, 0] rfl) hI h
      · intro x3 H locs ls hl hI h
        cases h
      · intro k5 ih6 x3 H locs ls hl hI h
        try dsimp only at h
        refine lv_iload_n hx hb dX5_words_22 rfl (lv_at hl 3 rfl) ?_
        refine lv_iload_n hx hb dX5_words_23 rfl (lv_at hl 2 rfl) ?_
        refine lv_icmp_ge (tgt := 54) hx hb dX5_words_24 (by decide) (fun c7 => ?_) (fun c7 => ?_)
        · have h := it_pos c7 h
          refine lv_aload_n hx hb dX5_words_54 rfl (lv_at hl 0 rfl) ?_
          refine rg_getR X hI (o := 0) (j := 0) (k := 1) rfl rfl rfl inG5 (by decide) rfl wF_X5_10 dX5_words_55 ?_
          obtain ⟨x9, hc8, h⟩ := ca_some h
          refine rq_vi (o := 1) (As := []) X hI (c_T_length l D cI ρ g (by omega) hc8) rfl rfl gV_X5_64 hd_X4_length (rm_okX (by decide) (Nat.le_refl _)) ⟨Nat.zero_le _, Nat.zero_le _⟩ hl.1 rfl (Nat.le_of_ble_eq_true rfl) dX5_words_58 (fun H locs hI => ?_)
          refine lv_iload_n hx hb dX5_words_61 rfl (lv_at hl 2 rfl) ?_
          refine lv_iadd hx hb dX5_words_62 ?_
          refine lv_sipush (v := 160) hx hb dX5_words_63 (by decide) ?_
          refine lv_icmp_le (tgt := 79) hx hb dX5_words_66 (by decide) (fun c10 => ?_) (fun c10 => ?_)
          · have h := it_pos c10 h
            refine lv_iload_n hx hb dX5_words_79 rfl (lv_at hl 2 rfl) ?_
            refine lv_iconst (v := 1) hx hb dX5_words_80 (by decide) ?_
            refine lv_isub hx hb dX5_words_81 ?_
            obtain ⟨x11, ex11, h⟩ := nm_some h
            refine rg_top ex11 ?_
            refine lv_istore_n (lv' := [(3, .int x11), (0, .ref (ρ 0)), (1, .int a1), (2, .int a2)]) hx hb dX5_words_82 rfl hl (by decide) rfl (fun ls hl => ?_)
            refine lp_elim (fun (k14 : Int32 → St → Option (Nat × Int32 × St)) => ∀ (x12 : Int32) (μ13 : St) (H : Heap) (locs : List Loc) (ls : Array Slot), lv_has ls 4 [(0, .ref (ρ 0)), (1, .int a1), (3, .int x12)] → RI TC cI D A s.heap ρ μ13 H locs → k14 x12 μ13 = some (k, r, ν) → W p l e (rmX (g + 1)) s m args below meth c H locs 0 0 Q (F0 m 83 ls [])) ?_ ?_ N x11 μ H locs ls (lv_sub hl [1, 2, 0] rfl) hI h
            · intro x12 μ13 H locs ls hl hI h
              cases h
            · intro k14 ih15 x12 μ13 H locs ls hl hI h
              try dsimp only at h
              refine lv_iload_n hx hb dX5_words_83 rfl (lv_at hl 2 rfl) ?_
              refine lv_if_lt (tgt := 105) hx hb dX5_words_84 (by decide) (fun c16 => ?_) (fun c16 => ?_)
              · have h := it_pos c16 h
                refine lv_aload_n hx hb dX5_words_105 rfl (lv_at hl 0 rfl) ?_
                refine rg_getR X hI (o := 0) (j := 0) (k := 1) rfl rfl rfl inG5 (by decide) rfl wF_X5_10 dX5_words_106 ?_
                obtain ⟨x18, hc17, h⟩ := ca_some h
                refine rq_vi (o := 1) (As := []) X hI (c_T_length l D cI ρ g (by omega) hc17) rfl rfl gV_X5_64 hd_X4_length (rm_okX (by decide) (Nat.le_refl _)) ⟨Nat.zero_le _, Nat.zero_le _⟩ hl.1 rfl (Nat.le_of_ble_eq_true rfl) dX5_words_109 (fun H locs hI => ?_)
                cases h
                exact hend H locs _ _ rfl hI dX5_words_112
              · have h := it_neg c16 h
                refine lv_aload_n hx hb dX5_words_87 rfl (lv_at hl 0 rfl) ?_
                refine rg_getR X hI (o := 0) (j := 0) (k := 1) rfl rfl rfl inG5 (by decide) rfl wF_X5_10 dX5_words_88 ?_
                refine lv_iload_n hx hb dX5_words_91 rfl (lv_at hl 1 rfl) ?_
                refine lv_iload_n hx hb dX5_words_92 rfl (lv_at hl 2 rfl) ?_
                obtain ⟨x20, hc19, h⟩ := ca_some h
                refine rq_si (As := [.int a1, .int x12]) X hI (c_S_byteOf l D cI ρ g (by omega) hc19) gV_X5_58 hd_X5_byteOf (rm_okX (by decide) (Nat.le_refl _)) ⟨Nat.zero_le _, Nat.zero_le _⟩ hl.1 rfl (Nat.le_of_ble_eq_true rfl) dX5_words_93 (fun H locs hI => ?_)
                obtain ⟨μ22, hc21, h⟩ := ca_some h
                refine rq_vv (o := 1) (As := [.int x20]) X hI (c_T_add l D cI ρ g (by omega) hc21) rfl rfl gV_X5_73 hd_X4_add (rm_okX (by decide) (Nat.le_refl _)) ⟨Nat.zero_le _, Nat.zero_le _⟩ hl.1 rfl (Nat.le_of_ble_eq_true rfl) dX5_words_96 (fun H locs hI => ?_)
                obtain ⟨x23, ex23, h⟩ := nm_some h
                refine lv_iinc (v := x23) (lv' := [(3, .int x23), (0, .ref (ρ 0)), (1, .int a1)]) hx hb dX5_words_99 hl (k := 2) rfl (by rw [ex23]; rfl) (by decide) rfl (fun ls hl => ?_)
                refine lv_goto (tgt := 83) hx hb dX5_words_102 (by decide) ?_
                exact ih15 x23 μ22 H locs ls (lv_sub hl [1, 2, 0] rfl) hI h
          · have h := it_neg c10 h
            cases h
            exact hthr H locs _ _ _ _ _ _ _ (by decide) hI hl.1 (Nat.le_of_ble_eq_true rfl) xsite_2 (List.mem_of_getElem? (i := 2) rfl) dX5_words_69 dX5_words_72 dX5_words_73 dX5_words_75 dX5_words_78
        · have h := it_neg c7 h
          refine lv_iload_n hx hb dX5_words_27 rfl (lv_at hl 1 rfl) ?_
          refine lv_iload_n hx hb dX5_words_28 rfl (lv_at hl 3 rfl) ?_
          obtain ⟨x25, hc24, h⟩ := ca_some h
          refine rq_si (As := [.int a1, .int x3]) X hI (c_S_byteOf l D cI ρ g (by omega) hc24) gV_X5_58 hd_X5_byteOf (rm_okX (by decide) (Nat.le_refl _)) ⟨Nat.zero_le _, Nat.zero_le _⟩ hl.1 rfl (Nat.le_of_ble_eq_true rfl) dX5_words_29 (fun H locs hI => ?_)
          refine lv_sipush (v := 191) hx hb dX5_words_32 (by decide) ?_
          refine lv_icmp_le (tgt := 48) hx hb dX5_words_35 (by decide) (fun c26 => ?_) (fun c26 => ?_)
          · have h := it_pos c26 h
            obtain ⟨x27, ex27, h⟩ := nm_some h
            refine lv_iinc (v := x27) (lv' := [(3, .int x27), (0, .ref (ρ 0)), (1, .int a1), (2, .int a2)]) hx hb dX5_words_48 hl (k := 3) rfl (by rw [ex27]; rfl) (by decide) rfl (fun ls hl => ?_)
            refine lv_goto (tgt := 22) hx hb dX5_words_51 (by decide) ?_
            exact ih6 x27 H locs ls (lv_sub hl [1, 2, 3, 0] rfl) hI h
          · have h := it_neg c26 h
            cases h
            exact hthr H locs _ _ _ _ _ _ _ (by decide) hI hl.1 (Nat.le_of_ble_eq_true rfl) xsite_1 (List.mem_of_getElem? (i := 1) rfl) dX5_words_38 dX5_words_41 dX5_words_42 dX5_words_44 dX5_words_47
    · have h := it_neg c2 h
      cases h
      exact hthr H locs _ _ _ _ _ _ _ (by decide) hI hl.1 (Nat.le_of_ble_eq_true rfl) xsite_1 (List.mem_of_getElem? (i := 0) rfl) dX5_words_10 dX5_words_13 dX5_words_14 dX5_words_16 dX5_words_19
set_option maxHeartbeats 4000000 in
set_option maxRecDepth 100000 in
theorem c_S_start (l : Launch) (D : va_G) (cI : ClassId) (ρ : Nat → Nat) {N : Nat} (hst : l.stackTraces = false) (hgt : Nat) (hh : 6 ≤ hgt)  {μ ν : St} {k : Nat} {r : Int32} (h : f_S_start N μ = some (k, r, ν)) : CX l yX5_start cX5_start 1 (some .boolean) hgt TC cI D ρ [.ref (ρ 0)] μ k r ν := by
  obtain ⟨g, rfl⟩ : ∃ g, hgt = g + 1 := ⟨hgt - 1, by omega⟩
  unfold f_S_start at h
  refine CXZ_of (by decide) rfl (Nat.le_of_ble_eq_true rfl) rfl hst (by omega) ?_
  intro p e s m args below meth c Q A H locs X hI hend hthr ls hl
  have hx := X.1.1
  have hb := X.1.2.1
  have hl : lv_has ls 1 [(0, .ref (ρ 0))] := hl
  refine lv_aload_n hx hb dX5_start_0 rfl (lv_at hl 0 rfl) ?_
  refine rg_getR X hI (o := 0) (j := 2) (k := 3) rfl rfl rfl inG5 (by decide) rfl wF_X5_26 dX5_start_1 ?_
  obtain ⟨x2, hc1, h⟩ := ca_some h
  refine rq_vi (o := 3) (As := []) X hI (c_P_functions l D cI ρ g (by omega) hc1) rfl rfl gV_X5_88 hd_X3_functions (rm_okX (by decide) (Nat.le_refl _)) ⟨Nat.zero_le _, Nat.zero_le _⟩ hl.1 rfl (Nat.le_of_ble_eq_true rfl) dX5_start_4 (fun H locs hI => ?_)
  refine lv_if_ne (tgt := 20) hx hb dX5_start_7 (by decide) (fun c3 => ?_) (fun c3 => ?_)
  · have h := it_neg c3 h
    refine lv_aload_n hx hb dX5_start_20 rfl (lv_at hl 0 rfl) ?_
    refine rg_getR X hI (o := 0) (j := 5) (k := 6) rfl rfl rfl inG5 (by decide) rfl wF_X5_47 dX5_start_21 ?_
    obtain ⟨μ5, hc4, h⟩ := ca_some h
    refine rq_vv (o := 6) (As := []) X hI (c_E_begin l D cI ρ g (by omega) hc4) rfl rfl gV_X5_93 hd_X2_begin (rm_okX (by decide) (Nat.le_refl _)) ⟨Nat.zero_le _, Nat.zero_le _⟩ hl.1 rfl (Nat.le_of_ble_eq_true rfl) dX5_start_24 (fun H locs hI => ?_)
    refine lv_iconst (v := 1) hx hb dX5_start_27 (by decide) ?_
    cases h
    exact hend H locs _ _ (by decide) rfl hI dX5_start_28
  · have h := it_pos c3 h
    cases h
    exact hthr H locs _ _ _ _ _ _ _ (by decide) hI hl.1 (Nat.le_of_ble_eq_true rfl) xsite_2 (List.mem_of_getElem? (i := 3) rfl) dX5_start_10 dX5_start_13 dX5_start_14 dX5_start_16 dX5_start_19
set_option maxHeartbeats 4000000 in
set_option maxRecDepth 100000 in
theorem c_S_key (l : Launch) (D : va_G) (cI : ClassId) (ρ : Nat → Nat) (hst : l.stackTraces = false) (hgt : Nat) (hh : 6 ≤ hgt) {a1 : Int32} {μ ν : St} {k : Nat} {r : Int32} (h : f_S_key a1 μ = some (k, r, ν)) : CX l yX5_key cX5_key 2 (some .int) hgt TC cI D ρ [.ref (ρ 0), .int a1] μ k r ν := by
  obtain ⟨g, rfl⟩ : ∃ g, hgt = g + 1 := ⟨hgt - 1, by omega⟩
  unfold f_S_key at h
  refine CX_of (by decide) rfl (Nat.le_of_ble_eq_true rfl) rfl hst (by omega) ?_
  intro p e s m args below meth c Q A H locs X hI hend hthr ls hl
  have hx := X.1.1
  have hb := X.1.2.1
  have hl : lv_has ls 2 [(0, .ref (ρ 0)), (1, .int a1)] := hl
  refine lv_iload_n hx hb dX5_key_0 rfl (lv_at hl 1 rfl) ?_
  refine lv_sipush (v := -32768) hx hb dX5_key_1 (by decide) ?_
  refine lv_icmp_lt (tgt := 14) hx hb dX5_key_4 (by decide) (fun c1 => ?_) (fun c1 => ?_)
  · have h := it_pos c1 h
    cases h
    exact hthr H locs _ _ _ _ _ _ _ (by decide) hI hl.1 (Nat.le_of_ble_eq_true rfl) xsite_1 (List.mem_of_getElem? (i := 4) rfl) dX5_key_14 dX5_key_17 dX5_key_18 dX5_key_20 dX5_key_23
  · have h := it_neg c1 h
    refine lv_iload_n hx hb dX5_key_7 rfl (lv_at hl 1 rfl) ?_
    refine lv_sipush (v := 32767) hx hb dX5_key_8 (by decide) ?_
    refine lv_icmp_le (tgt := 24) hx hb dX5_key_11 (by decide) (fun c2 => ?_) (fun c2 => ?_)
    · have h := it_pos c2 h
      refine lv_aload_n hx hb dX5_key_24 rfl (lv_at hl 0 rfl) ?_
      refine rg_getR X hI (o := 0) (j := 1) (k := 2) rfl rfl rfl inG5 (by decide) rfl wF_X5_19 dX5_key_25 ?_
      obtain ⟨x4, hc3, h⟩ := ca_some h
      refine rq_vi (o := 2) (As := []) X hI (c_K_full l D cI ρ g (by omega) hc3) rfl rfl gV_X5_98 hd_X1_full (rm_okX (by decide) (Nat.le_refl _)) ⟨Nat.zero_le _, Nat.zero_le _⟩ hl.1 rfl (Nat.le_of_ble_eq_true rfl) dX5_key_28 (fun H locs hI => ?_)
      refine lv_if_eq (tgt := 44) hx hb dX5_key_31 (by decide) (fun c5 => ?_) (fun c5 => ?_)
      · have h := it_pos c5 h
        refine lv_aload_n hx hb dX5_key_44 rfl (lv_at hl 0 rfl) ?_
        refine rg_getR X hI (o := 0) (j := 1) (k := 2) rfl rfl rfl inG5 (by decide) rfl wF_X5_19 dX5_key_45 ?_
        refine lv_iload_n hx hb dX5_key_48 rfl (lv_at hl 1 rfl) ?_
        obtain ⟨μ7, hc6, h⟩ := ca_some h
        refine rq_vv (o := 2) (As := [.int a1]) X hI (c_K_add l D cI ρ g (by omega) hc6) rfl rfl gV_X5_104 hd_X1_add (rm_okX (by decide) (Nat.le_refl _)) ⟨Nat.zero_le _, Nat.zero_le _⟩ hl.1 rfl (Nat.le_of_ble_eq_true rfl) dX5_key_49 (fun H locs hI => ?_)
        refine lv_aload_n hx hb dX5_key_52 rfl (lv_at hl 0 rfl) ?_
        refine rg_getR X hI (o := 0) (j := 1) (k := 2) rfl rfl rfl inG5 (by decide) rfl wF_X5_19 dX5_key_53 ?_
        obtain ⟨x9, hc8, h⟩ := ca_some h
        refine rq_vi (o := 2) (As := []) X hI (c_K_count l D cI ρ g (by omega) hc8) rfl rfl gV_X5_105 hd_X1_count (rm_okX (by decide) (Nat.le_refl _)) ⟨Nat.zero_le _, Nat.zero_le _⟩ hl.1 rfl (Nat.le_of_ble_eq_true rfl) dX5_key_56 (fun H locs hI => ?_)
        cases h
        exact hend H locs _ _ rfl hI dX5_key_59
      · have h := it_neg c5 h
        cases h
        exact hthr H locs _ _ _ _ _ _ _ (by decide) hI hl.1 (Nat.le_of_ble_eq_true rfl) xsite_2 (List.mem_of_getElem? (i := 5) rfl) dX5_key_34 dX5_key_37 dX5_key_38 dX5_key_40 dX5_key_43
    · have h := it_neg c2 h
      cases h
      exact hthr H locs _ _ _ _ _ _ _ (by decide) hI hl.1 (Nat.le_of_ble_eq_true rfl) xsite_1 (List.mem_of_getElem? (i := 4) rfl) dX5_key_14 dX5_key_17 dX5_key_18 dX5_key_20 dX5_key_23
set_option maxHeartbeats 4000000 in
set_option maxRecDepth 100000 in
theorem c_S_run (l : Launch) (D : va_G) (cI : ClassId) (ρ : Nat → Nat) {N : Nat} (hst : l.stackTraces = false) (hgt : Nat) (hh : 7 ≤ hgt) {a1 : Int32} {μ ν : St} {k : Nat} {r : Int32} (h : f_S_run N a1 μ = some (k, r, ν)) : CX l yX5_run cX5_run 2 (some .int) hgt TC cI D ρ [.ref (ρ 0), .int a1] μ k r ν := by
  obtain ⟨g, rfl⟩ : ∃ g, hgt = g + 1 := ⟨hgt - 1, by omega⟩
  unfold f_S_run at h
  refine CX_of (by decide) rfl (Nat.le_of_ble_eq_true rfl) rfl hst (by omega) ?_
  intro p e s m args below meth c Q A H locs X hI hend hthr ls hl
  have hx := X.1.1
  have hb := X.1.2.1
  have hl : lv_has ls 2 [(0, .ref (ρ 0)), (1, .int a1)] := hl
  refine lv_iload_n hx hb dX5_run_0 rfl (lv_at hl 1 rfl) ?_
  refine lv_iconst (v := 1) hx hb dX5_run_1 (by decide) ?_
  refine lv_icmp_lt (tgt := 12) hx hb dX5_run_2 (by decide) (fun c1 => ?_) (fun c1 => ?_)
  · have h := it_pos c1 h
    cases h
    exact hthr H locs _ _ _ _ _ _ _ (by decide) hI hl.1 (Nat.le_of_ble_eq_true rfl) xsite_1 (List.mem_of_getElem? (i := 6) rfl) dX5_run_12 dX5_run_15 dX5_run_16 dX5_run_18 dX5_run_21
  · have h := it_neg c1 h
    refine lv_iload_n hx hb dX5_run_5 rfl (lv_at hl 1 rfl) ?_
    refine lv_sipush (v := 200) hx hb dX5_run_6 (by decide) ?_
    refine lv_icmp_le (tgt := 22) hx hb dX5_run_9 (by decide) (fun c2 => ?_) (fun c2 => ?_)
    · have h := it_pos c2 h
      refine lv_aload_n hx hb dX5_run_22 rfl (lv_at hl 0 rfl) ?_
      refine rg_getR X hI (o := 0) (j := 5) (k := 6) rfl rfl rfl inG5 (by decide) rfl wF_X5_47 dX5_run_23 ?_
      obtain ⟨x4, hc3, h⟩ := ca_some h
      refine rq_vi (o := 6) (As := []) X hI (c_E_state l D cI ρ g (by omega) hc3) rfl rfl gV_X5_110 hd_X2_state (rm_okX (by decide) (Nat.le_refl _)) ⟨Nat.zero_le _, Nat.zero_le _⟩ hl.1 rfl (Nat.le_of_ble_eq_true rfl) dX5_run_26 (fun H locs hI => ?_)
      refine lv_if_ne (tgt := 42) hx hb dX5_run_29 (by decide) (fun c5 => ?_) (fun c5 => ?_)
      · have h := it_neg c5 h
        refine lv_aload_n hx hb dX5_run_42 rfl (lv_at hl 0 rfl) ?_
        refine rg_getR X hI (o := 0) (j := 5) (k := 6) rfl rfl rfl inG5 (by decide) rfl wF_X5_47 dX5_run_43 ?_
        refine lv_iload_n hx hb dX5_run_46 rfl (lv_at hl 1 rfl) ?_
        obtain ⟨x7, μ8, hc6, h⟩ := ca2_some h
        refine rq_vi (o := 6) (As := [.int a1]) X hI (c_E_go l D cI ρ g (by omega) hc6) rfl rfl gV_X5_115 hd_X2_go (rm_okX (by decide) (Nat.le_refl _)) ⟨Nat.zero_le _, Nat.zero_le _⟩ hl.1 rfl (Nat.le_of_ble_eq_true rfl) dX5_run_47 (fun H locs hI => ?_)
        cases h
        exact hend H locs _ _ rfl hI dX5_run_50
      · have h := it_pos c5 h
        cases h
        exact hthr H locs _ _ _ _ _ _ _ (by decide) hI hl.1 (Nat.le_of_ble_eq_true rfl) xsite_2 (List.mem_of_getElem? (i := 7) rfl) dX5_run_32 dX5_run_35 dX5_run_36 dX5_run_38 dX5_run_41
    · have h := it_neg c2 h
      cases h
      exact hthr H locs _ _ _ _ _ _ _ (by decide) hI hl.1 (Nat.le_of_ble_eq_true rfl) xsite_1 (List.mem_of_getElem? (i := 6) rfl) dX5_run_12 dX5_run_15 dX5_run_16 dX5_run_18 dX5_run_21
set_option maxHeartbeats 4000000 in
set_option maxRecDepth 100000 in
theorem c_S_shown (l : Launch) (D : va_G) (cI : ClassId) (ρ : Nat → Nat) (hst : l.stackTraces = false) (hgt : Nat) (hh : 6 ≤ hgt) {a1 : Int32} {μ ν : St} {k : Nat} {r : Int32} (h : f_S_shown a1 μ = some (k, r, ν)) : CX l yX5_shown cX5_shown 2 (some .int) hgt TC cI D ρ [.ref (ρ 0), .int a1] μ k r ν := by
  obtain ⟨g, rfl⟩ : ∃ g, hgt = g + 1 := ⟨hgt - 1, by omega⟩
  unfold f_S_shown at h
  refine CX_of (by decide) rfl (Nat.le_of_ble_eq_true rfl) rfl hst (by omega) ?_
  intro p e s m args below meth c Q A H locs X hI hend hthr ls hl
  have hx := X.1.1
  have hb := X.1.2.1
  have hl : lv_has ls 2 [(0, .ref (ρ 0)), (1, .int a1)] := hl
  refine lv_aload_n hx hb dX5_shown_0 rfl (lv_at hl 0 rfl) ?_
  refine rg_getR X hI (o := 0) (j := 5) (k := 6) rfl rfl rfl inG5 (by decide) rfl wF_X5_47 dX5_shown_1 ?_
  refine lv_iload_n hx hb dX5_shown_4 rfl (lv_at hl 1 rfl) ?_
  obtain ⟨x2, hc1, h⟩ := ca_some h
  refine rq_vi (o := 6) (As := [.int a1]) X hI (c_E_hasShown l D cI ρ g (by omega) hc1) rfl rfl gV_X5_119 hd_X2_hasShown (rm_okX (by decide) (Nat.le_refl _)) ⟨Nat.zero_le _, Nat.zero_le _⟩ hl.1 rfl (Nat.le_of_ble_eq_true rfl) dX5_shown_5 (fun H locs hI => ?_)
  refine lv_if_ne (tgt := 21) hx hb dX5_shown_8 (by decide) (fun c3 => ?_) (fun c3 => ?_)
  · have h := it_neg c3 h
    refine lv_aload_n hx hb dX5_shown_21 rfl (lv_at hl 0 rfl) ?_
    refine rg_getR X hI (o := 0) (j := 5) (k := 6) rfl rfl rfl inG5 (by decide) rfl wF_X5_47 dX5_shown_22 ?_
    refine lv_iload_n hx hb dX5_shown_25 rfl (lv_at hl 1 rfl) ?_
    obtain ⟨x5, hc4, h⟩ := ca_some h
    refine rq_vi (o := 6) (As := [.int a1]) X hI (c_E_shownAt l D cI ρ g (by omega) hc4) rfl rfl gV_X5_128 hd_X2_shownAt (rm_okX (by decide) (Nat.le_refl _)) ⟨Nat.zero_le _, Nat.zero_le _⟩ hl.1 rfl (Nat.le_of_ble_eq_true rfl) dX5_shown_26 (fun H locs hI => ?_)
    cases h
    exact hend H locs _ _ rfl hI dX5_shown_29
  · have h := it_pos c3 h
    cases h
    exact hthr H locs _ _ _ _ _ _ _ (by decide) hI hl.1 (Nat.le_of_ble_eq_true rfl) xsite_3 (List.mem_of_getElem? (i := 8) rfl) dX5_shown_11 dX5_shown_14 dX5_shown_15 dX5_shown_17 dX5_shown_20
set_option maxHeartbeats 4000000 in
set_option maxRecDepth 100000 in
theorem c_S_global (l : Launch) (D : va_G) (cI : ClassId) (ρ : Nat → Nat) (hst : l.stackTraces = false) (hgt : Nat) (hh : 6 ≤ hgt) {a1 : Int32} {μ ν : St} {k : Nat} {r : Int32} (h : f_S_global a1 μ = some (k, r, ν)) : CX l yX5_global cX5_global 2 (some .int) hgt TC cI D ρ [.ref (ρ 0), .int a1] μ k r ν := by
  obtain ⟨g, rfl⟩ : ∃ g, hgt = g + 1 := ⟨hgt - 1, by omega⟩
  unfold f_S_global at h
  refine CX_of (by decide) rfl (Nat.le_of_ble_eq_true rfl) rfl hst (by omega) ?_
  intro p e s m args below meth c Q A H locs X hI hend hthr ls hl
  have hx := X.1.1
  have hb := X.1.2.1
  have hl : lv_has ls 2 [(0, .ref (ρ 0)), (1, .int a1)] := hl
  refine lv_iload_n hx hb dX5_global_0 rfl (lv_at hl 1 rfl) ?_
  refine lv_if_lt (tgt := 10) hx hb dX5_global_1 (by decide) (fun c1 => ?_) (fun c1 => ?_)
  · have h := it_pos c1 h
    cases h
    exact hthr H locs _ _ _ _ _ _ _ (by decide) hI hl.1 (Nat.le_of_ble_eq_true rfl) xsite_3 (List.mem_of_getElem? (i := 9) rfl) dX5_global_10 dX5_global_13 dX5_global_14 dX5_global_16 dX5_global_19
  · have h := it_neg c1 h
    refine lv_iload_n hx hb dX5_global_4 rfl (lv_at hl 1 rfl) ?_
    refine lv_bipush (v := 8) hx hb dX5_global_5 (by decide) ?_
    refine lv_icmp_lt (tgt := 20) hx hb dX5_global_7 (by decide) (fun c2 => ?_) (fun c2 => ?_)
    · have h := it_pos c2 h
      refine lv_aload_n hx hb dX5_global_20 rfl (lv_at hl 0 rfl) ?_
      refine rg_getR X hI (o := 0) (j := 5) (k := 6) rfl rfl rfl inG5 (by decide) rfl wF_X5_47 dX5_global_21 ?_
      refine lv_iload_n hx hb dX5_global_24 rfl (lv_at hl 1 rfl) ?_
      obtain ⟨x4, hc3, h⟩ := ca_some h
      refine rq_vi (o := 6) (As := [.int a1]) X hI (c_E_globalAt l D cI ρ g (by omega) hc3) rfl rfl gV_X5_133 hd_X2_globalAt (rm_okX (by decide) (Nat.le_refl _)) ⟨Nat.zero_le _, Nat.zero_le _⟩ hl.1 rfl (Nat.le_of_ble_eq_true rfl) dX5_global_25 (fun H locs hI => ?_)
      cases h
      exact hend H locs _ _ rfl hI dX5_global_28
    · have h := it_neg c2 h
      cases h
      exact hthr H locs _ _ _ _ _ _ _ (by decide) hI hl.1 (Nat.le_of_ble_eq_true rfl) xsite_3 (List.mem_of_getElem? (i := 9) rfl) dX5_global_10 dX5_global_13 dX5_global_14 dX5_global_16 dX5_global_19
set_option maxHeartbeats 4000000 in
set_option maxRecDepth 100000 in
theorem c_S_array (l : Launch) (D : va_G) (cI : ClassId) (ρ : Nat → Nat) (hst : l.stackTraces = false) (hgt : Nat) (hh : 6 ≤ hgt) {a1 : Int32} {a2 : Int32} {μ ν : St} {k : Nat} {r : Int32} (h : f_S_array a1 a2 μ = some (k, r, ν)) : CX l yX5_array cX5_array 3 (some .int) hgt TC cI D ρ [.ref (ρ 0), .int a1, .int a2] μ k r ν := by
  obtain ⟨g, rfl⟩ : ∃ g, hgt = g + 1 := ⟨hgt - 1, by omega⟩
  unfold f_S_array at h
  refine CX_of (by decide) rfl (Nat.le_of_ble_eq_true rfl) rfl hst (by omega) ?_
  intro p e s m args below meth c Q A H locs X hI hend hthr ls hl
  have hx := X.1.1
  have hb := X.1.2.1
  have hl : lv_has ls 3 [(0, .ref (ρ 0)), (1, .int a1), (2, .int a2)] := hl
  refine lv_iload_n hx hb dX5_array_0 rfl (lv_at hl 1 rfl) ?_
  refine lv_if_lt (tgt := 19) hx hb dX5_array_1 (by decide) (fun c1 => ?_) (fun c1 => ?_)
  · have h := it_pos c1 h
    cases h
    exact hthr H locs _ _ _ _ _ _ _ (by decide) hI hl.1 (Nat.le_of_ble_eq_true rfl) xsite_3 (List.mem_of_getElem? (i := 10) rfl) dX5_array_19 dX5_array_22 dX5_array_23 dX5_array_25 dX5_array_28
  · have h := it_neg c1 h
    refine lv_iload_n hx hb dX5_array_4 rfl (lv_at hl 1 rfl) ?_
    refine lv_iconst (v := 4) hx hb dX5_array_5 (by decide) ?_
    refine lv_icmp_ge (tgt := 19) hx hb dX5_array_6 (by decide) (fun c2 => ?_) (fun c2 => ?_)
    · have h := it_pos c2 h
      cases h
      exact hthr H locs _ _ _ _ _ _ _ (by decide) hI hl.1 (Nat.le_of_ble_eq_true rfl) xsite_3 (List.mem_of_getElem? (i := 10) rfl) dX5_array_19 dX5_array_22 dX5_array_23 dX5_array_25 dX5_array_28
    · have h := it_neg c2 h
      refine lv_iload_n hx hb dX5_array_9 rfl (lv_at hl 2 rfl) ?_
      refine lv_if_lt (tgt := 19) hx hb dX5_array_10 (by decide) (fun c3 => ?_) (fun c3 => ?_)
      · have h := it_pos c3 h
        cases h
        exact hthr H locs _ _ _ _ _ _ _ (by decide) hI hl.1 (Nat.le_of_ble_eq_true rfl) xsite_3 (List.mem_of_getElem? (i := 10) rfl) dX5_array_19 dX5_array_22 dX5_array_23 dX5_array_25 dX5_array_28
      · have h := it_neg c3 h
        refine lv_iload_n hx hb dX5_array_13 rfl (lv_at hl 2 rfl) ?_
        refine lv_bipush (v := 8) hx hb dX5_array_14 (by decide) ?_
        refine lv_icmp_lt (tgt := 29) hx hb dX5_array_16 (by decide) (fun c4 => ?_) (fun c4 => ?_)
        · have h := it_pos c4 h
          refine lv_aload_n hx hb dX5_array_29 rfl (lv_at hl 0 rfl) ?_
          refine rg_getR X hI (o := 0) (j := 5) (k := 6) rfl rfl rfl inG5 (by decide) rfl wF_X5_47 dX5_array_30 ?_
          refine lv_iload_n hx hb dX5_array_33 rfl (lv_at hl 1 rfl) ?_
          refine lv_iload_n hx hb dX5_array_34 rfl (lv_at hl 2 rfl) ?_
          obtain ⟨x6, hc5, h⟩ := ca_some h
          refine rq_vi (o := 6) (As := [.int a1, .int a2]) X hI (c_E_placeAt l D cI ρ g (by omega) hc5) rfl rfl gV_X5_138 hd_X2_placeAt (rm_okX (by decide) (Nat.le_refl _)) ⟨Nat.zero_le _, Nat.zero_le _⟩ hl.1 rfl (Nat.le_of_ble_eq_true rfl) dX5_array_35 (fun H locs hI => ?_)
          cases h
          exact hend H locs _ _ rfl hI dX5_array_38
        · have h := it_neg c4 h
          cases h
          exact hthr H locs _ _ _ _ _ _ _ (by decide) hI hl.1 (Nat.le_of_ble_eq_true rfl) xsite_3 (List.mem_of_getElem? (i := 10) rfl) dX5_array_19 dX5_array_22 dX5_array_23 dX5_array_25 dX5_array_28
