/-! what was read becomes the program: both copies -/
theorem loop_inv {β : Type} {F : (Int32 → St → Option β) → Int32 → St → Option β} {z : Int32 → St → Option β} {m : Nat} {P : Nat → St → Prop}
    (hs : ∀ kk i μ, i < m → P i μ → ∃ μ', F kk (nI i) μ = kk (nI (i + 1)) μ' ∧ P (i + 1) μ') (fuel : Nat) (μ : St) (hf : m < fuel) (h0 : P 0 μ) :
    ∃ μ' kk, P m μ' ∧ lpk F z fuel (nI 0) μ = F kk (nI m) μ' := by
  have key : ∀ d i fuel μ, i + d = m → d < fuel → P i μ → ∃ μ' kk, P m μ' ∧ lpk F z fuel (nI i) μ = F kk (nI m) μ' := by
    intro d
    induction d with
    | zero =>
      intro i fuel μ h1 h2 h3
      obtain ⟨g, rfl⟩ : ∃ g, fuel = g + 1 := ⟨fuel - 1, by omega⟩
      obtain rfl : i = m := by omega
      exact ⟨μ, lpk F z g, h3, rfl⟩
    | succ d ih =>
      intro i fuel μ h1 h2 h3
      obtain ⟨g, rfl⟩ : ∃ g, fuel = g + 1 := ⟨fuel - 1, by omega⟩
      obtain ⟨μ1, e1, h4⟩ := hs (lpk F z g) i μ (by omega) h3
      obtain ⟨μ', kk, h5, e2⟩ := ih (i + 1) g μ1 (by omega) (by omega) h4
      exact ⟨μ', kk, h5, by rw [lpk_s, e1, e2]⟩
  exact key m 0 fuel μ (by omega) hf h0
def pcB (k8 : Int32 → St → Option St) (x6 : Int32) (μ7 : St) : Option St :=
  if (6 : Int32) ≤ x6 then (nm (st μ7 164 0 (μ7 184 0)) fun μ11 => nm (st μ11 165 0 (μ11 185 0)) fun μ12 => some μ12) else (gd (inb x6 6) <| nm (μ7 15 x6.toNatClampNeg) fun x14 => gd (inb x6 6) <| nm (st μ7 11 x6.toNatClampNeg x14) fun μ16 => gd (inb x6 6) <| nm (μ16 16 x6.toNatClampNeg) fun x18 => gd (inb x6 6) <| nm (st μ16 12 x6.toNatClampNeg x18) fun μ20 => nm (x6 + (1 : Int32)) fun x21 => k8 x21 μ20)
def pcA (N : Nat) (k3 : Int32 → St → Option St) (x1 : Int32) (μ2 : St) : Option St :=
  if (160 : Int32) ≤ x1 then (lpk pcB (fun _ _ => none) N (0 : Int32) μ2) else (gd (inb x1 160) <| nm (μ2 13 x1.toNatClampNeg) fun x23 => gd (inb x1 160) <| nm (st μ2 9 x1.toNatClampNeg x23) fun μ25 => gd (inb x1 160) <| nm (μ25 14 x1.toNatClampNeg) fun x27 => gd (inb x1 160) <| nm (st μ25 10 x1.toNatClampNeg x27) fun μ29 => nm (x1 + (1 : Int32)) fun x30 => k3 x30 μ29)
theorem pcopy_eq (N : Nat) (ν : St) : f_P_copy N ν = lpk (pcA N) (fun _ _ => none) N (0 : Int32) ν := rfl
theorem s_P_copy {N : Nat} (hN : 200 ≤ N) (ν : St) : ∃ ν', f_P_copy N ν = some ν' ∧ (∀ k, k ≠ 9 → k ≠ 10 → k ≠ 11 → k ≠ 12 → k ≠ 164 → k ≠ 165 → ν' k = ν k) ∧ (∀ i, i < 160 → ν' 9 i = ν 13 i ∧ ν' 10 i = ν 14 i) ∧ (∀ f, f < 6 → ν' 11 f = ν 15 f ∧ ν' 12 f = ν 16 f) ∧ ν' 165 0 = ν 185 0 := by
  rw [pcopy_eq]
  obtain ⟨ν1, k1, ⟨a1, a2⟩, e1⟩ := loop_inv (F := pcA N) (z := fun _ _ => none) (m := 160) (P := fun i ν1 => (∀ k, k ≠ 9 → k ≠ 10 → ν1 k = ν k) ∧ ∀ x, x < i → ν1 9 x = ν 13 x ∧ ν1 10 x = ν 14 x) (fun kk i μ hi hp => by
        obtain ⟨h1, h2⟩ := hp
        refine ⟨st (st μ 9 i (μ 13 i)) 10 i (μ 14 i), ?_, fun k b1 b2 => by rw [st_ne' b2, st_ne' b1, h1 k b1 b2], fun x hx => ?_⟩
        · unfold pcA
          rw [if_neg (show ¬ (160 : Int32) ≤ nI i from nI_ge (b := 160) hi (by decide))]
          simp only [gd_i (inb_nI hi (show 160 < 2 ^ 31 by decide)), nm_eq, cl_nI (n := i) (by omega), nI_1]
          rw [st_ne (μ := μ) (a := 14) (by decide)]
        · by_cases hxi : x = i
          · subst hxi
            rw [st_ne (by decide), st_at, st_at, h1 13 (by decide) (by decide), h1 14 (by decide) (by decide)]
            exact ⟨rfl, rfl⟩
          · have := h2 x (by omega)
            simp [st, upd, hxi]
            exact this) N ν (by omega) ⟨fun _ _ _ => rfl, fun x hx => absurd hx (by omega)⟩
  rw [show lpk (pcA N) (fun _ _ => none) N (0 : Int32) ν = _ from e1]
  unfold pcA
  rw [if_pos (show (160 : Int32) ≤ nI 160 by decide)]
  obtain ⟨ν2, k2, ⟨b1, b2⟩, e2⟩ := loop_inv (F := pcB) (z := fun _ _ => none) (m := 6) (P := fun i ν2 => (∀ k, k ≠ 11 → k ≠ 12 → ν2 k = ν1 k) ∧ ∀ x, x < i → ν2 11 x = ν1 15 x ∧ ν2 12 x = ν1 16 x) (fun kk i μ hi hp => by
        obtain ⟨h1, h2⟩ := hp
        refine ⟨st (st μ 11 i (μ 15 i)) 12 i (μ 16 i), ?_, fun k b1 b2 => by rw [st_ne' b2, st_ne' b1, h1 k b1 b2], fun x hx => ?_⟩
        · unfold pcB
          rw [if_neg (show ¬ (6 : Int32) ≤ nI i from nI_ge (b := 6) hi (by decide))]
          simp only [gd_i (inb_nI hi (show 6 < 2 ^ 31 by decide)), nm_eq, cl_nI (n := i) (by omega), nI_1]
          rw [st_ne (μ := μ) (a := 16) (by decide)]
        · by_cases hxi : x = i
          · subst hxi
            rw [st_ne (by decide), st_at, st_at, h1 15 (by decide) (by decide), h1 16 (by decide) (by decide)]
            exact ⟨rfl, rfl⟩
          · have := h2 x (by omega)
            simp [st, upd, hxi]
            exact this) N ν1 (by omega) ⟨fun _ _ _ => rfl, fun x hx => absurd hx (by omega)⟩
  rw [show lpk pcB (fun _ _ => none) N (0 : Int32) ν1 = _ from e2]
  unfold pcB
  rw [if_pos (show (6 : Int32) ≤ nI 6 by decide), nm_eq, nm_eq]
  refine ⟨_, rfl, fun k c1 c2 c3 c4 c5 c6 => by rw [st_ne' c6, st_ne' c5, b1 k c3 c4, a1 k c1 c2], fun i hi => ?_, fun f hf => ?_, ?_⟩
  · rw [st_ne (by decide), st_ne (by decide), st_ne (by decide), st_ne (by decide), b1 9 (by decide) (by decide), b1 10 (by decide) (by decide)]
    exact a2 i hi
  · rw [st_ne (by decide), st_ne (by decide), st_ne (by decide), st_ne (by decide), (b2 f hf).1, (b2 f hf).2, a1 15 (by decide) (by decide), a1 16 (by decide) (by decide)]
    exact ⟨rfl, rfl⟩
  · rw [st_at, st_ne (by decide), b1 185 (by decide) (by decide), a1 185 (by decide) (by decide)]
def cpB (N : Nat) (k14 : Int32 → St → Option (Int32 × St)) (x12 : Int32) (μ13 : St) : Option (Int32 × St) :=
  if (μ13 108 0) ≤ x12 then (nm (st μ13 137 0 (0 : Int32)) fun μ17 => ca (f_M_nothing N μ17) fun μ19 => some (μ19 117 0, μ19)) else (gd (inb x12 600) <| nm (μ13 2 x12.toNatClampNeg) fun x21 => gd (inb x12 600) <| nm (st μ13 4 x12.toNatClampNeg x21) fun μ23 => gd (inb x12 600) <| nm (μ23 2 x12.toNatClampNeg) fun x25 => jn (fun (y29 : Int32) => gd (inb x12 600) <| nm (st μ23 5 x12.toNatClampNeg y29) fun μ31 => nm (x12 + (1 : Int32)) fun x32 => k14 x32 μ31) fun k27 => if x25 = (7 : Int32) then (gd (inb x12 600) <| nm (μ23 3 x12.toNatClampNeg) fun x37 => gd (inb x37 160) <| nm (μ23 11 x37.toNatClampNeg) fun x39 => k27 x39) else (gd (inb x12 600) <| nm (μ23 3 x12.toNatClampNeg) fun x35 => k27 x35))
def cpA (N : Nat) (k9 : Int32 → St → Option (Int32 × St)) (x7 : Int32) (μ8 : St) : Option (Int32 × St) :=
  if (6 : Int32) ≤ x7 then (lpk (cpB N) (fun _ _ => none) N (0 : Int32) μ8) else (gd (inb x7 6) <| nm (μ8 6 x7.toNatClampNeg) fun x41 => gd (inb x7 6) <| nm (st μ8 8 x7.toNatClampNeg x41) fun μ43 => gd (inb x7 6) <| nm (μ43 7 x7.toNatClampNeg) fun x45 => gd (inb x7 6) <| nm (st μ43 9 x7.toNatClampNeg x45) fun μ47 => gd (inb x7 6) <| nm (μ47 8 x7.toNatClampNeg) fun x49 => jn (fun (y53 : Int32) => nm (st μ47 117 0 ((μ47 117 0) + y53)) fun μ54 => nm (x7 + (1 : Int32)) fun x55 => k9 x55 μ54) fun k51 => if x49 < 0 then k51 (0 : Int32) else k51 (1 : Int32))
theorem mcompile_eq (N : Nat) (μ : St) : f_M_compile N μ = nm (st μ 100 0 (0 : Int32)) fun μ1 => ca (f_M_readText N μ1) fun μ3 => nm (st μ3 101 0 (0 : Int32)) fun μ4 => if (μ4 103 0) ≤ 0 then (nm (st μ4 117 0 (0 : Int32)) fun μ6 => lpk (cpA N) (fun _ _ => none) N (0 : Int32) μ6) else some (((-1000 : Int32) * (μ4 103 0)) - (μ4 104 0), μ4) := rfl
theorem cpA_run {N : Nat} (hN : 200 ≤ N) {μ : St} {fe : Nat → Option (Nat × Nat)} (hF : mF μ fe) (h0 : μ 117 0 = 0) : ∃ μ', lpk (cpA N) (fun _ _ => none) N (0 : Int32) μ = lpk (cpB N) (fun _ _ => none) N (0 : Int32) μ' ∧ (∀ k, k ≠ 8 → k ≠ 9 → k ≠ 117 → μ' k = μ k) ∧ (∀ f, f < 6 → μ' 8 f = μ 6 f ∧ μ' 9 f = μ 7 f) ∧ μ' 117 0 = nI (cnt fe 6) := by
  obtain ⟨μ1, k1, ⟨a1, a2, a3⟩, e1⟩ := loop_inv (F := cpA N) (z := fun _ _ => none) (m := 6) (P := fun i μ1 => (∀ k, k ≠ 8 → k ≠ 9 → k ≠ 117 → μ1 k = μ k) ∧ (∀ x, x < i → μ1 8 x = μ 6 x ∧ μ1 9 x = μ 7 x) ∧ μ1 117 0 = nI (cnt fe i)) (fun kk i μ1 hi hp => by
    obtain ⟨h1, h2, h3⟩ := hp
    have hm := hF.1 i hi
    have hy : ∃ y, (if μ1 6 i < 0 then (0 : Int32) else 1) = nI y ∧ cnt fe (i + 1) = cnt fe i + y := by
      have hcase : (∃ x, fe i = some x) ∨ fe i = none := by cases fe i <;> simp
      rw [h1 6 (by decide) (by decide) (by decide)]
      rcases hcase with ⟨x, hx⟩ | hx
      · rw [hx] at hm
        have hb := hF.2 _ _ hx
        refine ⟨1, ?_, ?_⟩
        · rw [hm.1, if_neg (nI_pos (by omega))]; rfl
        · show cnt fe i + _ = _
          rw [hx]; rfl
      · rw [hx] at hm
        have hm1 : μ 6 i = -1 := hm
        refine ⟨0, ?_, ?_⟩
        · rw [hm1, if_pos (show (-1 : Int32) < 0 by decide)]; rfl
        · show cnt fe i + _ = _
          rw [hx]; rfl
    obtain ⟨y, y1, y2⟩ := hy
    refine ⟨st (st (st μ1 8 i (μ1 6 i)) 9 i (μ1 7 i)) 117 0 (nI (cnt fe (i + 1))), ?_, fun k b1 b2 b3 => by rw [st_ne' b3, st_ne' b2, st_ne' b1, h1 k b1 b2 b3], fun x hx => ?_, by rw [st_at]⟩
    · unfold cpA
      rw [if_neg (show ¬ (6 : Int32) ≤ nI i from nI_ge (b := 6) hi (by decide))]
      simp only [gd_i (inb_nI hi (show 6 < 2 ^ 31 by decide)), nm_eq, jn_eq, cl_nI (n := i) (by omega), nI_1]
      have e8 : (st (st μ1 8 i (μ1 6 i)) 9 i ((st μ1 8 i (μ1 6 i)) 7 i)) 8 i = μ1 6 i := by rw [st_ne (by decide), st_at]
      have e7 : (st μ1 8 i (μ1 6 i)) 7 i = μ1 7 i := by rw [st_ne (by decide)]
      have e117 : (st (st μ1 8 i (μ1 6 i)) 9 i ((st μ1 8 i (μ1 6 i)) 7 i)) 117 0 = nI (cnt fe i) := by rw [st_ne (by decide), st_ne (by decide)]; exact h3
      rw [e8, e117, e7, y2, show nI (cnt fe i + y) = nI (cnt fe i) + (if μ1 6 i < 0 then (0 : Int32) else 1) by rw [y1, nI_add]]
      by_cases hc : μ1 6 i < 0
      · rw [if_pos hc, if_pos hc]
      · rw [if_neg hc, if_neg hc]
    · by_cases hxi : x = i
      · subst hxi
        rw [st_ne (by decide), st_ne (by decide), st_at, st_ne (by decide), st_at, h1 6 (by decide) (by decide) (by decide), h1 7 (by decide) (by decide) (by decide)]
        exact ⟨rfl, rfl⟩
      · have := h2 x (by omega)
        simp [st, upd, hxi]
        exact this) N μ (by omega) ⟨fun _ _ _ _ => rfl, fun x hx => absurd hx (by omega), h0⟩
  refine ⟨μ1, ?_, a1, a2, a3⟩
  rw [show lpk (cpA N) (fun _ _ => none) N (0 : Int32) μ = _ from e1]
  unfold cpA
  rw [if_pos (show (6 : Int32) ≤ nI 6 by decide)]
theorem mop_7 {o : Nat} (ho : o ≤ 46) (h : mop o = 7) : o = 42 := by
  have key : ∀ o, o < 47 → mop o = 7 → o = 42 := by decide
  exact key o (by omega) h
theorem mop_le {o : Nat} (h : o ≤ 46) : mop o ≤ 66 := by
  have key : ∀ o, o < 47 → mop o ≤ 66 := by decide
  exact key o (by omega)
theorem cpB_run {N : Nat} (hN : 200 ≤ N) {μ : St} {C : List (Nat × Nat)} {K : List KF} (hl : C.length ≤ 160) (hC : mC μ K C) (hK : mK μ K) (hK6 : ∀ y, y ∈ K → y.2.1 < 6) (ho : ∀ (k : Nat) (i : Nat × Nat), C[k]? = some i → i.1 ≤ 46) : ∃ μ', lpk (cpB N) (fun _ _ => none) N (0 : Int32) μ = some ((clrM (st μ' 137 0 0)) 117 0, clrM (st μ' 137 0 0)) ∧ (∀ k, k ≠ 4 → k ≠ 5 → μ' k = μ k) ∧ (∀ k o a, C[k]? = some (o, a) → μ' 4 k = nI (mop o) ∧ (uses o = true → μ' 5 k = nI a)) := by
  obtain ⟨μ1, k1, ⟨a1, a2⟩, e1⟩ := loop_inv (F := cpB N) (z := fun _ _ => none) (m := C.length) (P := fun i μ1 => (∀ k, k ≠ 4 → k ≠ 5 → μ1 k = μ k) ∧ (∀ k o a, k < i → C[k]? = some (o, a) → μ1 4 k = nI (mop o) ∧ (uses o = true → μ1 5 k = nI a))) (fun kk i μ1 hi hp => by
    obtain ⟨h1, h2⟩ := hp
    obtain ⟨⟨o, a⟩, hoa⟩ : ∃ x, C[i]? = some x := ⟨C[i], by simp [hi]⟩
    obtain ⟨c1, c2⟩ := hC.2 i o a hoa
    have ho46 := ho i _ hoa
    dsimp only at ho46
    have hy : ∃ y, (uses o = true → y = nI a) ∧ cpB N kk (nI i) μ1 = kk (nI (i + 1)) (st (st μ1 4 i (nI (mop o))) 5 i y) := by
      unfold cpB
      have e108 : μ1 108 0 = nI C.length := by rw [h1 108 (by decide) (by decide)]; exact hC.1
      have e2 : μ1 2 i = nI (mop o) := by rw [h1 2 (by decide) (by decide)]; exact c1
      rw [e108, if_neg (nI_ge hi (by omega))]
      simp only [gd_i (inb_nI (show i < 600 by omega) (show 600 < 2 ^ 31 by decide)), nm_eq, jn_eq, cl_nI (n := i) (by omega), nI_1, e2]
      have e2' : (st μ1 4 i (nI (mop o))) 2 i = nI (mop o) := by rw [st_ne (by decide)]; exact e2
      have e3' : (st μ1 4 i (nI (mop o))) 3 i = μ 3 i := by rw [st_ne (by decide), h1 3 (by decide) (by decide)]
      rw [e2', e3']
      by_cases h42 : o = 42
      · subst h42
        unfold opd at c2
        rw [if_pos rfl] at c2
        obtain ⟨q, x, hq, hx, hv⟩ := c2
        have hql : q < K.length := by
          rcases Nat.lt_or_ge q K.length with h | h
          · exact h
          · rw [List.getElem?_eq_none h] at hq; cases hq
        have hq160 : q < 160 := by have := hK.2.1; omega
        refine ⟨nI a, fun _ => rfl, ?_⟩
        have e11 : (st μ1 4 i (nI (mop 42))) 11 q = nI a := by rw [st_ne (by decide), h1 11 (by decide) (by decide), (hK.2.2 q x hq).2.1, hx]
        rw [if_pos (show nI (mop 42) = (7 : Int32) by decide), hv, gd_i (inb_nI hq160 (by decide)), cl_nI (by omega), e11]
      · refine ⟨μ 3 i, ?_, ?_⟩
        · unfold opd at c2
          rw [if_neg h42] at c2
          exact c2
        · rw [if_neg (show ¬ nI (mop o) = (7 : Int32) from fun hh => h42 (mop_7 ho46 ((nI_eq (a := mop o) (b := 7) (by have := mop_le ho46; omega) (by decide)).mp hh)))]
    obtain ⟨y, y1, y2⟩ := hy
    refine ⟨_, y2, fun k b1 b2 => by rw [st_ne' b2, st_ne' b1, h1 k b1 b2], fun k o' a' hk hk2 => ?_⟩
    by_cases hki : k = i
    · subst hki
      rw [hoa] at hk2
      cases hk2
      exact ⟨by rw [st_ne (by decide), st_at], fun hu => by rw [st_at]; exact y1 hu⟩
    · have := h2 k o' a' (by omega) hk2
      simp [st, upd, hki]
      exact this) N μ (by omega) ⟨fun _ _ _ => rfl, fun k o a hk => absurd hk (by omega)⟩
  refine ⟨μ1, ?_, a1, fun k o a hk => a2 k o a (get_lt hk) hk⟩
  rw [show lpk (cpB N) (fun _ _ => none) N (0 : Int32) μ = _ from e1]
  unfold cpB
  rw [a1 108 (by decide) (by decide), hC.1, if_pos (nI_le (Nat.le_refl _) (by omega)), nm_eq, s_M_nothing (by omega), ca_s]
