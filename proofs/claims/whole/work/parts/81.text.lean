/-! the reference reads a whole text -/
def ckEnd (μ21 : St) : Option St :=
  gd (inb (0 : Int32) 6) <| nm (μ21 6 (0 : Int32).toNatClampNeg) fun x28 => jn (ca (f_M_wrong (6 : Int32) (μ21 101 0) μ21) fun μ33 => some μ33) fun k30 => if x28 < 0 then k30 else (gd (inb (0 : Int32) 6) <| nm (μ21 7 (0 : Int32).toNatClampNeg) fun x36 => if x36 ≤ 0 then some μ21 else k30)
def ckBody (k22 : Int32 → St → Option St) (x20 : Int32) (μ21 : St) : Option St :=
  jn (ckEnd μ21) fun k25 => if (μ21 118 0) ≤ x20 then k25 else if (μ21 103 0) = 0 then (gd (inb x20 160) <| nm (μ21 11 x20.toNatClampNeg) fun x41 => gd (inb x41 6) <| nm (μ21 6 x41.toNatClampNeg) fun x43 => jn (fun (y47 : Int32) => jn (fun (μ48 : St) => nm (x20 + (1 : Int32)) fun x51 => k22 x51 μ48) fun k49 => jn (jn (fun (y58 : Int32) => gd (inb x20 160) <| nm (μ21 10 x20.toNatClampNeg) fun x60 => ca (f_M_wrong y58 x60 μ21) fun μ62 => k49 μ62) fun k56 => if y47 = 0 then k56 (4 : Int32) else k56 (5 : Int32)) fun k53 => if y47 = 0 then k53 else (gd (inb x20 160) <| nm (μ21 11 x20.toNatClampNeg) fun x66 => gd (inb x66 6) <| nm (μ21 7 x66.toNatClampNeg) fun x68 => gd (inb x20 160) <| nm (μ21 12 x20.toNatClampNeg) fun x70 => if x68 = x70 then k49 μ21 else k53)) fun k45 => if x43 < 0 then k45 (0 : Int32) else k45 (1 : Int32)) else k25
def ckAll (N : Nat) (μ : St) : Option St := lpk ckBody (fun _ _ => none) N (0 : Int32) μ
def tnBody (N : Nat) (k15 : Int32 → St → Option St) (x13 : Int32) (μ14 : St) : Option St :=
  jn (ckAll N μ14) fun k18 => if (2000 : Int32) ≤ x13 then k18 else if (μ14 103 0) = 0 then (if (μ14 107 0) = 0 then (jn (fun (μ76 : St) => nm (x13 + (1 : Int32)) fun x79 => k15 x79 μ76) fun k77 => if (μ14 106 0) = 0 then (ca (f_M_function μ14) fun μ96 => k77 μ96) else if (μ14 106 0) = (1 : Int32) then (ca2 (f_M_must (8 : Int32) μ14) fun x91 μ92 => if x91 = 0 then k77 μ92 else nm (st μ92 106 0 (2 : Int32)) fun μ94 => k77 μ94) else if (μ14 106 0) = (2 : Int32) then (ca (f_M_statement μ14) fun μ89 => k77 μ89) else if (μ14 106 0) = (3 : Int32) then (ca (f_M_piece μ14) fun μ87 => k77 μ87) else (ca (f_M_behind N μ14) fun μ85 => k77 μ85)) else k18) else k18
def inBody (N : Nat) (k10 : Int32 → St → Option St) (x8 : Int32) (μ9 : St) : Option St :=
  if (6 : Int32) ≤ x8 then lpk (tnBody N) (fun _ _ => none) N (0 : Int32) μ9 else (gd (inb x8 6) <| nm (st μ9 6 x8.toNatClampNeg (-1 : Int32)) fun μ98 => gd (inb x8 6) <| nm (st μ98 7 x8.toNatClampNeg (0 : Int32)) fun μ100 => nm (x8 + (1 : Int32)) fun x101 => k10 x101 μ100)
theorem readText_eq (N : Nat) (μ : St) : f_M_readText N μ = nm (st μ 103 0 (0 : Int32)) fun μ1 => nm (st μ1 105 0 (0 : Int32)) fun μ2 => nm (st μ2 106 0 (0 : Int32)) fun μ3 => nm (st μ3 107 0 (0 : Int32)) fun μ4 => nm (st μ4 108 0 (0 : Int32)) fun μ5 => nm (st μ5 118 0 (0 : Int32)) fun μ6 => nm (st μ6 122 0 (0 : Int32)) fun μ7 => lpk (inBody N) (fun _ _ => none) N (0 : Int32) μ7 := rfl
theorem tn_turn {N : Nat} {k15 : Int32 → St → Option St} {x : Int32} {μ μ1 : St} (hx : ¬ (2000 : Int32) ≤ x) (h3 : μ 103 0 = 0) (h7 : μ 107 0 = 0) (e : turn N μ = some μ1) : tnBody N k15 x μ = k15 (x + 1) μ1 := by
  unfold tnBody
  rw [jn_eq, if_neg hx, if_pos h3, if_pos h7, jn_eq]
  unfold turn at e
  by_cases c0 : μ 106 0 = 0
  · rw [if_pos c0] at e ⊢
    rw [e]; rfl
  rw [if_neg c0] at e ⊢
  by_cases c1 : μ 106 0 = (1 : Int32)
  · rw [if_pos c1] at e ⊢
    cases hm : f_M_must (8 : Int32) μ with
    | none => rw [hm] at e; cases e
    | some y =>
      obtain ⟨y1, y2⟩ := y
      rw [hm] at e
      show (if y1 = 0 then _ else _) = _
      have e' : (if y1 = 0 then some y2 else some (st y2 106 0 (2 : Int32))) = some μ1 := e
      by_cases hy : y1 = 0
      · rw [if_pos hy] at e' ⊢
        cases e'; rfl
      · rw [if_neg hy] at e' ⊢
        cases e'; rfl
  rw [if_neg c1] at e ⊢
  by_cases c2 : μ 106 0 = (2 : Int32)
  · rw [if_pos c2] at e ⊢
    rw [e]; rfl
  rw [if_neg c2] at e ⊢
  by_cases c3 : μ 106 0 = (3 : Int32)
  · rw [if_pos c3] at e ⊢
    rw [e]; rfl
  rw [if_neg c3] at e ⊢
  rw [e]; rfl
theorem tn_stop {N : Nat} {k15 : Int32 → St → Option St} {x : Int32} {μ : St} (h : ¬ μ 103 0 = 0 ∨ ¬ μ 107 0 = 0) : tnBody N k15 x μ = ckAll N μ := by
  unfold tnBody
  rw [jn_eq]
  by_cases hx : (2000 : Int32) ≤ x
  · rw [if_pos hx]
  rw [if_neg hx]
  by_cases h3 : μ 103 0 = 0
  · rw [if_pos h3]
    rcases h with h | h
    · exact absurd h3 h
    · rw [if_neg h]
  · rw [if_neg h3]
theorem tn_run {N : Nat} : ∀ (j i fuel : Nat) (μ μ' : St), TR N j μ μ' → (¬ μ' 103 0 = 0 ∨ ¬ μ' 107 0 = 0) → i + j < 2000 → j < fuel → lpk (tnBody N) (fun _ _ => none) fuel (nI i) μ = ckAll N μ' := by
  intro j
  induction j with
  | zero =>
    intro i fuel μ μ' hT hs hi hf
    cases hT
    obtain ⟨fuel, rfl⟩ : ∃ k, fuel = k + 1 := ⟨fuel - 1, by omega⟩
    exact tn_stop hs
  | succ j ih =>
    intro i fuel μ μ' hT hs hi hf
    obtain ⟨fuel, rfl⟩ : ∃ k, fuel = k + 1 := ⟨fuel - 1, by omega⟩
    obtain ⟨h3, h7, μ1, e, h⟩ := hT
    show tnBody N (lpk (tnBody N) (fun _ _ => none) fuel) (nI i) μ = _
    rw [tn_turn (show ¬ (2000 : Int32) ≤ nI i from nI_ge (b := 2000) (by omega) (by decide)) h3 h7 e]
    rw [nI_1]
    exact ih (i + 1) fuel μ1 μ' h hs (by omega) (by omega)
def ckL (fe : Nat → Option (Nat × Nat)) : List KF → Option (Nat × Nat)
  | [] => none
  | y :: L => match fe y.2.1 with
    | none => some (4, y.1)
    | some x => if x.2 = y.2.2 then ckL fe L else some (5, y.1)
theorem in_run {N : Nat} : ∀ (d i fuel : Nat) (μ : St), d + i = 6 → d < fuel → ∃ μ', lpk (inBody N) (fun _ _ => none) fuel (nI i) μ = lpk (tnBody N) (fun _ _ => none) N (0 : Int32) μ' ∧ (∀ k, k ≠ 6 → k ≠ 7 → μ' k = μ k) ∧ (∀ f, i ≤ f → f < 6 → μ' 6 f = -1) ∧ ∀ f, f < i → μ' 6 f = μ 6 f := by
  intro d
  induction d with
  | zero =>
    intro i fuel μ hd hf
    obtain ⟨fuel, rfl⟩ : ∃ k, fuel = k + 1 := ⟨fuel - 1, by omega⟩
    have hi : i = 6 := by omega
    subst hi
    refine ⟨μ, ?_, fun _ _ _ => rfl, fun f h1 h2 => by omega, fun _ _ => rfl⟩
    show inBody N _ (nI 6) μ = _
    unfold inBody
    rw [if_pos (show (6 : Int32) ≤ nI 6 from nI_le (a := 6) (Nat.le_refl _) (by decide))]
  | succ d ih =>
    intro i fuel μ hd hf
    obtain ⟨fuel, rfl⟩ : ∃ k, fuel = k + 1 := ⟨fuel - 1, by omega⟩
    have hi : i < 6 := by omega
    obtain ⟨μ', e, h1, h2, h3⟩ := ih (i + 1) fuel (st (st μ 6 i (-1)) 7 i 0) (by omega) (by omega)
    refine ⟨μ', ?_, fun k a b => by rw [h1 k a b, st_ne' b, st_ne' a], fun f a b => ?_, fun f a => ?_⟩
    · show inBody N _ (nI i) μ = _
      unfold inBody
      rw [if_neg (show ¬ (6 : Int32) ≤ nI i from nI_ge (b := 6) hi (by decide)), gd_i (inb_nI hi (by decide)), nm_eq, gd_i (inb_nI hi (by decide)), nm_eq, nm_eq, cl_nI (by omega), nI_1]
      exact e
    · rcases Nat.lt_or_ge i f with c | c
      · exact h2 f (by omega) b
      · have : f = i := by omega
        subst this
        rw [h3 f (by omega), st_ne (by decide), st_at]
    · rw [h3 f (by omega), st_ne (by decide)]
      have hne : f ≠ i := by omega
      simp [st, upd, hne]
section CKS
variable {N n : Nat} {t : Nat → Nat} {μ0 μ : St} {C : List (Nat × Nat)} {K : List KF} {fe : Nat → Option (Nat × Nat)}
theorem wrong_no {x y : Int32} (h : ¬ μ 103 0 = 0) : f_M_wrong x y μ = some μ := by unfold f_M_wrong; rw [if_neg h]
theorem wrong_yes {x y : Int32} (h : μ 103 0 = 0) : f_M_wrong x y μ = some (st (st μ 103 0 x) 104 0 y) := by unfold f_M_wrong; rw [if_pos h, nm_eq, nm_eq]
theorem ckEnd_dead (h : ¬ μ 103 0 = 0) : ckEnd μ = some μ := by
  unfold ckEnd
  rw [gd_i (by decide), nm_eq, jn_eq, wrong_no h, ca_s]
  by_cases c : μ 6 (0 : Int32).toNatClampNeg < 0
  · rw [if_pos c]
  · rw [if_neg c, gd_i (by decide), nm_eq]
    by_cases c2 : μ 7 (0 : Int32).toNatClampNeg ≤ 0
    · rw [if_pos c2]
    · rw [if_neg c2]
theorem ckBody_dead {k22 : Int32 → St → Option St} {x : Int32} (h : ¬ μ 103 0 = 0) : ckBody k22 x μ = some μ := by
  unfold ckBody
  rw [jn_eq, ckEnd_dead h]
  by_cases c : μ 118 0 ≤ x
  · rw [if_pos c]
  · rw [if_neg c, if_neg h]
theorem ckAll_dead {x : Nat × Nat} (hN : 1 ≤ N) (h : Dead μ0 μ x) : ckAll N μ = some μ := by
  obtain ⟨N, rfl⟩ : ∃ k, N = k + 1 := ⟨N - 1, by omega⟩
  refine ckBody_dead (fun hh => ?_)
  have h1 := h.2.1
  have h2 := h.2.2.2.1
  have h3 := h.2.2.2.2.1
  rw [h1] at hh
  have := (nI_eq (a := x.1) (b := 0) (by omega) (by decide)).mp hh
  omega
theorem wr_dead {x y : Int32} {e pl : Nat} (h : frM μ0 μ) (hx : x = nI e) (hy : y = nI pl) (he : 1 ≤ e ∧ e ≤ 6) (hp : pl ≤ 160) : Dead μ0 (st (st μ 103 0 x) 104 0 y) (e, pl) :=
  ⟨frM_st (frM_st h (by decide)) (by decide), by rw [st_ne (by decide), st_at]; exact hx, by rw [st_at]; exact hy, he.1, he.2, hp⟩
theorem ne_dead {x y : Int32} {e : Nat} (hx : x = nI e) (he : 1 ≤ e ∧ e ≤ 6) : ¬ (st (st μ 103 0 x) 104 0 y) 103 0 = 0 := fun hh => by
  rw [st_ne (by decide), st_at, hx] at hh
  have := (nI_eq (a := e) (b := 0) (by omega) (by decide)).mp hh
  omega
theorem ck_run (hK : ∀ y, y ∈ K → y.1 ≤ 160 ∧ y.2.1 < 6 ∧ y.2.2 ≤ 160) (h : DN μ0 μ C K fe) : ∀ (L K0 : List KF) (fuel : Nat), K = K0 ++ L → L.length + 1 < fuel → match ckL fe L with
    | some x => ∃ μ', lpk ckBody (fun _ _ => none) fuel (nI K0.length) μ = some μ' ∧ Dead μ0 μ' x
    | none => lpk ckBody (fun _ _ => none) fuel (nI K0.length) μ = ckEnd μ := by
  obtain ⟨d1, d2, d3, d4, d5, d6⟩ := h
  intro L
  induction L with
  | nil =>
    intro K0 fuel hL hf
    obtain ⟨fuel, rfl⟩ : ∃ k, fuel = k + 1 := ⟨fuel - 1, by omega⟩
    rw [List.append_nil] at hL
    subst hL
    show ckBody _ (nI K.length) μ = _
    unfold ckBody
    rw [jn_eq, if_pos (by rw [d5.1]; exact nI_le (Nat.le_refl _) (by have := d5.2.1; omega))]
  | cons y L ih =>
    intro K0 fuel hL hf
    obtain ⟨fuel, rfl⟩ : ∃ k, fuel = k + 1 := ⟨fuel - 1, by omega⟩
    have hl : K.length = K0.length + (L.length + 1) := by rw [hL]; simp
    have hl2 := d5.2.1
    have hy : K[K0.length]? = some y := by rw [hL]; simp
    obtain ⟨y1, y2, y3⟩ := hK y (by rw [hL]; simp)
    obtain ⟨r1, r2, r3⟩ := d5.2.2 _ _ hy
    have hin : inb (nI K0.length) 160 = true := inb_nI (by omega) (by decide)
    have hif : inb (nI y.2.1) 6 = true := inb_nI y2 (by decide)
    have ei := cl_nI (n := K0.length) (by omega)
    have ef := cl_nI (n := y.2.1) (by omega)
    have hm := d6.1 y.2.1 y2
    have next : ∀ μ', (¬ μ' 103 0 = 0) → lpk ckBody (fun _ _ => none) fuel (nI K0.length + 1) μ' = some μ' := by
      intro μ' hd
      obtain ⟨fuel, rfl⟩ : ∃ k, fuel = k + 1 := ⟨fuel - 1, by simp at hf; omega⟩
      exact ckBody_dead hd
    have hb : lpk ckBody (fun _ _ => none) (fuel + 1) (nI K0.length) μ = ckBody (lpk ckBody (fun _ _ => none) fuel) (nI K0.length) μ := rfl
    have ihy := ih (K0 ++ [y]) fuel (by rw [hL]; simp) (by simp at hf; omega)
    simp only [List.length_append, List.length_singleton] at ihy
    rw [hb]
    obtain ⟨kk, hkk⟩ : ∃ kk, kk = lpk ckBody (fun _ _ => none) fuel := ⟨_, rfl⟩
    rw [← hkk] at ihy next ⊢
    unfold ckBody
    rw [jn_eq, if_neg (by rw [d5.1]; exact nI_ge (by omega) (by omega)), if_pos d2, gd_i hin, nm_eq, ei, r2, gd_i hif, nm_eq, ef, jn_eq]
    simp only [jn_eq, nm_eq, gd_i hin, ei, r1, r2, r3, gd_i hif, ef, wrong_yes d2, ca_s]
    have hcase : (∃ x, fe y.2.1 = some x) ∨ fe y.2.1 = none := by cases fe y.2.1 <;> simp
    rcases hcase with ⟨x, hx⟩ | hx
    · rw [hx] at hm
      obtain ⟨m1, m2⟩ := hm
      have hb2 := d6.2 _ _ hx
      rw [m1, m2, if_neg (nI_pos (by omega)), if_neg (by decide)]
      unfold ckL
      rw [hx]
      dsimp only
      by_cases hc : x.2 = y.2.2
      · rw [if_pos hc, if_pos (by rw [hc]), nI_1]
        exact ihy
      · rw [if_neg hc, if_neg (fun hh => hc ((nI_eq (by omega) (by omega)).mp hh)), if_neg (by decide)]
        exact ⟨_, next _ (ne_dead (e := 5) rfl (by decide)), wr_dead d1 rfl rfl (by decide) y1⟩
    · rw [hx] at hm
      have hm1 : μ 6 y.2.1 = -1 := hm
      unfold ckL
      rw [hx, hm1, if_pos (show (-1 : Int32) < 0 by decide)]
      dsimp only
      rw [if_pos trivial, if_pos trivial]
      exact ⟨_, next _ (ne_dead (e := 4) rfl (by decide)), wr_dead d1 rfl rfl (by decide) y1⟩
end CKS
