/-! the class's reading of a whole text -/
section GT
variable {n : Nat} {t : Nat → Nat} {ν0 : St} {N : Nat}
theorem g_readFunction (hN : 200 ≤ N) (hT : HT n t ν0) : Rf n ν0 (f_G_readFunction N) (pFn (tkf n t)) := by
  intro ν r h
  obtain ⟨ν1, e1, h1⟩ := g_ex (x := 23) 23 rfl (by decide) hT h
  obtain ⟨r1, hr1⟩ : ∃ z, z = pExp (tkf n t) 23 r := ⟨_, rfl⟩
  unfold f_G_readFunction pFn pFnB
  rw [← hr1] at h1 ⊢
  obtain ⟨w, hw⟩ : ∃ w, w = now (tkf n t) r1 := ⟨_, rfl⟩
  rw [e1, ca_s, g_now hT h1, ca_s, nm_eq, jn_eq, ← hw]
  obtain ⟨νf, ef, hf⟩ := g_fl (x := 1) 1 rfl (by decide) hT h1
  rw [ef, ca_s]
  by_cases c1 : 52 ≤ w ∧ w < 58
  · have e52 : tI w - 52 = nI (w - 52) := tI_sub c1.1 (by omega)
    rw [e52, if_neg (nI_pos (by omega)), if_pos (show nI (w - 52) < (6 : Int32) from nI_lt (b := 6) (by omega) (by decide)), if_pos c1]
    have oki : isOk r1 = true := isOk_now (tk := tkf n t) (by omega)
    obtain ⟨p, C, cl, fe, nf, rfl, e2⟩ := g_param (f := w - 52) (by omega) h1 oki
    rw [e2, ca_s]
    have hb : ∀ c, (fe (w - 52)).map (fun x => x.2) = some c → c ≤ 1000 := by
      intro c hc
      cases hfe : fe (w - 52) with
      | none => rw [hfe] at hc; cases hc
      | some x =>
        rw [hfe] at hc
        have := h1.2.2.2.2.2.1 _ _ hfe
        simp at hc
        omega
    unfold fknown
    dsimp only
    have hcase : (∃ x, fe (w - 52) = some x) ∨ fe (w - 52) = none := by cases fe (w - 52) <;> simp
    rcases hcase with ⟨x, hfe⟩ | hfe
    · rw [hfe] at hb
      simp only [hfe]
      rw [if_neg (fun hh => by have := (oI_none hb).mp hh; cases this), if_pos (show (some x).isSome = true from rfl)]
      obtain ⟨νg, eg, hg⟩ := g_fl (x := 2) 2 rfl (by decide) hT h1
      exact ⟨νg, by rw [eg, ca_s], hg⟩
    · simp only [hfe]
      rw [if_pos (show oI (Option.map (fun x => x.2) (none : Option (Nat × Nat))) = -1 from rfl), if_neg (by decide)]
      obtain ⟨ν2, e3, h2⟩ := g_next hT h1 (by omega)
      obtain ⟨r2, hr2⟩ : ∃ z, z = pNext (.ok (p, C, cl, fe, nf)) := ⟨_, rfl⟩
      rw [← hr2] at h2 ⊢
      unfold pSign
      obtain ⟨u, hu⟩ : ∃ w, w = now (tkf n t) r2 := ⟨_, rfl⟩
      rw [e3, ca_s, g_now hT h2, ca_s, nm_eq, jn_eq, ← hu]
      obtain ⟨νh, eh, hh⟩ := g_fl (x := 1) 1 rfl (by decide) hT h2
      rw [eh, ca_s]
      by_cases c2 : 64 ≤ u ∧ u < 68
      · have e64 : tI u - 64 = nI (u - 64) := tI_sub c2.1 (by omega)
        rw [e64, if_neg (nI_pos (by omega)), if_pos (show nI (u - 64) ≤ (3 : Int32) from nI_le (b := 3) (by omega) (by decide)), if_pos c2]
        obtain ⟨ν3, e4, h3⟩ := g_next hT h2 (by omega)
        have ok3 : isOk (pNext r2) = true := by rw [hr2]; rfl
        obtain ⟨ν4, e5, h4⟩ := g_decl (f := w - 52) (np := u - 64) (by omega) (by omega) h3 ok3
        obtain ⟨ν5, e6, h5⟩ := g_readBlock hN hT 4 0 8 (by decide) (by decide) ν4 _ h4
        obtain ⟨z6, ν6, e7, h6, -⟩ := g_add (x := 33) (y := 0) 33 0 rfl rfl h5
        obtain ⟨z7, ν7, e8, h7, -⟩ := g_add (x := 0) (y := 0) 0 0 rfl rfl h6
        exact ⟨ν7, by rw [e4, ca_s, e5, ca_s, show (0 : Int32) = nI 0 from rfl, e6, ca_s]; rw [show nI 0 = (0 : Int32) from rfl, e7, ca2_s, e8, ca2_s], h7⟩
      · rw [if_neg c2]
        refine ⟨νh, ?_, hh⟩
        by_cases c3 : u < 64 ∨ 192 ≤ u
        · rw [if_pos (show tI u - 64 < 0 from tI_neg (c := 64) (by decide) (by decide) c3)]
        · have e64 : tI u - 64 = nI (u - 64) := tI_sub (c := 64) (by omega) (by omega)
          rw [e64, if_neg (nI_pos (by omega)), if_neg (show ¬ nI (u - 64) ≤ (3 : Int32) from nI_ge (a := 3) (by omega) (by omega))]
  · rw [if_neg c1]
    refine ⟨νf, ?_, hf⟩
    by_cases c3 : w < 52 ∨ 192 ≤ w
    · rw [if_pos (show tI w - 52 < 0 from tI_neg (c := 52) (by decide) (by decide) c3)]
    · have e52 : tI w - 52 = nI (w - 52) := tI_sub (c := 52) (by omega) (by omega)
      rw [e52, if_neg (nI_pos (by omega)), if_neg (show ¬ nI (w - 52) < (6 : Int32) from nI_nlt (b := 6) (by omega) (by omega))]
/-- what the calls must still be: of a function by name, at a place of the text -/
def clT (n : Nat) (t : Nat → Nat) (r : RR) : Prop := match r with
  | .ok (_, _, cl, _, _) => ∀ k c, cl k = some c → k < n ∧ 52 ≤ t k ∧ t k < 58
  | .error _ => True
def FK (N : Nat) (k3 : Int32 → St → Option St) (x1 : Int32) (μ2 : St) : Option St :=
  if (160 : Int32) ≤ x1 then some μ2 else if (μ2 204 0) = 0 then (gd (inb x1 160) <| nm (μ2 17 x1.toNatClampNeg) fun x8 => jn (fun (μ9 : St) => nm (x1 + (1 : Int32)) fun x12 => k3 x12 μ9) fun k10 => if x8 = (-1 : Int32) then k10 μ2 else nm (st μ2 203 0 x1) fun μ14 => ca (f_G_now μ14) fun x16 => ca (f_D_parametersOf (x16 - (52 : Int32)) μ14) fun x18 => gd (inb x1 160) <| nm (μ14 17 x1.toNatClampNeg) fun x20 => ca (f_G_checkCall x18 x20 μ14) fun μ22 => k10 μ22) else some μ2
theorem checkCalls_eq (N : Nat) (μ : St) : f_G_checkCalls N μ = lpk (FK N) (fun _ _ => none) N 0 μ := rfl
theorem g_checkL (hN : 200 ≤ N) (hT : HT n t ν0) : ∀ d fuel k ν r, k + d = 160 → d < fuel → GS n ν0 ν r → clT n t r → ∃ ν', lpk (FK N) (fun _ _ => none) fuel (nI k) ν = some ν' ∧ GS n ν0 ν' (pCheckL (tkf n t) d k r) := by
  intro d
  induction d with
  | zero =>
    intro fuel k ν r h1 h2 h hc
    obtain ⟨g, rfl⟩ : ∃ g, fuel = g + 1 := ⟨fuel - 1, by omega⟩
    refine ⟨ν, ?_, h⟩
    rw [lpk_s]
    unfold FK
    rw [if_pos (show (160 : Int32) ≤ nI k from nI_le (a := 160) (by omega) (by omega))]
  | succ d ih =>
    intro fuel k ν r h1 h2 h hc
    obtain ⟨g, rfl⟩ : ∃ g, fuel = g + 1 := ⟨fuel - 1, by omega⟩
    have hk160 : ¬ (160 : Int32) ≤ nI k := nI_ge (b := 160) (by omega) (by decide)
    rw [lpk_s]
    cases r with
    | error x =>
      refine ⟨ν, ?_, by rw [pCheckL_e]; exact h⟩
      unfold FK
      rw [if_neg hk160, if_neg (fun hh => absurd ((g_204 h).mp hh) (by simp [isOk]))]
    | ok σ =>
      obtain ⟨p, C, cl, fe, nf⟩ := σ
      have h204 := (g_204 h).mpr rfl
      obtain ⟨h0, hP, hC, ⟨l1, l2⟩, hF⟩ := id h
      have e17 : ν 17 k = oI (cl k) := l1 k (by omega)
      have hkb : ∀ c, cl k = some c → c ≤ 1000 := fun c hc => by have := l2 k c hc; omega
      unfold pCheckL
      show ∃ ν', _ ∧ GS n ν0 ν' (pCheckL (tkf n t) d (k + 1) (pCheckAt (tkf n t) k (.ok (p, C, cl, fe, nf))))
      have hF2 : ∀ kk, FK N kk (nI k) ν = if oI (cl k) = -1 then kk (nI (k + 1)) ν else (ca (f_G_now (st ν 203 0 (nI k))) fun x16 => ca (f_D_parametersOf (x16 - (52 : Int32)) (st ν 203 0 (nI k))) fun x18 => ca (f_G_checkCall x18 (oI (cl k)) (st ν 203 0 (nI k))) fun μ22 => kk (nI (k + 1)) μ22) := by
        intro kk
        unfold FK
        rw [if_neg hk160, if_pos h204, gd_i (inb_nI (by omega) (by decide)), nm_eq, jn_eq, cl_nI (by omega), e17]
        simp only [nm_eq, nI_1, inb_nI (show k < 160 by omega) (show 160 < 2 ^ 31 by decide), gd_t, st_ne (show (17 : Nat) ≠ 203 by decide), e17]
      rw [hF2]
      cases hcl : cl k with
      | none =>
        rw [if_pos (show oI none = -1 from rfl)]
        have : pCheckAt (tkf n t) k (.ok (p, C, cl, fe, nf)) = .ok (p, C, cl, fe, nf) := by unfold pCheckAt; dsimp only; rw [hcl]
        rw [this]
        exact ih g (k + 1) ν _ (by omega) (by omega) h hc
      | some c =>
        rw [if_neg (fun hh => by have := (oI_none (by rw [← hcl]; exact hkb)).mp hh; cases this)]
        obtain ⟨kn, kt1, kt2⟩ := hc k c hcl
        have hk : GS n ν0 (st ν 203 0 (nI k)) (.ok (k, C, cl, fe, nf)) := ⟨frG_st h0 (by decide), ⟨st_at _ _ _ _, by omega, by rw [st_ne (by decide)]; exact hP.2.2.1, by rw [st_ne (by decide)]; exact hP.2.2.2⟩, gC_same hC (by simp [st]) (by simp [st]) (by simp [st]), gL_same ⟨l1, l2⟩ (by simp [st]), gF_same hF (by simp [st]) (by simp [st]) (by simp [st])⟩
        have ht : tkf n t k = t k := by unfold tkf; rw [if_pos kn]
        have hnow : now (tkf n t) (.ok (k, C, cl, fe, nf)) = t k := ht
        rw [g_now hT hk, ca_s, hnow, show tI (t k) - 52 = nI (t k - 52) from tI_sub kt1 (by omega)]
        obtain ⟨p', C', cl', fe', nf', e3, e4⟩ := g_param (f := t k - 52) (by omega) hk rfl
        cases e3
        rw [e4, ca_s]
        have hce := l2 k c hcl
        unfold pCheckAt
        dsimp only
        rw [hcl, ht]
        dsimp only
        unfold f_G_checkCall
        cases hfe : fe (t k - 52) with
        | none =>
          rw [if_pos (show oI (Option.map (fun x => x.2) (none : Option (Nat × Nat))) = -1 from rfl)]
          obtain ⟨ν1, e5, h5⟩ := g_fl (x := 4) 4 rfl (by decide) hT hk
          rw [e5, ca_s, ca_s]
          exact ih g (k + 1) ν1 _ (by omega) (by omega) h5 trivial
        | some x =>
          have hx3 := hF.2.1 _ _ hfe
          rw [if_neg (fun hh => by have := (oI_none (x := some x.2) (fun c hc => by cases hc; omega)).mp hh; cases this)]
          show ∃ ν', ca (if nI x.2 = nI c then some _ else _) _ = _ ∧ _
          by_cases hx : x.2 = c
          · rw [if_pos (by rw [hx]), ca_s]
            dsimp only
            rw [if_pos hx]
            exact ih g (k + 1) _ _ (by omega) (by omega) hk hc
          · rw [if_neg (fun hh => hx ((nI_eq (by omega) (by omega)).mp hh))]
            dsimp only
            rw [if_neg hx]
            obtain ⟨ν1, e5, h5⟩ := g_fl (x := 5) 5 rfl (by decide) hT hk
            rw [e5, ca_s, ca_s]
            exact ih g (k + 1) ν1 _ (by omega) (by omega) h5 trivial
def kF (N : Nat) (μ4 : St) : Option (Int32 × St) :=
  ca (f_G_checkCalls N μ4) fun μ11 => ca (f_T_length μ11) fun x13 => nm (st μ11 203 0 x13) fun μ14 => ca (f_D_parametersOf (0 : Int32) μ14) fun x16 => jn (fun (μ17 : St) => some (((-1000 : Int32) * (μ17 204 0)) - (μ17 205 0), μ17)) fun k18 => if x16 = 0 then k18 μ14 else ca (f_G_fail (6 : Int32) μ14) fun μ22 => k18 μ22
def FT (N : Nat) (k5 : Int32 → St → Option (Int32 × St)) (x3 : Int32) (μ4 : St) : Option (Int32 × St) :=
  if (160 : Int32) ≤ x3 then kF N μ4 else ca (f_G_now μ4) fun x25 => if x25 = (-1 : Int32) then kF N μ4 else ca (f_G_readFunction N μ4) fun μ28 => nm (x3 + (1 : Int32)) fun x29 => k5 x29 μ28
theorem fault_eq (N : Nat) (μ : St) : f_G_fault N μ = ca (f_G_clear N μ) fun μ2 => lpk (FT N) (fun _ _ => none) N 0 μ2 := rfl
theorem now_cases (hT : HT n t ν0) (r : RR) : now (tkf n t) r < 192 ∨ now (tkf n t) r = 999 := by
  cases r with
  | error x => exact Or.inr rfl
  | ok σ =>
    obtain ⟨p, s⟩ := σ
    show tkf n t p < 192 ∨ tkf n t p = 999
    unfold tkf
    split
    · rename_i hp
      have := hT.2.1 p hp
      omega
    · exact Or.inr rfl
theorem g_topL (hN : 200 ≤ N) (hT : HT n t ν0) : ∀ k fuel i ν r, i + k = 160 → k < fuel → GS n ν0 ν r → ∃ ν', lpk (FT N) (fun _ _ => none) fuel (nI i) ν = kF N ν' ∧ GS n ν0 ν' (pTopL (tkf n t) k r) := by
  intro k
  induction k with
  | zero =>
    intro fuel i ν r h1 h2 h
    obtain ⟨g, rfl⟩ : ∃ g, fuel = g + 1 := ⟨fuel - 1, by omega⟩
    refine ⟨ν, ?_, h⟩
    rw [lpk_s]
    unfold FT
    rw [if_pos (show (160 : Int32) ≤ nI i from nI_le (a := 160) (by omega) (by omega))]
  | succ k ih =>
    intro fuel i ν r h1 h2 h
    obtain ⟨g, rfl⟩ : ∃ g, fuel = g + 1 := ⟨fuel - 1, by omega⟩
    rw [lpk_s]
    have hF : ∀ kk, FT N kk (nI i) ν = if now (tkf n t) r = 999 then kF N ν else ca (f_G_readFunction N ν) fun μ28 => kk (nI (i + 1)) μ28 := by
      intro kk
      unfold FT
      rw [if_neg (show ¬ (160 : Int32) ≤ nI i from nI_ge (b := 160) (by omega) (by decide)), g_now hT h, ca_s]
      simp only [nm_eq, nI_1]
      by_cases hx : now (tkf n t) r = 999
      · rw [if_pos ((tI_end (now_cases hT r)).mpr hx), if_pos hx]
      · rw [if_neg (fun hh => hx ((tI_end (now_cases hT r)).mp hh)), if_neg hx]
    rw [hF]
    unfold pTopL
    by_cases hx : now (tkf n t) r = 999
    · rw [if_pos hx, if_pos hx]
      exact ⟨ν, rfl, h⟩
    · rw [if_neg hx, if_neg hx]
      obtain ⟨ν1, e1, g1⟩ := g_readFunction hN hT ν _ h
      obtain ⟨ν2, e2, g2⟩ := ih g (i + 1) ν1 _ (by omega) (by omega) g1
      exact ⟨ν2, by rw [e1, ca_s, e2], g2⟩
/-- how the reading ends -/
def FINC (n : Nat) (ν0 ν : St) (r : RR) : Prop := frG ν0 ν ∧ match r with
  | .ok (_, C, _, fe, nf) => ν 204 0 = 0 ∧ ν 205 0 = 0 ∧ gC ν C ∧ gF ν fe nf
  | .error x => ν 204 0 = nI x.1 ∧ 1 ≤ x.1 ∧ x.1 ≤ 6 ∧ ν 205 0 = nI x.2 ∧ x.2 ≤ 160
theorem FINC_GS {ν : St} {r : RR} (h : GS n ν0 ν r) : FINC n ν0 ν r := by
  obtain ⟨h0, h1⟩ := h
  refine ⟨h0, ?_⟩
  cases r with
  | error x => exact ⟨h1.2.1, h1.2.2.1, h1.2.2.2.1, h1.2.2.2.2.1, h1.2.2.2.2.2.1⟩
  | ok σ => obtain ⟨p, C, cl, fe, nf⟩ := σ; exact ⟨h1.1.2.2.1, h1.1.2.2.2, h1.2.1, h1.2.2.2⟩
theorem g_kF (hN : 200 ≤ N) (hT : HT n t ν0) {ν : St} {r : RR} (h : GS n ν0 ν r) (hc : clT n t r) : ∃ ν', kF N ν = some (((-1000 : Int32) * (ν' 204 0)) - (ν' 205 0), ν') ∧ FINC n ν0 ν' (pEnd n (pCheckL (tkf n t) 160 0 r)) := by
  obtain ⟨ν1, e1, h1⟩ := g_checkL hN hT 160 N 0 ν r (by decide) (by omega) h hc
  obtain ⟨r1, hr1⟩ : ∃ z, z = pCheckL (tkf n t) 160 0 r := ⟨_, rfl⟩
  rw [← hr1] at h1 ⊢
  unfold kF
  rw [checkCalls_eq, show (0 : Int32) = nI 0 from rfl, e1, ca_s]
  have e121 : ν1 121 0 = nI n := by rw [h1.1 121 (by decide) (by decide) (by decide) (by decide) (by decide) (by decide) (by decide) (by decide) (by decide) (by decide)]; exact hT.2.2.1
  unfold f_T_length
  rw [ca_s, nm_eq, e121]
  have hn := hT.1
  cases r1 with
  | error x =>
    obtain ⟨h0, a1, a2, a3, a4, a5, a6, a7⟩ := h1
    have hpar : ∃ z, f_D_parametersOf (nI 0) (st ν1 203 0 (nI n)) = some z := by
      unfold f_D_parametersOf
      rw [jn_eq, if_neg (by decide), if_neg (by decide), gd_i (by decide), nm_eq]
      exact ⟨_, rfl⟩
    obtain ⟨z, hz⟩ := hpar
    rw [hz, ca_s, jn_eq]
    have e204 : ¬ (st ν1 203 0 (nI n)) 204 0 = 0 := by rw [st_ne (by decide), a2]; exact nI_ne0 (by omega) (by omega)
    have hfl : f_G_fail (6 : Int32) (st ν1 203 0 (nI n)) = some (st (st ν1 203 0 (nI n)) 203 0 160) := by
      unfold f_G_fail
      rw [if_neg e204, nm_eq]
    unfold pEnd
    dsimp only
    by_cases hz0 : z = nI 0
    · rw [if_pos hz0]
      exact ⟨_, rfl, frG_st h0 (by decide), by rw [st_ne (by decide)]; exact a2, a3, a4, by rw [st_ne (by decide)]; exact a5, a6⟩
    · rw [if_neg hz0, hfl, ca_s]
      exact ⟨_, rfl, frG_st (frG_st h0 (by decide)) (by decide), by simp [st, a2], a3, a4, by simp [st, a5], a6⟩
  | ok σ =>
    obtain ⟨p, C, cl, fe, nf⟩ := σ
    obtain ⟨h0, hP, hC, hL, hF⟩ := id h1
    have hk : GS n ν0 (st ν1 203 0 (nI n)) (.ok (n, C, cl, fe, nf)) := ⟨frG_st h0 (by decide), ⟨st_at _ _ _ _, by omega, by rw [st_ne (by decide)]; exact hP.2.2.1, by rw [st_ne (by decide)]; exact hP.2.2.2⟩, gC_same hC (by simp [st]) (by simp [st]) (by simp [st]), gL_same hL (by simp [st]), gF_same hF (by simp [st]) (by simp [st]) (by simp [st])⟩
    obtain ⟨p', C', cl', fe', nf', e3, e4⟩ := g_param (f := 0) (by omega) hk rfl
    cases e3
    rw [e4, ca_s, jn_eq]
    obtain ⟨ν2, e5, h5⟩ := g_fl (x := 6) 6 rfl (by decide) hT hk
    unfold pEnd
    dsimp only
    cases hfe : fe 0 with
    | none =>
      rw [if_neg (by decide), e5, ca_s]
      exact ⟨ν2, rfl, FINC_GS h5⟩
    | some x =>
      have hx3 := hF.2.1 _ _ hfe
      dsimp only
      show ∃ ν', (if nI x.2 = nI 0 then _ else _) = _ ∧ _
      by_cases hx : x.2 = 0
      · rw [if_pos (by rw [hx]), if_pos hx]
        exact ⟨_, rfl, FINC_GS hk⟩
      · rw [if_neg (fun hh => hx ((nI_eq (by omega) (by omega)).mp hh)), if_neg hx, e5, ca_s]
        exact ⟨ν2, rfl, FINC_GS h5⟩
end GT
