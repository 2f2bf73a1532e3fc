/-! the class's reading is the reading on plain numbers: its state, its small steps -/
def tkf (n : Nat) (t : Nat → Nat) (p : Nat) : Nat := if p < n then t p else 999
def tI (t : Nat) : Int32 := if t < 192 then nI t else -1
theorem tI_eq {t c : Nat} (hc : c < 192) : (tI t = nI c) ↔ t = c := by
  unfold tI
  by_cases h : t < 192
  · rw [if_pos h]; exact nI_eq (by omega) (by omega)
  · rw [if_neg h]
    constructor
    · intro hh
      have := congrArg Int32.toInt hh
      rw [nI_toInt (by omega)] at this
      have e : ((-1 : Int32)).toInt = -1 := rfl
      omega
    · intro hh; omega
theorem tI_l {t : Nat} {x : Int32} (c : Nat) (hx : x = nI c) (hc : c < 192) : (tI t = x) ↔ t = c := by subst hx; exact tI_eq hc
theorem tI_end {t : Nat} (h : t < 192 ∨ t = 999) : (tI t = -1) ↔ t = 999 := by
  unfold tI
  rcases h with h | h
  · rw [if_pos h]
    constructor
    · intro hh
      have := congrArg Int32.toInt hh
      rw [nI_toInt (by omega)] at this
      have e : ((-1 : Int32)).toInt = -1 := rfl
      omega
    · intro hh; omega
  · subst h; decide
theorem isOf_t {t : Nat} (a c : Nat) (h : a + c ≤ 192) : f_G_isOf (tI t) (nI a) (nI c) = some (if a ≤ t ∧ t < a + c then 1 else 0) := by
  unfold f_G_isOf
  rw [jn_eq, nI_add]
  unfold tI
  by_cases h1 : t < 192
  · rw [if_pos h1]
    by_cases h2 : t < a
    · rw [if_pos (nI_lt h2 (by omega)), if_neg (by omega)]
    · rw [if_neg (nI_nlt (by omega) (by omega))]
      by_cases h3 : a + c ≤ t
      · rw [if_pos (nI_le h3 (by omega)), if_neg (by omega)]
      · rw [if_neg (nI_ge (by omega) (by omega)), if_pos (by omega)]
  · rw [if_neg h1, if_pos (show (-1 : Int32) < nI a from by rw [Int32.lt_iff_toInt_lt, nI_toInt (by omega)]; have e : ((-1 : Int32)).toInt = -1 := rfl; omega), if_neg (by omega)]
theorem tI_sub {t c : Nat} (h : c ≤ t) (h2 : t < 192) : tI t - nI c = nI (t - c) := by
  unfold tI
  rw [if_pos h2, pk_sub h]
def oI (x : Option Nat) : Int32 := match x with
  | some c => nI c
  | none => -1
def eD (ν : St) (f : Nat) (x : Option (Nat × Nat)) : Prop := match x with
  | some y => ν 15 f = nI y.1 ∧ ν 16 f = nI (y.2 + 1)
  | none => ν 16 f = 0
def gP (n : Nat) (ν : St) (p : Nat) : Prop := ν 203 0 = nI p ∧ p ≤ n ∧ ν 204 0 = 0 ∧ ν 205 0 = 0
def gC (ν : St) (C : List (Nat × Nat)) : Prop := ν 184 0 = nI C.length ∧ C.length ≤ 160 ∧ ∀ k o a, C[k]? = some (o, a) → ν 13 k = nI o ∧ ν 14 k = nI a
def gL (ν : St) (cl : Nat → Option Nat) : Prop := (∀ k, k < 160 → ν 17 k = oI (cl k)) ∧ ∀ k c, cl k = some c → c ≤ 160
def gF (ν : St) (fe : Nat → Option (Nat × Nat)) (nf : Nat) : Prop := (∀ f, f < 6 → eD ν f (fe f)) ∧ (∀ f x, fe f = some x → x.2 ≤ 3) ∧ ν 185 0 = nI nf
def okG (n : Nat) (ν : St) (σ : PS) : Prop := match σ with
  | (p, C, cl, fe, nf) => gP n ν p ∧ gC ν C ∧ gL ν cl ∧ gF ν fe nf
def erG (ν : St) (x : Nat × Nat) : Prop := ν 203 0 = nI 160 ∧ ν 204 0 = nI x.1 ∧ 1 ≤ x.1 ∧ x.1 ≤ 6 ∧ ν 205 0 = nI x.2 ∧ x.2 ≤ 160 ∧ ∃ dl, dl ≤ 160 ∧ ν 184 0 = nI dl
def frG (ν0 ν : St) : Prop := ∀ k, k ≠ 203 → k ≠ 204 → k ≠ 205 → k ≠ 13 → k ≠ 14 → k ≠ 184 → k ≠ 17 → k ≠ 15 → k ≠ 16 → k ≠ 185 → ν k = ν0 k
def GS (n : Nat) (ν0 ν : St) (r : RR) : Prop := frG ν0 ν ∧ match r with
  | .ok σ => okG n ν σ
  | .error x => erG ν x
/-- the text that is read -/
def HT (n : Nat) (t : Nat → Nat) (ν0 : St) : Prop := n ≤ 160 ∧ (∀ i, i < n → t i ≤ 191) ∧ ν0 121 0 = nI n ∧ ∀ i, i < n → ν0 7 i = nI (t i)
theorem gC_same {ν ν' : St} {C : List (Nat × Nat)} (h : gC ν C) (h1 : ν' 184 = ν 184) (h2 : ν' 13 = ν 13) (h3 : ν' 14 = ν 14) : gC ν' C := by
  unfold gC at *; rw [h1, h2, h3]; exact h
theorem gL_same {ν ν' : St} {cl : Nat → Option Nat} (h : gL ν cl) (h1 : ν' 17 = ν 17) : gL ν' cl := by
  unfold gL at *; rw [h1]; exact h
theorem gF_same {ν ν' : St} {fe : Nat → Option (Nat × Nat)} {nf : Nat} (h : gF ν fe nf) (h1 : ν' 15 = ν 15) (h2 : ν' 16 = ν 16) (h3 : ν' 185 = ν 185) : gF ν' fe nf := by
  unfold gF eD at *; rw [h1, h2, h3]; exact h
theorem gP_same {n : Nat} {ν ν' : St} {p : Nat} (h : gP n ν p) (h1 : ν' 203 = ν 203) (h2 : ν' 204 = ν 204) (h3 : ν' 205 = ν 205) : gP n ν' p := by
  unfold gP at *; rw [h1, h2, h3]; exact h
section GSS
variable {n : Nat} {t : Nat → Nat} {ν0 : St} (hT : HT n t ν0)
theorem g_at {ν : St} {r : RR} (hT : HT n t ν0) (h : GS n ν0 ν r) : f_T_at (ν 203 0) ν = some (tI (now (tkf n t) r)) := by
  obtain ⟨t1, t2, t3, t4⟩ := hT
  obtain ⟨h1, h2⟩ := h
  have e1 : ν 121 = ν0 121 := h1 121 (by decide) (by decide) (by decide) (by decide) (by decide) (by decide) (by decide) (by decide) (by decide) (by decide)
  have e2 : ν 7 = ν0 7 := h1 7 (by decide) (by decide) (by decide) (by decide) (by decide) (by decide) (by decide) (by decide) (by decide) (by decide)
  have key : ∀ q, q ≤ 160 → ν 203 0 = nI q → f_T_at (ν 203 0) ν = some (tI (tkf n t q)) := by
    intro q hq hp
    unfold f_T_at tkf
    rw [jn_eq, hp, if_neg (nI_pos (by omega)), e1, t3]
    by_cases hn : q < n
    · rw [if_neg (nI_ge (by omega) (by omega)), if_neg (show ¬ (160 : Int32) ≤ nI q from nI_ge (b := 160) (by omega) (by decide)), gd_i (inb_nI (by omega) (by decide)), nm_eq, cl_nI (by omega), e2, t4 q hn, if_pos hn]
      unfold tI
      rw [if_pos (by have := t2 q hn; omega)]
    · rw [if_pos (nI_le (by omega) (by omega)), if_neg hn]
      rfl
  cases r with
  | error x => 
    have := key 160 (by omega) h2.1
    rw [this]
    unfold tkf
    rw [if_neg (by omega)]
    rfl
  | ok σ =>
    obtain ⟨p, C, cl, fe, nf⟩ := σ
    exact key p (by have := h2.1.2.1; omega) h2.1.1
theorem g_now {ν : St} {r : RR} (hT : HT n t ν0) (h : GS n ν0 ν r) : f_G_now ν = some (tI (now (tkf n t) r)) := by
  unfold f_G_now
  rw [g_at hT h, ca_s]
theorem g_ok {ν : St} {r : RR} (h : GS n ν0 ν r) (hn : now (tkf n t) r ≠ 999) : ∃ p C cl fe nf, r = .ok (p, C, cl, fe, nf) ∧ p < n := by
  cases r with
  | error x => exact absurd rfl hn
  | ok σ =>
    obtain ⟨p, C, cl, fe, nf⟩ := σ
    refine ⟨p, C, cl, fe, nf, rfl, ?_⟩
    have : tkf n t p ≠ 999 := hn
    unfold tkf at this
    by_cases hp : p < n
    · exact hp
    · rw [if_neg hp] at this; exact absurd rfl this
theorem frG_st {ν : St} {k j : Nat} {v : Int32} (h : frG ν0 ν) (hk : k = 203 ∨ k = 204 ∨ k = 205 ∨ k = 13 ∨ k = 14 ∨ k = 184 ∨ k = 17 ∨ k = 15 ∨ k = 16 ∨ k = 185) : frG ν0 (st ν k j v) := by
  intro a h1 h2 h3 h4 h5 h6 h7 h8 h9 h10
  rw [st_ne' (by omega)]
  exact h a h1 h2 h3 h4 h5 h6 h7 h8 h9 h10
theorem g_next {ν : St} {r : RR} (hT : HT n t ν0) (h : GS n ν0 ν r) (hn : now (tkf n t) r ≠ 999) : ∃ ν', f_G_next ν = some ν' ∧ GS n ν0 ν' (pNext r) := by
  obtain ⟨p, C, cl, fe, nf, rfl, hp⟩ := g_ok h hn
  obtain ⟨h1, ⟨g1, g2, g3, g4⟩, hC, hL, hF⟩ := h
  refine ⟨st ν 203 0 (nI (p + 1)), by unfold f_G_next; rw [nm_eq, g1, nI_1], frG_st h1 (by decide), ⟨st_at _ _ _ _, by omega, by rw [st_ne (by decide)]; exact g3, by rw [st_ne (by decide)]; exact g4⟩, gC_same hC (st_ne' (by decide)) (st_ne' (by decide)) (st_ne' (by decide)), gL_same hL (st_ne' (by decide)), gF_same hF (st_ne' (by decide)) (st_ne' (by decide)) (st_ne' (by decide))⟩
theorem g_fail {ν : St} {r : RR} {e : Nat} (hT : HT n t ν0) (he : 1 ≤ e ∧ e ≤ 6) (h : GS n ν0 ν r) : ∃ ν', f_G_fail (nI e) ν = some ν' ∧ GS n ν0 ν' (pFail e r) := by
  unfold f_G_fail
  obtain ⟨h1, h2⟩ := h
  cases r with
  | error x =>
    obtain ⟨a1, a2, a3, a4, a5, a6, a7⟩ := h2
    rw [if_neg (by rw [a2]; exact nI_ne0 (by omega) (by omega)), nm_eq]
    refine ⟨_, rfl, frG_st h1 (by decide), st_at _ _ _ _, by rw [st_ne (by decide)]; exact a2, a3, a4, by rw [st_ne (by decide)]; exact a5, a6, by rw [st_ne' (by decide)]; exact a7⟩
  | ok σ =>
    obtain ⟨p, C, cl, fe, nf⟩ := σ
    obtain ⟨⟨g1, g2, g3, g4⟩, hC, hL, hF⟩ := h2
    rw [if_pos g3, nm_eq, nm_eq, nm_eq]
    refine ⟨_, rfl, frG_st (frG_st (frG_st h1 (by decide)) (by decide)) (by decide), st_at _ _ _ _, by simp [st, upd], he.1, he.2, by simp [st, upd, g1], by show p ≤ 160; have := hT.1; omega, C.length, hC.2.1, by simp [st, hC.1]⟩
theorem g_exp {ν : St} {r : RR} (c : Nat) (hc : c < 192) (hT : HT n t ν0) (h : GS n ν0 ν r) : ∃ ν', f_G_expect (nI c) ν = some ν' ∧ GS n ν0 ν' (pExp (tkf n t) c r) := by
  unfold f_G_expect
  rw [g_at hT h, ca_s]
  by_cases hx : now (tkf n t) r = c
  · rw [if_pos ((tI_eq hc).mpr hx)]
    obtain ⟨ν', e1, e2⟩ := g_next hT h (by omega)
    obtain ⟨p, C, cl, fe, nf, rfl, hp⟩ := g_ok h (show now (tkf n t) r ≠ 999 by omega)
    refine ⟨ν', e1, ?_⟩
    have : tkf n t p = c := hx
    unfold pExp
    dsimp only
    rw [if_pos this]
    exact e2
  · rw [if_neg (fun hh => hx ((tI_eq hc).mp hh))]
    obtain ⟨ν', e1, e2⟩ := g_fail (e := 1) hT (by decide) h
    refine ⟨ν', by rw [show (1 : Int32) = nI 1 from rfl, e1, ca_s], ?_⟩
    cases r with
    | error x => exact e2
    | ok σ =>
      obtain ⟨p, C, cl, fe, nf⟩ := σ
      have : ¬ tkf n t p = c := hx
      unfold pExp
      dsimp only
      rw [if_neg this]
      exact e2
theorem g_add {ν : St} {r : RR} {x y : Int32} (o a : Nat) (hx : x = nI o) (hy : y = nI a) (h : GS n ν0 ν r) : ∃ z ν', f_D_add x y ν = some (z, ν') ∧ GS n ν0 ν' (pAdd o a r) ∧ (isOk r = true → z = nI (clen r)) := by
  subst hx hy
  unfold f_D_add
  rw [nm_eq]
  obtain ⟨h1, h2⟩ := h
  have key : ∀ l, l ≤ 160 → ν 184 0 = nI l → (if ν 184 0 < 0 then some (ν 184 0, ν) else if (160 : Int32) ≤ ν 184 0 then some (ν 184 0, ν) else if (160 : Int32) ≤ ν 184 0 then some (ν 184 0, ν) else gd (inb (ν 184 0) 160) (nm (st ν 13 (ν 184 0).toNatClampNeg (nI o)) fun μ6 => gd (inb (ν 184 0) 160) (nm (st μ6 14 (ν 184 0).toNatClampNeg (nI a)) fun μ8 => nm (st μ8 184 0 ((μ8 184 0) + (1 : Int32))) fun μ9 => some (ν 184 0, μ9)))) = if l < 160 then some (nI l, st (st (st ν 13 l (nI o)) 14 l (nI a)) 184 0 (nI (l + 1))) else some (nI l, ν) := by
    intro l hl he
    rw [he, if_neg (nI_pos (by omega))]
    by_cases hx : l < 160
    · rw [if_neg (show ¬ (160 : Int32) ≤ nI l from nI_ge (b := 160) hx (by decide)), if_neg (show ¬ (160 : Int32) ≤ nI l from nI_ge (b := 160) hx (by decide)), if_pos hx, gd_i (inb_nI hx (by decide)), nm_eq, gd_i (inb_nI hx (by decide)), nm_eq, nm_eq, cl_nI (by omega), st_ne (by decide), st_ne (by decide), he, nI_1]
    · rw [if_pos (show (160 : Int32) ≤ nI l from nI_le (a := 160) (by omega) (by omega)), if_neg hx]
  cases r with
  | error x =>
    obtain ⟨a1, a2, a3, a4, a5, a6, dl, a7, a8⟩ := h2
    have hk := key dl a7 a8
    by_cases hx : dl < 160
    · rw [if_pos hx] at hk
      refine ⟨_, _, hk, ⟨frG_st (frG_st (frG_st h1 (by decide)) (by decide)) (by decide), by simp [st, a1], by simp [st, a2], a3, a4, by simp [st, a5], a6, dl + 1, by omega, st_at _ _ _ _⟩, fun h => absurd h (by simp [isOk])⟩
    · rw [if_neg hx] at hk
      exact ⟨_, _, hk, ⟨h1, a1, a2, a3, a4, a5, a6, dl, a7, a8⟩, fun h => absurd h (by simp [isOk])⟩
  | ok σ =>
    obtain ⟨p, C, cl, fe, nf⟩ := σ
    obtain ⟨hP, ⟨c1, c2, c3⟩, hL, hF⟩ := h2
    have hk := key C.length c2 c1
    by_cases hx : C.length < 160
    · rw [if_pos hx] at hk
      refine ⟨_, _, hk, ?_, fun _ => rfl⟩
      unfold pAdd
      dsimp only
      rw [if_pos hx]
      refine ⟨frG_st (frG_st (frG_st h1 (by decide)) (by decide)) (by decide), gP_same hP (by simp [st]) (by simp [st]) (by simp [st]), ⟨by simp [st, upd], by simp; omega, fun k o' a' hka => ?_⟩, gL_same hL (by simp [st]), gF_same hF (by simp [st]) (by simp [st]) (by simp [st])⟩
      by_cases hkl : k = C.length
      · subst hkl
        simp at hka
        rw [← hka.1, ← hka.2]
        simp [st, upd]
      · have hk2 : k < C.length := by
          have := (List.getElem?_eq_some_iff.mp hka).1
          simp at this
          omega
        rw [List.getElem?_append_left hk2] at hka
        simp [st, upd, hkl]
        exact c3 k o' a' hka
    · rw [if_neg hx] at hk
      refine ⟨_, _, hk, ?_, fun _ => rfl⟩
      unfold pAdd
      dsimp only
      rw [if_neg hx]
      exact ⟨h1, hP, ⟨c1, c2, c3⟩, hL, hF⟩
theorem g_aim {ν : St} {r : RR} {x : Int32} (j : Nat) (hx : isOk r = true → x = nI j ∧ j ≤ 160) (h : GS n ν0 ν r) : ∃ ν', f_D_aim x ν = some ν' ∧ GS n ν0 ν' (pAim j r) := by
  unfold f_D_aim
  obtain ⟨h1, h2⟩ := h
  cases r with
  | error x' =>
    obtain ⟨a1, a2, a3, a4, a5, a6, dl, a7, a8⟩ := h2
    have same : GS n ν0 ν (pAim j (.error x')) := ⟨h1, a1, a2, a3, a4, a5, a6, dl, a7, a8⟩
    by_cases c1 : x < 0
    · rw [if_pos c1]; exact ⟨_, rfl, same⟩
    rw [if_neg c1]
    by_cases c2 : (160 : Int32) ≤ x
    · rw [if_pos c2]; exact ⟨_, rfl, same⟩
    rw [if_neg c2]
    rcases pk_ix x (n := 160) (by decide) with g | g | ⟨i, hi, rfl⟩
    · exact absurd g c1
    · exact absurd g c2
    rw [gd_i (inb_nI hi (by decide)), nm_eq]
    exact ⟨_, rfl, frG_st h1 (by decide), by simp [st, a1], by simp [st, a2], a3, a4, by simp [st, a5], a6, dl, a7, by simp [st, a8]⟩
  | ok σ =>
    obtain ⟨rfl, hj⟩ := hx rfl
    obtain ⟨p, C, cl, fe, nf⟩ := σ
    obtain ⟨hP, ⟨c1, c2, c3⟩, hL, hF⟩ := h2
    rw [if_neg (nI_pos (by omega))]
    by_cases h160 : j < 160
    · rw [if_neg (show ¬ (160 : Int32) ≤ nI j from nI_ge (b := 160) h160 (by decide)), gd_i (inb_nI h160 (by decide)), nm_eq, cl_nI (by omega)]
      refine ⟨_, rfl, frG_st h1 (by decide), gP_same hP (by simp [st]) (by simp [st]) (by simp [st]), ⟨by simp [st, c1, aimed], by simp [aimed]; exact c2, fun k o a hka => ?_⟩, gL_same hL (by simp [st]), gF_same hF (by simp [st]) (by simp [st]) (by simp [st])⟩
      rw [st_ne (by decide)]
      unfold aimed at hka
      rw [List.getElem?_modify] at hka
      by_cases hkj : j = k
      · subst hkj
        cases hc : C[j]? with
        | none => rw [hc] at hka; cases hka
        | some y =>
          rw [hc] at hka
          obtain ⟨y1, y2⟩ := y
          simp at hka
          rw [st_at, c1, ← hka.1, ← hka.2]
          exact ⟨(c3 j y1 y2 hc).1, rfl⟩
      · simp [hkj] at hka
        rw [st_nj (Ne.symm hkj)]
        exact c3 k o a hka
    · rw [if_pos (show (160 : Int32) ≤ nI j from nI_le (a := 160) (by omega) (by omega))]
      refine ⟨_, rfl, h1, hP, ?_, hL, hF⟩
      have : aimed C j C.length = C := by
        unfold aimed
        exact List.modify_eq_self (by omega)
      rw [this]
      exact ⟨c1, c2, c3⟩
end GSS
