/-! the reference's reader: what its rows mean, and its small steps -/
/-- how tight an operator binds -/
def lvl (o : Nat) : Nat := if o = 18 ∨ o = 19 then 1 else if o = 13 ∨ o = 14 then 2 else if 15 ≤ o ∧ o ≤ 17 then 3 else 0
def sI (s : Nat) : Int32 := if s = 0 then -1 else nI s
abbrev VF : Type := Nat × Nat × Nat × List Nat
def wtot : List VF → Nat
  | [] => 0
  | x :: V => x.2.2.2.length + wtot V
def mW (μ : St) (b : Nat) : List Nat → Prop
  | [] => True
  | o :: W => μ 20 (b + W.length) = nI o ∧ μ 21 (b + W.length) = nI (lvl o) ∧ mW μ b W
def mVL (μ : St) : List VF → Prop
  | [] => True
  | x :: V => (μ 16 V.length = nI x.1 ∧ μ 19 V.length = nI x.2.1 ∧ μ 17 V.length = sI x.2.2.1 ∧ μ 18 V.length = nI (wtot V)) ∧ mW μ (wtot V) x.2.2.2 ∧ mVL μ V
def mV (μ : St) (V : Option (List VF)) : Prop := match V with
  | none => True
  | some V => μ 126 0 = nI V.length ∧ V.length ≤ 4 ∧ μ 131 0 = nI (wtot V) ∧ wtot V ≤ 60 ∧ mVL μ V
abbrev BF : Type := Nat × Nat × Nat
def mBL (μ : St) : List BF → Prop
  | [] => True
  | x :: B => (μ 13 B.length = nI x.1 ∧ μ 14 B.length = nI x.2.1 ∧ μ 15 B.length = nI x.2.2) ∧ mBL μ B
def mB (μ : St) (B : List BF) : Prop := μ 122 0 = nI B.length ∧ B.length ≤ 4 ∧ mBL μ B
abbrev KF : Type := Nat × Nat × Nat
def mK (μ : St) (K : List KF) : Prop := μ 118 0 = nI K.length ∧ K.length ≤ 160 ∧ ∀ (i : Nat) (x : KF), K[i]? = some x → μ 10 i = nI x.1 ∧ μ 11 i = nI x.2.1 ∧ μ 12 i = nI x.2.2
def opd (K : List KF) (o a : Nat) (y : Int32) : Prop := if o = 42 then ∃ (i : Nat) (x : KF), K[i]? = some x ∧ x.2.1 = a ∧ y = nI i else (uses o = true → y = nI a)
def mC (μ : St) (K : List KF) (C : List (Nat × Nat)) : Prop := μ 108 0 = nI C.length ∧ ∀ k o a, C[k]? = some (o, a) → μ 2 k = nI (mop o) ∧ opd K o a (μ 3 k)
def mE (μ : St) (f : Nat) (x : Option (Nat × Nat)) : Prop := match x with
  | some y => μ 6 f = nI y.1 ∧ μ 7 f = nI y.2
  | none => μ 6 f = -1
def mF (μ : St) (fe : Nat → Option (Nat × Nat)) : Prop := (∀ f, f < 6 → mE μ f (fe f)) ∧ ∀ f x, fe f = some x → x.1 ≤ 160 ∧ x.2 ≤ 3
def mP (n : Nat) (μ : St) (p md : Nat) : Prop := μ 105 0 = nI p ∧ p ≤ n ∧ μ 106 0 = nI md ∧ μ 103 0 = 0 ∧ μ 107 0 = 0
def mD (μ : St) (D : Int32 × Int32 × Int32) : Prop := μ 134 0 = D.1 ∧ μ 135 0 = D.2.1 ∧ μ 136 0 = D.2.2
def prow (k : Nat) : Bool := k == 103 || k == 104 || k == 105 || k == 106 || k == 107 || k == 108 || k == 2 || k == 3 || k == 6 || k == 7 || k == 118 || k == 10 || k == 11 || k == 12 || k == 122 || k == 13 || k == 14 || k == 15 || k == 126 || k == 16 || k == 17 || k == 18 || k == 19 || k == 131 || k == 20 || k == 21 || k == 134 || k == 135 || k == 136
def frM (μ0 μ : St) : Prop := ∀ k, prow k = false → μ k = μ0 k
def MX (n : Nat) (μ0 μ : St) (p md : Nat) (C : List (Nat × Nat)) (K : List KF) (B : List BF) (D : Int32 × Int32 × Int32) (fe : Nat → Option (Nat × Nat)) (V : Option (List VF)) : Prop :=
  frM μ0 μ ∧ mP n μ p md ∧ mC μ K C ∧ mK μ K ∧ mB μ B ∧ mD μ D ∧ mF μ fe ∧ mV μ V
/-- an error was found -/
def Dead (μ0 μ : St) (x : Nat × Nat) : Prop := frM μ0 μ ∧ μ 103 0 = nI x.1 ∧ μ 104 0 = nI x.2 ∧ 1 ≤ x.1 ∧ x.1 ≤ 6 ∧ x.2 ≤ 160
def HM (n : Nat) (t : Nat → Nat) (μ0 : St) : Prop := n ≤ 160 ∧ (∀ i, i < n → t i ≤ 191) ∧ μ0 101 0 = nI n ∧ ∀ i, i < n → μ0 1 i = nI (t i)
theorem mW_same {μ μ' : St} {b : Nat} {W : List Nat} (h : mW μ b W) (h1 : μ' 20 = μ 20) (h2 : μ' 21 = μ 21) : mW μ' b W := by
  induction W with
  | nil => trivial
  | cons o W ih => obtain ⟨a, b, c⟩ := h; exact ⟨by rw [h1]; exact a, by rw [h2]; exact b, ih c⟩
theorem mVL_same {μ μ' : St} {V : List VF} (h : mVL μ V) (h1 : ∀ k, k = 16 ∨ k = 17 ∨ k = 18 ∨ k = 19 ∨ k = 20 ∨ k = 21 → μ' k = μ k) : mVL μ' V := by
  induction V with
  | nil => trivial
  | cons x V ih =>
    obtain ⟨⟨a1, a2, a3, a4⟩, b, c⟩ := h
    exact ⟨⟨by rw [h1 16 (by decide)]; exact a1, by rw [h1 19 (by decide)]; exact a2, by rw [h1 17 (by decide)]; exact a3, by rw [h1 18 (by decide)]; exact a4⟩, mW_same b (h1 20 (by decide)) (h1 21 (by decide)), ih c⟩
theorem mV_same {μ μ' : St} {V : Option (List VF)} (h : mV μ V) (h1 : ∀ k, k = 16 ∨ k = 17 ∨ k = 18 ∨ k = 19 ∨ k = 20 ∨ k = 21 ∨ k = 126 ∨ k = 131 → μ' k = μ k) : mV μ' V := by
  cases V with
  | none => trivial
  | some V =>
    obtain ⟨a1, a2, a3, a4, a5⟩ := h
    exact ⟨by rw [h1 126 (by decide)]; exact a1, a2, by rw [h1 131 (by decide)]; exact a3, a4, mVL_same a5 (fun k hk => h1 k (by omega))⟩
theorem mBL_same {μ μ' : St} {B : List BF} (h : mBL μ B) (h1 : μ' 13 = μ 13) (h2 : μ' 14 = μ 14) (h3 : μ' 15 = μ 15) : mBL μ' B := by
  induction B with
  | nil => trivial
  | cons x V ih => obtain ⟨⟨a1, a2, a3⟩, c⟩ := h; exact ⟨⟨by rw [h1]; exact a1, by rw [h2]; exact a2, by rw [h3]; exact a3⟩, ih c⟩
theorem mB_same {μ μ' : St} {B : List BF} (h : mB μ B) (h1 : ∀ k, k = 13 ∨ k = 14 ∨ k = 15 ∨ k = 122 → μ' k = μ k) : mB μ' B := ⟨by rw [h1 122 (by decide)]; exact h.1, h.2.1, mBL_same h.2.2 (h1 13 (by decide)) (h1 14 (by decide)) (h1 15 (by decide))⟩
theorem mK_same {μ μ' : St} {K : List KF} (h : mK μ K) (h1 : ∀ k, k = 10 ∨ k = 11 ∨ k = 12 ∨ k = 118 → μ' k = μ k) : mK μ' K := by
  unfold mK at *; rw [h1 10 (by decide), h1 11 (by decide), h1 12 (by decide), h1 118 (by decide)]; exact h
theorem mC_same {μ μ' : St} {K : List KF} {C : List (Nat × Nat)} (h : mC μ K C) (h1 : ∀ k, k = 2 ∨ k = 3 ∨ k = 108 → μ' k = μ k) : mC μ' K C := by
  unfold mC at *; rw [h1 2 (by decide), h1 3 (by decide), h1 108 (by decide)]; exact h
theorem mF_same {μ μ' : St} {fe : Nat → Option (Nat × Nat)} (h : mF μ fe) (h1 : ∀ k, k = 6 ∨ k = 7 → μ' k = μ k) : mF μ' fe := by
  unfold mF mE at *; rw [h1 6 (by decide), h1 7 (by decide)]; exact h
theorem mP_same {n : Nat} {μ μ' : St} {p md : Nat} (h : mP n μ p md) (h1 : ∀ k, k = 103 ∨ k = 105 ∨ k = 106 ∨ k = 107 → μ' k = μ k) : mP n μ' p md := by
  unfold mP at *; rw [h1 103 (by decide), h1 105 (by decide), h1 106 (by decide), h1 107 (by decide)]; exact h
theorem mD_same {μ μ' : St} {D : Int32 × Int32 × Int32} (h : mD μ D) (h1 : ∀ k, k = 134 ∨ k = 135 ∨ k = 136 → μ' k = μ k) : mD μ' D := by
  unfold mD at *; rw [h1 134 (by decide), h1 135 (by decide), h1 136 (by decide)]; exact h
theorem frM_st {μ0 μ : St} {k j : Nat} {v : Int32} (h : frM μ0 μ) (hk : prow k = true) : frM μ0 (st μ k j v) := by
  intro a ha
  rw [st_ne' (by intro hh; subst hh; rw [hk] at ha; cases ha)]
  exact h a ha
section MXS
variable {n : Nat} {t : Nat → Nat} {μ0 μ : St} {p md : Nat} {C : List (Nat × Nat)} {K : List KF} {B : List BF} {D : Int32 × Int32 × Int32} {fe : Nat → Option (Nat × Nat)} {V : Option (List VF)}
theorem m_tok (hT : HM n t μ0) (h0 : frM μ0 μ) (h1 : μ 105 0 = nI p) (hp : p ≤ n) : f_M_token μ = some (tI (tkf n t p)) := by
  obtain ⟨t1, t2, t3, t4⟩ := hT
  unfold f_M_token tkf
  rw [h0 101 (by decide), t3, h1]
  by_cases hn : p < n
  · rw [if_neg (nI_ge (by omega) (by omega)), gd_i (inb_nI (by omega) (by decide)), nm_eq, cl_nI (by omega), h0 1 (by decide), t4 p hn, if_pos hn]
    unfold tI
    rw [if_pos (by have := t2 p hn; omega)]
  · rw [if_pos (nI_le (by omega) (by omega)), if_neg hn]
    rfl
theorem m_token (hT : HM n t μ0) (h : MX n μ0 μ p md C K B D fe V) : f_M_token μ = some (tI (tkf n t p)) := m_tok hT h.1 h.2.1.1 h.2.1.2.1
theorem tk_lt (hp : tkf n t p < 192) : p < n := by
  unfold tkf at hp
  by_cases h : p < n
  · exact h
  · rw [if_neg h] at hp; omega
theorem m_next (h : MX n μ0 μ p md C K B D fe V) (hp : p < n) : MX n μ0 (st μ 105 0 (nI (p + 1))) (p + 1) md C K B D fe V := by
  obtain ⟨h0, ⟨p1, p2, p3, p4, p5⟩, hC, hK, hB, hD, hF, hV⟩ := h
  exact ⟨frM_st h0 (by decide), ⟨st_at _ _ _ _, by omega, by rw [st_ne (by decide)]; exact p3, by rw [st_ne (by decide)]; exact p4, by rw [st_ne (by decide)]; exact p5⟩, mC_same hC (fun k hk => st_ne' (by omega)), mK_same hK (fun k hk => st_ne' (by omega)), mB_same hB (fun k hk => st_ne' (by omega)), mD_same hD (fun k hk => st_ne' (by omega)), mF_same hF (fun k hk => st_ne' (by omega)), mV_same hV (fun k hk => st_ne' (by omega))⟩
theorem m_mode {x : Int32} (m : Nat) (hx : x = nI m) (h : MX n μ0 μ p md C K B D fe V) : MX n μ0 (st μ 106 0 x) p m C K B D fe V := by
  subst hx
  obtain ⟨h0, ⟨p1, p2, p3, p4, p5⟩, hC, hK, hB, hD, hF, hV⟩ := h
  exact ⟨frM_st h0 (by decide), ⟨by rw [st_ne (by decide)]; exact p1, p2, st_at _ _ _ _, by rw [st_ne (by decide)]; exact p4, by rw [st_ne (by decide)]; exact p5⟩, mC_same hC (fun k hk => st_ne' (by omega)), mK_same hK (fun k hk => st_ne' (by omega)), mB_same hB (fun k hk => st_ne' (by omega)), mD_same hD (fun k hk => st_ne' (by omega)), mF_same hF (fun k hk => st_ne' (by omega)), mV_same hV (fun k hk => st_ne' (by omega))⟩
theorem m_noV (h : MX n μ0 μ p md C K B D fe V) : MX n μ0 μ p md C K B D fe none := ⟨h.1, h.2.1, h.2.2.1, h.2.2.2.1, h.2.2.2.2.1, h.2.2.2.2.2.1, h.2.2.2.2.2.2.1, trivial⟩
theorem m_wrong (hT : HM n t μ0) {x y : Int32} (e : Nat) (hx : x = nI e) (he : 1 ≤ e ∧ e ≤ 6) (hy : y = nI p) (h : MX n μ0 μ p md C K B D fe V) : ∃ μ', f_M_wrong x y μ = some μ' ∧ Dead μ0 μ' (e, p) := by
  subst hx hy
  obtain ⟨h0, ⟨p1, p2, p3, p4, p5⟩, -⟩ := h
  have hn := hT.1
  unfold f_M_wrong
  rw [if_pos p4, nm_eq, nm_eq]
  exact ⟨_, rfl, frM_st (frM_st h0 (by decide)) (by decide), by simp [st, upd], by simp [st, upd], he.1, he.2, by show p ≤ 160; omega⟩
theorem m_must (hT : HM n t μ0) {x : Int32} (c : Nat) (hx : x = nI c) (hc : c < 192) (h : MX n μ0 μ p md C K B D fe V) : (tkf n t p = c ∧ ∃ μ', f_M_must x μ = some (1, μ') ∧ MX n μ0 μ' (p + 1) md C K B D fe V ∧ p < n) ∨ (tkf n t p ≠ c ∧ ∃ μ', f_M_must x μ = some (0, μ') ∧ Dead μ0 μ' (1, p)) := by
  subst hx
  unfold f_M_must
  rw [m_token hT h, ca_s]
  by_cases hx : tkf n t p = c
  · have hp : p < n := tk_lt (t := t) (by omega)
    refine Or.inl ⟨hx, st μ 105 0 (nI (p + 1)), ?_, m_next h hp, hp⟩
    rw [if_pos ((tI_eq hc).mpr hx), nm_eq, h.2.1.1, nI_1]
  · refine Or.inr ⟨hx, ?_⟩
    obtain ⟨μ', e1, h1⟩ := m_wrong hT (x := 1) 1 rfl (by decide) (h.2.1.1) h
    exact ⟨μ', by rw [if_neg (fun hh => hx ((tI_eq hc).mp hh)), e1, ca_s], h1⟩
theorem mC_emit {μ : St} {o a : Nat} {y : Int32} (hC : mC μ K C) (hy : opd K o a y) : mC (st (st (st μ 2 C.length (nI (mop o))) 3 C.length y) 108 0 (nI (C.length + 1))) K (C ++ [(o, a)]) := by
  obtain ⟨c1, c2⟩ := hC
  refine ⟨by simp [st, upd], fun k o' a' hka => ?_⟩
  by_cases hkl : k = C.length
  · subst hkl
    simp at hka
    rw [← hka.1, ← hka.2]
    simp [st, upd, hy]
  · have hk2 : k < C.length := by
      have := (List.getElem?_eq_some_iff.mp hka).1
      simp at this
      omega
    rw [List.getElem?_append_left hk2] at hka
    simp [st, upd, hkl]
    exact c2 k o' a' hka
theorem m_emit {x y : Int32} (o a : Nat) (hx : x = nI (mop o)) (hy : opd K o a y) (hl : C.length < 600) (h : MX n μ0 μ p md C K B D fe V) : ∃ μ', f_M_emit x y μ = some (nI C.length, μ') ∧ MX n μ0 μ' p md (C ++ [(o, a)]) K B D fe V := by
  subst hx
  obtain ⟨h0, hP, hC, hK, hB, hD, hF, hV⟩ := h
  have c1 := hC.1
  refine ⟨st (st (st μ 2 C.length (nI (mop o))) 3 C.length y) 108 0 (nI (C.length + 1)), ?_, frM_st (frM_st (frM_st h0 (by decide)) (by decide)) (by decide), mP_same hP (fun k hk => ?_), mC_emit hC hy, mK_same hK (fun k hk => ?_), mB_same hB (fun k hk => ?_), mD_same hD (fun k hk => ?_), mF_same hF (fun k hk => ?_), mV_same hV (fun k hk => ?_)⟩
  · unfold f_M_emit
    rw [c1, gd_i (inb_nI hl (by decide)), nm_eq, cl_nI (by omega), st_ne (show (108 : Nat) ≠ 2 by decide), c1, gd_i (inb_nI hl (by decide)), nm_eq, nm_eq, cl_nI (by omega), st_ne (show (108 : Nat) ≠ 3 by decide), st_ne (show (108 : Nat) ≠ 2 by decide), c1, nI_1, st_at, nI_pred]
  all_goals rw [st_ne' (by omega), st_ne' (by omega), st_ne' (by omega)]
theorem opd_app {o a : Nat} {y : Int32} {K : List KF} (L : List KF) (h : opd K o a y) : opd (K ++ L) o a y := by
  unfold opd at *
  split
  · rename_i ho
    rw [if_pos ho] at h
    obtain ⟨i, x, h1, h2, h3⟩ := h
    exact ⟨i, x, by rw [List.getElem?_append_left (List.getElem?_eq_some_iff.mp h1).1]; exact h1, h2, h3⟩
  · rename_i ho
    rw [if_neg ho] at h
    exact h
def giv (K : List KF) (c g : Nat) : List KF := K.modify c (fun x => (x.1, x.2.1, g))
theorem opd_giv {o a c g : Nat} {y : Int32} {K : List KF} (h : opd K o a y) : opd (giv K c g) o a y := by
  unfold opd at *
  split
  · rename_i ho
    rw [if_pos ho] at h
    obtain ⟨i, x, h1, h2, h3⟩ := h
    unfold giv
    by_cases hc : c = i
    · exact ⟨i, (x.1, x.2.1, g), by rw [List.getElem?_modify, h1]; simp [hc], h2, h3⟩
    · exact ⟨i, x, by rw [List.getElem?_modify, h1]; simp [hc], h2, h3⟩
  · rename_i ho
    rw [if_neg ho] at h
    exact h
theorem m_call (hT : HM n t μ0) (ht : 52 ≤ tkf n t p ∧ tkf n t p < 58) (hk : K.length < 160) (h : MX n μ0 μ p md C K B D fe V) : ∃ μ', f_M_call μ = some (nI K.length, μ') ∧ MX n μ0 μ' (p + 1) md C (K ++ [(p, tkf n t p - 52, 0)]) B D fe V ∧ p < n := by
  obtain ⟨h0, hP, hC, hK, hB, hD, hF, hV⟩ := id h
  have hp : p < n := tk_lt (t := t) (by omega)
  have k1 := hK.1
  obtain ⟨f, hf⟩ : ∃ f, f = tkf n t p - 52 := ⟨_, rfl⟩
  have e52 : tI (tkf n t p) - 52 = nI f := by rw [hf]; exact tI_sub (c := 52) ht.1 (by omega)
  refine ⟨st (st (st (st (st μ 10 K.length (nI p)) 11 K.length (nI f)) 12 K.length 0) 118 0 (nI (K.length + 1))) 105 0 (nI (p + 1)), ?_, ⟨frM_st (frM_st (frM_st (frM_st (frM_st h0 (by decide)) (by decide)) (by decide)) (by decide)) (by decide), ?_, ?_, ?_, mB_same hB (fun k hk => ?_), mD_same hD (fun k hk => ?_), mF_same hF (fun k hk => ?_), mV_same hV (fun k hk => ?_)⟩, hp⟩
  · unfold f_M_call
    rw [k1, gd_i (inb_nI hk (by decide)), nm_eq, cl_nI (by omega), hP.1]
    have h2 : f_M_token (st μ 10 K.length (nI p)) = some (tI (tkf n t p)) := m_tok hT (frM_st h0 (by decide)) (by rw [st_ne (by decide)]; exact hP.1) (by omega)
    rw [h2, ca_s, e52, st_ne (show (118 : Nat) ≠ 10 by decide), k1, gd_i (inb_nI hk (by decide)), nm_eq, cl_nI (by omega), st_ne (show (118 : Nat) ≠ 11 by decide), st_ne (show (118 : Nat) ≠ 10 by decide), k1, gd_i (inb_nI hk (by decide)), nm_eq, nm_eq, nm_eq, cl_nI (by omega)]
    simp only [st_ne (show (118 : Nat) ≠ 12 by decide), st_ne (show (118 : Nat) ≠ 11 by decide), st_ne (show (118 : Nat) ≠ 10 by decide), st_ne (show (105 : Nat) ≠ 118 by decide), st_ne (show (105 : Nat) ≠ 12 by decide), st_ne (show (105 : Nat) ≠ 11 by decide), st_ne (show (105 : Nat) ≠ 10 by decide), k1, hP.1, nI_1, st_ne (show (118 : Nat) ≠ 105 by decide), st_at, nI_pred]
  · exact ⟨st_at _ _ _ _, by omega, by simp [st, hP.2.2.1], by simp [st, hP.2.2.2.1], by simp [st, hP.2.2.2.2]⟩
  · obtain ⟨c1, c2⟩ := hC
    refine ⟨by simp [st, c1], fun k o a hka => ?_⟩
    obtain ⟨d1, d2⟩ := c2 k o a hka
    refine ⟨by simp [st, d1], ?_⟩
    have : (st (st (st (st (st μ 10 K.length (nI p)) 11 K.length (nI f)) 12 K.length 0) 118 0 (nI (K.length + 1))) 105 0 (nI (p + 1))) 3 k = μ 3 k := by simp [st]
    rw [this]
    exact opd_app _ d2
  · refine ⟨by simp [st, upd], by simp; omega, fun i x hx => ?_⟩
    by_cases hik : i = K.length
    · subst hik
      simp at hx
      subst hx
      rw [← hf]
      simp [st, upd]
      rfl
    · have hk2 : i < K.length := by
        have := (List.getElem?_eq_some_iff.mp hx).1
        simp at this
        omega
      rw [List.getElem?_append_left hk2] at hx
      simp [st, upd, hik]
      exact hK.2.2 i x hx
  all_goals rw [st_ne' (by omega), st_ne' (by omega), st_ne' (by omega), st_ne' (by omega), st_ne' (by omega)]
theorem m_given {x : Int32} (c g : Nat) (hx : x = nI g) (hc : c < K.length) (h : MX n μ0 μ p md C K B D fe V) : MX n μ0 (st μ 12 c x) p md C (giv K c g) B D fe V := by
  subst hx
  obtain ⟨h0, hP, hC, hK, hB, hD, hF, hV⟩ := h
  refine ⟨frM_st h0 (by decide), mP_same hP (fun k hk => st_ne' (by omega)), ?_, ?_, mB_same hB (fun k hk => st_ne' (by omega)), mD_same hD (fun k hk => st_ne' (by omega)), mF_same hF (fun k hk => st_ne' (by omega)), mV_same hV (fun k hk => st_ne' (by omega))⟩
  · obtain ⟨c1, c2⟩ := hC
    refine ⟨by simp [st, c1], fun k o a hka => ?_⟩
    obtain ⟨d1, d2⟩ := c2 k o a hka
    exact ⟨by simp [st, d1], by rw [st_ne (by decide)]; exact opd_giv d2⟩
  · obtain ⟨k1, k2, k3⟩ := hK
    refine ⟨by simp [st, k1, giv], by simp [giv]; exact k2, fun i x hx => ?_⟩
    unfold giv at hx
    rw [List.getElem?_modify] at hx
    cases hi : K[i]? with
    | none => rw [hi] at hx; cases hx
    | some y =>
      rw [hi] at hx
      have := k3 i y hi
      by_cases hci : c = i
      · subst hci
        simp at hx
        subst hx
        simp [st, upd, this]
      · simp [hci] at hx
        subst hx
        have hic : ¬ i = c := fun hh => hci hh.symm
        simp [st, upd, hic, this]
end MXS
