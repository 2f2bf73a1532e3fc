/-! the reference's reader: behind a piece -/
def bRest (x1 : Int32) (x10 : Int32) (μ16 : St) : Option St :=
jn (fun (y20 : Int32) =>
jn (if y20 = 0 then (
gd (inb x1 5) <| nm (μ16 16 x1.toNatClampNeg) fun x26 =>
gd (inb x1 5) <| nm (μ16 19 x1.toNatClampNeg) fun x28 =>
ca (f_M_valueEnds x26 x28 μ16) fun μ30 =>
some μ30)
else (
ca (f_M_wrong (1 : Int32) (μ16 105 0) μ16) fun μ32 =>
some μ32)) fun k22 =>
if x10 ≤ 0 then (
k22)
else (
if y20 = 0 then (
ca (f_M_token μ16) fun x36 =>
gd (inb (μ16 131 0) 64) <| nm (st μ16 20 (μ16 131 0).toNatClampNeg x36) fun μ38 =>
gd (inb (μ38 131 0) 64) <| nm (st μ38 21 (μ38 131 0).toNatClampNeg x10) fun μ40 =>
nm (st μ40 131 0 ((μ40 131 0) + (1 : Int32))) fun μ41 =>
nm (st μ41 105 0 ((μ41 105 0) + (1 : Int32))) fun μ42 =>
nm (st μ42 106 0 (3 : Int32)) fun μ43 =>
some μ43)
else (
k22))) fun k18 =>
jn (k18 (0 : Int32)) fun k45 =>
if x10 = (1 : Int32) then (
gd (inb x1 5) <| nm (μ16 18 x1.toNatClampNeg) fun x49 =>
if (μ16 131 0) ≤ x49 then (
k45)
else (
gd (inb ((μ16 131 0) - (1 : Int32)) 64) <| nm (μ16 21 ((μ16 131 0) - (1 : Int32)).toNatClampNeg) fun x52 =>
if x52 = (1 : Int32) then (
k18 (1 : Int32))
else (
k45)))
else (
k45)
def bK (x1 x10 : Int32) (μ16 : St) (y20 : Int32) : Option St :=
  (jn (if y20 = 0 then (gd (inb (x1) 5) <| nm (μ16 16 x1.toNatClampNeg) fun x26 => gd (inb (x1) 5) <| nm (μ16 19 x1.toNatClampNeg) fun x28 => ca (f_M_valueEnds x26 x28 μ16) fun μ30 => some μ30) else (ca (f_M_wrong (1 : Int32) (μ16 105 0) μ16) fun μ32 => some μ32)) fun k22 => if x10 ≤ 0 then k22 else if y20 = 0 then (ca (f_M_token μ16) fun x36 => gd (inb (μ16 131 0) 64) <| nm (st μ16 20 (μ16 131 0).toNatClampNeg x36) fun μ38 => gd (inb (μ38 131 0) 64) <| nm (st μ38 21 (μ38 131 0).toNatClampNeg x10) fun μ40 => nm (st μ40 131 0 ((μ40 131 0) + (1 : Int32))) fun μ41 => nm (st μ41 105 0 ((μ41 105 0) + (1 : Int32))) fun μ42 => nm (st μ42 106 0 (3 : Int32)) fun μ43 => some μ43) else k22)
theorem bRest_eq (x1 x10 : Int32) (μ : St) : bRest x1 x10 μ = if x10 = (1 : Int32) then (gd (inb x1 5) <| nm (μ 18 x1.toNatClampNeg) fun x49 => if (μ 131 0) ≤ x49 then bK x1 x10 μ 0 else gd (inb ((μ 131 0) - (1 : Int32)) 64) <| nm (μ 21 ((μ 131 0) - (1 : Int32)).toNatClampNeg) fun x52 => if x52 = (1 : Int32) then bK x1 x10 μ 1 else bK x1 x10 μ 0) else bK x1 x10 μ 0 := rfl
def bMid (N : Nat) (x1 : Int32) (μ4 : St) : Option St :=
  ca (f_M_token μ4) fun x8 => ca (f_M_levelOf x8) fun x10 => jn (fun (y14 : Int32) => ca (f_M_reduce N y14 μ4) fun μ16 => bRest x1 x10 μ16) fun k12 => if x10 = 0 then k12 (1 : Int32) else if x10 = (1 : Int32) then k12 (2 : Int32) else k12 x10
theorem behind_eq (N : Nat) (μ : St) : f_M_behind N μ = nm ((μ 126 0) - (1 : Int32)) fun x1 => gd (inb x1 5) <| nm (μ 17 x1.toNatClampNeg) fun x3 => if x3 = (-1 : Int32) then bMid N x1 μ else (gd (inb x1 5) <| nm (μ 17 x1.toNatClampNeg) fun x58 => ca2 (f_M_emit x58 (0 : Int32) μ) fun x60 μ61 => gd (inb x1 5) <| nm (st μ61 17 x1.toNatClampNeg (-1 : Int32)) fun μ63 => bMid N x1 μ63) := rfl
def sgc (s : Nat) : List (Nat × Nat) := if s = 0 then [] else if s = 5 then [(35, 0)] else [(20, 0)]
theorem lvl_I (w : Nat) : f_M_levelOf (tI w) = some (nI (lvl w)) := by
  unfold f_M_levelOf lvl
  simp only [jn_eq]
  by_cases c1 : w = 18
  · rw [if_pos ((tI_l (x := 18) 18 rfl (by decide)).mpr c1), if_pos (Or.inl c1)]; rfl
  rw [if_neg (fun hh => c1 ((tI_l (x := 18) 18 rfl (by decide)).mp hh))]
  by_cases c2 : w = 19
  · rw [if_pos ((tI_l (x := 19) 19 rfl (by decide)).mpr c2), if_pos (Or.inr c2)]; rfl
  rw [if_neg (fun hh => c2 ((tI_l (x := 19) 19 rfl (by decide)).mp hh)), if_neg (show ¬ (w = 18 ∨ w = 19) by omega)]
  by_cases c3 : w = 13
  · rw [if_pos ((tI_l (x := 13) 13 rfl (by decide)).mpr c3), if_pos (Or.inl c3)]; rfl
  rw [if_neg (fun hh => c3 ((tI_l (x := 13) 13 rfl (by decide)).mp hh))]
  by_cases c4 : w = 14
  · rw [if_pos ((tI_l (x := 14) 14 rfl (by decide)).mpr c4), if_pos (Or.inr c4)]; rfl
  rw [if_neg (fun hh => c4 ((tI_l (x := 14) 14 rfl (by decide)).mp hh)), if_neg (show ¬ (w = 13 ∨ w = 14) by omega)]
  unfold tI
  by_cases h1 : w < 192
  · rw [if_pos h1]
    by_cases h2 : w < 15
    · rw [if_pos (show nI w < (15 : Int32) from nI_lt (b := 15) h2 (by decide)), if_neg (by omega)]; rfl
    · rw [if_neg (show ¬ nI w < (15 : Int32) from nI_nlt (b := 15) (by omega) (by omega))]
      by_cases h3 : 17 < w
      · rw [if_pos (show (17 : Int32) < nI w from nI_lt (a := 17) h3 (by omega)), if_neg (by omega)]; rfl
      · rw [if_neg (show ¬ (17 : Int32) < nI w from nI_nlt (a := 17) (by omega) (by decide)), if_pos (by omega)]; rfl
  · rw [if_neg h1, if_pos (by decide), if_neg (by omega)]; rfl
def frm (l : Nat) : Nat := if l = 0 then 1 else if l = 1 then 2 else l
section BH
variable {N n : Nat} {t : Nat → Nat} {μ0 μ : St} {p md : Nat} {C : List (Nat × Nat)} {K : List KF} {B : List BF} {D : Int32 × Int32 × Int32} {fe : Nat → Option (Nat × Nat)} {wh nm' sg : Nat} {A W0 : List Nat} {V : List VF}
theorem m_behind0 (hN : 200 ≤ N) (hT : HM n t μ0) (hs : sg = 0 ∨ sg = 5 ∨ sg = 6) (hA : ∀ o, o ∈ A → frm (lvl (tkf n t p)) ≤ lvl o) (hW : ∀ o W, W0 = o :: W → lvl o < frm (lvl (tkf n t p))) (hl : C.length + 70 < 600) (h : MX n μ0 μ p md C K B D fe (some ((wh, nm', sg, A ++ W0) :: V))) :
    ∃ μ', f_M_behind N μ = bRest (nI V.length) (nI (lvl (tkf n t p))) μ' ∧ MX n μ0 μ' p md (C ++ (sgc sg ++ opl A)) K B D fe (some ((wh, nm', 0, W0) :: V)) := by
  obtain ⟨v0, v1, v2, v3, v4, v5, v6, v7⟩ := m_top h
  obtain ⟨l, hl'⟩ : ∃ l, l = lvl (tkf n t p) := ⟨_, rfl⟩
  rw [← hl'] at hA hW ⊢
  have hl3 : l ≤ 3 := by rw [hl']; exact lvl_le _
  have hAl : A.length ≤ 60 := by simp at v7; omega
  have red : ∀ (μ4 : St) (C4 : List (Nat × Nat)), C4.length + 60 < 600 → MX n μ0 μ4 p md C4 K B D fe (some ((wh, nm', 0, A ++ W0) :: V)) → ∃ μ', bMid N (nI V.length) μ4 = bRest (nI V.length) (nI l) μ' ∧ MX n μ0 μ' p md (C4 ++ opl A) K B D fe (some ((wh, nm', 0, W0) :: V)) := by
    intro μ4 C4 hC4 h4
    have hred : ∀ x, x = nI (frm l) → ∃ μ', f_M_reduce N x μ4 = some μ' ∧ MX n μ0 μ' p md (C4 ++ opl A) K B D fe (some ((wh, nm', 0, W0) :: V)) := fun x hx => by
      rw [reduce_eq]
      exact m_reduce (frm l) hx (by unfold frm; split; omega; split; omega; omega) hW A N μ4 C4 (by omega) hA (by omega) h4
    unfold bMid
    rw [m_token hT h4, ca_s, lvl_I, ca_s, jn_eq, ← hl']
    have : l = 0 ∨ l = 1 ∨ 2 ≤ l := by omega
    dsimp only
    rcases this with h0 | h1 | h2
    · subst h0
      obtain ⟨μ', e, hh⟩ := hred 1 rfl
      exact ⟨μ', by rw [if_pos (show nI 0 = (0 : Int32) from rfl), e, ca_s], hh⟩
    · subst h1
      obtain ⟨μ', e, hh⟩ := hred 2 rfl
      exact ⟨μ', by rw [if_neg (by decide), if_pos (show nI 1 = (1 : Int32) from rfl), e, ca_s], hh⟩
    · obtain ⟨μ', e, hh⟩ := hred (nI l) (by unfold frm; rw [if_neg (by omega), if_neg (by omega)])
      exact ⟨μ', by rw [if_neg (nI_ne0 (by omega) (by omega)), if_neg (fun hh => by have := (nI_eq (a := l) (b := 1) (by omega) (by decide)).mp hh; omega), e, ca_s], hh⟩
  have e1 : nI (V.length + 1) - 1 = nI V.length := nI_pred _
  rcases hs with rfl | hs
  · obtain ⟨μ', e, hh⟩ := red μ C (by omega) h
    refine ⟨μ', ?_, by rw [show sgc 0 = [] from rfl, List.nil_append]; exact hh⟩
    rw [behind_eq, nm_eq, v1, e1, gd_i (inb_nI (by omega) (by decide)), nm_eq, cl_nI (by omega), v4, if_pos (show sI 0 = -1 from rfl)]
    exact e
  · have hsg : sgc sg = [(if sg = 5 then 35 else 20, 0)] := by rcases hs with rfl | rfl <;> rfl
    obtain ⟨μ1, e2, h1⟩ := m_emit (x := nI sg) (y := 0) (if sg = 5 then 35 else 20) 0 (by rcases hs with rfl | rfl <;> rfl) (by rcases hs with rfl | rfl <;> exact fun _ => rfl) (by omega) h
    have h2 := m_sign (x := -1) 0 rfl h1
    obtain ⟨μ', e, hh⟩ := red _ _ (by simp; omega) h2
    refine ⟨μ', ?_, by rw [hsg, ← List.append_assoc]; exact hh⟩
    have hsI : sI sg = nI sg := by rcases hs with rfl | rfl <;> rfl
    rw [behind_eq, nm_eq, v1, e1, gd_i (inb_nI (by omega) (by decide)), nm_eq, cl_nI (by omega), v4, if_neg (sI_ne hs), gd_i (inb_nI (by omega) (by decide)), nm_eq, hsI, e2, ca2_s, gd_i (inb_nI (by omega) (by decide)), nm_eq]
    exact e
theorem m_behind_op (hN : 200 ≤ N) (hT : HM n t μ0) (hs : sg = 0 ∨ sg = 5 ∨ sg = 6) (h1 : 1 ≤ lvl (tkf n t p)) (hA : ∀ o, o ∈ A → frm (lvl (tkf n t p)) ≤ lvl o) (hW : ∀ o W, W0 = o :: W → lvl o < lvl (tkf n t p)) (hl : C.length + 70 < 600) (hw : W0.length + 1 + wtot V ≤ 60) (hl1 : lvl (tkf n t p) = 1 → W0 = []) (h : MX n μ0 μ p md C K B D fe (some ((wh, nm', sg, A ++ W0) :: V))) :
    ∃ μ', f_M_behind N μ = some μ' ∧ MX n μ0 μ' (p + 1) 3 (C ++ (sgc sg ++ opl A)) K B D fe (some ((wh, nm', 0, tkf n t p :: W0) :: V)) ∧ p < n := by
  have hl3 := lvl_le (tkf n t p)
  obtain ⟨μ1, e1, h2⟩ := m_behind0 hN hT hs hA (fun o W hh => by have := hW o W hh; unfold frm; split; omega; split; omega; omega) hl h
  obtain ⟨l, hl'⟩ : ∃ l, l = lvl (tkf n t p) := ⟨_, rfl⟩
  have hop := lvl_op h1
  have hp : p < n := tk_lt (t := t) (by omega)
  rw [← hl'] at e1 hW hl3 h1 hl1
  obtain ⟨v0, v1, v2, v3, v4, v5, v6, v7⟩ := m_top h2
  obtain ⟨h0, hP, hC, hK, hB, hD, hF, ⟨u1, u2, u3, u4, ⟨⟨a1, a2, a3, a4⟩, w, hll⟩⟩⟩ := id h2
  obtain ⟨c, hc⟩ : ∃ c, c = W0.length + wtot V := ⟨_, rfl⟩
  rw [← hc] at v6 v7
  have e64 : inb (nI c) 64 = true := inb_nI (by omega) (by decide)
  refine ⟨st (st (st (st (st μ1 20 c (nI (tkf n t p))) 21 c (nI l)) 131 0 (nI (c + 1))) 105 0 (nI (p + 1))) 106 0 3, ?_, ?_, hp⟩
  · rw [e1, bRest_eq]
    have k18 : bK (nI V.length) (nI l) μ1 0 = some (st (st (st (st (st μ1 20 c (nI (tkf n t p))) 21 c (nI l)) 131 0 (nI (c + 1))) 105 0 (nI (p + 1))) 106 0 3) := by
      unfold bK
      rw [jn_eq, if_neg (nI_nle (by omega) (by omega)), if_pos rfl, m_token hT h2, ca_s, v6, gd_i e64, nm_eq, cl_nI (by omega), st_ne (show (131 : Nat) ≠ 20 by decide), v6, gd_i e64, nm_eq, nm_eq, nm_eq, nm_eq, cl_nI (by omega), st_ne (show (131 : Nat) ≠ 21 by decide), st_ne (show (131 : Nat) ≠ 20 by decide), v6, nI_1, st_ne (show (105 : Nat) ≠ 131 by decide), st_ne (show (105 : Nat) ≠ 21 by decide), st_ne (show (105 : Nat) ≠ 20 by decide), hP.1, nI_1]
      unfold tI
      rw [if_pos (by omega)]
    by_cases hl1' : l = 1
    · subst hl1'
      have : W0 = [] := hl1 rfl
      subst this
      rw [if_pos (show nI 1 = (1 : Int32) from rfl), gd_i (inb_nI (by omega) (by decide)), nm_eq, cl_nI (by omega), v5, v6, if_pos (nI_le (by rw [hc]; simp) (by omega))]
      exact k18
    · rw [if_neg (show ¬ nI l = (1 : Int32) from fun hh => hl1' ((nI_eq (a := l) (b := 1) (by omega) (by decide)).mp hh))]
      exact k18
  · have hb : c = wtot V + W0.length := by omega
    refine ⟨frM_st (frM_st (frM_st (frM_st (frM_st h0 (by decide)) (by decide)) (by decide)) (by decide)) (by decide), ⟨by simp [st, upd], by omega, by simp [st, upd]; rfl, by simp [st, hP.2.2.2.1], by simp [st, hP.2.2.2.2]⟩, mC_same hC (fun k hk => ?_), mK_same hK (fun k hk => ?_), mB_same hB (fun k hk => ?_), mD_same hD (fun k hk => ?_), mF_same hF (fun k hk => ?_), ⟨by simp [st]; exact v1, u2, by simp [st, upd, wtot]; rw [hc]; congr 1; omega, by simp [wtot]; omega, ⟨?_, ?_, ?_, ?_⟩, ⟨?_, ?_, ?_⟩, ?_⟩⟩
    · rw [st_ne' (by omega), st_ne' (by omega), st_ne' (by omega), st_ne' (by omega), st_ne' (by omega)]
    · rw [st_ne' (by omega), st_ne' (by omega), st_ne' (by omega), st_ne' (by omega), st_ne' (by omega)]
    · rw [st_ne' (by omega), st_ne' (by omega), st_ne' (by omega), st_ne' (by omega), st_ne' (by omega)]
    · rw [st_ne' (by omega), st_ne' (by omega), st_ne' (by omega), st_ne' (by omega), st_ne' (by omega)]
    · rw [st_ne' (by omega), st_ne' (by omega), st_ne' (by omega), st_ne' (by omega), st_ne' (by omega)]
    · simp [st, a1]
    · simp [st, a2]
    · simp [st, a3]
    · simp [st, a4]
    · rw [← hb]; simp [st, upd]
    · rw [← hb, ← hl']; simp [st, upd]
    · exact mW_st (mW_st (mW_st (mW_st (mW_st w (by omega)) (by omega)) (by omega)) (by omega)) (by omega)
    · exact mVL_st (mVL_st (mVL_st (mVL_st (mVL_st hll (by omega) (by omega)) (by omega) (by omega)) (by omega) (by omega)) (by omega) (by omega)) (by omega) (by omega)
theorem m_behind_second (hN : 200 ≤ N) (hT : HM n t μ0) (hs : sg = 0 ∨ sg = 5 ∨ sg = 6) (h1 : lvl (tkf n t p) = 1) (hA : ∀ o, o ∈ A → 2 ≤ lvl o) {o : Nat} {W : List Nat} (ho : lvl o = 1) (hl : C.length + 70 < 600) (h : MX n μ0 μ p md C K B D fe (some ((wh, nm', sg, A ++ o :: W) :: V))) :
    ∃ μ', f_M_behind N μ = some μ' ∧ Dead μ0 μ' (1, p) := by
  obtain ⟨μ1, e1, h2⟩ := m_behind0 hN hT hs (A := A) (W0 := o :: W) (by rw [h1]; exact hA) (by rw [h1]; intro o' W' hh; cases hh; rw [ho]; decide) hl h
  rw [h1] at e1
  obtain ⟨v0, v1, v2, v3, v4, v5, v6, v7⟩ := m_top h2
  obtain ⟨h0, hP, hC, hK, hB, hD, hF, ⟨u1, u2, u3, u4, ⟨⟨a1, a2, a3, a4⟩, ⟨w1, w2, w3⟩, hll⟩⟩⟩ := id h2
  change μ1 21 (wtot V + W.length) = nI (lvl o) at w2
  simp only [List.length_cons] at v6 v7
  rw [show W.length + 1 + wtot V = (wtot V + W.length) + 1 by omega] at v6
  obtain ⟨μ', e2, h3⟩ := m_wrong hT (x := 1) 1 rfl (by decide) hP.1 h2
  refine ⟨μ', ?_, h3⟩
  rw [e1, bRest_eq]
  rw [if_pos (show nI 1 = (1 : Int32) from rfl), gd_i (inb_nI (by omega) (by decide)), nm_eq, cl_nI (by omega), v5, v6, if_neg (nI_ge (by omega) (by omega)), nI_pred, gd_i (inb_nI (by omega) (by decide)), nm_eq, cl_nI (by omega), w2, ho, if_pos (show nI 1 = (1 : Int32) from rfl)]
  unfold bK
  rw [jn_eq, if_neg (by decide), if_neg (by decide), if_neg (by decide), e2, ca_s]
theorem m_behind_end (hN : 200 ≤ N) (hT : HM n t μ0) (hs : sg = 0 ∨ sg = 5 ∨ sg = 6) (h1 : lvl (tkf n t p) = 0) (hA : ∀ o, o ∈ A → 1 ≤ lvl o) (hl : C.length + 70 < 600) (h : MX n μ0 μ p md C K B D fe (some ((wh, nm', sg, A) :: V))) :
    ∃ μ', f_M_behind N μ = f_M_valueEnds (nI wh) (nI nm') μ' ∧ MX n μ0 μ' p md (C ++ (sgc sg ++ opl A)) K B D fe (some ((wh, nm', 0, []) :: V)) := by
  obtain ⟨μ1, e1, h2⟩ := m_behind0 hN hT hs (A := A) (W0 := []) (by rw [h1]; exact hA) (by intro o' W' hh; cases hh) hl (by rw [List.append_nil]; exact h)
  rw [h1] at e1
  obtain ⟨v0, v1, v2, v3, v4, v5, v6, v7⟩ := m_top h2
  refine ⟨μ1, ?_, h2⟩
  rw [e1, bRest_eq, if_neg (by decide)]
  unfold bK
  rw [jn_eq, if_pos (by decide), if_pos rfl, gd_i (inb_nI (by omega) (by decide)), nm_eq, cl_nI (by omega), v2, gd_i (inb_nI (by omega) (by decide)), nm_eq, v3]
  cases f_M_valueEnds (nI wh) (nI nm') μ1 with
  | none => rfl
  | some z => rfl
end BH
