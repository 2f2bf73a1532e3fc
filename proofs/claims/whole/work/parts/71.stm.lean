/-! the reference's reader: statements -/
def setB (y : Int32) (μ14 : St) : Option St :=
  ca2 (f_M_must (12 : Int32) (st (st μ14 134 0 y) 105 0 ((st μ14 134 0 y) 105 0 + 1))) fun x27 μ28 => if x27 = 0 then some μ28 else ca (f_M_worth (4 : Int32) μ28) fun μ31 => some μ31
def arrB (y : Int32) (μ14 : St) : Option St :=
  ca2 (f_M_must (21 : Int32) (st (st μ14 134 0 y) 105 0 ((st μ14 134 0 y) 105 0 + 1))) fun x106 μ107 => if x106 = 0 then some μ107 else ca (f_M_worth (3 : Int32) μ107) fun μ110 => some μ110
def callB (μ14 : St) : Option St :=
  ca2 (f_M_call μ14) fun x76 μ77 => ca2 (f_M_must (6 : Int32) μ77) fun x79 μ80 => if x79 = 0 then some μ80 else ca (f_M_token μ80) fun x83 => if x83 = (7 : Int32) then (ca (f_M_callEnds x76 (st μ80 105 0 ((μ80 105 0) + (1 : Int32)))) fun μ96 => ca2 (f_M_emit (12 : Int32) (0 : Int32) μ96) fun x98 μ99 => ca2 (f_M_must (10 : Int32) μ99) fun x101 μ102 => some μ102) else (ca (f_M_worth (9 : Int32) μ80) fun μ89 => gd (inb (0 : Int32) 5) <| gd (inb x76 160) <| some (st (st μ89 19 (0 : Int32).toNatClampNeg x76) 12 x76.toNatClampNeg (1 : Int32)))
def choB (y : Int32) (μ14 : St) : Option St :=
  ca2 (f_M_must (6 : Int32) (st μ14 105 0 ((μ14 105 0) + (1 : Int32)))) fun x48 μ49 => if x48 = 0 then some μ49 else ca (f_M_worth y μ49) fun μ56 => some μ56
def wrdB (y : Int32) (μ14 : St) : Option St := ca (f_M_worth y (st μ14 105 0 ((μ14 105 0) + (1 : Int32)))) fun μ69 => some μ69
def sB (w : Nat) (μ14 : St) : Option St :=
  if 32 ≤ w ∧ w ≤ 39 then setB (tI w - 32) μ14 else if 44 ≤ w ∧ w ≤ 51 then setB (tI w - 44) μ14 else if 40 ≤ w ∧ w ≤ 43 then arrB (tI w - 40) μ14 else if 52 ≤ w ∧ w ≤ 57 then callB μ14 else if w = 0 then choB 5 μ14 else if w = 2 then choB 6 μ14 else if w = 3 then wrdB 7 μ14 else if w = 4 then wrdB 8 μ14 else ca (f_M_wrong (1 : Int32) (μ14 105 0) μ14) fun μ74 => some μ74
def kdI (w : Nat) : Int32 := if 32 ≤ w ∧ w ≤ 39 then 9 else if 44 ≤ w ∧ w ≤ 51 then 10 else 11
set_option maxHeartbeats 2000000 in
theorem st_unf {w : Nat} {μ : St} (htok : f_M_token μ = some (tI w)) (h9 : w ≠ 9) : f_M_statement μ = ca2 (f_M_emit (8 : Int32) (0 : Int32) μ) fun x5 μ6 => sB w (st (st μ6 136 0 x5) 135 0 (kdI w)) := by
  unfold f_M_statement
  rw [htok, ca_s, if_neg (fun hh => h9 ((tI_l (x := 9) 9 rfl (by decide)).mp hh))]
  congr 1
  funext x5 μ6
  simp only [show f_M_in (tI w) (32 : Int32) (39 : Int32) = some (if 32 ≤ w ∧ w ≤ 39 then 1 else 0) from in_t 32 39 (by decide) (by decide), show f_M_in (tI w) (44 : Int32) (51 : Int32) = some (if 44 ≤ w ∧ w ≤ 51 then 1 else 0) from in_t 44 51 (by decide) (by decide), show f_M_in (tI w) (40 : Int32) (43 : Int32) = some (if 40 ≤ w ∧ w ≤ 43 then 1 else 0) from in_t 40 43 (by decide) (by decide), show f_M_in (tI w) (52 : Int32) (57 : Int32) = some (if 52 ≤ w ∧ w ≤ 57 then 1 else 0) from in_t 52 57 (by decide) (by decide), ca_s, nm_eq, jn_eq]
  unfold sB kdI
  by_cases c1 : 32 ≤ w ∧ w ≤ 39
  · simp only [if_pos c1, show ¬ (1 : Int32) = 0 by decide, if_false, st_at, if_true]
    rfl
  by_cases c2 : 44 ≤ w ∧ w ≤ 51
  · simp only [if_neg c1, if_pos c2, show ¬ (1 : Int32) = 0 by decide, if_false, st_at, if_true, show ¬ (10 : Int32) = 9 by decide]
    rfl
  by_cases c3 : 40 ≤ w ∧ w ≤ 43
  · simp only [if_neg c1, if_neg c2, if_pos c3, show ¬ (1 : Int32) = 0 by decide, if_false, if_true]
    rfl
  by_cases c4 : 52 ≤ w ∧ w ≤ 57
  · simp only [if_neg c1, if_neg c2, if_neg c3, if_pos c4, show ¬ (1 : Int32) = 0 by decide, if_false, if_true]
    rfl
  simp only [if_neg c1, if_neg c2, if_neg c3, if_neg c4, if_true]
  by_cases c5 : w = 0
  · rw [if_pos ((tI_l (x := 0) 0 rfl (by decide)).mpr c5), if_pos c5]
    simp only [if_pos (show tI w = 0 from (tI_l (x := 0) 0 rfl (by decide)).mpr c5)]
    rfl
  rw [if_neg (fun hh => c5 ((tI_l (x := 0) 0 rfl (by decide)).mp hh)), if_neg c5]
  by_cases c6 : w = 2
  · rw [if_pos ((tI_l (x := 2) 2 rfl (by decide)).mpr c6), if_pos c6]
    simp only [if_neg (show ¬ tI w = 0 from fun hh => c5 ((tI_l (x := 0) 0 rfl (by decide)).mp hh))]
    rfl
  rw [if_neg (fun hh => c6 ((tI_l (x := 2) 2 rfl (by decide)).mp hh)), if_neg c6]
  by_cases c7 : w = 3
  · rw [if_pos ((tI_l (x := 3) 3 rfl (by decide)).mpr c7), if_pos c7, if_pos ((tI_l (x := 3) 3 rfl (by decide)).mpr c7)]
    rfl
  rw [if_neg (fun hh => c7 ((tI_l (x := 3) 3 rfl (by decide)).mp hh)), if_neg c7]
  by_cases c8 : w = 4
  · rw [if_pos ((tI_l (x := 4) 4 rfl (by decide)).mpr c8), if_pos c8, if_neg (fun hh => c7 ((tI_l (x := 3) 3 rfl (by decide)).mp hh))]
    rfl
  rw [if_neg (fun hh => c8 ((tI_l (x := 4) 4 rfl (by decide)).mp hh)), if_neg c8]
section SM
variable {N n : Nat} {t : Nat → Nat} {μ0 μ : St} {p md : Nat} {C : List (Nat × Nat)} {K : List KF} {B : List BF} {D : Int32 × Int32 × Int32} {fe : Nat → Option (Nat × Nat)} {V : Option (List VF)} {y : Int32}
theorem m_D {v : Int32} (k : Nat) (hk : k = 134 ∨ k = 135 ∨ k = 136) (h : MX n μ0 μ p md C K B D fe V) : MX n μ0 (st μ k 0 v) p md C K B (if k = 134 then v else D.1, if k = 135 then v else D.2.1, if k = 136 then v else D.2.2) fe V := by
  obtain ⟨h0, hP, hC, hK, hB, ⟨d1, d2, d3⟩, hF, hV⟩ := h
  refine ⟨frM_st h0 (by rcases hk with rfl | rfl | rfl <;> rfl), mP_same hP (fun k hk => st_ne' (by omega)), mC_same hC (fun k hk => st_ne' (by omega)), mK_same hK (fun k hk => st_ne' (by omega)), mB_same hB (fun k hk => st_ne' (by omega)), ⟨?_, ?_, ?_⟩, mF_same hF (fun k hk => st_ne' (by omega)), mV_same hV (fun k hk => st_ne' (by omega))⟩
  · rcases hk with rfl | rfl | rfl
    · simp [st, upd]
    · simp [st, d1]
    · simp [st, d1]
  · rcases hk with rfl | rfl | rfl
    · simp [st, d2]
    · simp [st, upd]
    · simp [st, d2]
  · rcases hk with rfl | rfl | rfl
    · simp [st, d3]
    · simp [st, d3]
    · simp [st, upd]
/-- a statement begins -/
theorem m_stm0 (hT : HM n t μ0) (h9 : tkf n t p ≠ 9) (hl : C.length < 600) (h : MX n μ0 μ p 2 C K B D fe V) : ∃ μ', f_M_statement μ = sB (tkf n t p) μ' ∧ MX n μ0 μ' p 2 (C ++ [(32, 0)]) K B (D.1, kdI (tkf n t p), nI C.length) fe none := by
  obtain ⟨μ1, e1, h1⟩ := m_emit (x := 8) (y := 0) 32 0 rfl (fun _ => rfl) hl (m_noV h)
  exact ⟨_, by rw [st_unf (m_token hT h) h9, e1, ca2_s], m_D (v := kdI (tkf n t p)) 135 (by decide) (m_D (v := nI C.length) 136 (by decide) h1)⟩
theorem m_setB (hT : HM n t μ0) {a : Nat} (hp : p < n) (hy : y = nI a) (h : MX n μ0 μ p md C K B D fe V) : (tkf n t (p + 1) ≠ 12 ∧ ∃ μ', setB y μ = some μ' ∧ Dead μ0 μ' (1, p + 1)) ∨ (tkf n t (p + 1) = 12 ∧ ∃ μ', setB y μ = some μ' ∧ MX n μ0 μ' (p + 2) 3 C K B (nI a, D.2.1, D.2.2) fe (some [(4, 0, 0, [])]) ∧ p + 1 < n) := by
  subst hy
  have h1 := m_D (v := nI a) 134 (by decide) h
  have h2 := m_next h1 hp
  unfold setB
  rw [h1.2.1.1, nI_1]
  rcases m_must hT (x := 12) 12 rfl (by decide) h2 with ⟨a1, μ1, e, b, hp⟩ | ⟨a1, μ', e, b⟩
  · obtain ⟨μ6, e6, h6⟩ := m_worth hT (x := 4) 4 rfl b
    exact Or.inr ⟨a1, μ6, by rw [e, ca2_s, if_neg (by decide), e6, ca_s], h6, hp⟩
  · exact Or.inl ⟨a1, μ', by rw [e, ca2_s, if_pos rfl], b⟩
theorem m_arrB (hT : HM n t μ0) {a : Nat} (hp : p < n) (hy : y = nI a) (h : MX n μ0 μ p md C K B D fe V) : (tkf n t (p + 1) ≠ 21 ∧ ∃ μ', arrB y μ = some μ' ∧ Dead μ0 μ' (1, p + 1)) ∨ (tkf n t (p + 1) = 21 ∧ ∃ μ', arrB y μ = some μ' ∧ MX n μ0 μ' (p + 2) 3 C K B (nI a, D.2.1, D.2.2) fe (some [(3, 0, 0, [])]) ∧ p + 1 < n) := by
  subst hy
  have h1 := m_D (v := nI a) 134 (by decide) h
  have h2 := m_next h1 hp
  unfold arrB
  rw [h1.2.1.1, nI_1]
  rcases m_must hT (x := 21) 21 rfl (by decide) h2 with ⟨a1, μ1, e, b, hp⟩ | ⟨a1, μ', e, b⟩
  · obtain ⟨μ6, e6, h6⟩ := m_worth hT (x := 3) 3 rfl b
    exact Or.inr ⟨a1, μ6, by rw [e, ca2_s, if_neg (by decide), e6, ca_s], h6, hp⟩
  · exact Or.inl ⟨a1, μ', by rw [e, ca2_s, if_pos rfl], b⟩
theorem m_choB (hT : HM n t μ0) {a : Nat} (hp : p < n) (hy : y = nI a) (h : MX n μ0 μ p md C K B D fe V) : (tkf n t (p + 1) ≠ 6 ∧ ∃ μ', choB y μ = some μ' ∧ Dead μ0 μ' (1, p + 1)) ∨ (tkf n t (p + 1) = 6 ∧ ∃ μ', choB y μ = some μ' ∧ MX n μ0 μ' (p + 2) 3 C K B D fe (some [(a, 0, 0, [])]) ∧ p + 1 < n) := by
  have h2 := m_next h hp
  unfold choB
  rw [h.2.1.1, nI_1]
  rcases m_must hT (x := 6) 6 rfl (by decide) h2 with ⟨a1, μ1, e, b, hp⟩ | ⟨a1, μ', e, b⟩
  · obtain ⟨μ6, e6, h6⟩ := m_worth hT a hy b
    exact Or.inr ⟨a1, μ6, by rw [e, ca2_s, if_neg (by decide), e6, ca_s], h6, hp⟩
  · exact Or.inl ⟨a1, μ', by rw [e, ca2_s, if_pos rfl], b⟩
theorem m_wrdB (hT : HM n t μ0) {a : Nat} (hp : p < n) (hy : y = nI a) (h : MX n μ0 μ p md C K B D fe V) : ∃ μ', wrdB y μ = some μ' ∧ MX n μ0 μ' (p + 1) 3 C K B D fe (some [(a, 0, 0, [])]) := by
  have h2 := m_next h hp
  unfold wrdB
  rw [h.2.1.1, nI_1]
  obtain ⟨μ6, e6, h6⟩ := m_worth hT a hy h2
  exact ⟨μ6, by rw [e6, ca_s], h6⟩
theorem m_callB (hT : HM n t μ0) (hw : 52 ≤ tkf n t p ∧ tkf n t p ≤ 57) (hk : K.length < 160) (hl : C.length < 500) (h : MX n μ0 μ p md C K B D fe V) :
    (tkf n t (p + 1) ≠ 6 ∧ ∃ μ', callB μ = some μ' ∧ Dead μ0 μ' (1, p + 1)) ∨
    (tkf n t (p + 1) = 6 ∧ tkf n t (p + 2) = 7 ∧ tkf n t (p + 3) ≠ 10 ∧ ∃ μ', callB μ = some μ' ∧ Dead μ0 μ' (1, p + 3)) ∨
    (tkf n t (p + 1) = 6 ∧ tkf n t (p + 2) = 7 ∧ tkf n t (p + 3) = 10 ∧ ∃ μ', callB μ = some μ' ∧ MX n μ0 μ' (p + 4) md (C ++ [(42, tkf n t p - 52), (43, 0)]) (K ++ [(p, tkf n t p - 52, 0)]) B D fe V ∧ p + 3 < n) ∨
    (tkf n t (p + 1) = 6 ∧ tkf n t (p + 2) ≠ 7 ∧ ∃ μ', callB μ = some μ' ∧ MX n μ0 μ' (p + 2) 3 C (K ++ [(p, tkf n t p - 52, 1)]) B D fe (some [(9, K.length, 0, [])]) ∧ p + 1 < n) := by
  unfold callB f_M_callEnds
  obtain ⟨μ1, e1, h1, hp⟩ := m_call hT ⟨hw.1, by omega⟩ hk h
  rw [e1, ca2_s]
  rcases m_must hT (x := 6) 6 rfl (by decide) h1 with ⟨a, μ2, e2, h2, hp2⟩ | ⟨a, μ', e, b⟩
  · refine Or.inr ?_
    rw [e2, ca2_s, if_neg (by decide), m_token hT h2, ca_s]
    by_cases h7 : tkf n t (p + 2) = 7
    · have hp3 : p + 2 < n := tk_lt (t := t) (by omega)
      have h3 := m_next h2 hp3
      obtain ⟨μ4, e4, h4⟩ := m_emit (x := 7) (y := nI K.length) 42 (tkf n t p - 52) rfl (show opd (K ++ [(p, tkf n t p - 52, 0)]) 42 (tkf n t p - 52) (nI K.length) from ⟨K.length, (p, tkf n t p - 52, 0), by simp, rfl, rfl⟩) (by omega) h3
      obtain ⟨μ5, e5, h5⟩ := m_emit (x := 12) (y := 0) 43 0 rfl (fun _ => rfl) (by simp; omega) h4
      rw [if_pos ((tI_l (x := 7) 7 rfl (by decide)).mpr h7), h2.2.1.1, nI_1, e4, ca2_s, ca_s, e5, ca2_s]
      rcases m_must hT (x := 10) 10 rfl (by decide) h5 with ⟨a6, μ6, e6, h6, hp6⟩ | ⟨a6, μ6, e6, b6⟩
      · exact Or.inr (Or.inl ⟨a, h7, a6, μ6, by rw [e6, ca2_s], by rw [show C ++ [(42, tkf n t p - 52), (43, 0)] = C ++ [(42, tkf n t p - 52)] ++ [(43, 0)] by simp]; exact h6, hp6⟩)
      · exact Or.inl ⟨a, h7, a6, μ6, by rw [e6, ca2_s], b6⟩
    · refine Or.inr (Or.inr ⟨a, h7, ?_⟩)
      obtain ⟨μ3, e3, h3⟩ := m_worth hT (x := 9) 9 rfl h2
      have h4 : MX n μ0 (st μ3 19 0 (nI K.length)) (p + 2) 3 C (K ++ [(p, tkf n t p - 52, 0)]) B D fe (some [(9, K.length, 0, [])]) := by
        obtain ⟨h0, hP, hC, hK, hB, hD, hF, ⟨v1, v2, v3, v4, ⟨⟨a1, a2, a3, a4⟩, w, hl⟩⟩⟩ := h3
        exact ⟨frM_st h0 (by decide), mP_same hP (fun k hk => st_ne' (by omega)), mC_same hC (fun k hk => st_ne' (by omega)), mK_same hK (fun k hk => st_ne' (by omega)), mB_same hB (fun k hk => st_ne' (by omega)), mD_same hD (fun k hk => st_ne' (by omega)), mF_same hF (fun k hk => st_ne' (by omega)), ⟨by rw [st_ne (by decide)]; exact v1, v2, by rw [st_ne (by decide)]; exact v3, v4, ⟨by rw [st_ne (by decide)]; exact a1, st_at _ _ _ _, by rw [st_ne (by decide)]; exact a3, by rw [st_ne (by decide)]; exact a4⟩, trivial, trivial⟩⟩
      have h5 := m_given (x := 1) K.length 1 rfl (by simp) h4
      rw [giv_last] at h5
      refine ⟨_, ?_, h5, hp2⟩
      rw [if_neg (fun hh => h7 ((tI_l (x := 7) 7 rfl (by decide)).mp hh)), e3, ca_s, gd_i (by decide), gd_i (inb_nI hk (by decide)), cl_nI (by omega)]
      rfl
  · exact Or.inl ⟨a, μ', by rw [e, ca2_s, if_pos rfl], b⟩
end SM
