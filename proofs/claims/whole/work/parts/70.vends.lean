/-! the reference's reader: how a value ends -/
section VE
variable {N n : Nat} {t : Nat → Nat} {μ0 μ : St} {p md : Nat} {C : List (Nat × Nat)} {K : List KF} {B : List BF} {D : Int32 × Int32 × Int32} {fe : Nat → Option (Nat × Nat)} {wh nm' sg : Nat} {V : List VF} {x y : Int32}
theorem ve_bracket (hT : HM n t μ0) (h : MX n μ0 μ p md C K B D fe (some ((0, nm', 0, []) :: V))) : (tkf n t p ≠ 7 ∧ ∃ μ', f_M_valueEnds (nI 0) y μ = some μ' ∧ Dead μ0 μ' (1, p)) ∨ (tkf n t p = 7 ∧ ∃ μ', f_M_valueEnds (nI 0) y μ = some μ' ∧ MX n μ0 μ' (p + 1) md C K B D fe (some V) ∧ p < n) := by
  unfold f_M_valueEnds
  rw [if_pos (show nI 0 = (0 : Int32) from rfl)]
  rcases m_must hT (x := 7) 7 rfl (by decide) h with ⟨a, μ1, e, b, c⟩ | ⟨a, μ', e, b⟩
  · refine Or.inr ⟨a, ?_⟩
    obtain ⟨v0, v1, -⟩ := m_top b
    exact ⟨_, by rw [e, ca2_s, if_neg (by decide), nm_eq, v1, nI_pred], m_popV b rfl, c⟩
  · exact Or.inl ⟨a, μ', by rw [e, ca2_s, if_pos rfl], b⟩
theorem ve_place (hT : HM n t μ0) (hl : C.length < 600) (h : MX n μ0 μ p md C K B D fe (some ((1, nm', 0, []) :: V))) : (tkf n t p ≠ 22 ∧ ∃ μ', f_M_valueEnds (nI 1) (nI nm') μ = some μ' ∧ Dead μ0 μ' (1, p)) ∨ (tkf n t p = 22 ∧ ∃ μ', f_M_valueEnds (nI 1) (nI nm') μ = some μ' ∧ MX n μ0 μ' (p + 1) md (C ++ [(40, nm')]) K B D fe (some V) ∧ p < n) := by
  unfold f_M_valueEnds
  rw [if_neg (by decide), if_pos (by decide)]
  rcases m_must hT (x := 22) 22 rfl (by decide) h with ⟨a, μ1, e, b, c⟩ | ⟨a, μ', e, b⟩
  · refine Or.inr ⟨a, ?_⟩
    obtain ⟨μ2, e2, h2⟩ := m_emit (x := 4) (y := nI nm') 40 nm' rfl (fun _ => rfl) hl b
    obtain ⟨v0, v1, -⟩ := m_top h2
    exact ⟨_, by rw [e, ca2_s, if_neg (by decide), e2, ca2_s, nm_eq, v1, nI_pred], m_popV h2 rfl, c⟩
  · exact Or.inl ⟨a, μ', by rw [e, ca2_s, if_pos rfl], b⟩
theorem ve_comma (hT : HM n t μ0) {c pl f g : Nat} (hw : wh = 2 ∨ wh = 9) (hK : K[c]? = some (pl, f, g)) (h11 : tkf n t p = 11) (h : MX n μ0 μ p md C K B D fe (some ((wh, c, 0, []) :: V))) : ∃ μ', f_M_valueEnds (nI wh) (nI c) μ = some μ' ∧ MX n μ0 μ' (p + 1) 3 C (giv K c (g + 1)) B D fe (some ((wh, c, 0, []) :: V)) ∧ p < n := by
  have hc : c < K.length := (List.getElem?_eq_some_iff.mp hK).1
  have hk160 := h.2.2.2.1.2.1
  have hp : p < n := tk_lt (t := t) (by omega)
  have h1 := m_next h hp
  have e12 : (st μ 105 0 (nI (p + 1))) 12 c = nI g := (h1.2.2.2.1.2.2 c _ hK).2.2
  have h2 := m_given (x := nI g + 1) c (g + 1) (nI_1 g) hc h1
  obtain ⟨μ3, e3, h3⟩ := m_fresh h2
  have ha : f_M_argumentEnds (nI wh) (nI c) μ = some μ3 := by
    unfold f_M_argumentEnds
    rw [m_token hT h, ca_s, if_pos ((tI_l (x := 11) 11 rfl (by decide)).mpr h11), nm_eq, h.2.1.1, nI_1, gd_i (inb_nI (by omega) (by decide)), nm_eq, cl_nI (by omega), gd_i (inb_nI (by omega) (by decide)), nm_eq, e12, e3, ca_s]
  refine ⟨μ3, ?_, h3, hp⟩
  unfold f_M_valueEnds
  rcases hw with rfl | rfl
  · rw [if_neg (by decide), if_neg (by decide), jn_eq, if_pos (by decide), ha, ca_s]
  · rw [if_neg (by decide), if_neg (by decide), jn_eq, if_neg (by decide), if_pos (by decide), ha, ca_s]
theorem ve_arg (hT : HM n t μ0) {c pl f g : Nat} (hK : K[c]? = some (pl, f, g)) (h11 : tkf n t p ≠ 11) (hl : C.length < 600) (h : MX n μ0 μ p md C K B D fe (some ((2, c, 0, []) :: V))) : (tkf n t p ≠ 7 ∧ ∃ μ', f_M_valueEnds (nI 2) (nI c) μ = some μ' ∧ Dead μ0 μ' (1, p)) ∨ (tkf n t p = 7 ∧ ∃ μ', f_M_valueEnds (nI 2) (nI c) μ = some μ' ∧ MX n μ0 μ' (p + 1) md (C ++ [(42, f)]) K B D fe (some V) ∧ p < n) := by
  have ha : f_M_valueEnds (nI 2) (nI c) μ = (ca (f_M_argumentEnds (nI 2) (nI c) μ) fun μ7 => some μ7) := by
    unfold f_M_valueEnds
    rw [if_neg (by decide), if_neg (by decide), jn_eq, if_pos (by decide)]
  rw [ha]
  unfold f_M_argumentEnds f_M_callEnds
  rw [m_token hT h, ca_s, if_neg (fun hh => h11 ((tI_l (x := 11) 11 rfl (by decide)).mp hh))]
  rcases m_must hT (x := 7) 7 rfl (by decide) h with ⟨a, μ1, e, b, hp⟩ | ⟨a, μ', e, b⟩
  · refine Or.inr ⟨a, ?_⟩
    obtain ⟨μ2, e2, h2⟩ := m_emit (x := 7) (y := nI c) 42 f rfl ⟨c, _, hK, rfl, rfl⟩ hl b
    obtain ⟨v0, v1, -⟩ := m_top h2
    exact ⟨_, by rw [e, ca2_s, if_neg (by decide), e2, ca2_s, ca_s, if_pos (by decide), nm_eq, v1, nI_pred, ca_s], m_popV h2 rfl, hp⟩
  · exact Or.inl ⟨a, μ', by rw [e, ca2_s, if_pos rfl, ca_s], b⟩
theorem ve_call (hT : HM n t μ0) {c pl f g : Nat} (hK : K[c]? = some (pl, f, g)) (h11 : tkf n t p ≠ 11) (hl : C.length < 500) (h : MX n μ0 μ p md C K B D fe (some ((9, c, 0, []) :: V))) : (tkf n t p ≠ 7 ∧ ∃ μ', f_M_valueEnds (nI 9) (nI c) μ = some μ' ∧ Dead μ0 μ' (1, p)) ∨ (tkf n t p = 7 ∧ tkf n t (p + 1) ≠ 10 ∧ ∃ μ', f_M_valueEnds (nI 9) (nI c) μ = some μ' ∧ Dead μ0 μ' (1, p + 1)) ∨ (tkf n t p = 7 ∧ tkf n t (p + 1) = 10 ∧ ∃ μ', f_M_valueEnds (nI 9) (nI c) μ = some μ' ∧ MX n μ0 μ' (p + 2) 2 (C ++ [(42, f), (43, 0)]) K B D fe none ∧ p + 1 < n) := by
  have ha : f_M_valueEnds (nI 9) (nI c) μ = (ca (f_M_argumentEnds (nI 9) (nI c) μ) fun μ7 => some μ7) := by
    unfold f_M_valueEnds
    rw [if_neg (by decide), if_neg (by decide), jn_eq, if_neg (by decide), if_pos (by decide)]
  rw [ha]
  unfold f_M_argumentEnds f_M_callEnds
  rw [m_token hT h, ca_s, if_neg (fun hh => h11 ((tI_l (x := 11) 11 rfl (by decide)).mp hh))]
  rcases m_must hT (x := 7) 7 rfl (by decide) h with ⟨a, μ1, e, b, hp⟩ | ⟨a, μ', e, b⟩
  · refine Or.inr ?_
    obtain ⟨μ2, e2, h2⟩ := m_emit (x := 7) (y := nI c) 42 f rfl ⟨c, _, hK, rfl, rfl⟩ (by omega) b
    obtain ⟨μ3, e3, h3⟩ := m_emit (x := 12) (y := 0) 43 0 rfl (fun _ => rfl) (by simp; omega) h2
    have h4 := m_mode (x := 2) 2 rfl (m_noV h3)
    rw [e, ca2_s, if_neg (by decide), e2, ca2_s, ca_s, if_neg (by decide), e3, ca2_s, nm_eq]
    rcases m_must hT (x := 10) 10 rfl (by decide) h4 with ⟨a5, μ5, e5, b5, hp5⟩ | ⟨a5, μ5, e5, b5⟩
    · exact Or.inr ⟨a, a5, μ5, by rw [e5, ca2_s, ca_s], by rw [show C ++ [(42, f), (43, 0)] = C ++ [(42, f)] ++ [(43, 0)] by simp]; exact b5, hp5⟩
    · exact Or.inl ⟨a, a5, μ5, by rw [e5, ca2_s, ca_s], b5⟩
  · exact Or.inl ⟨a, μ', by rw [e, ca2_s, if_pos rfl, ca_s], b⟩
theorem ve_left (hT : HM n t μ0) (h : MX n μ0 μ p md C K B D fe (some ((3, nm', 0, []) :: V))) : (tkf n t p ≠ 22 ∧ ∃ μ', f_M_valueEnds (nI 3) y μ = some μ' ∧ Dead μ0 μ' (1, p)) ∨ (tkf n t p = 22 ∧ tkf n t (p + 1) ≠ 12 ∧ ∃ μ', f_M_valueEnds (nI 3) y μ = some μ' ∧ Dead μ0 μ' (1, p + 1)) ∨ (tkf n t p = 22 ∧ tkf n t (p + 1) = 12 ∧ ∃ μ', f_M_valueEnds (nI 3) y μ = some μ' ∧ MX n μ0 μ' (p + 2) 3 C K B D fe (some [(4, 0, 0, [])]) ∧ p + 1 < n) := by
  unfold f_M_valueEnds
  rw [if_neg (by decide), if_neg (by decide), jn_eq, if_neg (by decide), if_neg (by decide), if_pos (by decide)]
  rcases m_must hT (x := 22) 22 rfl (by decide) h with ⟨a, μ1, e, b, hp⟩ | ⟨a, μ', e, b⟩
  · refine Or.inr ?_
    rw [e, ca2_s, if_neg (by decide)]
    rcases m_must hT (x := 12) 12 rfl (by decide) b with ⟨a5, μ5, e5, b5, hp5⟩ | ⟨a5, μ5, e5, b5⟩
    · obtain ⟨μ6, e6, h6⟩ := m_worth hT (x := 4) 4 rfl b5
      exact Or.inr ⟨a, a5, μ6, by rw [e5, ca2_s, if_neg (by decide), e6, ca_s], h6, hp5⟩
    · exact Or.inl ⟨a, a5, μ5, by rw [e5, ca2_s, if_pos rfl], b5⟩
  · exact Or.inl ⟨a, μ', by rw [e, ca2_s, if_pos rfl], b⟩
theorem ve_choice (hT : HM n t μ0) {bg : Nat} (hw : wh = 5 ∨ wh = 6) (hD : D.2.2 = nI bg) (hl : C.length < 600) (h : MX n μ0 μ p md C K B D fe (some ((wh, nm', 0, []) :: V))) : (tkf n t p ≠ 7 ∧ ∃ μ', f_M_valueEnds (nI wh) y μ = some μ' ∧ Dead μ0 μ' (1, p)) ∨ (tkf n t p = 7 ∧ B.length = 4 ∧ ∃ μ', f_M_valueEnds (nI wh) y μ = some μ' ∧ Dead μ0 μ' (3, p + 1)) ∨ (tkf n t p = 7 ∧ B.length < 4 ∧ ∃ μ', f_M_valueEnds (nI wh) y μ = some μ' ∧ MX n μ0 μ' (p + 1) 1 (C ++ [(46, 0)]) K ((if wh = 5 then 1 else 3, C.length, bg) :: B) D fe none ∧ p < n) := by
  have key : f_M_valueEnds (nI wh) y μ = ca2 (f_M_must (7 : Int32) μ) fun x15 μ16 => if x15 = 0 then some μ16 else ca2 (f_M_emit (13 : Int32) (0 : Int32) μ16) fun x19 μ20 => (ca (f_M_begins (nI (if wh = 5 then 1 else 3)) x19 (μ20 136 0) μ20) fun μ26 => some μ26) := by
    unfold f_M_valueEnds
    rcases hw with rfl | rfl
    · rw [if_neg (by decide), if_neg (by decide), jn_eq, if_neg (by decide), if_neg (by decide), if_neg (by decide), jn_eq, if_pos (by decide)]
      rfl
    · rw [if_neg (by decide), if_neg (by decide), jn_eq, if_neg (by decide), if_neg (by decide), if_neg (by decide), jn_eq, if_neg (by decide), if_pos (by decide)]
      rfl
  rw [key]
  rcases m_must hT (x := 7) 7 rfl (by decide) h with ⟨a, μ1, e, b, hp⟩ | ⟨a, μ', e, b⟩
  · refine Or.inr ?_
    obtain ⟨μ2, e2, h2⟩ := m_emit (x := 13) (y := 0) 46 0 rfl (fun _ => rfl) hl b
    rw [e, ca2_s, if_neg (by decide), e2, ca2_s, h2.2.2.2.2.2.1.2.2, hD]
    rcases m_begins hT (x := nI (if wh = 5 then 1 else 3)) (y := nI C.length) (z := nI bg) (if wh = 5 then 1 else 3) C.length bg rfl rfl rfl h2 with ⟨a3, μ3, e3, h3⟩ | ⟨a3, μ3, e3, h3⟩
    · exact Or.inl ⟨a, a3, μ3, by rw [e3, ca_s], h3⟩
    · exact Or.inr ⟨a, a3, μ3, by rw [e3, ca_s], h3, hp⟩
  · exact Or.inl ⟨a, μ', by rw [e, ca2_s, if_pos rfl], b⟩
theorem ve_word (hT : HM n t μ0) {o a : Nat} (hw : (wh = 4 ∧ D.1 = nI a ∧ D.2.1 = nI (mop o) ∧ (o = 37 ∨ o = 39 ∨ o = 41)) ∨ (wh = 7 ∧ o = 0 ∧ a = 0) ∨ (wh = 8 ∧ o = 44 ∧ a = 0)) (hl : C.length < 600) (h : MX n μ0 μ p md C K B D fe (some ((wh, nm', 0, []) :: V))) : (tkf n t p ≠ 10 ∧ ∃ μ', f_M_valueEnds (nI wh) y μ = some μ' ∧ Dead μ0 μ' (1, p)) ∨ (tkf n t p = 10 ∧ ∃ μ', f_M_valueEnds (nI wh) y μ = some μ' ∧ MX n μ0 μ' (p + 1) 2 (C ++ [(o, a)]) K B D fe none ∧ p < n) := by
  have key : f_M_valueEnds (nI wh) y μ = ca2 (f_M_must (10 : Int32) μ) fun x31 μ32 => if x31 = 0 then some μ32 else ca2 (f_M_emit (if wh = 4 then μ32 135 0 else if wh = 7 then 15 else 16) (μ32 134 0) μ32) fun x39 μ40 => some (st μ40 106 0 (2 : Int32)) := by
    unfold f_M_valueEnds
    rcases hw with ⟨rfl, -⟩ | ⟨rfl, -⟩ | ⟨rfl, -⟩
    · rw [if_neg (by decide), if_neg (by decide), jn_eq, if_neg (by decide), if_neg (by decide), if_neg (by decide), jn_eq, if_neg (by decide), if_neg (by decide)]
      rfl
    · rw [if_neg (by decide), if_neg (by decide), jn_eq, if_neg (by decide), if_neg (by decide), if_neg (by decide), jn_eq, if_neg (by decide), if_neg (by decide)]
      rfl
    · rw [if_neg (by decide), if_neg (by decide), jn_eq, if_neg (by decide), if_neg (by decide), if_neg (by decide), jn_eq, if_neg (by decide), if_neg (by decide)]
      rfl
  rw [key]
  rcases m_must hT (x := 10) 10 rfl (by decide) h with ⟨a1, μ1, e, b, hp⟩ | ⟨a1, μ', e, b⟩
  · refine Or.inr ⟨a1, ?_⟩
    obtain ⟨d1, d2, d3⟩ := b.2.2.2.2.2.1
    have em : ∃ μ2, f_M_emit (if wh = 4 then μ1 135 0 else if wh = 7 then 15 else 16) (μ1 134 0) μ1 = some (nI C.length, μ2) ∧ MX n μ0 μ2 (p + 1) md (C ++ [(o, a)]) K B D fe (some ((wh, nm', 0, []) :: V)) := by
      rcases hw with ⟨rfl, k1, k2, k3⟩ | ⟨rfl, rfl, rfl⟩ | ⟨rfl, rfl, rfl⟩
      · rw [if_pos rfl, d1, d2, k1, k2]
        exact m_emit o a rfl (by unfold opd; rw [if_neg (by omega)]; exact fun _ => rfl) hl b
      · exact m_emit 0 0 rfl (fun hh => absurd hh (by decide)) hl b
      · exact m_emit 44 0 rfl (fun hh => absurd hh (by decide)) hl b
    obtain ⟨μ2, e2, h2⟩ := em
    exact ⟨_, by rw [e, ca2_s, if_neg (by decide), e2, ca2_s], m_mode (x := 2) 2 rfl (m_noV h2), hp⟩
  · exact Or.inl ⟨a1, μ', by rw [e, ca2_s, if_pos rfl], b⟩
end VE
