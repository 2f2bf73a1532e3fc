/-! the reference's reader: the ends of blocks, functions -/
section BE
variable {N n : Nat} {t : Nat → Nat} {μ0 μ : St} {p md : Nat} {C : List (Nat × Nat)} {K : List KF} {B : List BF} {D : Int32 × Int32 × Int32} {fe : Nat → Option (Nat × Nat)} {V : Option (List VF)} {wh fl bk : Nat}
theorem m_emitF {x y : Int32} (o a : Nat) (hx : x = nI (mop o)) (hy : opd K o a y) (hl : C.length < 600) (h : MX n μ0 μ p md C K B D fe V) : ∃ μ', f_M_emit x y μ = some (nI C.length, μ') ∧ MX n μ0 μ' p md (C ++ [(o, a)]) K B D fe V ∧ ∀ k, k ≠ 2 → k ≠ 3 → k ≠ 108 → μ' k = μ k := by
  obtain ⟨μ', e, h'⟩ := m_emit o a hx hy hl h
  refine ⟨μ', e, h', fun k h1 h2 h3 => ?_⟩
  unfold f_M_emit at e
  rw [h.2.2.1.1, gd_i (inb_nI hl (by decide)), nm_eq, cl_nI (by omega), st_ne (show (108 : Nat) ≠ 2 by decide), h.2.2.1.1, gd_i (inb_nI hl (by decide)), nm_eq, nm_eq] at e
  simp only [Option.some.injEq, Prod.mk.injEq] at e
  rw [← e.2, st_ne' h3, st_ne' h2, st_ne' h1]
theorem m_popB {x : Int32} {f : BF} (hx : x = nI B.length) (h : MX n μ0 μ p md C K (f :: B) D fe V) : MX n μ0 (st μ 122 0 x) p md C K B D fe V := by
  subst hx
  obtain ⟨h0, hP, hC, hK, ⟨b1, b2, b3⟩, hD, hF, hV⟩ := h
  simp only [List.length_cons] at b2
  exact ⟨frM_st h0 (by decide), mP_same hP (fun k hk => st_ne' (by omega)), mC_same hC (fun k hk => st_ne' (by omega)), mK_same hK (fun k hk => st_ne' (by omega)), ⟨st_at _ _ _ _, by omega, mBL_same b3.2 (st_ne' (by decide)) (st_ne' (by decide)) (st_ne' (by decide))⟩, mD_same hD (fun k hk => st_ne' (by omega)), mF_same hF (fun k hk => st_ne' (by omega)), mV_same hV (fun k hk => st_ne' (by omega))⟩
def beB (x4 : Int32) (μ2 : St) : Option St :=
  if x4 = 0 then (ca2 (f_M_emit (0 : Int32) (0 : Int32) μ2) fun x37 μ38 => ca2 (f_M_emit (15 : Int32) (0 : Int32) μ38) fun x40 μ41 => nm (st μ41 106 0 (0 : Int32)) fun μ42 => some μ42)
  else (jn (jn (fun (μ9 : St) => gd (inb (μ9 122 0) 5) <| nm (μ9 14 (μ9 122 0).toNatClampNeg) fun x13 => gd (inb x13 600) <| nm (st μ9 3 x13.toNatClampNeg (μ9 108 0)) fun μ15 => some μ15) fun k10 => if x4 = (3 : Int32) then (gd (inb (μ2 122 0) 5) <| nm (μ2 15 (μ2 122 0).toNatClampNeg) fun x18 => ca2 (f_M_emit (14 : Int32) x18 μ2) fun x20 μ21 => k10 μ21) else k10 μ2) fun k7 => if x4 = (1 : Int32) then (ca (f_M_token μ2) fun x24 => if x24 = (1 : Int32) then (nm (st μ2 105 0 ((μ2 105 0) + (1 : Int32))) fun μ26 => ca2 (f_M_emit (14 : Int32) (0 : Int32) μ26) fun x28 μ29 => gd (inb (μ29 122 0) 5) <| nm (μ29 14 (μ29 122 0).toNatClampNeg) fun x31 => gd (inb x31 600) <| nm (st μ29 3 x31.toNatClampNeg (μ29 108 0)) fun μ33 => ca (f_M_begins (2 : Int32) x28 (0 : Int32) μ33) fun μ35 => some μ35) else k7) else k7)
theorem blockEnds_eq (μ : St) : f_M_blockEnds μ = nm (st μ 105 0 ((μ 105 0) + (1 : Int32))) fun μ1 => nm (st μ1 122 0 ((μ1 122 0) - (1 : Int32))) fun μ2 => gd (inb (μ2 122 0) 5) <| nm (μ2 13 (μ2 122 0).toNatClampNeg) fun x4 => beB x4 μ2 := rfl
theorem m_be0 (hT : HM n t μ0) (h9 : tkf n t p = 9) (h : MX n μ0 μ p 2 C K ((wh, fl, bk) :: B) D fe V) : ∃ μ', f_M_statement μ = (ca (beB (nI wh) μ') fun μ116 => some μ116) ∧ MX n μ0 μ' (p + 1) 2 C K B D fe none ∧ μ' 14 B.length = nI fl ∧ μ' 15 B.length = nI bk ∧ B.length < 4 ∧ p < n := by
  have hp : p < n := tk_lt (t := t) (by omega)
  have h1 := m_next (m_noV h) hp
  have h2 := m_popB (x := nI B.length) rfl h1
  obtain ⟨b1, b2, ⟨b3, b4, b5⟩, b6⟩ := h1.2.2.2.2.1
  simp only [List.length_cons] at b1 b2
  refine ⟨_, ?_, h2, by rw [st_ne (by decide)]; exact b4, by rw [st_ne (by decide)]; exact b5, by omega, hp⟩
  unfold f_M_statement
  rw [m_token hT h, ca_s, if_pos ((tI_l (x := 9) 9 rfl (by decide)).mpr h9), blockEnds_eq, nm_eq, nm_eq, h.2.1.1, nI_1, b1, nI_pred, st_at, gd_i (inb_nI (by omega) (by decide)), nm_eq, cl_nI (by omega), st_ne (show (13 : Nat) ≠ 122 by decide), b3]
theorem m_be_fn (hT : HM n t μ0) (h9 : tkf n t p = 9) (hl : C.length < 500) (h : MX n μ0 μ p 2 C K ((0, fl, bk) :: B) D fe V) : ∃ μ', f_M_statement μ = some μ' ∧ MX n μ0 μ' (p + 1) 0 (C ++ [(33, 0), (0, 0)]) K B D fe none ∧ p < n := by
  obtain ⟨μ1, e1, h1, -, -, -, hp⟩ := m_be0 hT h9 h
  obtain ⟨μ2, e2, h2⟩ := m_emit (x := 0) (y := 0) 33 0 rfl (fun _ => rfl) (by omega) h1
  obtain ⟨μ3, e3, h3⟩ := m_emit (x := 15) (y := 0) 0 0 rfl (fun hh => absurd hh (by decide)) (by simp; omega) h2
  refine ⟨st μ3 106 0 0, ?_, by rw [show C ++ [(33, 0), (0, 0)] = C ++ [(33, 0)] ++ [(0, 0)] by simp]; exact m_mode (x := 0) 0 rfl h3, hp⟩
  rw [e1]
  unfold beB
  rw [if_pos (show nI 0 = (0 : Int32) from rfl), e2, ca2_s, e3, ca2_s, nm_eq, ca_s]
theorem m_be_if (hT : HM n t μ0) {o a : Nat} (h9 : tkf n t p = 9) (hw : wh = 2 ∨ (wh = 1 ∧ tkf n t (p + 1) ≠ 1)) (hj : C[fl]? = some (o, a)) (ho : o = 45 ∨ o = 46) (hl : C.length < 600) (h : MX n μ0 μ p 2 C K ((wh, fl, bk) :: B) D fe V) : ∃ μ', f_M_statement μ = some μ' ∧ MX n μ0 μ' (p + 1) 2 (aimed C fl C.length) K B D fe none ∧ p < n := by
  obtain ⟨μ1, e1, h1, e14, e15, hb, hp⟩ := m_be0 hT h9 h
  have hfl : fl < C.length := (List.getElem?_eq_some_iff.mp hj).1
  have h2 := m_aim hj ho h1
  refine ⟨_, ?_, h2, hp⟩
  rw [e1]
  unfold beB
  have b1 := h1.2.2.2.2.1.1
  rcases hw with rfl | ⟨rfl, h1n⟩
  · rw [if_neg (by decide), jn_eq, jn_eq, if_neg (by decide), if_neg (by decide)]
    dsimp only
    rw [b1, gd_i (inb_nI (by omega) (by decide)), nm_eq, cl_nI (by omega), e14, gd_i (inb_nI (by omega) (by decide)), nm_eq, cl_nI (by omega), h1.2.2.1.1, ca_s]
  · rw [if_neg (by decide), jn_eq, jn_eq, if_pos (by decide), m_token hT h1, ca_s, if_neg (fun hh => h1n ((tI_l (x := 1) 1 rfl (by decide)).mp hh)), if_neg (by decide)]
    dsimp only
    rw [b1, gd_i (inb_nI (by omega) (by decide)), nm_eq, cl_nI (by omega), e14, gd_i (inb_nI (by omega) (by decide)), nm_eq, cl_nI (by omega), h1.2.2.1.1, ca_s]
theorem m_be_while (hT : HM n t μ0) {o a : Nat} (h9 : tkf n t p = 9) (hj : C[fl]? = some (o, a)) (ho : o = 45 ∨ o = 46) (hl : C.length < 600) (h : MX n μ0 μ p 2 C K ((3, fl, bk) :: B) D fe V) : ∃ μ', f_M_statement μ = some μ' ∧ MX n μ0 μ' (p + 1) 2 (aimed (C ++ [(45, bk)]) fl (C.length + 1)) K B D fe none ∧ p < n := by
  obtain ⟨μ1, e1, h1, e14, e15, hb, hp⟩ := m_be0 hT h9 h
  have hfl : fl < C.length := (List.getElem?_eq_some_iff.mp hj).1
  obtain ⟨μ2, e2, h2, f2⟩ := m_emitF (x := 14) (y := nI bk) 45 bk rfl (fun _ => rfl) hl h1
  have h3 := m_aim (j := fl) (o := o) (a := a) (by rw [List.getElem?_append_left hfl]; exact hj) ho h2
  rw [List.length_append] at h3
  refine ⟨_, ?_, h3, hp⟩
  rw [e1]
  unfold beB
  have b1 := h1.2.2.2.2.1.1
  rw [if_neg (by decide), jn_eq, jn_eq, if_neg (by decide), if_pos (by decide), b1, gd_i (inb_nI (by omega) (by decide)), nm_eq, cl_nI (by omega), e15, e2, ca2_s]
  dsimp only
  rw [f2 122 (by decide) (by decide) (by decide), b1, gd_i (inb_nI (by omega) (by decide)), nm_eq, cl_nI (by omega), f2 14 (by decide) (by decide) (by decide), e14, gd_i (inb_nI (by omega) (by decide)), nm_eq, cl_nI (by omega), h2.2.2.1.1, List.length_append, ca_s]
theorem m_be_else (hT : HM n t μ0) {o a : Nat} (h9 : tkf n t p = 9) (h1e : tkf n t (p + 1) = 1) (hj : C[fl]? = some (o, a)) (ho : o = 45 ∨ o = 46) (hl : C.length < 600) (h : MX n μ0 μ p 2 C K ((1, fl, bk) :: B) D fe V) : ∃ μ', f_M_statement μ = some μ' ∧ MX n μ0 μ' (p + 2) 1 (aimed (C ++ [(45, 0)]) fl (C.length + 1)) K ((2, C.length, 0) :: B) D fe none ∧ p + 1 < n := by
  obtain ⟨μ1, e1, h1, e14, e15, hb, hp⟩ := m_be0 hT h9 h
  have hfl : fl < C.length := (List.getElem?_eq_some_iff.mp hj).1
  have hp1 : p + 1 < n := tk_lt (t := t) (by omega)
  have h1' := m_next h1 hp1
  obtain ⟨μ2, e2, h2, f2⟩ := m_emitF (x := 14) (y := 0) 45 0 rfl (fun _ => rfl) hl h1'
  have h3 := m_aim (j := fl) (o := o) (a := a) (by rw [List.getElem?_append_left hfl]; exact hj) ho h2
  rw [List.length_append] at h3
  rcases m_begins hT (x := 2) (y := nI C.length) (z := 0) 2 C.length 0 rfl rfl rfl h3 with ⟨hb4, -⟩ | ⟨-, μ4, e4, h4⟩
  · omega
  refine ⟨μ4, ?_, h4, hp1⟩
  rw [e1]
  unfold beB
  have b1 := h1.2.2.2.2.1.1
  rw [if_neg (by decide), jn_eq, jn_eq, if_pos (by decide), m_token hT h1, ca_s, if_pos ((tI_l (x := 1) 1 rfl (by decide)).mpr h1e), nm_eq, h1.2.1.1, nI_1, e2, ca2_s, f2 122 (by decide) (by decide) (by decide), st_ne (show (122 : Nat) ≠ 105 by decide), b1, gd_i (inb_nI (by omega) (by decide)), nm_eq, cl_nI (by omega), f2 14 (by decide) (by decide) (by decide), st_ne (show (14 : Nat) ≠ 105 by decide), e14, gd_i (inb_nI (by omega) (by decide)), nm_eq, cl_nI (by omega), h2.2.2.1.1, List.length_append]
  rw [show [((45 : Nat), (0 : Nat))].length = 1 from rfl] at e4 ⊢
  rw [e4, ca_s, ca_s]
/-- the text has ended -/
def DN (μ0 μ : St) (C : List (Nat × Nat)) (K : List KF) (fe : Nat → Option (Nat × Nat)) : Prop := frM μ0 μ ∧ μ 103 0 = 0 ∧ ¬ μ 107 0 = 0 ∧ mC μ K C ∧ mK μ K ∧ mF μ fe
theorem m_done (hT : HM n t μ0) (h9 : tkf n t p = 999) (h : MX n μ0 μ p md C K B D fe V) : ∃ μ', f_M_function μ = some μ' ∧ DN μ0 μ' C K fe := by
  obtain ⟨h0, hP, hC, hK, hB, hD, hF, hV⟩ := id h
  refine ⟨st μ 107 0 1, ?_, frM_st h0 (by decide), by rw [st_ne (by decide)]; exact hP.2.2.2.1, by rw [st_at]; decide, mC_same hC (fun k hk => st_ne' (by omega)), mK_same hK (fun k hk => st_ne' (by omega)), mF_same hF (fun k hk => st_ne' (by omega))⟩
  unfold f_M_function
  rw [m_token hT h, ca_s, h9, if_pos (by decide), nm_eq]
theorem in_52 (w : Nat) : f_M_in (tI w - 52) (0 : Int32) (5 : Int32) = some (if 52 ≤ w ∧ w ≤ 57 then 1 else 0) := by
  unfold f_M_in
  rw [jn_eq]
  by_cases h : w < 52 ∨ 192 ≤ w
  · rw [if_pos (show tI w - 52 < 0 from tI_neg (c := 52) (by decide) (by decide) h), if_neg (by omega)]
  · have e52 : tI w - 52 = nI (w - 52) := tI_sub (c := 52) (by omega) (by omega)
    rw [e52, if_neg (nI_pos (by omega))]
    by_cases h2 : 5 < w - 52
    · rw [if_pos (show (5 : Int32) < nI (w - 52) from nI_lt (a := 5) h2 (by omega)), if_neg (by omega)]
    · rw [if_neg (show ¬ (5 : Int32) < nI (w - 52) from nI_nlt (a := 5) (by omega) (by decide)), if_pos (by omega)]
theorem m_fn (hT : HM n t μ0) (h9 : tkf n t p ≠ 999) (hl : C.length ≤ 160) (h : MX n μ0 μ p md C K [] D fe V) :
    (tkf n t p ≠ 23 ∧ ∃ μ', f_M_function μ = some μ' ∧ Dead μ0 μ' (1, p)) ∨
    (tkf n t p = 23 ∧ ¬ (52 ≤ tkf n t (p + 1) ∧ tkf n t (p + 1) ≤ 57) ∧ ∃ μ', f_M_function μ = some μ' ∧ Dead μ0 μ' (1, p + 1)) ∨
    (tkf n t p = 23 ∧ (52 ≤ tkf n t (p + 1) ∧ tkf n t (p + 1) ≤ 57) ∧ (∃ x, fe (tkf n t (p + 1) - 52) = some x) ∧ ∃ μ', f_M_function μ = some μ' ∧ Dead μ0 μ' (2, p + 1)) ∨
    (tkf n t p = 23 ∧ (52 ≤ tkf n t (p + 1) ∧ tkf n t (p + 1) ≤ 57) ∧ fe (tkf n t (p + 1) - 52) = none ∧ ¬ (64 ≤ tkf n t (p + 2) ∧ tkf n t (p + 2) ≤ 67) ∧ ∃ μ', f_M_function μ = some μ' ∧ Dead μ0 μ' (1, p + 2)) ∨
    (tkf n t p = 23 ∧ (52 ≤ tkf n t (p + 1) ∧ tkf n t (p + 1) ≤ 57) ∧ fe (tkf n t (p + 1) - 52) = none ∧ (64 ≤ tkf n t (p + 2) ∧ tkf n t (p + 2) ≤ 67) ∧ ∃ μ', f_M_function μ = some μ' ∧ MX n μ0 μ' (p + 3) 1 C K [(0, 0, 0)] D (fun i => if i = tkf n t (p + 1) - 52 then some (C.length, tkf n t (p + 2) - 64) else fe i) none ∧ p + 2 < n) := by
  have ht : tkf n t p < 192 ∨ tkf n t p = 999 := by
    unfold tkf
    split
    · rename_i hp
      have := hT.2.1 p hp
      omega
    · exact Or.inr rfl
  unfold f_M_function
  rw [m_token hT h, ca_s, if_neg (fun hh => h9 ((tI_end ht).mp hh))]
  rcases m_must hT (x := 23) 23 rfl (by decide) h with ⟨a, μ1, e1, h1, hp⟩ | ⟨a, μ', e, b⟩
  · refine Or.inr ?_
    obtain ⟨w, hw⟩ : ∃ w, w = tkf n t (p + 1) := ⟨_, rfl⟩
    rw [e1, ca2_s, if_neg (by decide), m_token hT h1, ca_s, nm_eq, ← hw, in_52, ca_s]
    by_cases c1 : 52 ≤ w ∧ w ≤ 57
    · refine Or.inr ?_
      have e52 : tI w - 52 = nI (w - 52) := tI_sub (c := 52) c1.1 (by omega)
      rw [if_pos c1, if_neg (by decide), e52, gd_i (inb_nI (by omega) (by decide)), nm_eq, cl_nI (by omega)]
      obtain ⟨f, hf⟩ : ∃ f, f = w - 52 := ⟨_, rfl⟩
      rw [← hf]
      have hf6 : f < 6 := by omega
      have hfe := h1.2.2.2.2.2.2.1.1 f hf6
      have hcase : (∃ x, fe f = some x) ∨ fe f = none := by cases fe f <;> simp
      rcases hcase with ⟨x, hx⟩ | hx
      · refine Or.inl ⟨a, c1, ⟨x, hx⟩, ?_⟩
        rw [hx] at hfe
        have hx1 := (h1.2.2.2.2.2.2.1.2 f x hx).1
        obtain ⟨μ2, e2, h2⟩ := m_wrong hT (x := 2) 2 rfl (by decide) h1.2.1.1 h1
        exact ⟨μ2, by rw [hfe.1, if_neg (nI_pos (by omega)), e2, ca_s], h2⟩
      · refine Or.inr ?_
        rw [hx] at hfe
        have hfe' : μ1 6 f = -1 := hfe
        have hp1 : p + 1 < n := tk_lt (t := t) (by omega)
        have h2 := m_next h1 hp1
        obtain ⟨u, hu⟩ : ∃ u, u = tkf n t (p + 2) := ⟨_, rfl⟩
        rw [hfe', if_pos (by decide), nm_eq, h1.2.1.1, nI_1, m_token hT h2, ca_s, ← hu, show f_M_in (tI u) (64 : Int32) (67 : Int32) = some (if 64 ≤ u ∧ u ≤ 67 then 1 else 0) from in_t 64 67 (by decide) (by decide), ca_s]
        by_cases c2 : 64 ≤ u ∧ u ≤ 67
        · refine Or.inr ⟨a, c1, hx, c2, ?_⟩
          have hp2 : p + 2 < n := tk_lt (t := t) (by omega)
          obtain ⟨μ2, hμ2⟩ : ∃ z, z = st μ1 105 0 (nI (p + 2)) := ⟨_, rfl⟩
          have h2' : MX n μ0 μ2 (p + 2) md C K [] D fe V := by rw [hμ2]; exact h2
          have e64 : tI u - 64 = nI (u - 64) := tI_sub (c := 64) c2.1 (by omega)
          have h3 : MX n μ0 (st (st μ2 6 f (nI C.length)) 7 f (nI (u - 64))) (p + 2) md C K [] D (fun i => if i = f then some (C.length, u - 64) else fe i) none := by
            obtain ⟨h0, hP, hC, hK, hB, hD, ⟨f1, f2⟩, hV⟩ := h2'
            refine ⟨frM_st (frM_st h0 (by decide)) (by decide), mP_same hP (fun k hk => ?_), mC_same hC (fun k hk => ?_), mK_same hK (fun k hk => ?_), mB_same hB (fun k hk => ?_), mD_same hD (fun k hk => ?_), ⟨fun g hg => ?_, fun g x hgx => ?_⟩, trivial⟩
            · rw [st_ne' (by omega), st_ne' (by omega)]
            · rw [st_ne' (by omega), st_ne' (by omega)]
            · rw [st_ne' (by omega), st_ne' (by omega)]
            · rw [st_ne' (by omega), st_ne' (by omega)]
            · rw [st_ne' (by omega), st_ne' (by omega)]
            · by_cases hgf : g = f
              · subst hgf
                simp [mE, st, upd]
              · have := f1 g hg
                simp only [mE, if_neg hgf] at *
                simp [st, upd, hgf]
                exact this
            · dsimp only at hgx
              by_cases hgf : g = f
              · rw [if_pos hgf] at hgx
                cases hgx
                exact ⟨hl, by show u - 64 ≤ 3; omega⟩
              · rw [if_neg hgf] at hgx
                exact f2 g x hgx
          have h4 := m_next h3 hp2
          have htok : f_M_token (st μ2 6 f (nI C.length)) = some (tI (tkf n t (p + 2))) := m_tok hT (frM_st h2'.1 (by decide)) (by rw [st_ne (by decide)]; exact h2'.2.1.1) (by omega)
          rcases m_begins hT (x := 0) (y := 0) (z := 0) 0 0 0 rfl rfl rfl h4 with ⟨hb4, -⟩ | ⟨-, μ5, e5, h5⟩
          · exact absurd hb4 (by decide)
          refine ⟨μ5, ?_, h5, hp2⟩
          rw [if_pos c2, if_neg (by decide), ← hμ2, gd_i (inb_nI hf6 (by decide)), nm_eq, h2'.2.2.1.1, htok, ca_s, ← hu, e64, gd_i (inb_nI hf6 (by decide)), nm_eq, nm_eq, h3.2.1.1, nI_1, e5, ca_s]
        · refine Or.inl ⟨a, c1, hx, c2, ?_⟩
          obtain ⟨μ3, e3, h3⟩ := m_wrong hT (x := 1) 1 rfl (by decide) h2.2.1.1 h2
          exact ⟨μ3, by rw [if_neg c2, if_pos rfl, e3, ca_s], h3⟩
    · refine Or.inl ⟨a, c1, ?_⟩
      obtain ⟨μ2, e2, h2⟩ := m_wrong hT (x := 1) 1 rfl (by decide) h1.2.1.1 h1
      exact ⟨μ2, by rw [if_neg c1, if_pos rfl, e2, ca_s], h2⟩
  · exact Or.inl ⟨a, μ', by rw [e, ca2_s, if_pos rfl], b⟩
end BE
