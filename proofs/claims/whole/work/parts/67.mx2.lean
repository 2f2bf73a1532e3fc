/-! the reference's reader: blocks, values, waiting operators -/
theorem mW_st {μ : St} {b : Nat} {W : List Nat} {k j : Nat} {v : Int32} (h : mW μ b W) (hk : (k = 20 ∨ k = 21) → b + W.length ≤ j) : mW (st μ k j v) b W := by
  induction W with
  | nil => trivial
  | cons o W ih =>
    obtain ⟨h1, h2, h3⟩ := h
    simp at hk
    refine ⟨?_, ?_, ih h3 (fun hh => by have := hk hh; omega)⟩
    · by_cases h20 : k = 20
      · subst h20
        rw [st_nj (by have := hk (by decide); omega)]; exact h1
      · rw [st_ne (by omega)]; exact h1
    · by_cases h21 : k = 21
      · subst h21
        rw [st_nj (by have := hk (by decide); omega)]; exact h2
      · rw [st_ne (by omega)]; exact h2
theorem mVL_st {μ : St} {V : List VF} {k j : Nat} {v : Int32} (h : mVL μ V) (hk : (k = 16 ∨ k = 17 ∨ k = 18 ∨ k = 19) → V.length ≤ j) (hw : (k = 20 ∨ k = 21) → wtot V ≤ j) : mVL (st μ k j v) V := by
  induction V with
  | nil => trivial
  | cons x V ih =>
    obtain ⟨⟨a1, a2, a3, a4⟩, h2, h3⟩ := h
    simp only [List.length_cons] at hk
    simp only [wtot] at hw
    have key : ∀ r, (r = 16 ∨ r = 17 ∨ r = 18 ∨ r = 19) → (st μ k j v) r V.length = μ r V.length := by
      intro r hr
      by_cases hkr : k = r
      · subst hkr
        rw [st_nj (by have := hk hr; omega)]
      · rw [st_ne (fun hh => hkr hh.symm)]
    exact ⟨⟨by rw [key 16 (by decide)]; exact a1, by rw [key 19 (by decide)]; exact a2, by rw [key 17 (by decide)]; exact a3, by rw [key 18 (by decide)]; exact a4⟩, mW_st h2 (fun hh => by have := hw hh; omega), ih h3 (fun hh => by have := hk hh; omega) (fun hh => by have := hw hh; omega)⟩
theorem mBL_st {μ : St} {B : List BF} {k j : Nat} {v : Int32} (h : mBL μ B) (hk : B.length ≤ j) : mBL (st μ k j v) B := by
  induction B with
  | nil => trivial
  | cons x B ih =>
    obtain ⟨⟨a1, a2, a3⟩, h3⟩ := h
    simp only [List.length_cons] at hk
    have key : ∀ r, (st μ k j v) r B.length = μ r B.length := by
      intro r
      by_cases hkr : r = k
      · subst hkr
        rw [st_nj (by omega)]
      · rw [st_ne hkr]
    exact ⟨⟨by rw [key]; exact a1, by rw [key]; exact a2, by rw [key]; exact a3⟩, ih h3 (by omega)⟩
section MX2
variable {n : Nat} {t : Nat → Nat} {μ0 μ : St} {p md : Nat} {C : List (Nat × Nat)} {K : List KF} {B : List BF} {D : Int32 × Int32 × Int32} {fe : Nat → Option (Nat × Nat)} {V : Option (List VF)}
theorem m_begins (hT : HM n t μ0) {x y z : Int32} (wh fl bk : Nat) (hx : x = nI wh) (hy : y = nI fl) (hz : z = nI bk) (h : MX n μ0 μ p md C K B D fe V) : (B.length = 4 ∧ ∃ μ', f_M_begins x y z μ = some μ' ∧ Dead μ0 μ' (3, p)) ∨ (B.length < 4 ∧ ∃ μ', f_M_begins x y z μ = some μ' ∧ MX n μ0 μ' p 1 C K ((wh, fl, bk) :: B) D fe none) := by
  subst hx hy hz
  obtain ⟨h0, hP, hC, hK, hB, hD, hF, hV⟩ := id h
  obtain ⟨b1, b2, b3⟩ := id hB
  unfold f_M_begins
  rw [b1]
  by_cases h4 : B.length = 4
  · refine Or.inl ⟨h4, ?_⟩
    obtain ⟨μ', e1, h1⟩ := m_wrong hT (x := 3) 3 rfl (by decide) hP.1 h
    exact ⟨μ', by rw [if_pos (by rw [h4]; rfl), e1, ca_s], h1⟩
  · refine Or.inr ⟨by omega, ?_⟩
    rw [if_neg (show ¬ nI B.length = (4 : Int32) from fun hh => h4 ((nI_eq (a := B.length) (b := 4) (by omega) (by decide)).mp hh)), gd_i (inb_nI (by omega) (by decide)), nm_eq, cl_nI (by omega), st_ne (show (122 : Nat) ≠ 13 by decide), b1, gd_i (inb_nI (by omega) (by decide)), nm_eq, cl_nI (by omega), st_ne (show (122 : Nat) ≠ 14 by decide), st_ne (show (122 : Nat) ≠ 13 by decide), b1, gd_i (inb_nI (by omega) (by decide)), nm_eq, nm_eq, nm_eq, cl_nI (by omega), st_ne (show (122 : Nat) ≠ 15 by decide), st_ne (show (122 : Nat) ≠ 14 by decide), st_ne (show (122 : Nat) ≠ 13 by decide), b1, nI_1]
    refine ⟨_, rfl, frM_st (frM_st (frM_st (frM_st (frM_st h0 (by decide)) (by decide)) (by decide)) (by decide)) (by decide), ⟨by simp [st, hP.1], hP.2.1, by simp [st, upd]; rfl, by simp [st, hP.2.2.2.1], by simp [st, hP.2.2.2.2]⟩, mC_same hC (fun k hk => ?_), mK_same hK (fun k hk => ?_), ⟨by simp [st, upd], by simp; omega, ⟨?_, ?_, ?_⟩, ?_⟩, mD_same hD (fun k hk => ?_), mF_same hF (fun k hk => ?_), trivial⟩
    · rw [st_ne' (by omega), st_ne' (by omega), st_ne' (by omega), st_ne' (by omega), st_ne' (by omega)]
    · rw [st_ne' (by omega), st_ne' (by omega), st_ne' (by omega), st_ne' (by omega), st_ne' (by omega)]
    · simp [st, upd]
    · simp [st, upd]
    · simp [st, upd]
    · refine mBL_same (μ := st (st (st μ 13 B.length (nI wh)) 14 B.length (nI fl)) 15 B.length (nI bk)) (mBL_st (mBL_st (mBL_st b3 (Nat.le_refl _)) (Nat.le_refl _)) (Nat.le_refl _)) ?_ ?_ ?_
      · rw [st_ne' (by decide), st_ne' (by decide)]
      · rw [st_ne' (by decide), st_ne' (by decide)]
      · rw [st_ne' (by decide), st_ne' (by decide)]
    · rw [st_ne' (by omega), st_ne' (by omega), st_ne' (by omega), st_ne' (by omega), st_ne' (by omega)]
    · rw [st_ne' (by omega), st_ne' (by omega), st_ne' (by omega), st_ne' (by omega), st_ne' (by omega)]
theorem m_fresh {wh nm' sg : Nat} {W0 : List VF} (h : MX n μ0 μ p md C K B D fe (some ((wh, nm', sg, []) :: W0))) : ∃ μ', f_M_fresh μ = some μ' ∧ MX n μ0 μ' p 3 C K B D fe (some ((wh, nm', 0, []) :: W0)) := by
  obtain ⟨h0, hP, hC, hK, hB, hD, hF, ⟨v1, v2, v3, v4, ⟨⟨a1, a2, a3, a4⟩, w, hl⟩⟩⟩ := h
  simp only [List.length_cons] at v1 v2
  simp only [wtot, List.length_nil, Nat.zero_add] at v3 v4
  have e1 : nI (W0.length + 1) - 1 = nI W0.length := nI_pred _
  unfold f_M_fresh
  rw [v1, e1, gd_i (inb_nI (by omega) (by decide)), nm_eq, cl_nI (by omega), st_ne (show (126 : Nat) ≠ 18 by decide), v1, e1, gd_i (inb_nI (by omega) (by decide)), nm_eq, nm_eq, cl_nI (by omega), v3]
  refine ⟨_, rfl, frM_st (frM_st (frM_st h0 (by decide)) (by decide)) (by decide), ⟨by simp [st, hP.1], hP.2.1, by simp [st, upd]; rfl, by simp [st, hP.2.2.2.1], by simp [st, hP.2.2.2.2]⟩, mC_same hC (fun k hk => ?_), mK_same hK (fun k hk => ?_), mB_same hB (fun k hk => ?_), mD_same hD (fun k hk => ?_), mF_same hF (fun k hk => ?_), ⟨by simp [st, v1], by simp; omega, by simp [st, wtot, v3], by simp [wtot]; exact v4, ⟨?_, ?_, ?_, ?_⟩, trivial, ?_⟩⟩
  · rw [st_ne' (by omega), st_ne' (by omega), st_ne' (by omega)]
  · rw [st_ne' (by omega), st_ne' (by omega), st_ne' (by omega)]
  · rw [st_ne' (by omega), st_ne' (by omega), st_ne' (by omega)]
  · rw [st_ne' (by omega), st_ne' (by omega), st_ne' (by omega)]
  · rw [st_ne' (by omega), st_ne' (by omega), st_ne' (by omega)]
  · simp [st, a1]
  · simp [st, a2]
  · simp [st, upd, sI]
  · simp [st, upd]
  · exact mVL_st (mVL_st (mVL_st hl (fun _ => Nat.le_refl _) (by omega)) (fun _ => Nat.le_refl _) (by omega)) (by omega) (by omega)
theorem m_enters (hT : HM n t μ0) {x y : Int32} {V : List VF} (wh nm' : Nat) (hx : x = nI wh) (hy : y = nI nm') (h : MX n μ0 μ p md C K B D fe (some V)) : (V.length = 4 ∧ ∃ μ', f_M_enters x y μ = some μ' ∧ Dead μ0 μ' (3, p)) ∨ (V.length < 4 ∧ ∃ μ', f_M_enters x y μ = some μ' ∧ MX n μ0 μ' p 3 C K B D fe (some ((wh, nm', 0, []) :: V))) := by
  subst hx hy
  obtain ⟨h0, hP, hC, hK, hB, hD, hF, ⟨v1, v2, v3, v4, hl⟩⟩ := id h
  unfold f_M_enters
  rw [v1]
  by_cases h4 : V.length = 4
  · refine Or.inl ⟨h4, ?_⟩
    obtain ⟨μ', e1, h1⟩ := m_wrong hT (x := 3) 3 rfl (by decide) hP.1 h
    exact ⟨μ', by rw [if_pos (by rw [h4]; rfl), e1, ca_s], h1⟩
  · refine Or.inr ⟨by omega, ?_⟩
    rw [if_neg (show ¬ nI V.length = (4 : Int32) from fun hh => h4 ((nI_eq (a := V.length) (b := 4) (by omega) (by decide)).mp hh)), gd_i (inb_nI (by omega) (by decide)), nm_eq, cl_nI (by omega), st_ne (show (126 : Nat) ≠ 16 by decide), v1, gd_i (inb_nI (by omega) (by decide)), nm_eq, nm_eq, cl_nI (by omega), st_ne (show (126 : Nat) ≠ 19 by decide), st_ne (show (126 : Nat) ≠ 16 by decide), v1, nI_1]
    obtain ⟨μ1, e1⟩ : ∃ z, z = st (st (st μ 16 V.length (nI wh)) 19 V.length (nI nm')) 126 0 (nI (V.length + 1)) := ⟨_, rfl⟩
    rw [← e1]
    obtain ⟨μ2, e2⟩ : ∃ z, z = st (st (st μ1 18 V.length (nI (wtot V))) 17 V.length (-1)) 106 0 3 := ⟨_, rfl⟩
    have b1 : μ1 126 0 = nI (V.length + 1) := by rw [e1, st_at]
    have b2 : μ1 131 0 = nI (wtot V) := by rw [e1]; simp [st, v3]
    have eq1 : nI (V.length + 1) - 1 = nI V.length := nI_pred _
    refine ⟨μ2, ?_, ?_⟩
    · unfold f_M_fresh
      rw [b1, eq1, gd_i (inb_nI (by omega) (by decide)), nm_eq, cl_nI (by omega), st_ne (show (126 : Nat) ≠ 18 by decide), b1, eq1, gd_i (inb_nI (by omega) (by decide)), nm_eq, nm_eq, cl_nI (by omega), b2, ca_s, e2]
    · subst e2 e1
      refine ⟨frM_st (frM_st (frM_st (frM_st (frM_st (frM_st h0 (by decide)) (by decide)) (by decide)) (by decide)) (by decide)) (by decide), ⟨by simp [st, hP.1], hP.2.1, by simp [st, upd]; rfl, by simp [st, hP.2.2.2.1], by simp [st, hP.2.2.2.2]⟩, mC_same hC (fun k hk => ?_), mK_same hK (fun k hk => ?_), mB_same hB (fun k hk => ?_), mD_same hD (fun k hk => ?_), mF_same hF (fun k hk => ?_), ⟨by simp [st, upd], by simp; omega, by simp [st, wtot, v3], by simp [wtot]; exact v4, ⟨?_, ?_, ?_, ?_⟩, trivial, ?_⟩⟩
      · rw [st_ne' (by omega), st_ne' (by omega), st_ne' (by omega), st_ne' (by omega), st_ne' (by omega), st_ne' (by omega)]
      · rw [st_ne' (by omega), st_ne' (by omega), st_ne' (by omega), st_ne' (by omega), st_ne' (by omega), st_ne' (by omega)]
      · rw [st_ne' (by omega), st_ne' (by omega), st_ne' (by omega), st_ne' (by omega), st_ne' (by omega), st_ne' (by omega)]
      · rw [st_ne' (by omega), st_ne' (by omega), st_ne' (by omega), st_ne' (by omega), st_ne' (by omega), st_ne' (by omega)]
      · rw [st_ne' (by omega), st_ne' (by omega), st_ne' (by omega), st_ne' (by omega), st_ne' (by omega), st_ne' (by omega)]
      · simp [st, upd]
      · simp [st, upd]
      · simp [st, upd, sI]
      · simp [st, upd]
      · exact mVL_st (mVL_st (mVL_st (mVL_st (mVL_st (mVL_st hl (fun _ => Nat.le_refl _) (by omega)) (fun _ => Nat.le_refl _) (by omega)) (by omega) (by omega)) (fun _ => Nat.le_refl _) (by omega)) (fun _ => Nat.le_refl _) (by omega)) (by omega) (by omega)
theorem m_worth (hT : HM n t μ0) {x : Int32} (wh : Nat) (hx : x = nI wh) (h : MX n μ0 μ p md C K B D fe V) : ∃ μ', f_M_worth x μ = some μ' ∧ MX n μ0 μ' p 3 C K B D fe (some [(wh, 0, 0, [])]) := by
  obtain ⟨h0, hP, hC, hK, hB, hD, hF, -⟩ := h
  have h2 : MX n μ0 (st (st μ 126 0 0) 131 0 0) p md C K B D fe (some []) := by
    refine ⟨frM_st (frM_st h0 (by decide)) (by decide), mP_same hP (fun k hk => ?_), mC_same hC (fun k hk => ?_), mK_same hK (fun k hk => ?_), mB_same hB (fun k hk => ?_), mD_same hD (fun k hk => ?_), mF_same hF (fun k hk => ?_), ⟨by simp [st, upd]; rfl, by decide, by simp [st, upd]; rfl, by decide, trivial⟩⟩
    all_goals rw [st_ne' (by omega), st_ne' (by omega)]
  rcases m_enters hT (x := x) (y := 0) wh 0 hx rfl h2 with ⟨hl, -⟩ | ⟨-, μ', e1, h1⟩
  · exact absurd hl (by decide)
  · exact ⟨μ', by unfold f_M_worth; rw [nm_eq, nm_eq, e1, ca_s], h1⟩
/-- a value leaves -/
theorem m_popV {x : Int32} {wh nm' sg : Nat} {V : List VF} (h : MX n μ0 μ p md C K B D fe (some ((wh, nm', sg, []) :: V))) (hx : x = nI V.length) : MX n μ0 (st μ 126 0 x) p md C K B D fe (some V) := by
  subst hx
  obtain ⟨h0, hP, hC, hK, hB, hD, hF, ⟨v1, v2, v3, v4, ⟨-, -, hl⟩⟩⟩ := h
  simp only [List.length_cons] at v1 v2
  simp only [wtot, List.length_nil, Nat.zero_add] at v3 v4
  exact ⟨frM_st h0 (by decide), mP_same hP (fun k hk => st_ne' (by omega)), mC_same hC (fun k hk => st_ne' (by omega)), mK_same hK (fun k hk => st_ne' (by omega)), mB_same hB (fun k hk => st_ne' (by omega)), mD_same hD (fun k hk => st_ne' (by omega)), mF_same hF (fun k hk => st_ne' (by omega)), ⟨st_at _ _ _ _, by omega, by rw [st_ne (by decide)]; exact v3, v4, mVL_same hl (fun k hk => st_ne' (by omega))⟩⟩
def opl (W : List Nat) : List (Nat × Nat) := W.map (fun o => (o, 0))
theorem opl_app (A W : List Nat) : opl (A ++ W) = opl A ++ opl W := List.map_append
theorem lvl_op {o : Nat} (h : 1 ≤ lvl o) : 13 ≤ o ∧ o ≤ 19 := by
  unfold lvl at h
  split at h
  · omega
  · split at h
    · omega
    · split at h
      · omega
      · omega
theorem lvl_le (o : Nat) : lvl o ≤ 3 := by
  unfold lvl
  split
  · omega
  · split
    · omega
    · split
      · omega
      · omega
theorem mop_op {o : Nat} (h : 13 ≤ o ∧ o ≤ 19) : mop o = o + 20 := by
  have : o = 13 ∨ o = 14 ∨ o = 15 ∨ o = 16 ∨ o = 17 ∨ o = 18 ∨ o = 19 := by omega
  rcases this with rfl | rfl | rfl | rfl | rfl | rfl | rfl <;> rfl
def FR1 (a1 : Int32) (k2 : St → Option St) (μ1 : St) : Option St :=
  gd (inb ((μ1 126 0) - (1 : Int32)) 5) <| nm (μ1 18 ((μ1 126 0) - (1 : Int32)).toNatClampNeg) fun x5 => if (μ1 131 0) ≤ x5 then some μ1 else gd (inb ((μ1 131 0) - (1 : Int32)) 64) <| nm (μ1 21 ((μ1 131 0) - (1 : Int32)).toNatClampNeg) fun x8 => if x8 < a1 then some μ1 else nm (st μ1 131 0 ((μ1 131 0) - (1 : Int32))) fun μ10 => gd (inb (μ10 131 0) 64) <| nm (μ10 20 (μ10 131 0).toNatClampNeg) fun x12 => ca2 (f_M_emit (x12 + (20 : Int32)) (0 : Int32) μ10) fun x14 μ15 => k2 μ15
theorem reduce_eq (N : Nat) (a1 : Int32) (μ : St) : f_M_reduce N a1 μ = lpk (FR1 a1) (fun _ => none) N μ := rfl
theorem m_reduce {x : Int32} (fr : Nat) (hx : x = nI fr) (hfr : 1 ≤ fr ∧ fr ≤ 3) {wh nm' sg : Nat} {W0 : List Nat} {V : List VF} (h0 : ∀ o W, W0 = o :: W → lvl o < fr) : ∀ (A : List Nat) (fuel : Nat) (μ : St) (C : List (Nat × Nat)), A.length < fuel → (∀ o, o ∈ A → fr ≤ lvl o) → C.length + A.length < 600 → MX n μ0 μ p md C K B D fe (some ((wh, nm', sg, A ++ W0) :: V)) → ∃ μ', lpk (FR1 x) (fun _ => none) fuel μ = some μ' ∧ MX n μ0 μ' p md (C ++ opl A) K B D fe (some ((wh, nm', sg, W0) :: V)) := by
  subst hx
  intro A
  induction A with
  | nil =>
    intro fuel μ C hf hA hC h
    obtain ⟨g, rfl⟩ : ∃ g, fuel = g + 1 := ⟨fuel - 1, by simp at hf; omega⟩
    refine ⟨μ, ?_, by rw [show C ++ opl [] = C from List.append_nil C]; exact h⟩
    obtain ⟨g0, hP, hC', hK, hB, hD, hF, ⟨v1, v2, v3, v4, ⟨⟨a1, a2, a3, a4⟩, w, hl⟩⟩⟩ := h
    simp only [List.length_cons] at v1 v2
    simp only [wtot, List.nil_append] at v3 v4
    rw [lpk_s]
    unfold FR1
    rw [v1, nI_pred, gd_i (inb_nI (by omega) (by decide)), nm_eq, cl_nI (by omega), a4, v3]
    by_cases hw : W0 = []
    · subst hw
      rw [if_pos (nI_le (by simp) (by omega))]
    · obtain ⟨o, W, rfl⟩ : ∃ o W, W0 = o :: W := by
        cases W0 with
        | nil => exact absurd rfl hw
        | cons o W => exact ⟨o, W, rfl⟩
      have hlt := h0 o W rfl
      obtain ⟨w1, w2, w3⟩ := w
      simp only [List.length_cons] at v3 v4 ⊢
      rw [if_neg (nI_ge (by omega) (by omega)), show W.length + 1 + wtot V = (wtot V + W.length) + 1 by omega, nI_pred, gd_i (inb_nI (by omega) (by decide)), nm_eq, cl_nI (by omega), w2, if_pos (nI_lt hlt (by omega))]
  | cons o A ih =>
    intro fuel μ C hf hA hC h
    simp only [List.length_cons] at hf hC
    obtain ⟨g, rfl⟩ : ∃ g, fuel = g + 1 := ⟨fuel - 1, by omega⟩
    obtain ⟨g0, hP, hC', hK, hB, hD, hF, ⟨v1, v2, v3, v4, ⟨⟨a1, a2, a3, a4⟩, ⟨w1, w2, w3⟩, hl⟩⟩⟩ := h
    simp only [List.length_cons] at v1 v2
    simp only [wtot, List.cons_append, List.length_cons] at v3 v4
    have hlo := hA o (List.mem_cons_self)
    have hop := lvl_op (o := o) (by omega)
    obtain ⟨b, hb⟩ : ∃ b, b = wtot V + (A ++ W0).length := ⟨_, rfl⟩
    have hb2 : (A ++ W0).length + 1 + wtot V = b + 1 := by omega
    rw [hb2] at v3 v4
    change μ 20 (wtot V + (A ++ W0).length) = nI o at w1
    change μ 21 (wtot V + (A ++ W0).length) = nI (lvl o) at w2
    rw [← hb] at w1 w2
    have hl3 := lvl_le o
    have h1 : MX n μ0 (st μ 131 0 (nI b)) p md C K B D fe (some ((wh, nm', sg, A ++ W0) :: V)) := by
      refine ⟨frM_st g0 (by decide), mP_same hP (fun k hk => st_ne' (by omega)), mC_same hC' (fun k hk => st_ne' (by omega)), mK_same hK (fun k hk => st_ne' (by omega)), mB_same hB (fun k hk => st_ne' (by omega)), mD_same hD (fun k hk => st_ne' (by omega)), mF_same hF (fun k hk => st_ne' (by omega)), ⟨by rw [st_ne (by decide)]; exact v1, by simp; omega, by rw [st_at, hb]; simp only [wtot]; rw [Nat.add_comm], by simp only [wtot]; omega, ?_⟩⟩
      refine mVL_same (μ := μ) ⟨⟨a1, a2, a3, a4⟩, w3, hl⟩ (fun k hk => st_ne' (by omega))
    obtain ⟨μ2, e2, h2⟩ := m_emit (x := nI o + 20) (y := 0) o 0 (by rw [mop_op hop, show (20 : Int32) = nI 20 from rfl, nI_add]) (by unfold opd; rw [if_neg (by omega)]; intro hu; rfl) (by omega) h1
    obtain ⟨μ3, e3, h3⟩ := ih g μ2 (C ++ [(o, 0)]) (by omega) (fun o' ho' => hA o' (List.mem_cons_of_mem _ ho')) (by simp; omega) h2
    refine ⟨μ3, ?_, ?_⟩
    · rw [lpk_s]
      unfold FR1
      rw [v1, nI_pred, gd_i (inb_nI (by omega) (by decide)), nm_eq, cl_nI (by omega), a4, v3, if_neg (nI_ge (by omega) (by omega)), nI_pred, gd_i (inb_nI (by omega) (by decide)), nm_eq, cl_nI (by omega), w2, if_neg (nI_nlt hlo (by omega)), nm_eq, st_at, gd_i (inb_nI (by omega) (by decide)), nm_eq, cl_nI (by omega), st_ne (show (20 : Nat) ≠ 131 by decide), w1, e2, ca2_s]
      exact e3
    · rw [show C ++ opl (o :: A) = C ++ [(o, 0)] ++ opl A from by simp [opl]]
      exact h3
/-- a jump is aimed -/
theorem m_aim {j : Nat} {o a : Nat} (hj : C[j]? = some (o, a)) (ho : o = 45 ∨ o = 46) (h : MX n μ0 μ p md C K B D fe V) : MX n μ0 (st μ 3 j (nI C.length)) p md (aimed C j C.length) K B D fe V := by
  obtain ⟨h0, hP, ⟨c1, c2⟩, hK, hB, hD, hF, hV⟩ := h
  refine ⟨frM_st h0 (by decide), mP_same hP (fun k hk => st_ne' (by omega)), ⟨by simp [st, c1, aimed], fun k o' a' hka => ?_⟩, mK_same hK (fun k hk => st_ne' (by omega)), mB_same hB (fun k hk => st_ne' (by omega)), mD_same hD (fun k hk => st_ne' (by omega)), mF_same hF (fun k hk => st_ne' (by omega)), mV_same hV (fun k hk => st_ne' (by omega))⟩
  unfold aimed at hka
  rw [List.getElem?_modify] at hka
  by_cases hkj : j = k
  · subst hkj
    rw [hj] at hka
    simp at hka
    rw [← hka.1, ← hka.2]
    refine ⟨by rw [st_ne (by decide)]; exact (c2 j o a hj).1, ?_⟩
    rw [st_at]
    unfold opd
    rw [if_neg (by omega)]
    exact fun _ => rfl
  · simp [hkj] at hka
    rw [st_nj (Ne.symm hkj), st_ne (by decide)]
    exact c2 k o' a' hka
end MX2
