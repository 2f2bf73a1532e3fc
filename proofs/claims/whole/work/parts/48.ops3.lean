/-! places of arrays, and keys -/
section OPS3
variable {op arg : Nat → Nat} {L : Nat} {e : Nat → Option (Nat × Nat)} {dep : Nat → Nat} {N : Nat} {ν μ : St} {B S rn a tp : Nat} {fl ra : Nat → Nat}
theorem big8 {x : Int32} (h : nI 8 ≤ x) : ¬ x < 0 ∧ ¬ x < 8 ∧ ¬ x ≤ 7 := by
  rw [Int32.le_iff_toInt_le, nI_toInt (by decide)] at h
  have e0 : (0 : Int32).toInt = 0 := rfl
  have e8 : (8 : Int32).toInt = 8 := rfl
  have e7 : (7 : Int32).toInt = 7 := rfl
  refine ⟨fun hh => ?_, fun hh => ?_, fun hh => ?_⟩
  · rw [Int32.lt_iff_toInt_lt] at hh; omega
  · rw [Int32.lt_iff_toInt_lt] at hh; omega
  · rw [Int32.le_iff_toInt_le] at hh; omega
theorem go_40 (hW : WF op arg L e dep) (hC : CORE op arg L e ν μ B S 1 rn) (hF : FR ν μ L dep rn a tp fl ra) (ho : op a = 40) (hb : arg a < 4) (hd1 : 1 ≤ dep a) (hd : dep (a + 1) = dep a) (ha : a + 1 < L) : GO op arg L e dep N ν μ B S rn a ra 40 := by
  obtain ⟨h1, h2, h3, h4, h5, h6⟩ := at_1 hW hC hF
  obtain ⟨q, rfl⟩ : ∃ q, tp = q + 1 := ⟨tp - 1, by omega⟩
  have hx : ν 22 q = μ 29 q := h5 q (by omega)
  have hr := hC.2.2.2.2.2.1
  have hSS := hC.2.2.2.2.2.2.2.1
  have g1 : (st (st ν 233 0 (nI (a + 1))) 232 0 (nI q)) 232 0 = nI q := st_at _ _ _ _
  have g2 : (st (st μ 138 0 (nI (a + 1))) 147 0 (nI q)) 147 0 = nI q := st_at _ _ _ _
  rcases pk_ix (ν 22 q) (n := 8) (by decide) with hp | hp | ⟨i, hi, hp⟩
  · refine ⟨st (st (st ν 233 0 (nI (a + 1))) 232 0 (nI q)) 228 0 5, st (st (st μ 138 0 (nI (a + 1))) 147 0 (nI q)) 137 0 5, ?_, ?_, out_end (sv := 5) hC hF ⟨by omega, by omega⟩ (fun k _ h2 h3 h4 => by simp [st, h2, h3, h4]) (fun k _ h2 h3 h4 => by simp [st, h2, h3, h4]) (by simp [st]; exact h5) ⟨st_at _ _ _ _, st_at _ _ _ _⟩ _⟩
    · rw [A_var N 40 _ _ (by omega), show nI 40 = (40 : Int32) from rfl]
      unfold f_E_actOnVariable f_E_getPlace
      rw [if_neg (by decide), if_neg (by decide), if_neg (by decide), if_neg (by decide), if_pos rfl, s_E_pop h1 (by omega), ca2_s, st_ne (μ := ν) (by decide), jn_eq, if_pos hp, nm_eq, ca_s, ca_s]
    · rw [show nI (mop 40) = (4 : Int32) from rfl, h6 (by rw [ho]; rfl)]
      unfold f_M_does f_M_place
      rw [nm_eq, if_neg (by decide), if_neg (by decide), if_neg (by decide), if_neg (by decide), if_pos rfl, jn_eq, if_pos rfl]
      try dsimp only
      rw [s_M_pop h2 (by omega), ca2_s, st_ne (μ := μ) (by decide), ← hx, jn_eq, if_pos hp, nm_eq, ca_s]
  · obtain ⟨p0, p8, p7⟩ := big8 hp
    refine ⟨st (st (st ν 233 0 (nI (a + 1))) 232 0 (nI q)) 228 0 5, st (st (st μ 138 0 (nI (a + 1))) 147 0 (nI q)) 137 0 5, ?_, ?_, out_end (sv := 5) hC hF ⟨by omega, by omega⟩ (fun k _ h2 h3 h4 => by simp [st, h2, h3, h4]) (fun k _ h2 h3 h4 => by simp [st, h2, h3, h4]) (by simp [st]; exact h5) ⟨st_at _ _ _ _, st_at _ _ _ _⟩ _⟩
    · rw [A_var N 40 _ _ (by omega), show nI 40 = (40 : Int32) from rfl]
      unfold f_E_actOnVariable f_E_getPlace
      rw [if_neg (by decide), if_neg (by decide), if_neg (by decide), if_neg (by decide), if_pos rfl, s_E_pop h1 (by omega), ca2_s, st_ne (μ := ν) (by decide), jn_eq, if_neg p0, if_neg p8, nm_eq, ca_s, ca_s]
    · rw [show nI (mop 40) = (4 : Int32) from rfl, h6 (by rw [ho]; rfl)]
      unfold f_M_does f_M_place
      rw [nm_eq, if_neg (by decide), if_neg (by decide), if_neg (by decide), if_neg (by decide), if_pos rfl, jn_eq, if_pos rfl]
      try dsimp only
      rw [s_M_pop h2 (by omega), ca2_s, st_ne (μ := μ) (by decide), ← hx, jn_eq, if_neg p0, if_neg p7, nm_eq, ca_s]
  · have f0 : ¬ nI i < 0 := nI_pos (by omega)
    have f8 : nI i < 8 := nI_lt (b := 8) hi (by decide)
    have f7 : nI i ≤ 7 := nI_le (b := 7) (by omega) (by decide)
    have hk : arg a * 8 + i < 32 := by omega
    have e1 : nI (arg a) * 8 + nI i = nI (arg a * 8 + i) := by rw [show (8 : Int32) = nI 8 from rfl, pk_mul, nI_add]
    have e2 : 8 * nI (arg a) + nI i = nI (arg a * 8 + i) := by rw [show (8 : Int32) = nI 8 from rfl, pk_mul, nI_add, Nat.mul_comm]
    have hv := hr.2.1 _ hk
    refine ⟨_, _, ?_, ?_, out_push (v := sx (ν 19 (arg a * 8 + i))) (q := q) (ν2 := st (st ν 233 0 (nI (a + 1))) 232 0 (nI q)) (μ2 := st (st μ 138 0 (nI (a + 1))) 147 0 (nI q)) hC hF (fun k h h' => by rw [st_ne' h, st_ne' h']) (fun k h h' => by rw [st_ne' h, st_ne' h']) ⟨by rw [st_ne (by decide), st_at], by rw [st_ne (by decide), st_at]⟩ (by omega) ha (by omega)⟩
    · rw [A_var N 40 _ _ (by omega), show nI 40 = (40 : Int32) from rfl]
      unfold f_E_actOnVariable f_E_getPlace f_E_placeAt
      have z : (st (st ν 233 0 (nI (a + 1))) 232 0 (nI q)) 19 (arg a * 8 + i) = ν 19 (arg a * 8 + i) := by simp [st]
      rw [if_neg (by decide), if_neg (by decide), if_neg (by decide), if_neg (by decide), if_pos rfl, s_E_pop h1 (by omega), ca2_s, st_ne (μ := ν) (by decide), jn_eq, hp, if_neg f0, if_pos f8, nm_eq, e1, jn_eq, if_neg (nI_pos (by omega)), if_neg (show ¬ (32 : Int32) ≤ nI (arg a * 8 + i) from nI_ge (b := 32) hk (by decide)), gd_i (inb_nI hk (by decide)), nm_eq, cl_nI (by omega), z, ca_s, s_E_push _ g1 (by omega), ca_s, ca_s, ca_s]
    · rw [show nI (mop 40) = (4 : Int32) from rfl, h6 (by rw [ho]; rfl)]
      unfold f_M_does f_M_place
      have z : (st (st μ 138 0 (nI (a + 1))) 147 0 (nI q)) 23 (arg a * 8 + i) = μ 23 (arg a * 8 + i) := by simp [st]
      rw [nm_eq, if_neg (by decide), if_neg (by decide), if_neg (by decide), if_neg (by decide), if_pos rfl, jn_eq, if_pos rfl]
      try dsimp only
      rw [s_M_pop h2 (by omega), ca2_s, st_ne (μ := μ) (by decide), ← hx, jn_eq, hp, if_neg f0, if_pos f7, if_pos rfl, e2, gd_i (inb_nI hk (by decide)), nm_eq, cl_nI (by omega), z, ← hv, s_M_push _ g2 (by omega), ca_s, ca_s]
theorem go_41 (hW : WF op arg L e dep) (hC : CORE op arg L e ν μ B S 1 rn) (hF : FR ν μ L dep rn a tp fl ra) (ho : op a = 41) (hb : arg a < 4) (hd1 : dep a = 2) (hd : dep (a + 1) = 0) (ha : a + 1 < L) : GO op arg L e dep N ν μ B S rn a ra 41 := by
  obtain ⟨h1, h2, h3, h4, h5, h6⟩ := at_1 hW hC hF
  obtain ⟨q, rfl⟩ : ∃ q, tp = q + 1 + 1 := ⟨tp - 2, by omega⟩
  have hx : ν 22 (q + 1) = μ 29 (q + 1) := h5 (q + 1) (by omega)
  have hy : ν 22 q = μ 29 q := h5 q (by omega)
  have hr := hC.2.2.2.2.2.1
  have hSS := hC.2.2.2.2.2.2.2.1
  have k1 : (st (st ν 233 0 (nI (a + 1))) 232 0 (nI (q + 1))) 232 0 = nI (q + 1) := st_at _ _ _ _
  have k2 : (st (st μ 138 0 (nI (a + 1))) 147 0 (nI (q + 1))) 147 0 = nI (q + 1) := st_at _ _ _ _
  have z1 : (st (st ν 233 0 (nI (a + 1))) 232 0 (nI (q + 1))) 22 q = ν 22 q := by rw [st_ne (by decide), st_ne (by decide)]
  have z2 : (st (st μ 138 0 (nI (a + 1))) 147 0 (nI (q + 1))) 29 q = μ 29 q := by rw [st_ne (by decide), st_ne (by decide)]
  have z3 : (st ν 233 0 (nI (a + 1))) 22 (q + 1) = ν 22 (q + 1) := by rw [st_ne (by decide)]
  have z4 : (st μ 138 0 (nI (a + 1))) 29 (q + 1) = μ 29 (q + 1) := by rw [st_ne (by decide)]
  rcases pk_ix (ν 22 q) (n := 8) (by decide) with hp | hp | ⟨i, hi, hp⟩
  · refine ⟨st (st (st (st ν 233 0 (nI (a + 1))) 232 0 (nI (q + 1))) 232 0 (nI q)) 228 0 5, st (st (st (st μ 138 0 (nI (a + 1))) 147 0 (nI (q + 1))) 147 0 (nI q)) 137 0 5, ?_, ?_, out_end (sv := 5) hC hF ⟨by omega, by omega⟩ (fun k _ h2 h3 h4 => by simp [st, h2, h3, h4]) (fun k _ h2 h3 h4 => by simp [st, h2, h3, h4]) (by simp [st]; exact h5) ⟨st_at _ _ _ _, st_at _ _ _ _⟩ _⟩
    · rw [A_var N 41 _ _ (by omega), show nI 41 = (41 : Int32) from rfl]
      unfold f_E_actOnVariable f_E_setPlace
      rw [if_neg (by decide), if_neg (by decide), if_neg (by decide), if_neg (by decide), if_neg (by decide), if_pos rfl, s_E_pop h1 (by omega), ca2_s, s_E_pop k1 (by omega), ca2_s, z1, z3, nm_eq, jn_eq, if_pos hp, nm_eq, ca_s, ca_s]
    · rw [show nI (mop 41) = (11 : Int32) from rfl, h6 (by rw [ho]; rfl)]
      unfold f_M_does f_M_place
      rw [nm_eq, if_neg (by decide), if_neg (by decide), if_neg (by decide), if_neg (by decide), if_neg (by decide), if_neg (by decide), if_neg (by decide), if_neg (by decide), if_neg (by decide), if_neg (by decide), if_pos rfl, jn_eq, if_neg (by decide), s_M_pop h2 (by omega), ca2_s]
      try dsimp only
      rw [s_M_pop k2 (by omega), ca2_s, z2, z4, ← hy, jn_eq, if_pos hp, nm_eq, ca_s]
  · obtain ⟨p0, p8, p7⟩ := big8 hp
    refine ⟨st (st (st (st ν 233 0 (nI (a + 1))) 232 0 (nI (q + 1))) 232 0 (nI q)) 228 0 5, st (st (st (st μ 138 0 (nI (a + 1))) 147 0 (nI (q + 1))) 147 0 (nI q)) 137 0 5, ?_, ?_, out_end (sv := 5) hC hF ⟨by omega, by omega⟩ (fun k _ h2 h3 h4 => by simp [st, h2, h3, h4]) (fun k _ h2 h3 h4 => by simp [st, h2, h3, h4]) (by simp [st]; exact h5) ⟨st_at _ _ _ _, st_at _ _ _ _⟩ _⟩
    · rw [A_var N 41 _ _ (by omega), show nI 41 = (41 : Int32) from rfl]
      unfold f_E_actOnVariable f_E_setPlace
      rw [if_neg (by decide), if_neg (by decide), if_neg (by decide), if_neg (by decide), if_neg (by decide), if_pos rfl, s_E_pop h1 (by omega), ca2_s, s_E_pop k1 (by omega), ca2_s, z1, z3, nm_eq, jn_eq, if_neg p0, if_neg p8, nm_eq, ca_s, ca_s]
    · rw [show nI (mop 41) = (11 : Int32) from rfl, h6 (by rw [ho]; rfl)]
      unfold f_M_does f_M_place
      rw [nm_eq, if_neg (by decide), if_neg (by decide), if_neg (by decide), if_neg (by decide), if_neg (by decide), if_neg (by decide), if_neg (by decide), if_neg (by decide), if_neg (by decide), if_neg (by decide), if_pos rfl, jn_eq, if_neg (by decide), s_M_pop h2 (by omega), ca2_s]
      try dsimp only
      rw [s_M_pop k2 (by omega), ca2_s, z2, z4, ← hy, jn_eq, if_neg p0, if_neg p7, nm_eq, ca_s]
  · have f0 : ¬ nI i < 0 := nI_pos (by omega)
    have f8 : nI i < 8 := nI_lt (b := 8) hi (by decide)
    have f7 : nI i ≤ 7 := nI_le (b := 7) (by omega) (by decide)
    have hk : arg a * 8 + i < 32 := by omega
    have e1 : nI (arg a) * 8 + nI i = nI (arg a * 8 + i) := by rw [show (8 : Int32) = nI 8 from rfl, pk_mul, nI_add]
    have e2 : 8 * nI (arg a) + nI i = nI (arg a * 8 + i) := by rw [show (8 : Int32) = nI 8 from rfl, pk_mul, nI_add, Nat.mul_comm]
    refine ⟨(st (st (st (st ν 233 0 (nI (a + 1))) 232 0 (nI (q + 1))) 232 0 (nI q)) 19 (arg a * 8 + i) (ν 22 (q + 1))), (st (st (st (st μ 138 0 (nI (a + 1))) 147 0 (nI (q + 1))) 147 0 (nI q)) 23 (arg a * 8 + i) (ν 22 (q + 1))), ?_, ?_, out_simple (ν' := (st (st (st (st ν 233 0 (nI (a + 1))) 232 0 (nI (q + 1))) 232 0 (nI q)) 19 (arg a * 8 + i) (ν 22 (q + 1)))) (μ' := (st (st (st (st μ 138 0 (nI (a + 1))) 147 0 (nI (q + 1))) 147 0 (nI q)) 23 (arg a * 8 + i) (ν 22 (q + 1)))) (a' := a + 1) (tp' := q) (S' := S) hC hF (fun k h22 h232 h233 h18 h19 h20 h23 h230 => by simp [st, h232, h233, h19]) (fun k h29 h147 h138 h22 h23 h26 h25 h139 => by simp [st, h147, h138, h23]) ⟨by simp [st]; exact hr.1, by simp [st]; exact rowEq_upd hr.2.1 rfl, by simp [st]; exact hr.2.2.1, by simp [st]; exact hr.2.2.2.1, by simp [st]; exact hr.2.2.2.2⟩ ⟨by simp [st, hSS], by simp [st, hSS]⟩ (by omega) ⟨by simp [st, upd], by simp [st, upd]⟩ ⟨by simp [st, upd], by simp [st, upd]⟩ ha (by omega) (loc_next (by omega) (by omega) ha)⟩
    · rw [A_var N 41 _ _ (by omega), show nI 41 = (41 : Int32) from rfl]
      unfold f_E_actOnVariable f_E_setPlace
      rw [if_neg (by decide), if_neg (by decide), if_neg (by decide), if_neg (by decide), if_neg (by decide), if_pos rfl, s_E_pop h1 (by omega), ca2_s, s_E_pop k1 (by omega), ca2_s, z1, z3, hp, nm_eq, e1, jn_eq, if_neg f0, if_pos f8, if_neg (nI_pos (by omega)), if_neg (show ¬ (32 : Int32) ≤ nI (arg a * 8 + i) from nI_ge (b := 32) hk (by decide)), gd_i (inb_nI hk (by decide)), nm_eq, cl_nI (by omega), ca_s, ca_s]
    · rw [show nI (mop 41) = (11 : Int32) from rfl, h6 (by rw [ho]; rfl)]
      unfold f_M_does f_M_place
      rw [nm_eq, if_neg (by decide), if_neg (by decide), if_neg (by decide), if_neg (by decide), if_neg (by decide), if_neg (by decide), if_neg (by decide), if_neg (by decide), if_neg (by decide), if_neg (by decide), if_pos rfl, jn_eq, if_neg (by decide), s_M_pop h2 (by omega), ca2_s]
      try dsimp only
      rw [s_M_pop k2 (by omega), ca2_s, z2, z4, ← hy, ← hx, jn_eq, hp, if_neg f0, if_pos f7, if_neg (by decide), e2, gd_i (inb_nI hk (by decide)), nm_eq, cl_nI (by omega), ca_s]
end OPS3
