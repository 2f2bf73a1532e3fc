/-! the steps that store, show, jump -/
section OPS2
variable {op arg : Nat → Nat} {L : Nat} {e : Nat → Option (Nat × Nat)} {dep : Nat → Nat} {N : Nat} {ν μ : St} {B S rn a tp : Nat} {fl ra : Nat → Nat}
theorem go_43 (hW : WF op arg L e dep) (hC : CORE op arg L e ν μ B S 1 rn) (hF : FR ν μ L dep rn a tp fl ra) (ho : op a = 43) (hd1 : dep a = 1) (hd : dep (a + 1) = 0) (ha : a + 1 < L) : GO op arg L e dep N ν μ B S rn a ra 43 := by
  obtain ⟨h1, h2, h3, h4, h5, h6⟩ := at_1 hW hC hF
  obtain ⟨q, rfl⟩ : ∃ q, tp = q + 1 := ⟨tp - 1, by omega⟩
  have hx : ν 22 q = μ 29 q := h5 q (by omega)
  have hr := hC.2.2.2.2.2.1
  have hSS := hC.2.2.2.2.2.2.2.1
  refine ⟨(st (st ν 233 0 (nI (a + 1))) 232 0 (nI q)), (st (st μ 138 0 (nI (a + 1))) 147 0 (nI q)), ?_, ?_, out_simple (ν' := (st (st ν 233 0 (nI (a + 1))) 232 0 (nI q))) (μ' := (st (st μ 138 0 (nI (a + 1))) 147 0 (nI q))) (a' := a + 1) (tp' := q) (S' := S) hC hF (fun k h22 h232 h233 h18 h19 h20 h23 h230 => by simp [st, h22, h232, h233, h18, h19, h20, h23, h230]) (fun k h29 h147 h138 h22 h23 h26 h25 h139 => by simp [st, h29, h147, h138, h22, h23, h26, h25, h139]) ⟨by simp [st]; exact hr.1, by simp [st]; exact hr.2.1, by simp [st]; exact hr.2.2.1, by simp [st]; exact hr.2.2.2.1, by simp [st]; exact hr.2.2.2.2⟩ ⟨by simp [st, upd, hSS], by simp [st, upd, hSS]⟩ (by omega) ⟨by simp [st, upd], by simp [st, upd]⟩ ⟨by simp [st, upd], by simp [st, upd]⟩ ha (by omega) (loc_next (by omega) (by omega) ha)⟩
  · rw [show nI 43 = (43 : Int32) from rfl]
    unfold f_E_act
    rw [if_neg (by decide), if_neg (by decide), if_neg (by decide), if_neg (by decide), if_neg (by decide), if_neg (by decide), if_neg (by decide), if_pos rfl, s_E_pop h1 (by omega), ca2_s]
  · rw [show nI (mop 43) = (12 : Int32) from rfl]
    unfold f_M_does
    rw [nm_eq, if_neg (by decide), if_neg (by decide), if_neg (by decide), if_neg (by decide), if_neg (by decide), if_neg (by decide), if_neg (by decide), if_neg (by decide), if_neg (by decide), if_neg (by decide), if_neg (by decide), if_pos rfl, s_M_pop h2 (by omega), ca2_s]
theorem go_44 (hW : WF op arg L e dep) (hC : CORE op arg L e ν μ B S 1 rn) (hF : FR ν μ L dep rn a tp fl ra) (hSb : S < 2 ^ 30) (ho : op a = 44) (hd1 : dep a = 1) (hd : dep (a + 1) = 0) (ha : a + 1 < L) : GO op arg L e dep N ν μ B S rn a ra 44 := by
  obtain ⟨h1, h2, h3, h4, h5, h6⟩ := at_1 hW hC hF
  obtain ⟨q, rfl⟩ : ∃ q, tp = q + 1 := ⟨tp - 1, by omega⟩
  have hx : ν 22 q = μ 29 q := h5 q (by omega)
  have hr := hC.2.2.2.2.2.1
  have hSS := hC.2.2.2.2.2.2.2.1
  have hi : S % 32 < 32 := Nat.mod_lt _ (by decide)
  have e1 : nI S &&& 31 = nI (S % 32) := pk_andN (by omega) 5 rfl
  have e2 : nI S - nI S / 32 * 32 = nI (S % 32) := pk_rem (d := 32) (by omega) (by decide) (by decide)
  refine ⟨(st (st (st (st ν 233 0 (nI (a + 1))) 232 0 (nI q)) 23 (S % 32) (ν 22 q)) 230 0 (nI (S + 1))), (st (st (st (st μ 138 0 (nI (a + 1))) 147 0 (nI q)) 25 (S % 32) (ν 22 q)) 139 0 (nI (S + 1))), ?_, ?_, out_simple (ν' := (st (st (st (st ν 233 0 (nI (a + 1))) 232 0 (nI q)) 23 (S % 32) (ν 22 q)) 230 0 (nI (S + 1)))) (μ' := (st (st (st (st μ 138 0 (nI (a + 1))) 147 0 (nI q)) 25 (S % 32) (ν 22 q)) 139 0 (nI (S + 1)))) (a' := a + 1) (tp' := q) (S' := S + 1) hC hF (fun k h22 h232 h233 h18 h19 h20 h23 h230 => by simp [st, h22, h232, h233, h18, h19, h20, h23, h230]) (fun k h29 h147 h138 h22 h23 h26 h25 h139 => by simp [st, h29, h147, h138, h22, h23, h26, h25, h139]) ⟨by simp [st]; exact hr.1, by simp [st]; exact hr.2.1, by simp [st]; exact rowEq_upd hr.2.2.1 rfl, by simp [st]; exact hr.2.2.2.1, by simp [st]; exact hr.2.2.2.2⟩ ⟨by simp [st, upd, hSS], by simp [st, upd, hSS]⟩ (by omega) ⟨by simp [st, upd], by simp [st, upd]⟩ ⟨by simp [st, upd], by simp [st, upd]⟩ ha (by omega) (loc_next (by omega) (by omega) ha)⟩
  · rw [show nI 44 = (44 : Int32) from rfl]
    unfold f_E_act f_E_show
    have z : (st (st ν 233 0 (nI (a + 1))) 232 0 (nI q)) 230 0 = nI S := by simp [st, hSS.1]
    have z2 : (st (st (st ν 233 0 (nI (a + 1))) 232 0 (nI q)) 23 (S % 32) (ν 22 q)) 230 0 = nI S := by simp [st, hSS.1]
    rw [if_neg (by decide), if_neg (by decide), if_neg (by decide), if_neg (by decide), if_neg (by decide), if_neg (by decide), if_neg (by decide), if_neg (by decide), if_pos rfl, s_E_pop h1 (by omega), ca2_s, z, e1, gd_i (inb_nI hi (by decide)), nm_eq, cl_nI (by omega), st_ne (μ := ν) (by decide), z2, nm_eq, nI_1, ca_s]
  · rw [show nI (mop 44) = (16 : Int32) from rfl]
    unfold f_M_does f_M_prints
    have z : (st μ 138 0 (nI (a + 1))) 139 0 = nI S := by simp [st, hSS.2]
    have z2 : (st (st (st μ 138 0 (nI (a + 1))) 147 0 (nI q)) 25 (S % 32) (ν 22 q)) 139 0 = nI S := by simp [st, hSS.2]
    rw [nm_eq, if_neg (by decide), if_neg (by decide), if_neg (by decide), if_neg (by decide), if_neg (by decide), if_neg (by decide), if_neg (by decide), if_neg (by decide), if_neg (by decide), if_neg (by decide), if_neg (by decide), if_neg (by decide), if_neg (by decide), if_neg (by decide), if_neg (by decide), if_pos rfl, gd_i (by decide), s_M_pop h2 (by omega), ca2_s, z, e2, gd_i (inb_nI hi (by decide)), nm_eq, cl_nI (by omega), st_ne (μ := μ) (by decide), ← hx, z2, nm_eq, nI_1, ca_s]
theorem go_45 (hW : WF op arg L e dep) (hC : CORE op arg L e ν μ B S 1 rn) (hF : FR ν μ L dep rn a tp fl ra) (ho : op a = 45) (hd1 : dep a = 0) (ht : arg a < L) (hd : dep (arg a) = 0) (hj : a < arg a ∨ op (arg a) = 32) : GO op arg L e dep N ν μ B S rn a ra 45 := by
  obtain ⟨h1, h2, h3, h4, h5, h6⟩ := at_1 hW hC hF
  have hr := hC.2.2.2.2.2.1
  have hSS := hC.2.2.2.2.2.2.2.1
  have hF1 := hF.2.2.2.2.2.2.2.1
  have hF2 := hF.2.2.2.2.2.2.2.2.1
  have haL := hF.2.2.2.2.2.2.1
  refine ⟨(st (st ν 233 0 (nI (a + 1))) 233 0 (nI (arg a))), (st (st μ 138 0 (nI (a + 1))) 138 0 (nI (arg a))), ?_, ?_, out_simple (ν' := (st (st ν 233 0 (nI (a + 1))) 233 0 (nI (arg a)))) (μ' := (st (st μ 138 0 (nI (a + 1))) 138 0 (nI (arg a)))) (a' := arg a) (tp' := tp) (S' := S) hC hF (fun k h22 h232 h233 h18 h19 h20 h23 h230 => by simp [st, h22, h232, h233, h18, h19, h20, h23, h230]) (fun k h29 h147 h138 h22 h23 h26 h25 h139 => by simp [st, h29, h147, h138, h22, h23, h26, h25, h139]) ⟨by simp [st]; exact hr.1, by simp [st]; exact hr.2.1, by simp [st]; exact hr.2.2.1, by simp [st]; exact hr.2.2.2.1, by simp [st]; exact hr.2.2.2.2⟩ ⟨by simp [st, upd, hSS], by simp [st, upd, hSS]⟩ (by omega) ⟨by simp [st, hF1], by simp [st, hF2]⟩ ⟨by simp [st, upd], by simp [st, upd]⟩ ht (by omega) (hj.elim (fun hj => loc_fwd (by omega) (by omega) (by omega) hj ht) (fun hj => loc_back (by omega) (by omega) (by omega) haL hj))⟩
  · rw [show nI 45 = (45 : Int32) from rfl, A_45]
  · rw [show nI (mop 45) = (14 : Int32) from rfl, h6 (by rw [ho]; rfl)]
    unfold f_M_does
    rw [nm_eq, if_neg (by decide), if_neg (by decide), if_neg (by decide), if_neg (by decide), if_neg (by decide), if_neg (by decide), if_neg (by decide), if_neg (by decide), if_neg (by decide), if_neg (by decide), if_neg (by decide), if_neg (by decide), if_neg (by decide), if_pos rfl, nm_eq]
theorem go_46 (hW : WF op arg L e dep) (hC : CORE op arg L e ν μ B S 1 rn) (hF : FR ν μ L dep rn a tp fl ra) (ho : op a = 46) (hd1 : dep a = 1) (hd : dep (a + 1) = 0) (ha : a + 1 < L) (hj : a < arg a) (ht : arg a < L) (hd2 : dep (arg a) = 0) : GO op arg L e dep N ν μ B S rn a ra 46 := by
  obtain ⟨h1, h2, h3, h4, h5, h6⟩ := at_1 hW hC hF
  obtain ⟨q, rfl⟩ : ∃ q, tp = q + 1 := ⟨tp - 1, by omega⟩
  have hx : ν 22 q = μ 29 q := h5 q (by omega)
  have hr := hC.2.2.2.2.2.1
  have hSS := hC.2.2.2.2.2.2.2.1
  by_cases hz : ν 22 q = 0
  · refine ⟨(st (st (st ν 233 0 (nI (a + 1))) 232 0 (nI q)) 233 0 (nI (arg a))), (st (st (st μ 138 0 (nI (a + 1))) 147 0 (nI q)) 138 0 (nI (arg a))), ?_, ?_, out_simple (ν' := (st (st (st ν 233 0 (nI (a + 1))) 232 0 (nI q)) 233 0 (nI (arg a)))) (μ' := (st (st (st μ 138 0 (nI (a + 1))) 147 0 (nI q)) 138 0 (nI (arg a)))) (a' := arg a) (tp' := q) (S' := S) hC hF (fun k h22 h232 h233 h18 h19 h20 h23 h230 => by simp [st, h22, h232, h233, h18, h19, h20, h23, h230]) (fun k h29 h147 h138 h22 h23 h26 h25 h139 => by simp [st, h29, h147, h138, h22, h23, h26, h25, h139]) ⟨by simp [st]; exact hr.1, by simp [st]; exact hr.2.1, by simp [st]; exact hr.2.2.1, by simp [st]; exact hr.2.2.2.1, by simp [st]; exact hr.2.2.2.2⟩ ⟨by simp [st, upd, hSS], by simp [st, upd, hSS]⟩ (by omega) ⟨by simp [st, upd], by simp [st, upd]⟩ ⟨by simp [st, upd], by simp [st, upd]⟩ ht (by omega) (loc_fwd (by omega) (by omega) (by omega) hj ht)⟩
    · rw [show nI 46 = (46 : Int32) from rfl]
      unfold f_E_act
      rw [if_neg (by decide), if_neg (by decide), if_neg (by decide), if_neg (by decide), if_neg (by decide), if_neg (by decide), if_neg (by decide), if_neg (by decide), if_neg (by decide), if_neg (by decide), if_pos rfl, s_E_pop h1 (by omega), ca2_s, if_pos (by rw [st_ne (by decide)]; exact hz), nm_eq]
    · rw [show nI (mop 46) = (13 : Int32) from rfl, h6 (by rw [ho]; rfl)]
      unfold f_M_does
      rw [nm_eq, if_neg (by decide), if_neg (by decide), if_neg (by decide), if_neg (by decide), if_neg (by decide), if_neg (by decide), if_neg (by decide), if_neg (by decide), if_neg (by decide), if_neg (by decide), if_neg (by decide), if_neg (by decide), if_pos rfl, s_M_pop h2 (by omega), ca2_s, jn_eq, if_pos (by rw [st_ne (by decide), ← hx]; exact hz)]
      rfl
  · refine ⟨(st (st ν 233 0 (nI (a + 1))) 232 0 (nI q)), (st (st (st μ 138 0 (nI (a + 1))) 147 0 (nI q)) 138 0 (nI (a + 1))), ?_, ?_, out_simple (ν' := (st (st ν 233 0 (nI (a + 1))) 232 0 (nI q))) (μ' := (st (st (st μ 138 0 (nI (a + 1))) 147 0 (nI q)) 138 0 (nI (a + 1)))) (a' := a + 1) (tp' := q) (S' := S) hC hF (fun k h22 h232 h233 h18 h19 h20 h23 h230 => by simp [st, h22, h232, h233, h18, h19, h20, h23, h230]) (fun k h29 h147 h138 h22 h23 h26 h25 h139 => by simp [st, h29, h147, h138, h22, h23, h26, h25, h139]) ⟨by simp [st]; exact hr.1, by simp [st]; exact hr.2.1, by simp [st]; exact hr.2.2.1, by simp [st]; exact hr.2.2.2.1, by simp [st]; exact hr.2.2.2.2⟩ ⟨by simp [st, upd, hSS], by simp [st, upd, hSS]⟩ (by omega) ⟨by simp [st, upd], by simp [st, upd]⟩ ⟨by simp [st, upd], by simp [st, upd]⟩ ha (by omega) (loc_next (by omega) (by omega) ha)⟩
    · rw [show nI 46 = (46 : Int32) from rfl]
      unfold f_E_act
      rw [if_neg (by decide), if_neg (by decide), if_neg (by decide), if_neg (by decide), if_neg (by decide), if_neg (by decide), if_neg (by decide), if_neg (by decide), if_neg (by decide), if_neg (by decide), if_pos rfl, s_E_pop h1 (by omega), ca2_s, if_neg (by rw [st_ne (by decide)]; exact hz)]
    · rw [show nI (mop 46) = (13 : Int32) from rfl, h6 (by rw [ho]; rfl)]
      unfold f_M_does
      rw [nm_eq, if_neg (by decide), if_neg (by decide), if_neg (by decide), if_neg (by decide), if_neg (by decide), if_neg (by decide), if_neg (by decide), if_neg (by decide), if_neg (by decide), if_neg (by decide), if_neg (by decide), if_neg (by decide), if_pos rfl, s_M_pop h2 (by omega), ca2_s, jn_eq, if_neg (by rw [st_ne (by decide), ← hx]; exact hz)]
      try dsimp only
      rw [nm_eq, st_ne (μ := st μ 138 0 (nI (a + 1))) (by decide), st_at]
theorem go_37 (hW : WF op arg L e dep) (hC : CORE op arg L e ν μ B S 1 rn) (hF : FR ν μ L dep rn a tp fl ra) (ho : op a = 37) (hb : arg a < 8) (hd1 : dep a = 1) (hd : dep (a + 1) = 0) (ha : a + 1 < L) : GO op arg L e dep N ν μ B S rn a ra 37 := by
  obtain ⟨h1, h2, h3, h4, h5, h6⟩ := at_1 hW hC hF
  obtain ⟨q, rfl⟩ : ∃ q, tp = q + 1 := ⟨tp - 1, by omega⟩
  have hx : ν 22 q = μ 29 q := h5 q (by omega)
  have hr := hC.2.2.2.2.2.1
  have hSS := hC.2.2.2.2.2.2.2.1
  refine ⟨(st (st (st ν 233 0 (nI (a + 1))) 232 0 (nI q)) 18 (arg a) (ν 22 q)), (st (st (st μ 138 0 (nI (a + 1))) 147 0 (nI q)) 22 (arg a) (ν 22 q)), ?_, ?_, out_simple (ν' := (st (st (st ν 233 0 (nI (a + 1))) 232 0 (nI q)) 18 (arg a) (ν 22 q))) (μ' := (st (st (st μ 138 0 (nI (a + 1))) 147 0 (nI q)) 22 (arg a) (ν 22 q))) (a' := a + 1) (tp' := q) (S' := S) hC hF (fun k h22 h232 h233 h18 h19 h20 h23 h230 => by simp [st, h22, h232, h233, h18, h19, h20, h23, h230]) (fun k h29 h147 h138 h22 h23 h26 h25 h139 => by simp [st, h29, h147, h138, h22, h23, h26, h25, h139]) ⟨by simp [st]; exact rowEq_upd hr.1 rfl, by simp [st]; exact hr.2.1, by simp [st]; exact hr.2.2.1, by simp [st]; exact hr.2.2.2.1, by simp [st]; exact hr.2.2.2.2⟩ ⟨by simp [st, upd, hSS], by simp [st, upd, hSS]⟩ (by omega) ⟨by simp [st, upd], by simp [st, upd]⟩ ⟨by simp [st, upd], by simp [st, upd]⟩ ha (by omega) (loc_next (by omega) (by omega) ha)⟩
  · rw [A_var N 37 _ _ (by omega), show nI 37 = (37 : Int32) from rfl]
    unfold f_E_actOnVariable f_E_setGlobal
    rw [if_neg (by decide), if_pos rfl, s_E_pop h1 (by omega), ca2_s, if_neg (nI_pos (by omega)), if_neg (show ¬ (8 : Int32) ≤ nI (arg a) from nI_ge (b := 8) hb (by decide)), gd_i (inb_nI hb (by decide)), nm_eq, cl_nI (by omega), st_ne (μ := ν) (by decide), ca_s, ca_s]
  · rw [show nI (mop 37) = (9 : Int32) from rfl, h6 (by rw [ho]; rfl)]
    unfold f_M_does
    rw [nm_eq, if_neg (by decide), if_neg (by decide), if_neg (by decide), if_neg (by decide), if_neg (by decide), if_neg (by decide), if_neg (by decide), if_neg (by decide), if_pos rfl, s_M_pop h2 (by omega), ca2_s, gd_i (inb_nI hb (by decide)), nm_eq, cl_nI (by omega), st_ne (μ := μ) (by decide), ← hx]
theorem go_39 (hW : WF op arg L e dep) (hC : CORE op arg L e ν μ B S 1 rn) (hF : FR ν μ L dep rn a tp fl ra) (ho : op a = 39) (hb : arg a < 8) (hd1 : dep a = 1) (hd : dep (a + 1) = 0) (ha : a + 1 < L) : GO op arg L e dep N ν μ B S rn a ra 39 := by
  obtain ⟨h1, h2, h3, h4, h5, h6⟩ := at_1 hW hC hF
  obtain ⟨q, rfl⟩ : ∃ q, tp = q + 1 := ⟨tp - 1, by omega⟩
  have hx : ν 22 q = μ 29 q := h5 q (by omega)
  have hr := hC.2.2.2.2.2.1
  have hSS := hC.2.2.2.2.2.2.2.1
  have hrn := hF.2.2.1
  have hrn2 := hF.2.2.2.1
  have hi : 8 * (rn - 1) + arg a < 80 := by omega
  have e1 : (nI rn - 1) * 8 + nI (arg a) = nI (8 * (rn - 1) + arg a) := by rw [show (1 : Int32) = nI 1 from rfl, pk_sub hrn, show (8 : Int32) = nI 8 from rfl, pk_mul, nI_add, Nat.mul_comm]
  have e2 : 8 * (nI rn - 1) + nI (arg a) = nI (8 * (rn - 1) + arg a) := by rw [show (1 : Int32) = nI 1 from rfl, pk_sub hrn, show (8 : Int32) = nI 8 from rfl, pk_mul, nI_add]
  refine ⟨(st (st (st ν 233 0 (nI (a + 1))) 232 0 (nI q)) 20 (8 * (rn - 1) + arg a) (ν 22 q)), (st (st (st μ 138 0 (nI (a + 1))) 147 0 (nI q)) 26 (8 * (rn - 1) + arg a) (ν 22 q)), ?_, ?_, out_simple (ν' := (st (st (st ν 233 0 (nI (a + 1))) 232 0 (nI q)) 20 (8 * (rn - 1) + arg a) (ν 22 q))) (μ' := (st (st (st μ 138 0 (nI (a + 1))) 147 0 (nI q)) 26 (8 * (rn - 1) + arg a) (ν 22 q))) (a' := a + 1) (tp' := q) (S' := S) hC hF (fun k h22 h232 h233 h18 h19 h20 h23 h230 => by simp [st, h22, h232, h233, h18, h19, h20, h23, h230]) (fun k h29 h147 h138 h22 h23 h26 h25 h139 => by simp [st, h29, h147, h138, h22, h23, h26, h25, h139]) ⟨by simp [st]; exact hr.1, by simp [st]; exact hr.2.1, by simp [st]; exact hr.2.2.1, by simp [st]; exact rowEq_upd hr.2.2.2.1 rfl, by simp [st]; exact hr.2.2.2.2⟩ ⟨by simp [st, upd, hSS], by simp [st, upd, hSS]⟩ (by omega) ⟨by simp [st, upd], by simp [st, upd]⟩ ⟨by simp [st, upd], by simp [st, upd]⟩ ha (by omega) (loc_next (by omega) (by omega) ha)⟩
  · rw [A_var N 39 _ _ (by omega), show nI 39 = (39 : Int32) from rfl]
    unfold f_E_actOnVariable f_E_setLocal
    have z : (st (st ν 233 0 (nI (a + 1))) 232 0 (nI q)) 231 0 = nI rn := by simp [st, hF.1]
    rw [if_neg (by decide), if_neg (by decide), if_neg (by decide), if_pos rfl, s_E_pop h1 (by omega), ca2_s, z, e1, nm_eq, if_neg (nI_pos (by omega)), if_neg (show ¬ (80 : Int32) ≤ nI (8 * (rn - 1) + arg a) from nI_ge (b := 80) hi (by decide)), gd_i (inb_nI hi (by decide)), nm_eq, cl_nI (by omega), st_ne (μ := ν) (by decide), ca_s, ca_s]
  · rw [show nI (mop 39) = (10 : Int32) from rfl, h6 (by rw [ho]; rfl)]
    unfold f_M_does
    rw [nm_eq, if_neg (by decide), if_neg (by decide), if_neg (by decide), if_neg (by decide), if_neg (by decide), if_neg (by decide), if_neg (by decide), if_neg (by decide), if_neg (by decide), if_pos rfl, s_M_pop h2 (by omega), ca2_s, st_ne (μ := μ) (by decide), st_ne (μ := μ) (by decide), hF.2.1, e2, gd_i (inb_nI hi (by decide)), nm_eq, cl_nI (by omega), ← hx]
end OPS2
