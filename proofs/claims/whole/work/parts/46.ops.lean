/-! the steps that stay in their function -/
section OPS
variable {op arg : Nat → Nat} {L : Nat} {e : Nat → Option (Nat × Nat)} {dep : Nat → Nat} {N : Nat} {ν μ : St} {B S rn a tp : Nat} {fl ra : Nat → Nat}
/-- one step of both machines from a place that holds the step o -/
def GO (op arg : Nat → Nat) (L : Nat) (e : Nat → Option (Nat × Nat)) (dep : Nat → Nat) (N : Nat) (ν μ : St) (B S rn a : Nat) (ra : Nat → Nat) (o : Nat) : Prop :=
  ∃ ν' μ', f_E_act N (nI o) (nI (arg a)) (st ν 233 0 (nI (a + 1))) = some ν' ∧ f_M_does N (nI (mop o)) (μ 5 a) (st μ 138 0 (nI (a + 1))) = some μ' ∧ OUT op arg L e dep ν' μ' B S (psi op L rn a ra)
theorem out_push {ν2 μ2 : St} {q : Nat} {v : Int32} (hC : CORE op arg L e ν μ B S 1 rn) (hF : FR ν μ L dep rn a tp fl ra) (hn2 : ∀ k, k ≠ 232 → k ≠ 233 → ν2 k = ν k) (hm2 : ∀ k, k ≠ 147 → k ≠ 138 → μ2 k = μ k) (hp : ν2 233 0 = nI (a + 1) ∧ μ2 138 0 = nI (a + 1)) (hq : q + 1 = fl (rn - 1) + dep (a + 1)) (ha : a + 1 < L) (ho : op a ≠ 32 ∧ op a ≠ 0) :
    OUT op arg L e dep (st (st ν2 22 q v) 232 0 (nI (q + 1))) (st (st μ2 29 q v) 147 0 (nI (q + 1))) B S (psi op L rn a ra) := by
  have hr := hC.2.2.2.2.2.1
  refine out_simple (a' := a + 1) (tp' := q + 1) (S' := S) hC hF ?_ ?_ ⟨?_, ?_, ?_, ?_, ?_⟩ ⟨?_, ?_⟩ (by omega) ⟨st_at _ _ _ _, st_at _ _ _ _⟩ ⟨?_, ?_⟩ ha hq (loc_next ho.1 ho.2 ha)
  · intro k h1 h2 h3 _ _ _ _ _
    rw [st_ne' h2, st_ne' h1, hn2 k h2 h3]
  · intro k h1 h2 h3 _ _ _ _ _
    rw [st_ne' h2, st_ne' h1, hm2 k h2 h3]
  · rw [st_ne' (by decide), st_ne' (by decide), hn2 18 (by decide) (by decide), st_ne' (by decide), st_ne' (by decide), hm2 22 (by decide) (by decide)]; exact hr.1
  · rw [st_ne' (by decide), st_ne' (by decide), hn2 19 (by decide) (by decide), st_ne' (by decide), st_ne' (by decide), hm2 23 (by decide) (by decide)]; exact hr.2.1
  · rw [st_ne' (by decide), st_ne' (by decide), hn2 23 (by decide) (by decide), st_ne' (by decide), st_ne' (by decide), hm2 25 (by decide) (by decide)]; exact hr.2.2.1
  · rw [st_ne' (by decide), st_ne' (by decide), hn2 20 (by decide) (by decide), st_ne' (by decide), st_ne' (by decide), hm2 26 (by decide) (by decide)]; exact hr.2.2.2.1
  · rw [st_ne' (by decide), st_row, hn2 22 (by decide) (by decide), st_ne' (by decide), st_row, hm2 29 (by decide) (by decide)]
    exact rowEq_upd hr.2.2.2.2 rfl
  · rw [st_ne (by decide), st_ne (by decide), hn2 230 (by decide) (by decide)]; exact hC.2.2.2.2.2.2.2.1.1
  · rw [st_ne (by decide), st_ne (by decide), hm2 139 (by decide) (by decide)]; exact hC.2.2.2.2.2.2.2.1.2
  · rw [st_ne (by decide), st_ne (by decide)]; exact hp.1
  · rw [st_ne (by decide), st_ne (by decide)]; exact hp.2
/-- what a step of a program needs to know of its place -/
theorem at_1 (hW : WF op arg L e dep) (hC : CORE op arg L e ν μ B S 1 rn) (hF : FR ν μ L dep rn a tp fl ra) : (st ν 233 0 (nI (a + 1))) 232 0 = nI tp ∧ (st μ 138 0 (nI (a + 1))) 147 0 = nI tp ∧ tp ≤ 300 ∧ tp = fl (rn - 1) + dep a ∧ rowEq (ν 22) (μ 29) 512 ∧ (uses (op a) = true → μ 5 a = nI (arg a)) := by
  refine ⟨by rw [st_ne (by decide)]; exact hF.2.2.2.2.2.2.2.1, by rw [st_ne (by decide)]; exact hF.2.2.2.2.2.2.2.2.1, tp_le hW.2.2.1 hF, hF.2.2.2.2.2.2.2.2.2.1, hC.2.2.2.2.2.1.2.2.2.2, fun h => (hC.2.2.2.1.1 a hF.2.2.2.2.2.2.1).2 h⟩
theorem go_33 (hW : WF op arg L e dep) (hC : CORE op arg L e ν μ B S 1 rn) (hF : FR ν μ L dep rn a tp fl ra) (ho : op a = 33) (hd : dep (a + 1) = dep a + 1) (ha : a + 1 < L) : GO op arg L e dep N ν μ B S rn a ra 33 := by
  obtain ⟨h1, h2, h3, h4, h5, h6⟩ := at_1 hW hC hF
  refine ⟨_, _, ?_, ?_, out_push (v := sx (nI (arg a))) (q := tp) (ν2 := st ν 233 0 (nI (a + 1))) (μ2 := st μ 138 0 (nI (a + 1))) hC hF (fun k _ h => st_ne' h) (fun k _ h => st_ne' h) ⟨st_at _ _ _ _, st_at _ _ _ _⟩ (by omega) ha (by omega)⟩
  · rw [show nI 33 = (33 : Int32) from rfl, A_33, s_E_push _ h1 (by omega), ca_s]
  · rw [h6 (by rw [ho]; rfl), show nI (mop 33) = (0 : Int32) from rfl]
    unfold f_M_does
    rw [nm_eq, if_pos rfl, s_M_push _ h2 (by omega), ca_s]
theorem go_36 (hW : WF op arg L e dep) (hC : CORE op arg L e ν μ B S 1 rn) (hF : FR ν μ L dep rn a tp fl ra) (ho : op a = 36) (hb : arg a < 8) (hd : dep (a + 1) = dep a + 1) (ha : a + 1 < L) : GO op arg L e dep N ν μ B S rn a ra 36 := by
  obtain ⟨h1, h2, h3, h4, h5, h6⟩ := at_1 hW hC hF
  have hv := hC.2.2.2.2.2.1.1 (arg a) hb
  refine ⟨_, _, ?_, ?_, out_push (v := sx (ν 18 (arg a))) (q := tp) (ν2 := st ν 233 0 (nI (a + 1))) (μ2 := st μ 138 0 (nI (a + 1))) hC hF (fun k _ h => st_ne' h) (fun k _ h => st_ne' h) ⟨st_at _ _ _ _, st_at _ _ _ _⟩ (by omega) ha (by omega)⟩
  · rw [A_var N 36 _ _ (by omega), show nI 36 = (36 : Int32) from rfl]
    unfold f_E_actOnVariable f_E_globalAt
    rw [if_pos rfl, jn_eq, if_neg (nI_pos (by omega)), if_neg (show ¬ (8 : Int32) ≤ nI (arg a) from nI_ge (b := 8) hb (by decide)), gd_i (inb_nI hb (by decide)), nm_eq, ca_s, cl_nI (by omega), st_ne (by decide)]
    try dsimp only
    rw [s_E_push _ h1 (by omega), ca_s, ca_s]
  · rw [h6 (by rw [ho]; rfl), show nI (mop 36) = (2 : Int32) from rfl]
    unfold f_M_does
    rw [nm_eq, if_neg (by decide), if_neg (by decide), if_pos rfl, gd_i (inb_nI hb (by decide)), nm_eq, cl_nI (by omega), st_ne (by decide), ← hv, s_M_push _ h2 (by omega), ca_s]
theorem go_38 (hW : WF op arg L e dep) (hC : CORE op arg L e ν μ B S 1 rn) (hF : FR ν μ L dep rn a tp fl ra) (ho : op a = 38) (hb : arg a < 8) (hd : dep (a + 1) = dep a + 1) (ha : a + 1 < L) : GO op arg L e dep N ν μ B S rn a ra 38 := by
  obtain ⟨h1, h2, h3, h4, h5, h6⟩ := at_1 hW hC hF
  have hrn := hF.2.2.1
  have hrn2 := hF.2.2.2.1
  have hi : 8 * (rn - 1) + arg a < 80 := by omega
  have hv := hC.2.2.2.2.2.1.2.2.2.1 (8 * (rn - 1) + arg a) hi
  have e1 : (nI rn - 1) * 8 + nI (arg a) = nI (8 * (rn - 1) + arg a) := by rw [show (1 : Int32) = nI 1 from rfl, pk_sub hrn, show (8 : Int32) = nI 8 from rfl, pk_mul, nI_add, Nat.mul_comm]
  have e2 : 8 * (nI rn - 1) + nI (arg a) = nI (8 * (rn - 1) + arg a) := by rw [show (1 : Int32) = nI 1 from rfl, pk_sub hrn, show (8 : Int32) = nI 8 from rfl, pk_mul, nI_add]
  refine ⟨_, _, ?_, ?_, out_push (v := sx (ν 20 (8 * (rn - 1) + arg a))) (q := tp) (ν2 := st ν 233 0 (nI (a + 1))) (μ2 := st μ 138 0 (nI (a + 1))) hC hF (fun k _ h => st_ne' h) (fun k _ h => st_ne' h) ⟨st_at _ _ _ _, st_at _ _ _ _⟩ (by omega) ha (by omega)⟩
  · rw [A_var N 38 _ _ (by omega), show nI 38 = (38 : Int32) from rfl]
    unfold f_E_actOnVariable f_E_localAt
    rw [if_neg (by decide), if_neg (by decide), if_pos rfl, nm_eq, st_ne (by decide), hF.1, e1, jn_eq, if_neg (nI_pos (by omega)), if_neg (show ¬ (80 : Int32) ≤ nI (8 * (rn - 1) + arg a) from nI_ge (b := 80) hi (by decide)), gd_i (inb_nI hi (by decide)), nm_eq, ca_s, cl_nI (by omega), st_ne (by decide)]
    try dsimp only
    rw [s_E_push _ h1 (by omega), ca_s, ca_s]
  · rw [h6 (by rw [ho]; rfl), show nI (mop 38) = (3 : Int32) from rfl]
    unfold f_M_does
    rw [nm_eq, if_neg (by decide), if_neg (by decide), if_neg (by decide), if_pos rfl, st_ne (by decide), hF.2.1, e2, gd_i (inb_nI hi (by decide)), nm_eq, cl_nI (by omega), st_ne (by decide), ← hv, s_M_push _ h2 (by omega), ca_s]
theorem go_35 (hW : WF op arg L e dep) (hC : CORE op arg L e ν μ B S 1 rn) (hF : FR ν μ L dep rn a tp fl ra) (ho : op a = 35) (hd1 : 1 ≤ dep a) (hd : dep (a + 1) = dep a) (ha : a + 1 < L) : GO op arg L e dep N ν μ B S rn a ra 35 := by
  obtain ⟨h1, h2, h3, h4, h5, h6⟩ := at_1 hW hC hF
  obtain ⟨q, rfl⟩ : ∃ q, tp = q + 1 := ⟨tp - 1, by omega⟩
  have hx : ν 22 q = μ 29 q := h5 q (by omega)
  have g1 : (st (st ν 233 0 (nI (a + 1))) 232 0 (nI q)) 232 0 = nI q := st_at _ _ _ _
  have g2 : (st (st μ 138 0 (nI (a + 1))) 147 0 (nI q)) 147 0 = nI q := st_at _ _ _ _
  refine ⟨_, _, ?_, ?_, out_push (v := sx (-(ν 22 q))) (q := q) (ν2 := st (st ν 233 0 (nI (a + 1))) 232 0 (nI q)) (μ2 := st (st μ 138 0 (nI (a + 1))) 147 0 (nI q)) hC hF (fun k h h' => by rw [st_ne' h, st_ne' h']) (fun k h h' => by rw [st_ne' h, st_ne' h']) ⟨by rw [st_ne (by decide), st_at], by rw [st_ne (by decide), st_at]⟩ (by omega) ha (by omega)⟩
  · rw [show nI 35 = (35 : Int32) from rfl]
    unfold f_E_act
    rw [if_neg (by decide), if_neg (by decide), if_neg (by decide), if_neg (by decide), if_neg (by decide), if_pos rfl, s_E_pop h1 (by omega), ca2_s, st_ne (by decide), s_E_push _ g1 (by omega), ca_s]
  · rw [show nI (mop 35) = (5 : Int32) from rfl]
    unfold f_M_does
    rw [nm_eq, if_neg (by decide), if_neg (by decide), if_neg (by decide), if_neg (by decide), if_neg (by decide), if_pos rfl, s_M_pop h2 (by omega), ca2_s, st_ne (by decide), ← hx, s_M_push _ g2 (by omega), ca_s]
theorem go_20 (hW : WF op arg L e dep) (hC : CORE op arg L e ν μ B S 1 rn) (hF : FR ν μ L dep rn a tp fl ra) (ho : op a = 20) (hd1 : 1 ≤ dep a) (hd : dep (a + 1) = dep a) (ha : a + 1 < L) : GO op arg L e dep N ν μ B S rn a ra 20 := by
  obtain ⟨h1, h2, h3, h4, h5, h6⟩ := at_1 hW hC hF
  obtain ⟨q, rfl⟩ : ∃ q, tp = q + 1 := ⟨tp - 1, by omega⟩
  have hx : ν 22 q = μ 29 q := h5 q (by omega)
  have g1 : (st (st ν 233 0 (nI (a + 1))) 232 0 (nI q)) 232 0 = nI q := st_at _ _ _ _
  have g2 : (st (st μ 138 0 (nI (a + 1))) 147 0 (nI q)) 147 0 = nI q := st_at _ _ _ _
  refine ⟨_, _, ?_, ?_, out_push (v := sx (if ν 22 q = 0 then 1 else 0)) (q := q) (ν2 := st (st ν 233 0 (nI (a + 1))) 232 0 (nI q)) (μ2 := st (st μ 138 0 (nI (a + 1))) 147 0 (nI q)) hC hF (fun k h h' => by rw [st_ne' h, st_ne' h']) (fun k h h' => by rw [st_ne' h, st_ne' h']) ⟨by rw [st_ne (by decide), st_at], by rw [st_ne (by decide), st_at]⟩ (by omega) ha (by omega)⟩
  · rw [show nI 20 = (20 : Int32) from rfl]
    unfold f_E_act
    rw [if_neg (by decide), if_pos rfl, s_E_pop h1 (by omega), ca2_s, st_ne (by decide), jn_eq]
    try dsimp only
    rw [s_E_push 1 g1 (by omega), s_E_push 0 g1 (by omega), ca_s, ca_s]
    split <;> rfl
  · rw [show nI (mop 20) = (6 : Int32) from rfl]
    unfold f_M_does
    rw [nm_eq, if_neg (by decide), if_neg (by decide), if_neg (by decide), if_neg (by decide), if_neg (by decide), if_neg (by decide), if_pos rfl, s_M_pop h2 (by omega), ca2_s, st_ne (by decide), ← hx, jn_eq]
    try dsimp only
    rw [s_M_push 1 g2 (by omega), s_M_push 0 g2 (by omega), ca_s, ca_s]
    split <;> rfl
theorem E_comb (o : Nat) (x : Int32) (ν : St) (h : 13 ≤ o ∧ o ≤ 19) : f_E_actOnVariable (nI o) x ν = ca (f_E_combine (nI o) ν) fun z => some z := by
  have e : ∀ k : Nat, k < 100 → o ≠ k → ¬ nI o = nI k := fun k hk hne hh => hne ((nI_eq (by omega) (by omega)).mp hh)
  unfold f_E_actOnVariable
  rw [if_neg (show ¬ nI o = (36 : Int32) from e 36 (by decide) (by omega)), if_neg (show ¬ nI o = (37 : Int32) from e 37 (by decide) (by omega)), if_neg (show ¬ nI o = (38 : Int32) from e 38 (by decide) (by omega)), if_neg (show ¬ nI o = (39 : Int32) from e 39 (by decide) (by omega)), if_neg (show ¬ nI o = (40 : Int32) from e 40 (by decide) (by omega)), if_neg (show ¬ nI o = (41 : Int32) from e 41 (by decide) (by omega))]
theorem M_oper (N o : Nat) (x : Int32) (μ : St) (h : 13 ≤ o ∧ o ≤ 19) : f_M_does N (nI (mop o)) x μ = ca (f_M_operates (nI o) μ) fun z => some z := by
  have hm : mop o = o + 20 := by
    unfold mop
    rw [if_neg (by omega), if_neg (by omega), if_neg (by omega), if_neg (by omega), if_neg (by omega), if_neg (by omega), if_neg (by omega), if_neg (by omega), if_neg (by omega), if_neg (by omega), if_neg (by omega), if_neg (by omega), if_neg (by omega), if_neg (by omega), if_neg (by omega), if_neg (by omega), if_neg (by omega)]
  have e : ∀ k : Nat, k < 30 → ¬ nI (o + 20) = nI k := fun k hk hh => by
    have := (nI_eq (by omega) (by omega)).mp hh
    omega
  rw [hm]
  unfold f_M_does
  rw [nm_eq, if_neg (show ¬ nI (o + 20) = (0 : Int32) from e 0 (by decide)), if_neg (show ¬ nI (o + 20) = (1 : Int32) from e 1 (by decide)), if_neg (show ¬ nI (o + 20) = (2 : Int32) from e 2 (by decide)), if_neg (show ¬ nI (o + 20) = (3 : Int32) from e 3 (by decide)), if_neg (show ¬ nI (o + 20) = (4 : Int32) from e 4 (by decide)), if_neg (show ¬ nI (o + 20) = (5 : Int32) from e 5 (by decide)), if_neg (show ¬ nI (o + 20) = (6 : Int32) from e 6 (by decide)), if_neg (show ¬ nI (o + 20) = (7 : Int32) from e 7 (by decide)), if_neg (show ¬ nI (o + 20) = (9 : Int32) from e 9 (by decide)), if_neg (show ¬ nI (o + 20) = (10 : Int32) from e 10 (by decide)), if_neg (show ¬ nI (o + 20) = (11 : Int32) from e 11 (by decide)), if_neg (show ¬ nI (o + 20) = (12 : Int32) from e 12 (by decide)), if_neg (show ¬ nI (o + 20) = (13 : Int32) from e 13 (by decide)), if_neg (show ¬ nI (o + 20) = (14 : Int32) from e 14 (by decide)), if_neg (show ¬ nI (o + 20) = (15 : Int32) from e 15 (by decide)), if_neg (show ¬ nI (o + 20) = (16 : Int32) from e 16 (by decide)), show nI (o + 20) - 20 = nI o from by rw [show (20 : Int32) = nI 20 from rfl, pk_sub (by omega), Nat.add_sub_cancel]]
theorem go_13 (hW : WF op arg L e dep) (hC : CORE op arg L e ν μ B S 1 rn) (hF : FR ν μ L dep rn a tp fl ra) (ho : op a = 13) (hd1 : 2 ≤ dep a) (hd : dep (a + 1) + 1 = dep a) (ha : a + 1 < L) : GO op arg L e dep N ν μ B S rn a ra 13 := by
  obtain ⟨h1, h2, h3, h4, h5, h6⟩ := at_1 hW hC hF
  obtain ⟨q, rfl⟩ : ∃ q, tp = q + 1 + 1 := ⟨tp - 2, by omega⟩
  have hx : ν 22 (q + 1) = μ 29 (q + 1) := h5 (q + 1) (by omega)
  have hy : ν 22 q = μ 29 q := h5 q (by omega)
  have k1 : (st (st ν 233 0 (nI (a + 1))) 232 0 (nI (q + 1))) 232 0 = nI (q + 1) := st_at _ _ _ _
  have k2 : (st (st μ 138 0 (nI (a + 1))) 147 0 (nI (q + 1))) 147 0 = nI (q + 1) := st_at _ _ _ _
  have g1 : (st (st (st ν 233 0 (nI (a + 1))) 232 0 (nI (q + 1))) 232 0 (nI q)) 232 0 = nI q := st_at _ _ _ _
  have g2 : (st (st (st μ 138 0 (nI (a + 1))) 147 0 (nI (q + 1))) 147 0 (nI q)) 147 0 = nI q := st_at _ _ _ _
  have z1 : (st (st ν 233 0 (nI (a + 1))) 232 0 (nI (q + 1))) 22 q = ν 22 q := by rw [st_ne (by decide), st_ne (by decide)]
  have z2 : (st (st μ 138 0 (nI (a + 1))) 147 0 (nI (q + 1))) 29 q = μ 29 q := by rw [st_ne (by decide), st_ne (by decide)]
  have z3 : (st ν 233 0 (nI (a + 1))) 22 (q + 1) = ν 22 (q + 1) := by rw [st_ne (by decide)]
  have z4 : (st μ 138 0 (nI (a + 1))) 29 (q + 1) = μ 29 (q + 1) := by rw [st_ne (by decide)]
  refine ⟨_, _, ?_, ?_, out_push (v := sx (ν 22 q + ν 22 (q + 1))) (q := q) (ν2 := st (st (st ν 233 0 (nI (a + 1))) 232 0 (nI (q + 1))) 232 0 (nI q)) (μ2 := st (st (st μ 138 0 (nI (a + 1))) 147 0 (nI (q + 1))) 147 0 (nI q)) hC hF (fun k h h' => by rw [st_ne' h, st_ne' h, st_ne' h']) (fun k h h' => by rw [st_ne' h, st_ne' h, st_ne' h']) ⟨by rw [st_ne (by decide), st_ne (by decide), st_at], by rw [st_ne (by decide), st_ne (by decide), st_at]⟩ (by omega) ha (by omega)⟩
  · rw [A_var N 13 _ _ (by omega), E_comb 13 _ _ (by omega), show nI 13 = (13 : Int32) from rfl]
    unfold f_E_combine
    rw [s_E_pop h1 (by omega), ca2_s, s_E_pop k1 (by omega), ca2_s, z1, z3, if_pos rfl, s_E_push _ g1 (by omega), ca_s, ca_s, ca_s]
  · rw [M_oper N 13 _ _ (by omega), show nI 13 = (13 : Int32) from rfl]
    unfold f_M_operates
    rw [s_M_pop h2 (by omega), ca2_s, s_M_pop k2 (by omega), ca2_s, z2, z4, ← hx, ← hy, jn_eq, jn_eq, jn_eq, if_neg (by decide), if_neg (by decide), if_pos rfl]
    try dsimp only
    rw [s_M_push _ g2 (by omega), ca_s, ca_s]
theorem go_14 (hW : WF op arg L e dep) (hC : CORE op arg L e ν μ B S 1 rn) (hF : FR ν μ L dep rn a tp fl ra) (ho : op a = 14) (hd1 : 2 ≤ dep a) (hd : dep (a + 1) + 1 = dep a) (ha : a + 1 < L) : GO op arg L e dep N ν μ B S rn a ra 14 := by
  obtain ⟨h1, h2, h3, h4, h5, h6⟩ := at_1 hW hC hF
  obtain ⟨q, rfl⟩ : ∃ q, tp = q + 1 + 1 := ⟨tp - 2, by omega⟩
  have hx : ν 22 (q + 1) = μ 29 (q + 1) := h5 (q + 1) (by omega)
  have hy : ν 22 q = μ 29 q := h5 q (by omega)
  have k1 : (st (st ν 233 0 (nI (a + 1))) 232 0 (nI (q + 1))) 232 0 = nI (q + 1) := st_at _ _ _ _
  have k2 : (st (st μ 138 0 (nI (a + 1))) 147 0 (nI (q + 1))) 147 0 = nI (q + 1) := st_at _ _ _ _
  have g1 : (st (st (st ν 233 0 (nI (a + 1))) 232 0 (nI (q + 1))) 232 0 (nI q)) 232 0 = nI q := st_at _ _ _ _
  have g2 : (st (st (st μ 138 0 (nI (a + 1))) 147 0 (nI (q + 1))) 147 0 (nI q)) 147 0 = nI q := st_at _ _ _ _
  have z1 : (st (st ν 233 0 (nI (a + 1))) 232 0 (nI (q + 1))) 22 q = ν 22 q := by rw [st_ne (by decide), st_ne (by decide)]
  have z2 : (st (st μ 138 0 (nI (a + 1))) 147 0 (nI (q + 1))) 29 q = μ 29 q := by rw [st_ne (by decide), st_ne (by decide)]
  have z3 : (st ν 233 0 (nI (a + 1))) 22 (q + 1) = ν 22 (q + 1) := by rw [st_ne (by decide)]
  have z4 : (st μ 138 0 (nI (a + 1))) 29 (q + 1) = μ 29 (q + 1) := by rw [st_ne (by decide)]
  refine ⟨_, _, ?_, ?_, out_push (v := sx (ν 22 q - ν 22 (q + 1))) (q := q) (ν2 := st (st (st ν 233 0 (nI (a + 1))) 232 0 (nI (q + 1))) 232 0 (nI q)) (μ2 := st (st (st μ 138 0 (nI (a + 1))) 147 0 (nI (q + 1))) 147 0 (nI q)) hC hF (fun k h h' => by rw [st_ne' h, st_ne' h, st_ne' h']) (fun k h h' => by rw [st_ne' h, st_ne' h, st_ne' h']) ⟨by rw [st_ne (by decide), st_ne (by decide), st_at], by rw [st_ne (by decide), st_ne (by decide), st_at]⟩ (by omega) ha (by omega)⟩
  · rw [A_var N 14 _ _ (by omega), E_comb 14 _ _ (by omega), show nI 14 = (14 : Int32) from rfl]
    unfold f_E_combine
    rw [s_E_pop h1 (by omega), ca2_s, s_E_pop k1 (by omega), ca2_s, z1, z3, if_neg (by decide), if_pos rfl, s_E_push _ g1 (by omega), ca_s, ca_s, ca_s]
  · rw [M_oper N 14 _ _ (by omega), show nI 14 = (14 : Int32) from rfl]
    unfold f_M_operates
    rw [s_M_pop h2 (by omega), ca2_s, s_M_pop k2 (by omega), ca2_s, z2, z4, ← hx, ← hy, jn_eq, jn_eq, jn_eq, if_neg (by decide), if_neg (by decide), if_neg (by decide), if_pos rfl]
    try dsimp only
    rw [s_M_push _ g2 (by omega), ca_s, ca_s]
theorem go_15 (hW : WF op arg L e dep) (hC : CORE op arg L e ν μ B S 1 rn) (hF : FR ν μ L dep rn a tp fl ra) (ho : op a = 15) (hd1 : 2 ≤ dep a) (hd : dep (a + 1) + 1 = dep a) (ha : a + 1 < L) : GO op arg L e dep N ν μ B S rn a ra 15 := by
  obtain ⟨h1, h2, h3, h4, h5, h6⟩ := at_1 hW hC hF
  obtain ⟨q, rfl⟩ : ∃ q, tp = q + 1 + 1 := ⟨tp - 2, by omega⟩
  have hx : ν 22 (q + 1) = μ 29 (q + 1) := h5 (q + 1) (by omega)
  have hy : ν 22 q = μ 29 q := h5 q (by omega)
  have k1 : (st (st ν 233 0 (nI (a + 1))) 232 0 (nI (q + 1))) 232 0 = nI (q + 1) := st_at _ _ _ _
  have k2 : (st (st μ 138 0 (nI (a + 1))) 147 0 (nI (q + 1))) 147 0 = nI (q + 1) := st_at _ _ _ _
  have g1 : (st (st (st ν 233 0 (nI (a + 1))) 232 0 (nI (q + 1))) 232 0 (nI q)) 232 0 = nI q := st_at _ _ _ _
  have g2 : (st (st (st μ 138 0 (nI (a + 1))) 147 0 (nI (q + 1))) 147 0 (nI q)) 147 0 = nI q := st_at _ _ _ _
  have z1 : (st (st ν 233 0 (nI (a + 1))) 232 0 (nI (q + 1))) 22 q = ν 22 q := by rw [st_ne (by decide), st_ne (by decide)]
  have z2 : (st (st μ 138 0 (nI (a + 1))) 147 0 (nI (q + 1))) 29 q = μ 29 q := by rw [st_ne (by decide), st_ne (by decide)]
  have z3 : (st ν 233 0 (nI (a + 1))) 22 (q + 1) = ν 22 (q + 1) := by rw [st_ne (by decide)]
  have z4 : (st μ 138 0 (nI (a + 1))) 29 (q + 1) = μ 29 (q + 1) := by rw [st_ne (by decide)]
  refine ⟨_, _, ?_, ?_, out_push (v := sx (ν 22 q * ν 22 (q + 1))) (q := q) (ν2 := st (st (st ν 233 0 (nI (a + 1))) 232 0 (nI (q + 1))) 232 0 (nI q)) (μ2 := st (st (st μ 138 0 (nI (a + 1))) 147 0 (nI (q + 1))) 147 0 (nI q)) hC hF (fun k h h' => by rw [st_ne' h, st_ne' h, st_ne' h']) (fun k h h' => by rw [st_ne' h, st_ne' h, st_ne' h']) ⟨by rw [st_ne (by decide), st_ne (by decide), st_at], by rw [st_ne (by decide), st_ne (by decide), st_at]⟩ (by omega) ha (by omega)⟩
  · rw [A_var N 15 _ _ (by omega), E_comb 15 _ _ (by omega), show nI 15 = (15 : Int32) from rfl]
    unfold f_E_combine
    rw [s_E_pop h1 (by omega), ca2_s, s_E_pop k1 (by omega), ca2_s, z1, z3, if_neg (by decide), if_neg (by decide), if_pos rfl, s_E_push _ g1 (by omega), ca_s, ca_s, ca_s]
  · rw [M_oper N 15 _ _ (by omega), show nI 15 = (15 : Int32) from rfl]
    unfold f_M_operates
    rw [s_M_pop h2 (by omega), ca2_s, s_M_pop k2 (by omega), ca2_s, z2, z4, ← hx, ← hy, jn_eq, jn_eq, jn_eq, if_neg (by decide), if_neg (by decide), if_neg (by decide), if_neg (by decide), if_pos rfl]
    try dsimp only
    rw [s_M_push _ g2 (by omega), ca_s, ca_s]
theorem go_18 (hW : WF op arg L e dep) (hC : CORE op arg L e ν μ B S 1 rn) (hF : FR ν μ L dep rn a tp fl ra) (ho : op a = 18) (hd1 : 2 ≤ dep a) (hd : dep (a + 1) + 1 = dep a) (ha : a + 1 < L) : GO op arg L e dep N ν μ B S rn a ra 18 := by
  obtain ⟨h1, h2, h3, h4, h5, h6⟩ := at_1 hW hC hF
  obtain ⟨q, rfl⟩ : ∃ q, tp = q + 1 + 1 := ⟨tp - 2, by omega⟩
  have hx : ν 22 (q + 1) = μ 29 (q + 1) := h5 (q + 1) (by omega)
  have hy : ν 22 q = μ 29 q := h5 q (by omega)
  have k1 : (st (st ν 233 0 (nI (a + 1))) 232 0 (nI (q + 1))) 232 0 = nI (q + 1) := st_at _ _ _ _
  have k2 : (st (st μ 138 0 (nI (a + 1))) 147 0 (nI (q + 1))) 147 0 = nI (q + 1) := st_at _ _ _ _
  have g1 : (st (st (st ν 233 0 (nI (a + 1))) 232 0 (nI (q + 1))) 232 0 (nI q)) 232 0 = nI q := st_at _ _ _ _
  have g2 : (st (st (st μ 138 0 (nI (a + 1))) 147 0 (nI (q + 1))) 147 0 (nI q)) 147 0 = nI q := st_at _ _ _ _
  have z1 : (st (st ν 233 0 (nI (a + 1))) 232 0 (nI (q + 1))) 22 q = ν 22 q := by rw [st_ne (by decide), st_ne (by decide)]
  have z2 : (st (st μ 138 0 (nI (a + 1))) 147 0 (nI (q + 1))) 29 q = μ 29 q := by rw [st_ne (by decide), st_ne (by decide)]
  have z3 : (st ν 233 0 (nI (a + 1))) 22 (q + 1) = ν 22 (q + 1) := by rw [st_ne (by decide)]
  have z4 : (st μ 138 0 (nI (a + 1))) 29 (q + 1) = μ 29 (q + 1) := by rw [st_ne (by decide)]
  refine ⟨_, _, ?_, ?_, out_push (v := sx (if ν 22 (q + 1) ≤ ν 22 q then 0 else 1)) (q := q) (ν2 := st (st (st ν 233 0 (nI (a + 1))) 232 0 (nI (q + 1))) 232 0 (nI q)) (μ2 := st (st (st μ 138 0 (nI (a + 1))) 147 0 (nI (q + 1))) 147 0 (nI q)) hC hF (fun k h h' => by rw [st_ne' h, st_ne' h, st_ne' h']) (fun k h h' => by rw [st_ne' h, st_ne' h, st_ne' h']) ⟨by rw [st_ne (by decide), st_ne (by decide), st_at], by rw [st_ne (by decide), st_ne (by decide), st_at]⟩ (by omega) ha (by omega)⟩
  · rw [A_var N 18 _ _ (by omega), E_comb 18 _ _ (by omega), show nI 18 = (18 : Int32) from rfl]
    unfold f_E_combine
    rw [s_E_pop h1 (by omega), ca2_s, s_E_pop k1 (by omega), ca2_s, z1, z3, if_neg (by decide), if_neg (by decide), if_neg (by decide), if_pos rfl, jn_eq]
    try dsimp only
    rw [s_E_push 0 g1 (by omega), s_E_push 1 g1 (by omega)]
    split <;> rfl
  · rw [M_oper N 18 _ _ (by omega), show nI 18 = (18 : Int32) from rfl]
    unfold f_M_operates
    rw [s_M_pop h2 (by omega), ca2_s, s_M_pop k2 (by omega), ca2_s, z2, z4, ← hx, ← hy, jn_eq, jn_eq, jn_eq, if_neg (by decide), if_neg (by decide), if_neg (by decide), if_neg (by decide), if_neg (by decide), if_neg (by decide), if_neg (by decide), if_pos rfl]
    try dsimp only
    rw [s_M_push 0 g2 (by omega), s_M_push 1 g2 (by omega)]
    split <;> rfl
theorem go_19 (hW : WF op arg L e dep) (hC : CORE op arg L e ν μ B S 1 rn) (hF : FR ν μ L dep rn a tp fl ra) (ho : op a = 19) (hd1 : 2 ≤ dep a) (hd : dep (a + 1) + 1 = dep a) (ha : a + 1 < L) : GO op arg L e dep N ν μ B S rn a ra 19 := by
  obtain ⟨h1, h2, h3, h4, h5, h6⟩ := at_1 hW hC hF
  obtain ⟨q, rfl⟩ : ∃ q, tp = q + 1 + 1 := ⟨tp - 2, by omega⟩
  have hx : ν 22 (q + 1) = μ 29 (q + 1) := h5 (q + 1) (by omega)
  have hy : ν 22 q = μ 29 q := h5 q (by omega)
  have k1 : (st (st ν 233 0 (nI (a + 1))) 232 0 (nI (q + 1))) 232 0 = nI (q + 1) := st_at _ _ _ _
  have k2 : (st (st μ 138 0 (nI (a + 1))) 147 0 (nI (q + 1))) 147 0 = nI (q + 1) := st_at _ _ _ _
  have g1 : (st (st (st ν 233 0 (nI (a + 1))) 232 0 (nI (q + 1))) 232 0 (nI q)) 232 0 = nI q := st_at _ _ _ _
  have g2 : (st (st (st μ 138 0 (nI (a + 1))) 147 0 (nI (q + 1))) 147 0 (nI q)) 147 0 = nI q := st_at _ _ _ _
  have z1 : (st (st ν 233 0 (nI (a + 1))) 232 0 (nI (q + 1))) 22 q = ν 22 q := by rw [st_ne (by decide), st_ne (by decide)]
  have z2 : (st (st μ 138 0 (nI (a + 1))) 147 0 (nI (q + 1))) 29 q = μ 29 q := by rw [st_ne (by decide), st_ne (by decide)]
  have z3 : (st ν 233 0 (nI (a + 1))) 22 (q + 1) = ν 22 (q + 1) := by rw [st_ne (by decide)]
  have z4 : (st μ 138 0 (nI (a + 1))) 29 (q + 1) = μ 29 (q + 1) := by rw [st_ne (by decide)]
  refine ⟨_, _, ?_, ?_, out_push (v := sx (if ν 22 q = ν 22 (q + 1) then 1 else 0)) (q := q) (ν2 := st (st (st ν 233 0 (nI (a + 1))) 232 0 (nI (q + 1))) 232 0 (nI q)) (μ2 := st (st (st μ 138 0 (nI (a + 1))) 147 0 (nI (q + 1))) 147 0 (nI q)) hC hF (fun k h h' => by rw [st_ne' h, st_ne' h, st_ne' h']) (fun k h h' => by rw [st_ne' h, st_ne' h, st_ne' h']) ⟨by rw [st_ne (by decide), st_ne (by decide), st_at], by rw [st_ne (by decide), st_ne (by decide), st_at]⟩ (by omega) ha (by omega)⟩
  · rw [A_var N 19 _ _ (by omega), E_comb 19 _ _ (by omega), show nI 19 = (19 : Int32) from rfl]
    unfold f_E_combine
    rw [s_E_pop h1 (by omega), ca2_s, s_E_pop k1 (by omega), ca2_s, z1, z3, if_neg (by decide), if_neg (by decide), if_neg (by decide), if_neg (by decide), if_pos rfl, jn_eq]
    try dsimp only
    rw [s_E_push 0 g1 (by omega), s_E_push 1 g1 (by omega)]
    split <;> rfl
  · rw [M_oper N 19 _ _ (by omega), show nI 19 = (19 : Int32) from rfl]
    unfold f_M_operates
    rw [s_M_pop h2 (by omega), ca2_s, s_M_pop k2 (by omega), ca2_s, z2, z4, ← hx, ← hy, jn_eq, jn_eq, jn_eq, if_neg (by decide), if_neg (by decide), if_neg (by decide), if_neg (by decide), if_neg (by decide), if_neg (by decide), if_neg (by decide), if_neg (by decide)]
    try dsimp only
    rw [s_M_push 0 g2 (by omega), s_M_push 1 g2 (by omega)]
    split <;> rfl
theorem go_16 (hW : WF op arg L e dep) (hC : CORE op arg L e ν μ B S 1 rn) (hF : FR ν μ L dep rn a tp fl ra) (ho : op a = 16) (hd1 : 2 ≤ dep a) (hd : dep (a + 1) + 1 = dep a) (ha : a + 1 < L) : GO op arg L e dep N ν μ B S rn a ra 16 := by
  obtain ⟨h1, h2, h3, h4, h5, h6⟩ := at_1 hW hC hF
  obtain ⟨q, rfl⟩ : ∃ q, tp = q + 1 + 1 := ⟨tp - 2, by omega⟩
  have hx : ν 22 (q + 1) = μ 29 (q + 1) := h5 (q + 1) (by omega)
  have hy : ν 22 q = μ 29 q := h5 q (by omega)
  have k1 : (st (st ν 233 0 (nI (a + 1))) 232 0 (nI (q + 1))) 232 0 = nI (q + 1) := st_at _ _ _ _
  have k2 : (st (st μ 138 0 (nI (a + 1))) 147 0 (nI (q + 1))) 147 0 = nI (q + 1) := st_at _ _ _ _
  have g1 : (st (st (st ν 233 0 (nI (a + 1))) 232 0 (nI (q + 1))) 232 0 (nI q)) 232 0 = nI q := st_at _ _ _ _
  have g2 : (st (st (st μ 138 0 (nI (a + 1))) 147 0 (nI (q + 1))) 147 0 (nI q)) 147 0 = nI q := st_at _ _ _ _
  have z1 : (st (st ν 233 0 (nI (a + 1))) 232 0 (nI (q + 1))) 22 q = ν 22 q := by rw [st_ne (by decide), st_ne (by decide)]
  have z2 : (st (st μ 138 0 (nI (a + 1))) 147 0 (nI (q + 1))) 29 q = μ 29 q := by rw [st_ne (by decide), st_ne (by decide)]
  have z3 : (st ν 233 0 (nI (a + 1))) 22 (q + 1) = ν 22 (q + 1) := by rw [st_ne (by decide)]
  have z4 : (st μ 138 0 (nI (a + 1))) 29 (q + 1) = μ 29 (q + 1) := by rw [st_ne (by decide)]
  by_cases hz : ν 22 (q + 1) = 0
  · refine ⟨st (st (st (st ν 233 0 (nI (a + 1))) 232 0 (nI (q + 1))) 232 0 (nI q)) 228 0 4, st (st (st (st μ 138 0 (nI (a + 1))) 147 0 (nI (q + 1))) 147 0 (nI q)) 137 0 4, ?_, ?_, out_end (sv := 4) hC hF ⟨by omega, by omega⟩ (fun k _ h2 h3 h4 => by rw [st_ne' h4, st_ne' h2, st_ne' h2, st_ne' h3]) (fun k _ h2 h3 h4 => by rw [st_ne' h4, st_ne' h2, st_ne' h2, st_ne' h3]) ?_ ⟨st_at _ _ _ _, st_at _ _ _ _⟩ _⟩
    · rw [A_var N 16 _ _ (by omega), E_comb 16 _ _ (by omega), show nI 16 = (16 : Int32) from rfl]
      unfold f_E_combine f_E_divide
      rw [s_E_pop h1 (by omega), ca2_s, s_E_pop k1 (by omega), ca2_s, z1, z3, if_neg (by decide), if_neg (by decide), if_neg (by decide), if_neg (by decide), if_neg (by decide), if_pos hz, nm_eq, ca_s, ca_s, ca_s]
    · rw [M_oper N 16 _ _ (by omega), show nI 16 = (16 : Int32) from rfl]
      unfold f_M_operates
      rw [s_M_pop h2 (by omega), ca2_s, s_M_pop k2 (by omega), ca2_s, z2, z4, ← hx, ← hy, jn_eq, jn_eq, jn_eq, if_pos rfl, if_pos hz, nm_eq, ca_s]
    · rw [st_ne' (by decide), st_ne' (by decide), st_ne' (by decide), st_ne' (by decide), st_ne' (by decide), st_ne' (by decide), st_ne' (by decide), st_ne' (by decide)]
      exact h5
  · have hnz : nz (ν 22 (q + 1)) = true := by simp [nz, hz]
    refine ⟨_, _, ?_, ?_, out_push (v := sx (ν 22 q / ν 22 (q + 1))) (q := q) (ν2 := st (st (st ν 233 0 (nI (a + 1))) 232 0 (nI (q + 1))) 232 0 (nI q)) (μ2 := st (st (st μ 138 0 (nI (a + 1))) 147 0 (nI (q + 1))) 147 0 (nI q)) hC hF (fun k h h' => by rw [st_ne' h, st_ne' h, st_ne' h']) (fun k h h' => by rw [st_ne' h, st_ne' h, st_ne' h']) ⟨by rw [st_ne (by decide), st_ne (by decide), st_at], by rw [st_ne (by decide), st_ne (by decide), st_at]⟩ (by omega) ha (by omega)⟩
    · rw [A_var N 16 _ _ (by omega), E_comb 16 _ _ (by omega), show nI 16 = (16 : Int32) from rfl]
      unfold f_E_combine f_E_divide
      rw [s_E_pop h1 (by omega), ca2_s, s_E_pop k1 (by omega), ca2_s, z1, z3, if_neg (by decide), if_neg (by decide), if_neg (by decide), if_neg (by decide), if_neg (by decide), if_neg hz, jn_eq, if_pos rfl, gd_i hnz]
      try dsimp only
      rw [s_E_push _ g1 (by omega), ca_s, ca_s, ca_s, ca_s]
    · rw [M_oper N 16 _ _ (by omega), show nI 16 = (16 : Int32) from rfl]
      unfold f_M_operates
      rw [s_M_pop h2 (by omega), ca2_s, s_M_pop k2 (by omega), ca2_s, z2, z4, ← hx, ← hy, jn_eq, jn_eq, jn_eq, if_pos rfl, if_neg hz, if_neg (by decide), if_neg (by decide), if_neg (by decide), if_pos rfl, gd_i hnz]
      try dsimp only
      rw [s_M_push _ g2 (by omega), ca_s, ca_s]
theorem go_17 (hW : WF op arg L e dep) (hC : CORE op arg L e ν μ B S 1 rn) (hF : FR ν μ L dep rn a tp fl ra) (ho : op a = 17) (hd1 : 2 ≤ dep a) (hd : dep (a + 1) + 1 = dep a) (ha : a + 1 < L) : GO op arg L e dep N ν μ B S rn a ra 17 := by
  obtain ⟨h1, h2, h3, h4, h5, h6⟩ := at_1 hW hC hF
  obtain ⟨q, rfl⟩ : ∃ q, tp = q + 1 + 1 := ⟨tp - 2, by omega⟩
  have hx : ν 22 (q + 1) = μ 29 (q + 1) := h5 (q + 1) (by omega)
  have hy : ν 22 q = μ 29 q := h5 q (by omega)
  have k1 : (st (st ν 233 0 (nI (a + 1))) 232 0 (nI (q + 1))) 232 0 = nI (q + 1) := st_at _ _ _ _
  have k2 : (st (st μ 138 0 (nI (a + 1))) 147 0 (nI (q + 1))) 147 0 = nI (q + 1) := st_at _ _ _ _
  have g1 : (st (st (st ν 233 0 (nI (a + 1))) 232 0 (nI (q + 1))) 232 0 (nI q)) 232 0 = nI q := st_at _ _ _ _
  have g2 : (st (st (st μ 138 0 (nI (a + 1))) 147 0 (nI (q + 1))) 147 0 (nI q)) 147 0 = nI q := st_at _ _ _ _
  have z1 : (st (st ν 233 0 (nI (a + 1))) 232 0 (nI (q + 1))) 22 q = ν 22 q := by rw [st_ne (by decide), st_ne (by decide)]
  have z2 : (st (st μ 138 0 (nI (a + 1))) 147 0 (nI (q + 1))) 29 q = μ 29 q := by rw [st_ne (by decide), st_ne (by decide)]
  have z3 : (st ν 233 0 (nI (a + 1))) 22 (q + 1) = ν 22 (q + 1) := by rw [st_ne (by decide)]
  have z4 : (st μ 138 0 (nI (a + 1))) 29 (q + 1) = μ 29 (q + 1) := by rw [st_ne (by decide)]
  by_cases hz : ν 22 (q + 1) = 0
  · refine ⟨st (st (st (st ν 233 0 (nI (a + 1))) 232 0 (nI (q + 1))) 232 0 (nI q)) 228 0 4, st (st (st (st μ 138 0 (nI (a + 1))) 147 0 (nI (q + 1))) 147 0 (nI q)) 137 0 4, ?_, ?_, out_end (sv := 4) hC hF ⟨by omega, by omega⟩ (fun k _ h2 h3 h4 => by rw [st_ne' h4, st_ne' h2, st_ne' h2, st_ne' h3]) (fun k _ h2 h3 h4 => by rw [st_ne' h4, st_ne' h2, st_ne' h2, st_ne' h3]) ?_ ⟨st_at _ _ _ _, st_at _ _ _ _⟩ _⟩
    · rw [A_var N 17 _ _ (by omega), E_comb 17 _ _ (by omega), show nI 17 = (17 : Int32) from rfl]
      unfold f_E_combine f_E_divide
      rw [s_E_pop h1 (by omega), ca2_s, s_E_pop k1 (by omega), ca2_s, z1, z3, if_neg (by decide), if_neg (by decide), if_neg (by decide), if_neg (by decide), if_neg (by decide), if_pos hz, nm_eq, ca_s, ca_s, ca_s]
    · rw [M_oper N 17 _ _ (by omega), show nI 17 = (17 : Int32) from rfl]
      unfold f_M_operates
      rw [s_M_pop h2 (by omega), ca2_s, s_M_pop k2 (by omega), ca2_s, z2, z4, ← hx, ← hy, jn_eq, jn_eq, jn_eq, if_neg (by decide), if_pos rfl, if_pos hz, nm_eq, ca_s]
    · rw [st_ne' (by decide), st_ne' (by decide), st_ne' (by decide), st_ne' (by decide), st_ne' (by decide), st_ne' (by decide), st_ne' (by decide), st_ne' (by decide)]
      exact h5
  · have hnz : nz (ν 22 (q + 1)) = true := by simp [nz, hz]
    refine ⟨_, _, ?_, ?_, out_push (v := sx (ν 22 q - ν 22 q / ν 22 (q + 1) * ν 22 (q + 1))) (q := q) (ν2 := st (st (st ν 233 0 (nI (a + 1))) 232 0 (nI (q + 1))) 232 0 (nI q)) (μ2 := st (st (st μ 138 0 (nI (a + 1))) 147 0 (nI (q + 1))) 147 0 (nI q)) hC hF (fun k h h' => by rw [st_ne' h, st_ne' h, st_ne' h']) (fun k h h' => by rw [st_ne' h, st_ne' h, st_ne' h']) ⟨by rw [st_ne (by decide), st_ne (by decide), st_at], by rw [st_ne (by decide), st_ne (by decide), st_at]⟩ (by omega) ha (by omega)⟩
    · rw [A_var N 17 _ _ (by omega), E_comb 17 _ _ (by omega), show nI 17 = (17 : Int32) from rfl]
      unfold f_E_combine f_E_divide
      rw [s_E_pop h1 (by omega), ca2_s, s_E_pop k1 (by omega), ca2_s, z1, z3, if_neg (by decide), if_neg (by decide), if_neg (by decide), if_neg (by decide), if_neg (by decide), if_neg hz, jn_eq, if_neg (by decide), gd_i hnz]
      try dsimp only
      rw [s_E_push _ g1 (by omega), ca_s, ca_s, ca_s, ca_s]
    · rw [M_oper N 17 _ _ (by omega), show nI 17 = (17 : Int32) from rfl]
      unfold f_M_operates
      rw [s_M_pop h2 (by omega), ca2_s, s_M_pop k2 (by omega), ca2_s, z2, z4, ← hx, ← hy, jn_eq, jn_eq, jn_eq, if_neg (by decide), if_pos rfl, if_neg hz, if_neg (by decide), if_neg (by decide), if_neg (by decide), if_neg (by decide), if_pos rfl, gd_i hnz]
      try dsimp only
      rw [s_M_push _ g2 (by omega), ca_s, ca_s]
end OPS
