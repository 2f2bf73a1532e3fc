/-! sums, products, comparisons: a whole value, side by side -/
def OKL (N n : Nat) (t : Nat → Nat) (μ0 μ : St) (p : Nat) (C : List (Nat × Nat)) (cl : Nat → Option Nat) (fe : Nat → Option (Nat × Nat)) (nf c g : Nat) (r : RR) (Q : St → Nat → List (Nat × Nat) → List KF → Prop) : Prop := match r with
  | .error x => ER N n μ0 μ p x
  | .ok (p', C', cl', fe', nf') => fe = fe' ∧ nf = nf' ∧ ∃ S K' j μ', C' = C ++ S ∧ p + g ≤ p' ∧ p' ≤ n ∧ S.length + p ≤ p' ∧ KO (tkf n t) p p' K' ∧ CK cl cl' K' ∧ (∀ ar, AK ar K' → ∀ x, x + c ≤ 30 → VT ar (x + 1) S (x + 1)) ∧ TR N j μ μ' ∧ j + p ≤ p' ∧ Q μ' p' C' K'
section VALS
variable {N n : Nat} {t : Nat → Nat} {μ0 μ : St} {p c g : Nat} {C : List (Nat × Nat)} {K : List KF} {B : List BF} {D : Int32 × Int32 × Int32} {fe : Nat → Option (Nat × Nat)} {cl : Nat → Option Nat} {nf wh nm' s : Nat} {W0 : List Nat} {V : List VF} {v : RR → RR} {Q Q2 : St → Nat → List (Nat × Nat) → List KF → Prop} {r : RR}
theorem OKL_bind {F : RR → RR} (hF : ∀ x, F (.error x) = .error x) (hcl : NC cl p) (h : OKL N n t μ0 μ p C cl fe nf c g r Q) (k : ∀ μ' p' C' cl' K', p + g ≤ p' → p' ≤ n → C'.length + p ≤ C.length + p' → K'.length + p ≤ p' → NC cl' p' → Q μ' p' C' K' → OKL N n t μ0 μ' p' C' cl' fe nf c 0 (F (.ok (p', C', cl', fe, nf))) (fun μ2 p2 C2 L => Q2 μ2 p2 C2 (K' ++ L))) : OKL N n t μ0 μ p C cl fe nf c g (F r) Q2 := by
  cases r with
  | error x => rw [hF]; exact h
  | ok σ =>
    obtain ⟨p1, C1, cl1, fe1, nf1⟩ := σ
    obtain ⟨rfl, rfl, S, K', j, μ1, rfl, q1, q2, q3, q4, q5, q6, q7, q8, q9⟩ := h
    have h2 := k μ1 p1 (C ++ S) cl1 K' q1 q2 (by simp; omega) q4.2.2 (NC_CK hcl q5 q4) q9
    cases hr : F (.ok (p1, C ++ S, cl1, fe, nf)) with
    | error x => rw [hr] at h2; exact ER_trans q7 q8 h2
    | ok σ =>
      obtain ⟨p2, C2, cl2, fe2, nf2⟩ := σ
      rw [hr] at h2
      obtain ⟨rfl, rfl, S2, K2, j2, μ2, rfl, b1, b2, b3, b4, b5, b6, b7, b8, b9⟩ := h2
      refine ⟨rfl, rfl, S ++ S2, K' ++ K2, j + j2, μ2, by simp, by omega, b2, by simp; omega, KO_app q4 b4, CK_app q5 b5, fun ar ha x hx => ?_, TR_trans q7 b7, by omega, b9⟩
      obtain ⟨a1, a2⟩ := AK_app ha
      exact VT_app (q6 ar a1 x hx) (b6 ar a2 x hx)
theorem OKV_bind {F : RR → RR} (hF : ∀ x, F (.error x) = .error x) (hcl : NC cl p) (h : OKV N n t μ0 μ p C cl fe nf c r Q) (k : ∀ μ' p' C' cl' K', p < p' → p' ≤ n → C'.length + p ≤ C.length + p' → K'.length + p ≤ p' → NC cl' p' → Q μ' p' C' K' → OKL N n t μ0 μ' p' C' cl' fe nf c 0 (F (.ok (p', C', cl', fe, nf))) (fun μ2 p2 C2 L => Q2 μ2 p2 C2 (K' ++ L))) : OKV N n t μ0 μ p C cl fe nf c (F r) Q2 := by
  cases r with
  | error x => rw [hF]; exact h
  | ok σ =>
    obtain ⟨p1, C1, cl1, fe1, nf1⟩ := σ
    obtain ⟨rfl, rfl, S, K', j, μ1, rfl, q1, q2, q3, q4, q5, q6, q7, q8, q9⟩ := h
    have h2 := k μ1 p1 (C ++ S) cl1 K' q1 q2 (by simp; omega) q4.2.2 (NC_CK hcl q5 q4) q9
    cases hr : F (.ok (p1, C ++ S, cl1, fe, nf)) with
    | error x => rw [hr] at h2; exact ER_trans q7 q8 h2
    | ok σ =>
      obtain ⟨p2, C2, cl2, fe2, nf2⟩ := σ
      rw [hr] at h2
      obtain ⟨rfl, rfl, S2, K2, j2, μ2, rfl, b1, b2, b3, b4, b5, b6, b7, b8, b9⟩ := h2
      refine ⟨rfl, rfl, S ++ S2, K' ++ K2, j + j2, μ2, by simp, by omega, b2, by simp; omega, KO_app q4 b4, CK_app q5 b5, fun ar ha x hx => ?_, TR_trans q7 b7, by omega, b9⟩
      obtain ⟨a1, a2⟩ := AK_app ha
      exact VT_app (q6 ar a1 x hx) (b6 ar a2 x hx)
theorem OKL_mono (h : OKL N n t μ0 μ p C cl fe nf c g r Q) (hQ : ∀ μ' p' C' K', Q μ' p' C' K' → Q2 μ' p' C' K') : OKL N n t μ0 μ p C cl fe nf c g r Q2 := by
  cases r with
  | error x => exact h
  | ok σ =>
    obtain ⟨p1, C1, cl1, fe1, nf1⟩ := σ
    obtain ⟨a1, a2, S, K', j, μ1, q0, q1, q2, q3, q4, q5, q6, q7, q8, q9⟩ := h
    exact ⟨a1, a2, S, K', j, μ1, q0, q1, q2, q3, q4, q5, q6, q7, q8, hQ _ _ _ _ q9⟩
theorem OKL_here (hp : p ≤ n) (hq : Q μ p C []) : OKL N n t μ0 μ p C cl fe nf c 0 (.ok (p, C, cl, fe, nf)) Q :=
  ⟨rfl, rfl, [], [], 0, μ, by simp, Nat.le_refl _, hp, by simp, KO_nil (Nat.le_refl _), CK_nil _, fun _ _ _ _ => rfl, rfl, by omega, hq⟩
theorem OKV_up {c' : Nat} (h : OKV N n t μ0 μ p C cl fe nf c r Q) (hc : c ≤ c') (hQ : ∀ μ' p' C' K', Q μ' p' C' K' → Q2 μ' p' C' K') : OKV N n t μ0 μ p C cl fe nf c' r Q2 := by
  cases r with
  | error x => exact h
  | ok σ =>
    obtain ⟨p1, C1, cl1, fe1, nf1⟩ := σ
    obtain ⟨a1, a2, S, K', j, μ1, q0, q1, q2, q3, q4, q5, q6, q7, q8, q9⟩ := h
    exact ⟨a1, a2, S, K', j, μ1, q0, q1, q2, q3, q4, q5, TYP_mono q6 hc, q7, q8, hQ _ _ _ _ q9⟩
/-- an operator, then its right hand -/
theorem op_step {o : Nat} {μ1 : St} (hc1 : 1 ≤ c) (ho : 13 ≤ o ∧ o ≤ 19) (hn : n ≤ 160) (tr : TR N 1 μ μ1) (hC : C.length + 1 ≤ p) (h : OKV N n t μ0 μ1 (p + 1) C cl fe nf c r Q) (hQ : ∀ μ' p' C' K', Q μ' p' C' K' → Q2 μ' p' (C' ++ [(o, 0)]) K') : OKL N n t μ0 μ p C cl fe nf (c + 1) 1 (pAdd o 0 r) Q2 := by
  cases r with
  | error x => exact ER_trans tr (by omega) h
  | ok σ =>
    obtain ⟨p1, C1, cl1, fe1, nf1⟩ := σ
    obtain ⟨rfl, rfl, S, K', j, μ2, rfl, q1, q2, q3, q4, q5, q6, q7, q8, q9⟩ := h
    rw [pAdd_ok (by simp; omega)]
    refine ⟨rfl, rfl, S ++ [(o, 0)], K', 1 + j, μ2, by simp, by omega, q2, by simp; omega, KO_mono q4 (by omega) (Nat.le_refl _), q5, fun ar ha x hx => ?_, TR_trans tr q7, by omega, hQ _ _ _ _ q9⟩
    refine VT_app (q6 ar ha (x + 1) (by omega)) (VT_one (Or.inr (Or.inr (Or.inl ⟨ho, by omega⟩))) (by omega) ?_)
    unfold nx
    dsimp only
    rw [if_neg (by omega), if_pos ho]
    omega
theorem AQ_K {l : Nat} {K' : List KF} {μ' : St} {p' : Nat} {C' : List (Nat × Nat)} (h : AQ n μ0 K B D fe wh nm' V l W0 μ' p' C' K') : AQ n μ0 (K ++ K') B D fe wh nm' V l W0 μ' p' C' [] := by
  unfold AQ at h ⊢
  rw [List.append_nil]; exact h
theorem AQ_as {l : Nat} {K' L : List KF} {μ' : St} {p' : Nat} {C' : List (Nat × Nat)} (h : AQ n μ0 (K ++ K') B D fe wh nm' V l W0 μ' p' C' L) : AQ n μ0 K B D fe wh nm' V l W0 μ' p' C' (K' ++ L) := by
  unfold AQ at h ⊢
  rw [← List.append_assoc]; exact h
theorem AQ_dn {l l' : Nat} (hl : l' ≤ l) {K' : List KF} {μ' : St} {p' : Nat} {C' : List (Nat × Nat)} (h : AQ n μ0 K B D fe wh nm' V l W0 μ' p' C' K') : AQ n μ0 K B D fe wh nm' V l' W0 μ' p' C' K' := by
  obtain ⟨Cm, s, Wv, h1, h2, h3, h4, h5⟩ := h
  exact ⟨Cm, s, Wv, h1, h2, fun o ho => Nat.le_trans hl (h3 o ho), by omega, h5⟩
theorem AQ_p {l : Nat} {K' : List KF} {μ' : St} {p' : Nat} {C' : List (Nat × Nat)} (h : AQ n μ0 K B D fe wh nm' V l W0 μ' p' C' K') : p' ≤ n := by
  obtain ⟨Cm, s, Wv, h1, h2, h3, h4, h5⟩ := h
  exact h5.2.1.2.1
/-- the operator that waited is written behind its right hand -/
theorem AQ_op {l l' o : Nat} (hl : lvl o = l) (hl' : l' = l + 1) {K' : List KF} {μ' : St} {p' : Nat} {C' : List (Nat × Nat)} (h : AQ n μ0 K B D fe wh nm' V l' (o :: W0) μ' p' C' K') : AQ n μ0 K B D fe wh nm' V l W0 μ' p' (C' ++ [(o, 0)]) K' := by
  obtain ⟨Cm, s, Wv, h1, h2, h3, h4, h5⟩ := h
  refine ⟨Cm, s, Wv ++ [o], h1, by rw [h2, opl_app]; simp [opl], fun a ha => ?_, by simp; omega, by rw [List.append_assoc]; exact h5⟩
  rcases List.mem_append.mp ha with ha | ha
  · have := h3 a ha; omega
  · rw [List.mem_singleton.mp ha]; omega
theorem sim_part (hN : 200 ≤ N) (hT : HM n t μ0) (hve : ∀ x, v (.error x) = .error x) (hv : Hv N n t μ0 v c (V.length + 1)) (hwt : W0.length + wtot V ≤ 3 * (V.length + 1)) (hC : C.length + 1 ≤ p) (hK : K.length ≤ p) (hcl : NC cl p) (h : MX n μ0 μ p 3 C K B D fe (some ((wh, nm', 0, W0) :: V))) :
    OKV N n t μ0 μ p C cl fe nf (c + 3) (pPart (tkf n t) v (.ok (p, C, cl, fe, nf))) (AQ n μ0 K B D fe wh nm' V 4 W0) := by
  have hn := hT.1
  have sgn : ∀ s o, (tkf n t p = 14 ∧ s = 5 ∧ o = 35) ∨ (tkf n t p = 20 ∧ s = 6 ∧ o = 20) → OKV N n t μ0 μ p C cl fe nf (c + 3) (pAdd o 0 (pPiece (tkf n t) v (pNext (.ok (p, C, cl, fe, nf))))) (AQ n μ0 K B D fe wh nm' V 4 W0) := by
    intro s o hso
    obtain ⟨μ1, e1, h1⟩ := m_piece_sg hT s (by omega) h
    have hp := h1.2.1.2.1
    have tr1 : TR N 1 μ μ1 := TR_one h (by rw [turn_3 h.2.1.2.2.1, e1])
    have hs := sim_piece (nf := nf) (cl := cl) hN hT hve hv (by omega) hwt (by omega) (by omega) (fun i hi => hcl i (by omega)) h1
    rw [pNext_ok]
    cases hr : pPiece (tkf n t) v (.ok (p + 1, C, cl, fe, nf)) with
    | error x => rw [hr] at hs; exact ER_trans tr1 (by omega) hs
    | ok σ =>
      obtain ⟨p1, C1, cl1, fe1, nf1⟩ := σ
      rw [hr] at hs
      obtain ⟨rfl, rfl, S, K', j, μ2, rfl, q1, q2, q3, q4, q5, q6, q7, q8, q9⟩ := hs
      rw [pAdd_ok (by simp; omega)]
      refine ⟨rfl, rfl, S ++ [(o, 0)], K', 1 + j, μ2, by simp, by omega, q2, by simp; omega, KO_mono q4 (by omega) (Nat.le_refl _), q5, fun ar ha x hx => ?_, TR_trans tr1 q7, by omega, C ++ S, s, [], by omega, ?_, (fun a ha => by cases ha), by simp, q9⟩
      · refine VT_app (q6 ar ha x hx) (VT_one (Or.inr (Or.inl ⟨by dsimp only; omega, by omega⟩)) (by omega) ?_)
        unfold nx
        dsimp only
        rcases hso with ⟨-, -, rfl⟩ | ⟨-, -, rfl⟩ <;> simp
      · rcases hso with ⟨-, rfl, rfl⟩ | ⟨-, rfl, rfl⟩ <;> simp [sgc, opl]
  unfold pPart
  rw [now_ok]
  by_cases c1 : tkf n t p = 14
  · rw [if_pos c1]; exact sgn 5 35 (Or.inl ⟨c1, rfl, rfl⟩)
  rw [if_neg c1]
  by_cases c2 : tkf n t p = 20
  · rw [if_pos c2]; exact sgn 6 20 (Or.inr ⟨c2, rfl, rfl⟩)
  rw [if_neg c2]
  exact OKV_up (sim_piece hN hT hve hv (Or.inr (Or.inr ⟨rfl, c1, c2⟩)) hwt hC hK hcl h) (Nat.le_refl _) (fun μ' p' C' K' hq => ⟨C', 0, [], Or.inl rfl, by simp [sgc, opl], (fun a ha => by cases ha), by simp, hq⟩)
theorem lvl3 (w : Nat) : lvl w = 3 ↔ (15 ≤ w ∧ w < 18) := by
  unfold lvl
  by_cases h1 : w = 18 ∨ w = 19
  · rw [if_pos h1]; omega
  rw [if_neg h1]
  by_cases h2 : w = 13 ∨ w = 14
  · rw [if_pos h2]; omega
  rw [if_neg h2]
  by_cases h3 : 15 ≤ w ∧ w ≤ 17
  · rw [if_pos h3]; omega
  rw [if_neg h3]; omega
theorem lvl2 (w : Nat) : lvl w = 2 ↔ (w = 13 ∨ w = 14) := by
  unfold lvl
  by_cases h1 : w = 18 ∨ w = 19
  · rw [if_pos h1]; omega
  rw [if_neg h1]
  by_cases h2 : w = 13 ∨ w = 14
  · rw [if_pos h2]; omega
  rw [if_neg h2]
  by_cases h3 : 15 ≤ w ∧ w ≤ 17
  · rw [if_pos h3]; omega
  rw [if_neg h3]; omega
theorem lvl1 (w : Nat) : lvl w = 1 ↔ (w = 18 ∨ w = 19) := by
  unfold lvl
  by_cases h1 : w = 18 ∨ w = 19
  · rw [if_pos h1]; omega
  rw [if_neg h1]
  by_cases h2 : w = 13 ∨ w = 14
  · rw [if_pos h2]; omega
  rw [if_neg h2]
  by_cases h3 : 15 ≤ w ∧ w ≤ 17
  · rw [if_pos h3]; omega
  rw [if_neg h3]; omega
theorem sim_prodL (hN : 200 ≤ N) (hT : HM n t μ0) (hve : ∀ x, v (.error x) = .error x) (hv : Hv N n t μ0 v c (V.length + 1)) (hV : V.length ≤ 3) (hwt : wtot V ≤ 3 * V.length) (hw : W0.length ≤ 2) (hl : ∀ o W, W0 = o :: W → lvl o < 3) : ∀ (k : Nat) (μ : St) (p : Nat) (C : List (Nat × Nat)) (cl : Nat → Option Nat) (K : List KF), 161 ≤ k + p → C.length + 1 ≤ p → K.length ≤ p → NC cl p → AQ n μ0 K B D fe wh nm' V 3 W0 μ p C [] →
    OKL N n t μ0 μ p C cl fe nf (c + 4) 0 (pProdL (tkf n t) v k (.ok (p, C, cl, fe, nf))) (fun μ' p' C' L => AQ n μ0 K B D fe wh nm' V 3 W0 μ' p' C' L ∧ lvl (tkf n t p') < 3) := by
  have hn := hT.1
  intro k
  induction k with
  | zero =>
    intro μ p C cl K hk _ _ _ hA
    have := AQ_p hA
    omega
  | succ k ih =>
    intro μ p C cl K hk hC hK hcl hA
    show OKL N n t μ0 μ p C cl fe nf (c + 4) 0 (if 15 ≤ now (tkf n t) (.ok (p, C, cl, fe, nf)) ∧ now (tkf n t) (.ok (p, C, cl, fe, nf)) < 18 then pProdL (tkf n t) v k (pAdd (now (tkf n t) (.ok (p, C, cl, fe, nf))) 0 (pPart (tkf n t) v (pNext (.ok (p, C, cl, fe, nf))))) else .ok (p, C, cl, fe, nf)) _
    rw [now_ok, pNext_ok]
    by_cases h3 : 15 ≤ tkf n t p ∧ tkf n t p < 18
    · rw [if_pos h3]
      have hl3 := (lvl3 _).mpr h3
      have hpn := AQ_p hA
      obtain ⟨Cm, s, Wv, a1, a2, a3, a4, a5⟩ := hA
      rw [List.append_nil] at a5
      obtain ⟨μ1, e1, h1, hp⟩ := m_behind_op hN hT a1 (by omega) (A := Wv) (by rw [hl3]; exact a3) (by rw [hl3]; exact hl) (by rw [a2] at hC; simp at hC; omega) (by omega) (by omega) a5
      rw [← a2] at h1
      have tr1 : TR N 1 μ μ1 := TR_one a5 (by rw [turn_4 a5.2.1.2.2.1, e1])
      have hs := sim_part (nf := nf) (cl := cl) hN hT hve hv (W0 := tkf n t p :: W0) (by simp; omega) (by omega) (by omega) (fun i hi => hcl i (by omega)) h1
      have hb := op_step (Q2 := AQ n μ0 K B D fe wh nm' V 3 W0) (o := tkf n t p) (by omega) (by omega) hn tr1 hC hs (fun μ' p' C' K' hq => AQ_op hl3 rfl hq)
      have hb2 := OKL_bind (F := pProdL (tkf n t) v k) (fun x => pProdL_e _ _ _ x) hcl hb (Q2 := fun μ' p' C' L => AQ n μ0 K B D fe wh nm' V 3 W0 μ' p' C' L ∧ lvl (tkf n t p') < 3) (fun μ' p' C' cl' K' g1 g2 g3 g4 g5 g6 => OKL_mono (ih μ' p' C' cl' (K ++ K') (by omega) (by omega) (by simp; omega) g5 (AQ_K g6)) (fun _ _ _ _ hq => ⟨AQ_as hq.1, hq.2⟩))
      cases hr : pProdL (tkf n t) v k (pAdd (tkf n t p) 0 (pPart (tkf n t) v (.ok (p + 1, C, cl, fe, nf)))) with
      | error x => rw [hr] at hb2; exact hb2
      | ok σ =>
        rw [hr] at hb2
        obtain ⟨p1, C1, cl1, fe1, nf1⟩ := σ
        obtain ⟨b1, b2, S, K', j, μ2, q0, q1, q2, q3⟩ := hb2
        exact ⟨b1, b2, S, K', j, μ2, q0, by omega, q2, q3⟩
    · rw [if_neg h3]
      have := lvl_le (tkf n t p)
      have h3' := (not_congr (lvl3 (tkf n t p))).mpr h3
      exact OKL_here (AQ_p hA) ⟨hA, by omega⟩
theorem sim_prod (hN : 200 ≤ N) (hT : HM n t μ0) (hve : ∀ x, v (.error x) = .error x) (hv : Hv N n t μ0 v c (V.length + 1)) (hV : V.length ≤ 3) (hwt : wtot V ≤ 3 * V.length) (hw : W0.length ≤ 2) (hl : ∀ o W, W0 = o :: W → lvl o < 3) (hC : C.length + 1 ≤ p) (hK : K.length ≤ p) (hcl : NC cl p) (h : MX n μ0 μ p 3 C K B D fe (some ((wh, nm', 0, W0) :: V))) :
    OKV N n t μ0 μ p C cl fe nf (c + 4) (pProd (tkf n t) v (.ok (p, C, cl, fe, nf))) (fun μ' p' C' L => AQ n μ0 K B D fe wh nm' V 3 W0 μ' p' C' L ∧ lvl (tkf n t p') < 3) := by
  have hs := OKV_up (c' := c + 4) (sim_part (nf := nf) (cl := cl) hN hT hve hv (W0 := W0) (by omega) hC hK hcl h) (by omega) (fun μ' p' C' K' hq => hq)
  exact OKV_bind (F := pProdL (tkf n t) v 160) (fun x => pProdL_e _ _ _ x) hcl hs (fun μ' p' C' cl' K' g1 g2 g3 g4 g5 g6 => OKL_mono (sim_prodL hN hT hve hv hV hwt hw hl 160 μ' p' C' cl' (K ++ K') (by omega) (by omega) (by simp; omega) g5 (AQ_dn (by omega) (AQ_K g6))) (fun _ _ _ _ hq => ⟨AQ_as hq.1, hq.2⟩))
theorem sim_sumL (hN : 200 ≤ N) (hT : HM n t μ0) (hve : ∀ x, v (.error x) = .error x) (hv : Hv N n t μ0 v c (V.length + 1)) (hV : V.length ≤ 3) (hwt : wtot V ≤ 3 * V.length) (hw : W0.length ≤ 1) (hl : ∀ o W, W0 = o :: W → lvl o < 2) : ∀ (k : Nat) (μ : St) (p : Nat) (C : List (Nat × Nat)) (cl : Nat → Option Nat) (K : List KF), 161 ≤ k + p → C.length + 1 ≤ p → K.length ≤ p → NC cl p → AQ n μ0 K B D fe wh nm' V 2 W0 μ p C [] → lvl (tkf n t p) < 3 →
    OKL N n t μ0 μ p C cl fe nf (c + 5) 0 (pSumL (tkf n t) v k (.ok (p, C, cl, fe, nf))) (fun μ' p' C' L => AQ n μ0 K B D fe wh nm' V 2 W0 μ' p' C' L ∧ lvl (tkf n t p') < 2) := by
  have hn := hT.1
  intro k
  induction k with
  | zero =>
    intro μ p C cl K hk _ _ _ hA _
    have := AQ_p hA
    omega
  | succ k ih =>
    intro μ p C cl K hk hC hK hcl hA hlt
    show OKL N n t μ0 μ p C cl fe nf (c + 5) 0 (if now (tkf n t) (.ok (p, C, cl, fe, nf)) = 13 ∨ now (tkf n t) (.ok (p, C, cl, fe, nf)) = 14 then pSumL (tkf n t) v k (pAdd (now (tkf n t) (.ok (p, C, cl, fe, nf))) 0 (pProd (tkf n t) v (pNext (.ok (p, C, cl, fe, nf))))) else .ok (p, C, cl, fe, nf)) _
    rw [now_ok, pNext_ok]
    by_cases h3 : tkf n t p = 13 ∨ tkf n t p = 14
    · rw [if_pos h3]
      have hl3 := (lvl2 _).mpr h3
      have hpn := AQ_p hA
      obtain ⟨Cm, s, Wv, a1, a2, a3, a4, a5⟩ := hA
      rw [List.append_nil] at a5
      obtain ⟨μ1, e1, h1, hp⟩ := m_behind_op hN hT a1 (by omega) (A := Wv) (by rw [hl3]; exact a3) (by rw [hl3]; exact hl) (by rw [a2] at hC; simp at hC; omega) (by omega) (by omega) a5
      rw [← a2] at h1
      have tr1 : TR N 1 μ μ1 := TR_one a5 (by rw [turn_4 a5.2.1.2.2.1, e1])
      have hs := sim_prod (nf := nf) (cl := cl) hN hT hve hv hV hwt (W0 := tkf n t p :: W0) (by simp; omega) (fun o W hh => by cases hh; omega) (by omega) (by omega) (fun i hi => hcl i (by omega)) h1
      have hb := op_step (Q2 := fun μ' p' C' K' => AQ n μ0 K B D fe wh nm' V 2 W0 μ' p' C' K' ∧ lvl (tkf n t p') < 3) (o := tkf n t p) (by omega) (by omega) hn tr1 hC hs (fun μ' p' C' K' hq => ⟨AQ_op hl3 rfl hq.1, hq.2⟩)
      have hb2 := OKL_bind (F := pSumL (tkf n t) v k) (fun x => pSumL_e _ _ _ x) hcl hb (Q2 := fun μ' p' C' L => AQ n μ0 K B D fe wh nm' V 2 W0 μ' p' C' L ∧ lvl (tkf n t p') < 2) (fun μ' p' C' cl' K' g1 g2 g3 g4 g5 g6 => OKL_mono (ih μ' p' C' cl' (K ++ K') (by omega) (by omega) (by simp; omega) g5 (AQ_K g6.1) g6.2) (fun _ _ _ _ hq => ⟨AQ_as hq.1, hq.2⟩))
      cases hr : pSumL (tkf n t) v k (pAdd (tkf n t p) 0 (pProd (tkf n t) v (.ok (p + 1, C, cl, fe, nf)))) with
      | error x => rw [hr] at hb2; exact hb2
      | ok σ =>
        rw [hr] at hb2
        obtain ⟨p1, C1, cl1, fe1, nf1⟩ := σ
        obtain ⟨b1, b2, S, K', j, μ2, q0, q1, q2, q3⟩ := hb2
        exact ⟨b1, b2, S, K', j, μ2, q0, by omega, q2, q3⟩
    · rw [if_neg h3]
      have h3' := (not_congr (lvl2 (tkf n t p))).mpr h3
      exact OKL_here (AQ_p hA) ⟨hA, by omega⟩
theorem sim_sum (hN : 200 ≤ N) (hT : HM n t μ0) (hve : ∀ x, v (.error x) = .error x) (hv : Hv N n t μ0 v c (V.length + 1)) (hV : V.length ≤ 3) (hwt : wtot V ≤ 3 * V.length) (hw : W0.length ≤ 1) (hl : ∀ o W, W0 = o :: W → lvl o < 2) (hC : C.length + 1 ≤ p) (hK : K.length ≤ p) (hcl : NC cl p) (h : MX n μ0 μ p 3 C K B D fe (some ((wh, nm', 0, W0) :: V))) :
    OKV N n t μ0 μ p C cl fe nf (c + 5) (pSum (tkf n t) v (.ok (p, C, cl, fe, nf))) (fun μ' p' C' L => AQ n μ0 K B D fe wh nm' V 2 W0 μ' p' C' L ∧ lvl (tkf n t p') < 2) := by
  have hs := OKV_up (c' := c + 5) (sim_prod (nf := nf) (cl := cl) hN hT hve hv hV hwt (W0 := W0) (by omega) (fun o W hh => by have := hl o W hh; omega) hC hK hcl h) (by omega) (fun μ' p' C' K' hq => hq)
  exact OKV_bind (F := pSumL (tkf n t) v 160) (fun x => pSumL_e _ _ _ x) hcl hs (fun μ' p' C' cl' K' g1 g2 g3 g4 g5 g6 => OKL_mono (sim_sumL hN hT hve hv hV hwt hw hl 160 μ' p' C' cl' (K ++ K') (by omega) (by omega) (by simp; omega) g5 (AQ_dn (by omega) (AQ_K g6.1)) g6.2) (fun _ _ _ _ hq => ⟨AQ_as hq.1, hq.2⟩))
theorem AV_as {K' L : List KF} {μ' : St} {p' : Nat} {C' : List (Nat × Nat)} (h : AV n t μ0 (K ++ K') B D fe wh nm' V μ' p' C' L) : AV n t μ0 K B D fe wh nm' V μ' p' C' (K' ++ L) := by
  unfold AV at h ⊢
  rw [← List.append_assoc]; exact h
theorem sim_cmp (hN : 200 ≤ N) (hT : HM n t μ0) (hve : ∀ x, v (.error x) = .error x) (hv : Hv N n t μ0 v c (V.length + 1)) (hV : V.length ≤ 3) (hwt : wtot V ≤ 3 * V.length) (hC : C.length + 1 ≤ p) (hK : K.length ≤ p) (hcl : NC cl p) (hA : AQ n μ0 K B D fe wh nm' V 2 [] μ p C []) (hlt : lvl (tkf n t p) < 2) :
    OKL N n t μ0 μ p C cl fe nf (c + 6) 0 (pCmp (tkf n t) v (.ok (p, C, cl, fe, nf))) (AV n t μ0 K B D fe wh nm' V) := by
  have hn := hT.1
  unfold pCmp
  rw [now_ok, pNext_ok]
  by_cases h3 : tkf n t p = 18 ∨ tkf n t p = 19
  · rw [if_pos h3]
    have hl3 := (lvl1 _).mpr h3
    have hpn := AQ_p hA
    obtain ⟨Cm, s, Wv, a1, a2, a3, a4, a5⟩ := hA
    rw [List.append_nil] at a5
    obtain ⟨μ1, e1, h1, hp⟩ := m_behind_op hN hT a1 (by omega) (A := Wv) (W0 := []) (by rw [hl3]; exact a3) (fun o W hh => by cases hh) (by rw [a2] at hC; simp at hC; omega) (by simp; omega) (fun _ => rfl) a5
    rw [← a2] at h1
    have tr1 : TR N 1 μ μ1 := TR_one a5 (by rw [turn_4 a5.2.1.2.2.1, e1])
    have hs := sim_sum (nf := nf) (cl := cl) hN hT hve hv hV hwt (W0 := [tkf n t p]) (by simp) (fun o W hh => by cases hh; omega) (by omega) (by omega) (fun i hi => hcl i (by omega)) h1
    have hb := op_step (Q2 := AV n t μ0 K B D fe wh nm' V) (o := tkf n t p) (by omega) (by omega) hn tr1 hC hs ?_
    · cases hr : pAdd (tkf n t p) 0 (pSum (tkf n t) v (.ok (p + 1, C, cl, fe, nf))) with
      | error x => rw [hr] at hb; exact hb
      | ok σ =>
        rw [hr] at hb
        obtain ⟨p1, C1, cl1, fe1, nf1⟩ := σ
        obtain ⟨b1, b2, S, K', j, μ2, q0, q1, q2, q3⟩ := hb
        exact ⟨b1, b2, S, K', j, μ2, q0, by omega, q2, q3⟩
    · rintro μ' p' C' K' ⟨⟨Cm', s', Wv', b1, b2, b3, b4, b5⟩, b6⟩
      refine ⟨Cm', s', Wv' ++ [tkf n t p], b1, by rw [b2, opl_app]; simp [opl], fun a ha => ?_, b5, ?_⟩
      · rcases List.mem_append.mp ha with ha | ha
        · have := b3 a ha; omega
        · rw [List.mem_singleton.mp ha]; omega
      · by_cases h0 : lvl (tkf n t p') = 0
        · exact Or.inl h0
        · exact Or.inr ⟨by omega, Wv', tkf n t p, rfl, hl3, b3⟩
  · rw [if_neg h3]
    have h3' := (not_congr (lvl1 (tkf n t p))).mpr h3
    refine OKL_here (AQ_p hA) ?_
    obtain ⟨Cm, s, Wv, a1, a2, a3, a4, a5⟩ := hA
    rw [List.append_nil] at a5
    exact ⟨Cm, s, Wv, a1, a2, fun o ho => by have := a3 o ho; omega, by rw [List.append_nil] at a5 ⊢; exact a5, Or.inl (by omega)⟩
theorem sim_value (hN : 200 ≤ N) (hT : HM n t μ0) (hve : ∀ x, v (.error x) = .error x) {x : Nat} (hx : x ≤ 3) (hv : Hv N n t μ0 v c (x + 1)) : SimV N n t μ0 (pValue (tkf n t) v) (c + 6) x := by
  intro μ p C K B D fe cl nf wh nm' V hV hwt hC hK hcl h
  subst hV
  have hs := OKV_up (c' := c + 6) (sim_sum (nf := nf) (cl := cl) hN hT hve hv hx hwt (W0 := []) (by simp) (fun o W hh => by cases hh) hC hK hcl h) (by omega) (fun μ' p' C' K' hq => hq)
  exact OKV_bind (F := pCmp (tkf n t) v) (fun x => by unfold pCmp; rw [now_e]; simp) hcl hs (fun μ' p' C' cl' K' g1 g2 g3 g4 g5 g6 => OKL_mono (sim_cmp hN hT hve hv hx hwt (by omega) (by simp; omega) g5 (AQ_K g6.1) g6.2) (fun _ _ _ _ hq => AV_as hq))
end VALS
theorem sim_V {N n : Nat} {t : Nat → Nat} {μ0 : St} (hN : 200 ≤ N) (hT : HM n t μ0) : ∀ d x, x + d = 3 → SimV N n t μ0 (pV (tkf n t) (d + 1)) (6 * (d + 1)) x := by
  intro d
  induction d with
  | zero =>
    intro x hx
    exact sim_value (c := 0) hN hT (fun y => pV_e _ _ y) (by omega) ⟨fun _ => rfl, fun h => absurd h (by omega)⟩
  | succ d ih =>
    intro x hx
    exact sim_value (c := 6 * (d + 1)) hN hT (fun y => pV_e _ _ y) (by omega) ⟨fun h => absurd h (by omega), fun _ => ih (x + 1) (by omega)⟩
