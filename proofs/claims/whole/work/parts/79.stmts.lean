/-! a statement, statements, a block: side by side -/
section STL
variable {N n : Nat} {t : Nat → Nat} {μ0 μ : St} {p : Nat} {C : List (Nat × Nat)} {K : List KF} {B : List BF} {D : Int32 × Int32 × Int32} {fe : Nat → Option (Nat × Nat)} {cl : Nat → Option Nat} {nf wh fl bk : Nat} {b : RR → RR}
abbrev QT (n : Nat) (μ0 : St) (K : List KF) (B : List BF) (fe : Nat → Option (Nat × Nat)) (μ' : St) (p' : Nat) (C' : List (Nat × Nat)) (S : List (Nat × Nat)) (K' : List KF) : Prop := (∃ T, S = (32, 0) :: T) ∧ QS n μ0 K B fe μ' p' C' S K'
theorem st_lift {r : RR} (h : OKB N n t μ0 μ p (C ++ [(32, 0)]) cl fe nf 0 1 r (QS n μ0 K B fe)) : OKB N n t μ0 μ p C cl fe nf 0 0 r (QT n μ0 K B fe) := by
  cases r with
  | error x => exact h
  | ok σ =>
    obtain ⟨p1, C1, cl1, fe1, nf1⟩ := σ
    obtain ⟨a1, a2, S, K', j, μ1, q0, q1, q2, q3, q4, q5, q6, q7, q8, q9⟩ := h
    refine ⟨a1, a2, (32, 0) :: S, K', j, μ1, by rw [q0]; simp, q1, q2, by simp; omega, q4, q5, ?_, q7, q8, ⟨S, rfl⟩, q9⟩
    intro ar hak X hg
    have := q6 ar hak X (GD_32 hg)
    rw [List.append_assoc] at this
    exact this
theorem sim_stmt (hN : 200 ≤ N) (hT : HM n t μ0) (hbe : ∀ x, b (.error x) = .error x) (hb : Hb N n t μ0 b B.length) (h9 : tkf n t p ≠ 9) (hC : C.length + 3 ≤ p) (hK : K.length ≤ p) (hcl : NC cl p) (h : MX n μ0 μ p 2 C K B D fe none) :
    OKB N n t μ0 μ p C cl fe nf 0 0 (pStmt (tkf n t) b (.ok (p, C, cl, fe, nf))) (QT n μ0 K B fe) := by
  have hn := hT.1
  have hpn := h.2.1.2.1
  obtain ⟨μ1, e1, h1⟩ := m_stm0 hT h9 (by omega) h
  have tr : ∀ μ2, sB (tkf n t p) μ1 = some μ2 → TR N 1 μ μ2 := fun μ2 e2 => TR_one h (by rw [turn_2 h.2.1.2.2.1, e1, e2])
  unfold pStmt
  rw [clen_ok, pAdd_ok (by omega)]
  apply st_lift
  have hC1 : (C ++ [(32, 0)]).length + 2 ≤ p := by simp; omega
  have hbg : (C ++ [(32, 0)])[C.length]? = some (32, 0) := at_end C (32, 0)
  unfold pStmtB
  rw [now_ok]
  by_cases c0 : tkf n t p = 0
  · rw [if_pos c0]
    rw [c0] at tr
    exact st_if hN hT hbe hb rfl rfl (fun μ2 e2 => tr μ2 e2) (tk_lt (t := t) (by omega)) hC1 hK hcl h1
  rw [if_neg c0]
  by_cases c2 : tkf n t p = 2
  · rw [if_pos c2]
    rw [c2] at tr
    exact st_while hN hT hbe hb rfl rfl hbg (fun μ2 e2 => tr μ2 e2) (tk_lt (t := t) (by omega)) hC1 hK hcl h1
  rw [if_neg c2]
  by_cases c3 : tkf n t p = 3
  · rw [if_pos c3]
    rw [c3] at tr
    exact st_word hN hT (Or.inl ⟨rfl, rfl⟩) rfl (fun μ2 e2 => tr μ2 e2) (tk_lt (t := t) (by omega)) hC1 hK hcl h1
  rw [if_neg c3]
  by_cases c4 : tkf n t p = 4
  · rw [if_pos c4]
    rw [c4] at tr
    exact st_word hN hT (Or.inr ⟨rfl, rfl⟩) rfl (fun μ2 e2 => tr μ2 e2) (tk_lt (t := t) (by omega)) hC1 hK hcl h1
  rw [if_neg c4]
  by_cases c5 : 52 ≤ tkf n t p ∧ tkf n t p < 58
  · rw [if_pos c5]
    refine st_call hN hT c5 (fun μ2 e2 => tr μ2 ?_) (tk_lt (t := t) (by omega)) hC1 hK hcl h1
    unfold sB
    rw [if_neg (by omega), if_neg (by omega), if_neg (by omega), if_pos (by omega)]
    exact e2
  rw [if_neg c5]
  unfold pSetting
  by_cases d1 : 32 ≤ tkf n t p ∧ tkf n t p < 40
  · rw [if_pos d1]
    refine st_set hN hT (o := 37) ?_ (Or.inl rfl) (by omega) (tI_sub (c := 32) d1.1 (by omega)) (fun μ2 e2 => tr μ2 ?_) (tk_lt (t := t) (by omega)) hC1 hK hcl h1
    · show kdI (tkf n t p) = nI (mop 37)
      unfold kdI
      rw [if_pos (by omega)]
      rfl
    · unfold sB
      rw [if_pos (by omega)]
      exact e2
  rw [if_neg d1]
  by_cases d2 : 44 ≤ tkf n t p ∧ tkf n t p < 52
  · rw [if_pos d2]
    refine st_set hN hT (o := 39) ?_ (Or.inr rfl) (by omega) (tI_sub (c := 44) d2.1 (by omega)) (fun μ2 e2 => tr μ2 ?_) (tk_lt (t := t) (by omega)) hC1 hK hcl h1
    · show kdI (tkf n t p) = nI (mop 39)
      unfold kdI
      rw [if_neg (by omega), if_pos (by omega)]
      rfl
    · unfold sB
      rw [if_neg (by omega), if_pos (by omega)]
      exact e2
  rw [if_neg d2]
  by_cases d3 : 40 ≤ tkf n t p ∧ tkf n t p < 44
  · rw [if_pos d3]
    refine st_arr hN hT ?_ (by omega) (tI_sub (c := 40) d3.1 (by omega)) (fun μ2 e2 => tr μ2 ?_) (tk_lt (t := t) (by omega)) hC1 hK hcl h1
    · show kdI (tkf n t p) = nI (mop 41)
      unfold kdI
      rw [if_neg (by omega), if_neg (by omega)]
      rfl
    · unfold sB
      rw [if_neg (by omega), if_neg (by omega), if_pos (by omega)]
      exact e2
  rw [if_neg d3]
  obtain ⟨μ2, e2, d⟩ := m_wrong hT (x := (1 : Int32)) (y := μ1 105 0) 1 rfl (by decide) h1.2.1.1 h1
  refine ER_tr (tr μ2 ?_) d hpn
  unfold sB
  rw [if_neg (by omega), if_neg (by omega), if_neg (by omega), if_neg (by omega), if_neg c0, if_neg c2, if_neg c3, if_neg c4, e2]
  rfl
theorem sim_stL (hN : 200 ≤ N) (hT : HM n t μ0) (hbe : ∀ x, b (.error x) = .error x) (hb : Hb N n t μ0 b B.length) : ∀ (k : Nat) (μ : St) (p : Nat) (C : List (Nat × Nat)) (cl : Nat → Option Nat) (K : List KF) (D : Int32 × Int32 × Int32), 161 ≤ k + p → C.length + 3 ≤ p → K.length ≤ p → NC cl p → MX n μ0 μ p 2 C K B D fe none →
    (∃ x, pStL (tkf n t) (pStmt (tkf n t) b) k (.ok (p, C, cl, fe, nf)) = .error x ∧ ER N n μ0 μ p x) ∨
    (∃ p' S cl' K' j μ' D', pStL (tkf n t) (pStmt (tkf n t) b) k (.ok (p, C, cl, fe, nf)) = .ok (p', C ++ S, cl', fe, nf) ∧ p ≤ p' ∧ p' < n ∧ S.length + p ≤ p' ∧ KO (tkf n t) p p' K' ∧ CK cl cl' K' ∧ SG C S K' ∧ HD S ∧ TR N j μ μ' ∧ j + p ≤ p' ∧ tkf n t p' = 9 ∧ MX n μ0 μ' p' 2 (C ++ S) (K ++ K') B D' fe none) := by
  have hn := hT.1
  intro k
  induction k with
  | zero =>
    intro μ p C cl K D hk _ _ _ h
    have := h.2.1.2.1
    omega
  | succ k ih =>
    intro μ p C cl K D hk hC hK hcl h
    have hstep : pStL (tkf n t) (pStmt (tkf n t) b) (k + 1) (.ok (p, C, cl, fe, nf)) = if tkf n t p = 9 then .ok (p, C, cl, fe, nf) else pStL (tkf n t) (pStmt (tkf n t) b) k (pStmt (tkf n t) b (.ok (p, C, cl, fe, nf))) := rfl
    rw [hstep]
    by_cases h9 : tkf n t p = 9
    · rw [if_pos h9]
      exact Or.inr ⟨p, [], cl, [], 0, μ, D, by simp, Nat.le_refl _, tk_lt (t := t) (by omega), by simp, KO_nil (Nat.le_refl _), CK_nil _, (fun ar _ X hg => by rw [List.append_nil]; exact hg), Or.inl rfl, rfl, by omega, h9, by simpa using h⟩
    · rw [if_neg h9]
      have hs := sim_stmt (nf := nf) hN hT hbe hb h9 hC hK hcl h
      cases hr : pStmt (tkf n t) b (.ok (p, C, cl, fe, nf)) with
      | error x =>
        rw [hr] at hs
        rw [pStL_e]
        exact Or.inl ⟨x, rfl, hs⟩
      | ok σ =>
        obtain ⟨p1, C1, cl1, fe1, nf1⟩ := σ
        rw [hr] at hs
        obtain ⟨rfl, rfl, S, K', j, μ1, rfl, q1, q2, q3, q4, q5, q6, q7, q8, ⟨T, q9⟩, D1, q10⟩ := hs
        have k4 := q4.2.2
        rcases ih μ1 p1 (C ++ S) cl1 (K ++ K') D1 (by omega) (by simp; omega) (by simp; omega) (NC_CK hcl q5 q4) q10 with ⟨x, e1, e2⟩ | ⟨p', S', cl', K2, j', μ', D', e1, r1, r2, r3, r4, r5, r6, r7, r8, r9, r10, r11⟩
        · exact Or.inl ⟨x, e1, ER_trans q7 (by omega) e2⟩
        · refine Or.inr ⟨p', S ++ S', cl', K' ++ K2, j + j', μ', D', by rw [e1, List.append_assoc], by omega, r2, by simp; omega, KO_app q4 r4, CK_app q5 r5, ?_, Or.inr ⟨0, T ++ S', by rw [q9]; rfl⟩, TR_trans q7 r8, by omega, r10, by rw [← List.append_assoc, ← List.append_assoc]; exact r11⟩
          intro ar hak X hg
          obtain ⟨a1, a2⟩ := AK_app hak
          rw [← List.append_assoc]
          exact r6 ar a2 X (q6 ar a1 X hg)
theorem turn_1 (h : μ 106 0 = nI 1) : turn N μ = (ca2 (f_M_must (8 : Int32) μ) fun x91 μ92 => if x91 = 0 then some μ92 else some (st μ92 106 0 (2 : Int32))) := by unfold turn; rw [h, if_neg (by decide), if_pos (by decide)]
theorem sim_block (hN : 200 ≤ N) (hT : HM n t μ0) (hbe : ∀ x, b (.error x) = .error x) {x : Nat} (hb : Hb N n t μ0 b (x + 1)) : SimB N n t μ0 (pBlock (tkf n t) (pStmt (tkf n t) b)) x := by
  intro μ p C K B D fe cl nf wh fl bk hB hC hK hcl h
  subst hB
  have hn := hT.1
  have hpn := h.2.1.2.1
  unfold pBlock
  rw [pExp_ok]
  have ht := turn_1 (N := N) h.2.1.2.2.1
  rcases m_must hT (x := (8 : Int32)) 8 rfl (by decide) h with ⟨h8, μ1, e1, h1, hp⟩ | ⟨h8, μ1, e1, d1⟩
  · rw [if_pos h8]
    have h2 := m_mode (x := (2 : Int32)) 2 rfl h1
    have tr1 : TR N 1 μ (st μ1 106 0 (2 : Int32)) := TR_one h (by rw [ht, e1]; rfl)
    rcases sim_stL (nf := nf) hN hT hbe (B := (wh, fl, bk) :: B) hb 160 _ (p + 1) C cl K D (by omega) (by omega) (by omega) (fun i hi => hcl i (by omega)) h2 with ⟨x, e1, e2⟩ | ⟨p', S', cl', K2, j', μ', D', e1, r1, r2, r3, r4, r5, r6, r7, r8, r9, r10, r11⟩
    · rw [e1]
      exact ER_trans tr1 (by omega) e2
    · rw [e1, pExp_ok, if_pos r10]
      exact ⟨rfl, rfl, S', K2, 1 + j', μ', rfl, by omega, by omega, by omega, KO_mono r4 (by omega) (by omega), r5, r6, TR_trans tr1 r8, by omega, r7, r10, D', r11⟩
  · rw [if_neg h8, pStL_e]
    exact ER_one h (by rw [ht, e1]; rfl) d1
end STL
theorem sim_B {N n : Nat} {t : Nat → Nat} {μ0 : St} (hN : 200 ≤ N) (hT : HM n t μ0) : ∀ d x, x + d = 3 → SimB N n t μ0 (pB (tkf n t) (d + 1)) x := by
  intro d
  induction d with
  | zero =>
    intro x hx
    exact sim_block hN hT (fun y => pB_e _ _ y) ⟨fun _ => rfl, fun h => absurd h (by omega)⟩
  | succ d ih =>
    intro x hx
    exact sim_block hN hT (fun y => pB_e _ _ y) ⟨fun h => absurd h (by omega), fun _ => ih (x + 1) (by omega)⟩
