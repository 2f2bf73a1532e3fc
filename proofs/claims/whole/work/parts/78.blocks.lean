/-! choices, loops, blocks: side by side -/
abbrev QB (n : Nat) (t : Nat → Nat) (μ0 : St) (K : List KF) (B : List BF) (fe : Nat → Option (Nat × Nat)) (μ' : St) (p' : Nat) (C' : List (Nat × Nat)) (S : List (Nat × Nat)) (K' : List KF) : Prop := HD S ∧ tkf n t (p' - 1) = 9 ∧ ∃ D', MX n μ0 μ' (p' - 1) 2 C' (K ++ K') B D' fe none
def SimB (N n : Nat) (t : Nat → Nat) (μ0 : St) (b : RR → RR) (x : Nat) : Prop := ∀ (μ : St) (p : Nat) (C : List (Nat × Nat)) (K : List KF) (B : List BF) (D : Int32 × Int32 × Int32) (fe : Nat → Option (Nat × Nat)) (cl : Nat → Option Nat) (nf wh fl bk : Nat), B.length = x → C.length + 3 ≤ p → K.length ≤ p → NC cl p → MX n μ0 μ p 1 C K ((wh, fl, bk) :: B) D fe none → OKB N n t μ0 μ p C cl fe nf 1 0 (b (.ok (p, C, cl, fe, nf))) (QB n t μ0 K ((wh, fl, bk) :: B) fe)
def Hb (N n : Nat) (t : Nat → Nat) (μ0 : St) (b : RR → RR) (m : Nat) : Prop := (m = 4 → b = pFail 3) ∧ (m < 4 → SimB N n t μ0 b m)
section BLS
variable {N n : Nat} {t : Nat → Nat} {μ0 μ : St} {p : Nat} {C : List (Nat × Nat)} {K : List KF} {B : List BF} {D : Int32 × Int32 × Int32} {fe : Nat → Option (Nat × Nat)} {cl : Nat → Option Nat} {nf wh fl bk : Nat} {b : RR → RR}
theorem pAim_ok (j p : Nat) (C : List (Nat × Nat)) (s : (Nat → Option Nat) × (Nat → Option (Nat × Nat)) × Nat) : pAim j (.ok (p, C, s)) = .ok (p, aimed C j C.length, s) := rfl
theorem clen_ok (p : Nat) (C : List (Nat × Nat)) (s : (Nat → Option Nat) × (Nat → Option (Nat × Nat)) × Nat) : clen (.ok (p, C, s)) = C.length := rfl
theorem st_cho {a bg : Nat} {y : Int32} {μ1 : St} (hN : 200 ≤ N) (hT : HM n t μ0) (ha : a = 5 ∨ a = 6) (hy : y = nI a) (hD : D.2.2 = nI bg) (tr : ∀ μ2, choB y μ1 = some μ2 → TR N 1 μ μ2) (hp : p < n) (hC : C.length + 2 ≤ p) (hK : K.length ≤ p) (hcl : NC cl p) (h : MX n μ0 μ1 p 2 C K B D fe none) :
    (∃ x, pChoice (tkf n t) (pNext (.ok (p, C, cl, fe, nf))) = .error x ∧ ER N n μ0 μ p x) ∨
    (∃ p' S cl' K' j μ', pChoice (tkf n t) (pNext (.ok (p, C, cl, fe, nf))) = .ok (p', C ++ S, cl', fe, nf) ∧ S.length + p + 3 ≤ p' ∧ p' ≤ n ∧ KO (tkf n t) p p' K' ∧ CK cl cl' K' ∧ TYP 24 S K' ∧ ((B.length = 4 ∧ ER N n μ0 μ p (3, p')) ∨ (B.length < 4 ∧ TR N j μ μ' ∧ j + p ≤ p' ∧ MX n μ0 μ' p' 1 (C ++ S ++ [(46, 0)]) (K ++ K') ((if a = 5 then 1 else 3, (C ++ S).length, bg) :: B) D fe none))) := by
  have hn := hT.1
  unfold pChoice
  rw [pNext_ok, pExp_ok]
  rcases m_choB hT hp hy h with ⟨b1, μ2, e2, d2⟩ | ⟨b1, μ2, e2, h2, hp2⟩
  · rw [if_neg b1, pV_e]
    exact Or.inl ⟨(1, p + 1), rfl, ER_tr (tr μ2 e2) d2 (by omega)⟩
  · rw [if_pos b1, show p + 1 + 1 = p + 2 from rfl]
    have tr1 := tr μ2 e2
    rcases val_then (nf := nf) (cl := cl) hN hT (by omega) (by omega) (fun i hi => hcl i (by omega)) h2 with ⟨x, e1, e3⟩ | ⟨p3, S, cl3, K3, j, μ3, e1, q1, q2, q3, q4, q5, q6, q7, q8, q9⟩
    · rw [e1]; exact Or.inl ⟨x, rfl, ER_trans tr1 (by omega) e3⟩
    · rw [e1, pExp_ok]
      have trA := TR_trans tr1 q7
      rcases av_end hN hT (by simp; omega) q9 with ⟨a1, a2⟩ | ⟨μ4, a1, a2⟩
      · have h10 : ¬ tkf n t p3 = 7 := fun hh => by rw [hh] at a1; exact absurd a1 (by decide)
        rw [if_neg h10]
        exact Or.inl ⟨(1, p3), rfl, ER_trans trA (by omega) a2⟩
      · rcases ve_choice (y := nI 0) hT ha hD (by simp; omega) a2 with ⟨h10, μ5, b1, b2⟩ | ⟨h10, h11, μ5, b1, b2⟩ | ⟨h10, h11, μ5, b1, b2, b3⟩
        · rw [if_neg h10]
          exact Or.inl ⟨(1, p3), rfl, ER_trans trA (by omega) (ER_tr (a1 μ5 b1) b2 q2)⟩
        · rw [if_pos h10]
          have hp3 : p3 < n := tk_lt (t := t) (by omega)
          exact Or.inr ⟨p3 + 1, S, cl3, K3, 0, μ, rfl, by omega, by omega, KO_mono q4 (by omega) (by omega), q5, q6, Or.inl ⟨h11, ER_trans trA (by omega) (ER_tr (a1 μ5 b1) b2 q2)⟩⟩
        · rw [if_pos h10]
          exact Or.inr ⟨p3 + 1, S, cl3, K3, 1 + j + 1, μ5, rfl, by omega, by omega, KO_mono q4 (by omega) (by omega), q5, q6, Or.inr ⟨h11, TR_trans trA (a1 μ5 b1), by omega, b2⟩⟩
theorem at_end (C : List (Nat × Nat)) (x : Nat × Nat) : (C ++ [x])[C.length]? = some x := by simp
theorem st_while {bg w0 : Nat} {y : Int32} {μ1 : St} (hN : 200 ≤ N) (hT : HM n t μ0) (hbe : ∀ x, b (.error x) = .error x) (hb : Hb N n t μ0 b B.length) (hy : y = nI 6) (hD : D.2.2 = nI bg) (hbg : C[bg]? = some (32, w0)) (tr : ∀ μ2, choB y μ1 = some μ2 → TR N 1 μ μ2) (hp : p < n) (hC : C.length + 2 ≤ p) (hK : K.length ≤ p) (hcl : NC cl p) (h : MX n μ0 μ1 p 2 C K B D fe none) :
    OKB N n t μ0 μ p C cl fe nf 0 1 (pWhile (tkf n t) b bg (.ok (p, C, cl, fe, nf))) (QS n μ0 K B fe) := by
  have hn := hT.1
  unfold pWhile
  rcases st_cho (nf := nf) hN hT (Or.inr rfl) hy hD tr hp hC hK hcl h with ⟨x, e1, e2⟩ | ⟨p', S, cl', K', j, μ', e1, q1, q2, q3, q4, q5, ⟨q6, q7⟩ | ⟨q6, q7, q8, q9⟩⟩
  · rw [e1]
    unfold pWhileB
    rw [pAdd_e, hbe]
    exact e2
  · rw [e1]
    unfold pWhileB
    rw [hb.1 q6, pAdd_ok (by simp; omega)]
    exact q7
  · rw [e1]
    unfold pWhileB
    rw [clen_ok, pAdd_ok (by simp; omega)]
    have k3 := q3.2.2
    have hs := hb.2 q6 μ' p' (C ++ S ++ [(46, 0)]) (K ++ K') B D fe cl' nf _ _ bg rfl (by simp; omega) (by simp; omega) (NC_CK hcl q4 q3) q9
    cases hr : b (.ok (p', C ++ S ++ [(46, 0)], cl', fe, nf)) with
    | error x =>
      rw [hr] at hs
      exact ER_trans q7 q8 hs
    | ok σ =>
      obtain ⟨p2, C2, cl2, fe2, nf2⟩ := σ
      rw [hr] at hs
      obtain ⟨rfl, rfl, S2, K2, j2, μ2, rfl, r1, r2, r3, r4, r5, r6, r7, r8, -, r9, D2, r10⟩ := hs
      have hget : (C ++ S ++ [(46, 0)] ++ S2)[(C ++ S).length]? = some (46, 0) := get_app S2 (at_end (C ++ S) (46, 0))
      have hl : (C ++ S ++ [(46, 0)] ++ S2).length + 3 ≤ p2 := by simp at r3 ⊢; omega
      obtain ⟨μ3, e3, h3, hp3⟩ := m_be_while hT r9 hget (Or.inr rfl) (by omega) r10
      have hp2 : p2 - 1 + 1 = p2 := by omega
      rw [hp2] at h3
      have trB : TR N 1 μ2 μ3 := TR_one r10 (by rw [turn_2 r10.2.1.2.2.1, e3])
      rw [pAdd_ok (by omega), pAim_ok]
      have hlen : (C ++ S ++ [(46, 0)] ++ S2 ++ [(45, bg)]).length = (C ++ S ++ [(46, 0)] ++ S2).length + 1 := by rw [List.length_append]; rfl
      have hT2 : aimed (C ++ S ++ [(46, 0)] ++ S2 ++ [(45, bg)]) (C ++ S).length ((C ++ S ++ [(46, 0)] ++ S2 ++ [(45, bg)]).length) = C ++ aimed (S ++ [(46, 0)] ++ S2 ++ [(45, bg)]) ((C ++ S).length - C.length) ((C ++ S ++ [(46, 0)] ++ S2 ++ [(45, bg)]).length) := by
        rw [← aimed_app (by simp)]
        simp only [List.append_assoc]
      refine ⟨rfl, rfl, _, K' ++ K2, j + j2 + 1, μ3, hT2, by omega, r2, by rw [aimed_len]; simp at r3 ⊢; omega, KO_app q3 r4, CK_app q4 r5, ?_, TR_trans (TR_trans q7 r7) trB, by omega, D2, by rw [← hlen, List.append_assoc K] at h3; exact h3⟩
      intro ar hak X hg
      obtain ⟨ak1, ak2⟩ := AK_app hak
      rw [← hT2]
      have g1 := r6 ar ak2 _ (GD_46 (a := 0) (GD_val hg (q5 ar ak1 0 (by omega))))
      have hbg3 : (C ++ S ++ [(46, 0)] ++ S2)[bg]? = some (32, w0) := get_app _ (get_app _ (get_app _ hbg))
      exact GD_aim (GD_back g1 hbg3) (get_app _ hget) (Or.inr rfl) (fun k hk => hk)
theorem pElse_e (tk : Nat → Nat) (j : Nat) (x : Nat × Nat) : pElse tk b j (.error x) = .error x := by simp [pElse, now_e, pAim_e]
theorem st_if {bg : Nat} {y : Int32} {μ1 : St} (hN : 200 ≤ N) (hT : HM n t μ0) (hbe : ∀ x, b (.error x) = .error x) (hb : Hb N n t μ0 b B.length) (hy : y = nI 5) (hD : D.2.2 = nI bg) (tr : ∀ μ2, choB y μ1 = some μ2 → TR N 1 μ μ2) (hp : p < n) (hC : C.length + 2 ≤ p) (hK : K.length ≤ p) (hcl : NC cl p) (h : MX n μ0 μ1 p 2 C K B D fe none) :
    OKB N n t μ0 μ p C cl fe nf 0 1 (pIf (tkf n t) b (.ok (p, C, cl, fe, nf))) (QS n μ0 K B fe) := by
  have hn := hT.1
  unfold pIf
  rcases st_cho (nf := nf) hN hT (Or.inl rfl) hy hD tr hp hC hK hcl h with ⟨x, e1, e2⟩ | ⟨p', S, cl', K', j, μ', e1, q1, q2, q3, q4, q5, ⟨q6, q7⟩ | ⟨q6, q7, q8, q9⟩⟩
  · rw [e1]
    unfold pIfB
    rw [pAdd_e, hbe, pElse_e]
    exact e2
  · rw [e1]
    unfold pIfB
    rw [hb.1 q6, pAdd_ok (by simp; omega)]
    show OKB N n t μ0 μ p C cl fe nf 0 1 (pElse (tkf n t) (pFail 3) _ (.error (3, p'))) _
    rw [pElse_e]
    exact q7
  · rw [e1]
    unfold pIfB
    rw [clen_ok, pAdd_ok (by simp; omega)]
    have k3 := q3.2.2
    have hcl' := NC_CK hcl q4 q3
    have hs := hb.2 q6 μ' p' (C ++ S ++ [(46, 0)]) (K ++ K') B D fe cl' nf _ _ bg rfl (by simp; omega) (by simp; omega) hcl' q9
    cases hr : b (.ok (p', C ++ S ++ [(46, 0)], cl', fe, nf)) with
    | error x =>
      rw [hr] at hs
      rw [pElse_e]
      exact ER_trans q7 q8 hs
    | ok σ =>
      obtain ⟨p2, C2, cl2, fe2, nf2⟩ := σ
      rw [hr] at hs
      obtain ⟨rfl, rfl, S2, K2, j2, μ2, rfl, r1, r2, r3, r4, r5, r6, r7, r8, -, r9, D2, r10⟩ := hs
      have hget : (C ++ S ++ [(46, 0)] ++ S2)[(C ++ S).length]? = some (46, 0) := get_app S2 (at_end (C ++ S) (46, 0))
      have hl : (C ++ S ++ [(46, 0)] ++ S2).length + 3 ≤ p2 := by simp at r3 ⊢; omega
      have hp2 : p2 - 1 + 1 = p2 := by omega
      have k4 := r4.2.2
      unfold pElse
      rw [now_ok]
      by_cases h1 : tkf n t p2 = 1
      · rw [if_pos h1, clen_ok, pNext_ok, pAdd_ok (by omega), pAim_ok]
        obtain ⟨μ3, e3, h3, hp3⟩ := m_be_else hT r9 (by rw [hp2]; exact h1) hget (Or.inr rfl) (by omega) r10
        rw [show p2 - 1 + 2 = p2 + 1 by omega] at h3
        have hlen : (C ++ S ++ [(46, 0)] ++ S2 ++ [(45, 0)]).length = (C ++ S ++ [(46, 0)] ++ S2).length + 1 := by rw [List.length_append]; rfl
        rw [← hlen] at h3
        have trB : TR N 1 μ2 μ3 := TR_one r10 (by rw [turn_2 r10.2.1.2.2.1, e3])
        have trC := TR_trans (TR_trans q7 r7) trB
        have hs2 := hb.2 q6 μ3 (p2 + 1) _ ((K ++ K') ++ K2) B D2 fe cl2 nf 2 _ 0 rfl (by rw [aimed_len, hlen]; omega) (by simp; omega) (fun i hi => NC_CK hcl' r5 r4 i (by omega)) h3
        cases hr2 : b (.ok (p2 + 1, aimed (C ++ S ++ [(46, 0)] ++ S2 ++ [(45, 0)]) (C ++ S).length (C ++ S ++ [(46, 0)] ++ S2 ++ [(45, 0)]).length, cl2, fe, nf)) with
        | error x =>
          rw [hr2] at hs2
          exact ER_trans trC (by omega) hs2
        | ok σ =>
          obtain ⟨p4, C4, cl4, fe4, nf4⟩ := σ
          rw [hr2] at hs2
          obtain ⟨rfl, rfl, S4, K4, j4, μ4, rfl, u1, u2, u3, u4, u5, u6, u7, u8, -, u9, D4, u10⟩ := hs2
          have hne : ¬ (C ++ S).length = (C ++ S ++ [(46, 0)] ++ S2).length := by simp
          have hget0 : (aimed (C ++ S ++ [(46, 0)] ++ S2 ++ [(45, 0)]) (C ++ S).length (C ++ S ++ [(46, 0)] ++ S2 ++ [(45, 0)]).length)[(C ++ S ++ [(46, 0)] ++ S2).length]? = some (45, 0) := by
            rw [aimed_get, if_neg hne]
            exact at_end _ _
          have hget4 := get_app S4 hget0
          have hl4 : (aimed (C ++ S ++ [(46, 0)] ++ S2 ++ [(45, 0)]) (C ++ S).length (C ++ S ++ [(46, 0)] ++ S2 ++ [(45, 0)]).length ++ S4).length ≤ p4 := by rw [List.length_append, aimed_len, hlen]; omega
          obtain ⟨μ5, e5, h5, hp5⟩ := m_be_if hT u9 (Or.inl rfl) hget4 (Or.inl rfl) (by omega) u10
          rw [show p4 - 1 + 1 = p4 by omega] at h5
          have trD : TR N 1 μ4 μ5 := TR_one u10 (by rw [turn_2 u10.2.1.2.2.1, e5])
          rw [pAim_ok]
          have hT1 : ∀ v, aimed (C ++ S ++ [(46, 0)] ++ S2 ++ [(45, 0)]) (C ++ S).length v = C ++ aimed (S ++ [(46, 0)] ++ S2 ++ [(45, 0)]) ((C ++ S).length - C.length) v := by
            intro v
            rw [← aimed_app (by simp)]
            simp only [List.append_assoc]
          have hT2 : ∀ v w, aimed (aimed (C ++ S ++ [(46, 0)] ++ S2 ++ [(45, 0)]) (C ++ S).length v ++ S4) (C ++ S ++ [(46, 0)] ++ S2).length w = C ++ aimed (aimed (S ++ [(46, 0)] ++ S2 ++ [(45, 0)]) ((C ++ S).length - C.length) v ++ S4) ((C ++ S ++ [(46, 0)] ++ S2).length - C.length) w := by
            intro v w
            rw [hT1, List.append_assoc C, aimed_app (by simp)]
          refine ⟨rfl, rfl, _, K' ++ K2 ++ K4, j + j2 + 1 + j4 + 1, μ5, hT2 _ _, by omega, u2, by rw [aimed_len, List.length_append, aimed_len]; simp at r3 ⊢; omega, KO_app (KO_app q3 r4) (KO_mono u4 (by omega) (Nat.le_refl _)), CK_app (CK_app q4 r5) u5, ?_, TR_trans (TR_trans trC u7) trD, by omega, D4, by rw [show K ++ (K' ++ K2 ++ K4) = K ++ K' ++ K2 ++ K4 by simp]; exact h5⟩
          intro ar hak X hg
          obtain ⟨ak0, ak3⟩ := AK_app hak
          obtain ⟨ak1, ak2⟩ := AK_app ak0
          rw [← hT2]
          have g1 := r6 ar ak2 _ (GD_46 (a := 0) (GD_val hg (q5 ar ak1 0 (by omega))))
          have g2 := GD_aim (X' := fun k => X k ∨ k = (C ++ S ++ [(46, 0)] ++ S2).length) (GD_45 (a := 0) g1) (get_app _ hget) (Or.inr rfl) (fun k hk => by
            rcases hk with (hk | hk) | hk
            · exact Or.inl (Or.inl hk)
            · exact Or.inr hk
            · exact Or.inl (Or.inr hk))
          exact GD_aim (u6 ar ak3 _ g2) hget4 (Or.inl rfl) (fun k hk => hk)
      · rw [if_neg h1, pAim_ok]
        obtain ⟨μ3, e3, h3, hp3⟩ := m_be_if hT r9 (Or.inr ⟨rfl, by rw [hp2]; exact h1⟩) hget (Or.inr rfl) (by omega) r10
        rw [hp2] at h3
        have trB : TR N 1 μ2 μ3 := TR_one r10 (by rw [turn_2 r10.2.1.2.2.1, e3])
        have hT2 : ∀ v, aimed (C ++ S ++ [(46, 0)] ++ S2) (C ++ S).length v = C ++ aimed (S ++ [(46, 0)] ++ S2) ((C ++ S).length - C.length) v := by
          intro v
          rw [← aimed_app (by simp)]
          simp only [List.append_assoc]
        refine ⟨rfl, rfl, _, K' ++ K2, j + j2 + 1, μ3, hT2 _, by omega, r2, by rw [aimed_len]; simp at r3 ⊢; omega, KO_app q3 r4, CK_app q4 r5, ?_, TR_trans (TR_trans q7 r7) trB, by omega, D2, by rw [List.append_assoc K] at h3; exact h3⟩
        intro ar hak X hg
        obtain ⟨ak1, ak2⟩ := AK_app hak
        rw [← hT2]
        exact GD_aim (r6 ar ak2 _ (GD_46 (a := 0) (GD_val hg (q5 ar ak1 0 (by omega))))) hget (Or.inr rfl) (fun k hk => hk)
end BLS
