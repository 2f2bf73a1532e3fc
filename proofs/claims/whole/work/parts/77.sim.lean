/-! statements and blocks, side by side -/
def HD (S : List (Nat × Nat)) : Prop := S = [] ∨ ∃ a T, S = (32, a) :: T
def SG (C S : List (Nat × Nat)) (K : List KF) : Prop := ∀ ar, AK ar K → ∀ X, GD ar X C 0 → GD ar X (C ++ S) 0
def OKB (N n : Nat) (t : Nat → Nat) (μ0 μ : St) (p : Nat) (C : List (Nat × Nat)) (cl : Nat → Option Nat) (fe : Nat → Option (Nat × Nat)) (nf e s : Nat) (r : RR) (Q : St → Nat → List (Nat × Nat) → List (Nat × Nat) → List KF → Prop) : Prop := match r with
  | .error x => ER N n μ0 μ p x
  | .ok (p', C', cl', fe', nf') => fe = fe' ∧ nf = nf' ∧ ∃ S K' j μ', C' = C ++ S ∧ p < p' ∧ p' ≤ n ∧ S.length + p + s ≤ p' ∧ KO (tkf n t) p p' K' ∧ CK cl cl' K' ∧ SG C S K' ∧ TR N j μ μ' ∧ j + p + e ≤ p' ∧ Q μ' p' C' S K'
section STS
variable {N n : Nat} {t : Nat → Nat} {μ0 μ : St} {p : Nat} {C : List (Nat × Nat)} {K : List KF} {B : List BF} {D : Int32 × Int32 × Int32} {fe : Nat → Option (Nat × Nat)} {cl : Nat → Option Nat} {nf wh nm' : Nat}
theorem val_then (hN : 200 ≤ N) (hT : HM n t μ0) (hC : C.length + 1 ≤ p) (hK : K.length ≤ p) (hcl : NC cl p) (h : MX n μ0 μ p 3 C K B D fe (some [(wh, nm', 0, [])])) :
    (∃ x, pV (tkf n t) 4 (.ok (p, C, cl, fe, nf)) = .error x ∧ ER N n μ0 μ p x) ∨
    (∃ p' S cl' K' j μ', pV (tkf n t) 4 (.ok (p, C, cl, fe, nf)) = .ok (p', C ++ S, cl', fe, nf) ∧ p < p' ∧ p' ≤ n ∧ S.length + p ≤ p' ∧ KO (tkf n t) p p' K' ∧ CK cl cl' K' ∧ TYP 24 S K' ∧ TR N j μ μ' ∧ j + p ≤ p' ∧ AV n t μ0 K B D fe wh nm' [] μ' p' (C ++ S) K') := by
  have hs := sim_V hN hT 3 0 rfl μ p C K B D fe cl nf wh nm' [] rfl (by simp [wtot]) hC hK hcl h
  cases hr : pV (tkf n t) 4 (.ok (p, C, cl, fe, nf)) with
  | error x => rw [hr] at hs; exact Or.inl ⟨x, rfl, hs⟩
  | ok σ =>
    obtain ⟨p1, C1, cl1, fe1, nf1⟩ := σ
    rw [hr] at hs
    obtain ⟨rfl, rfl, S, K', j, μ1, rfl, q⟩ := hs
    exact Or.inr ⟨p1, S, cl1, K', j, μ1, rfl, q⟩
theorem av_end {K' : List KF} {V : List VF} (hN : 200 ≤ N) (hT : HM n t μ0) (hl : C.length ≤ 160) (h : AV n t μ0 K B D fe wh nm' V μ p C K') : (lvl (tkf n t p) = 1 ∧ ER N n μ0 μ p (1, p)) ∨ ∃ μ1, (∀ μ2, f_M_valueEnds (nI wh) (nI nm') μ1 = some μ2 → TR N 1 μ μ2) ∧ MX n μ0 μ1 p 4 C (K ++ K') B D fe (some ((wh, nm', 0, []) :: V)) := by
  obtain ⟨-, ⟨-, μ1, e1, h1, l1, l2⟩ | ⟨h1, h2⟩⟩ := av_step hN hT hl h
  · exact Or.inr ⟨μ1, fun μ2 e2 => ⟨l1, l2, μ2, by rw [e1, e2], rfl⟩, h1⟩
  · exact Or.inl ⟨h1, h2⟩
theorem ER_tr {μ1 : St} {x : Nat × Nat} (tr : TR N 1 μ μ1) (hd : Dead μ0 μ1 x) (hp : p ≤ n) : ER N n μ0 μ p x := ⟨1, μ1, tr, hd, by omega⟩
/-- a value, an end, and the step that uses it -/
theorem sim_tail {o a : Nat} (hN : 200 ≤ N) (hT : HM n t μ0) (hw : (wh = 4 ∧ D.1 = nI a ∧ D.2.1 = nI (mop o) ∧ (o = 37 ∨ o = 39 ∨ o = 41)) ∨ (wh = 7 ∧ o = 0 ∧ a = 0) ∨ (wh = 8 ∧ o = 44 ∧ a = 0)) (hC : C.length + 1 ≤ p) (hK : K.length ≤ p) (hcl : NC cl p) (h : MX n μ0 μ p 3 C K B D fe (some [(wh, nm', 0, [])])) :
    (∃ x, pExp (tkf n t) 10 (pAdd o a (pV (tkf n t) 4 (.ok (p, C, cl, fe, nf)))) = .error x ∧ pAdd o a (pExp (tkf n t) 10 (pV (tkf n t) 4 (.ok (p, C, cl, fe, nf)))) = .error x ∧ ER N n μ0 μ p x) ∨
    (∃ p' S cl' K' j μ', pExp (tkf n t) 10 (pAdd o a (pV (tkf n t) 4 (.ok (p, C, cl, fe, nf)))) = .ok (p', C ++ (S ++ [(o, a)]), cl', fe, nf) ∧ pAdd o a (pExp (tkf n t) 10 (pV (tkf n t) 4 (.ok (p, C, cl, fe, nf)))) = .ok (p', C ++ (S ++ [(o, a)]), cl', fe, nf) ∧ p < p' ∧ p' ≤ n ∧ S.length + 1 + p ≤ p' ∧ KO (tkf n t) p p' K' ∧ CK cl cl' K' ∧ TYP 24 S K' ∧ TR N j μ μ' ∧ j + p ≤ p' ∧ MX n μ0 μ' p' 2 (C ++ (S ++ [(o, a)])) (K ++ K') B D fe none) := by
  have hn := hT.1
  rcases val_then (nf := nf) hN hT hC hK hcl h with ⟨x, e1, e2⟩ | ⟨p', S, cl', K', j, μ', e1, q1, q2, q3, q4, q5, q6, q7, q8, q9⟩
  · exact Or.inl ⟨x, by rw [e1]; rfl, by rw [e1]; rfl, e2⟩
  · have hl : (C ++ S).length < 160 := by simp; omega
    rw [e1, pAdd_ok hl, pExp_ok, pExp_ok]
    rcases av_end hN hT (by omega) q9 with ⟨a1, a2⟩ | ⟨μ1, a1, a2⟩
    · have h10 : ¬ tkf n t p' = 10 := fun hh => by rw [hh] at a1; exact absurd a1 (by decide)
      rw [if_neg h10, if_neg h10]
      exact Or.inl ⟨(1, p'), rfl, rfl, ER_trans q7 q8 a2⟩
    · rcases ve_word (y := nI nm') hT hw (by omega) a2 with ⟨h10, μ2, b1, b2⟩ | ⟨h10, μ2, b1, b2, b3⟩
      · rw [if_neg h10, if_neg h10]
        exact Or.inl ⟨(1, p'), rfl, rfl, ER_trans q7 q8 (ER_tr (a1 μ2 b1) b2 q2)⟩
      · rw [if_pos h10, if_pos h10, pAdd_ok hl]
        refine Or.inr ⟨p' + 1, S, cl', K', j + 1, μ2, by rw [List.append_assoc], by rw [List.append_assoc], by omega, by omega, by omega, KO_mono q4 (Nat.le_refl _) (by omega), q5, q6, TR_trans q7 (a1 μ2 b1), by omega, by rw [← List.append_assoc]; exact b2⟩
/-- the inside of a statement has come to its end -/
abbrev QS (n : Nat) (μ0 : St) (K : List KF) (B : List BF) (fe : Nat → Option (Nat × Nat)) (μ' : St) (p' : Nat) (C' : List (Nat × Nat)) (_ : List (Nat × Nat)) (K' : List KF) : Prop := ∃ D', MX n μ0 μ' p' 2 C' (K ++ K') B D' fe none
theorem SG_fin {C S : List (Nat × Nat)} {K : List KF} {o a : Nat} (h : TYP 24 S K) (ho : ((o = 37 ∨ o = 39) ∧ a < 8) ∨ o = 44 ∨ o = 0) : SG C (S ++ [(o, a)]) K := by
  intro ar ha X hg
  rw [← List.append_assoc]
  refine GD_fin (GD_val hg (h ar ha 0 (by omega))) ?_
  omega
theorem st_word {o a : Nat} {y : Int32} {μ1 : St} (hN : 200 ≤ N) (hT : HM n t μ0) (ha : (a = 7 ∧ o = 0) ∨ (a = 8 ∧ o = 44)) (hy : y = nI a) (tr : ∀ μ2, wrdB y μ1 = some μ2 → TR N 1 μ μ2) (hp : p < n) (hC : C.length + 2 ≤ p) (hK : K.length ≤ p) (hcl : NC cl p) (h : MX n μ0 μ1 p 2 C K B D fe none) :
    OKB N n t μ0 μ p C cl fe nf 0 1 (pWord (tkf n t) o (.ok (p, C, cl, fe, nf))) (QS n μ0 K B fe) := by
  obtain ⟨μ2, e2, h2⟩ := m_wrdB hT hp hy h
  have tr1 := tr μ2 e2
  unfold pWord
  rw [pNext_ok]
  rcases sim_tail (nf := nf) (cl := cl) (o := o) (a := 0) hN hT (by omega) (by omega) (by omega) (fun i hi => hcl i (by omega)) h2 with ⟨x, e1, -, e3⟩ | ⟨p', S, cl', K', j, μ', e1, -, q1, q2, q3, q4, q5, q6, q7, q8, q9⟩
  · rw [e1]; exact ER_trans tr1 (by omega) e3
  · rw [e1]
    exact ⟨rfl, rfl, S ++ [(o, 0)], K', 1 + j, μ', rfl, by omega, q2, by simp; omega, KO_mono q4 (by omega) (Nat.le_refl _), q5, SG_fin q6 (by omega), TR_trans tr1 q7, by omega, D, q9⟩
theorem st_set {o a : Nat} {y : Int32} {μ1 : St} (hN : 200 ≤ N) (hT : HM n t μ0) (hD : D.2.1 = nI (mop o)) (ho : o = 37 ∨ o = 39) (ha : a < 8) (hy : y = nI a) (tr : ∀ μ2, setB y μ1 = some μ2 → TR N 1 μ μ2) (hp : p < n) (hC : C.length + 2 ≤ p) (hK : K.length ≤ p) (hcl : NC cl p) (h : MX n μ0 μ1 p 2 C K B D fe none) :
    OKB N n t μ0 μ p C cl fe nf 0 1 (pSet (tkf n t) o a (pNext (.ok (p, C, cl, fe, nf)))) (QS n μ0 K B fe) := by
  unfold pSet
  rw [pNext_ok, pExp_ok]
  rcases m_setB hT hp hy h with ⟨b1, μ2, e2, d2⟩ | ⟨b1, μ2, e2, h2, hp2⟩
  · rw [if_neg b1]
    exact ER_tr (tr μ2 e2) d2 (by omega)
  · rw [if_pos b1]
    have tr1 := tr μ2 e2
    rcases sim_tail (nf := nf) (cl := cl) (o := o) (a := a) (p := p + 2) (C := C) (K := K) (D := (nI a, D.2.1, D.2.2)) hN hT (Or.inl ⟨rfl, rfl, hD, by omega⟩) (by omega) (by omega) (fun i hi => hcl i (by omega)) h2 with ⟨x, -, e1, e3⟩ | ⟨p', S, cl', K', j, μ', -, e1, q1, q2, q3, q4, q5, q6, q7, q8, q9⟩
    · rw [show p + 1 + 1 = p + 2 from rfl, e1]; exact ER_trans tr1 (by omega) e3
    · rw [show p + 1 + 1 = p + 2 from rfl, e1]
      exact ⟨rfl, rfl, S ++ [(o, a)], K', 1 + j, μ', rfl, by omega, q2, by simp; omega, KO_mono q4 (by omega) (Nat.le_refl _), q5, SG_fin q6 (Or.inl ⟨ho, ha⟩), TR_trans tr1 q7, by omega, _, q9⟩
theorem st_arr {a : Nat} {y : Int32} {μ1 : St} (hN : 200 ≤ N) (hT : HM n t μ0) (hD : D.2.1 = nI (mop 41)) (ha : a < 4) (hy : y = nI a) (tr : ∀ μ2, arrB y μ1 = some μ2 → TR N 1 μ μ2) (hp : p < n) (hC : C.length + 2 ≤ p) (hK : K.length ≤ p) (hcl : NC cl p) (h : MX n μ0 μ1 p 2 C K B D fe none) :
    OKB N n t μ0 μ p C cl fe nf 0 1 (pSet (tkf n t) 41 a (pIdx (tkf n t) (pV (tkf n t) 4) (pNext (.ok (p, C, cl, fe, nf))))) (QS n μ0 K B fe) := by
  have hn := hT.1
  unfold pSet pIdx
  rw [pNext_ok, pExp_ok]
  rcases m_arrB hT hp hy h with ⟨b1, μ2, e2, d2⟩ | ⟨b1, μ2, e2, h2, hp2⟩
  · rw [if_neg b1, pV_e, pExp_e, pExp_e, pV_e]
    exact ER_tr (tr μ2 e2) d2 (by omega)
  · rw [if_pos b1]
    have tr1 := tr μ2 e2
    rcases val_then (nf := nf) (cl := cl) hN hT (by omega) (by omega) (fun i hi => hcl i (by omega)) h2 with ⟨x, e1, e3⟩ | ⟨p3, S, cl3, K3, j, μ3, e1, q1, q2, q3, q4, q5, q6, q7, q8, q9⟩
    · rw [show p + 1 + 1 = p + 2 from rfl, e1, pExp_e, pExp_e, pV_e]; exact ER_trans tr1 (by omega) e3
    · rw [show p + 1 + 1 = p + 2 from rfl, e1, pExp_ok]
      have trA := TR_trans tr1 q7
      rcases av_end hN hT (by simp; omega) q9 with ⟨a1, a2⟩ | ⟨μ4, a1, a2⟩
      · have h10 : ¬ tkf n t p3 = 22 := fun hh => by rw [hh] at a1; exact absurd a1 (by decide)
        rw [if_neg h10, pExp_e, pV_e]
        exact ER_trans trA (by omega) a2
      · rcases ve_left (y := nI 0) hT a2 with ⟨h10, μ5, b1, b2⟩ | ⟨h10, h11, μ5, b1, b2⟩ | ⟨h10, h11, μ5, b1, b2, b3⟩
        · rw [if_neg h10, pExp_e, pV_e]
          exact ER_trans trA (by omega) (ER_tr (a1 μ5 b1) b2 q2)
        · rw [if_pos h10, pExp_ok, if_neg h11, pV_e]
          exact ER_trans trA (by omega) (ER_tr (a1 μ5 b1) b2 q2)
        · rw [if_pos h10, pExp_ok, if_pos h11, show p3 + 1 + 1 = p3 + 2 from rfl]
          have trB := TR_trans trA (a1 μ5 b1)
          have hcl3 := NC_CK (fun i hi => hcl i (by omega)) q5 q4
          have k4 := q4.2.2
          rcases sim_tail (nf := nf) (cl := cl3) (o := 41) (a := a) (p := p3 + 2) (C := C ++ S) (K := K ++ K3) (D := (nI a, D.2.1, D.2.2)) hN hT (Or.inl ⟨rfl, rfl, hD, by omega⟩) (by simp; omega) (by simp; omega) (fun i hi => hcl3 i (by omega)) b2 with ⟨x, -, e1', e3⟩ | ⟨p', S', cl', K', j', μ', -, e1', r1, r2, r3, r4, r5, r6, r7, r8, r9⟩
          · rw [e1']; exact ER_trans trB (by omega) e3
          · rw [e1']
            refine ⟨rfl, rfl, S ++ (S' ++ [(41, a)]), K3 ++ K', 1 + j + 1 + j', μ', by simp, by omega, r2, by simp; omega, KO_app (KO_mono q4 (by omega) (Nat.le_refl _)) (KO_mono r4 (by omega) (Nat.le_refl _)), CK_app q5 r5, ?_, TR_trans trB r7, by omega, _, by rw [← List.append_assoc K]; exact r9⟩
            intro ar hak X hg
            obtain ⟨ak1, ak2⟩ := AK_app hak
            rw [← List.append_assoc, ← List.append_assoc]
            exact GD_fin (GD_val (GD_val hg (q6 ar ak1 0 (by omega))) (r6 ar ak2 1 (by omega))) (Or.inr (Or.inl ⟨rfl, ha, rfl⟩))
set_option maxHeartbeats 1000000 in
theorem st_call {μ1 : St} (hN : 200 ≤ N) (hT : HM n t μ0) (hw : 52 ≤ tkf n t p ∧ tkf n t p < 58) (tr : ∀ μ2, callB μ1 = some μ2 → TR N 1 μ μ2) (hp : p < n) (hC : C.length + 2 ≤ p) (hK : K.length ≤ p) (hcl : NC cl p) (h : MX n μ0 μ1 p 2 C K B D fe none) :
    OKB N n t μ0 μ p C cl fe nf 0 1 (pExp (tkf n t) 10 (pAdd 43 0 (pCall (tkf n t) (pV (tkf n t) 4) (.ok (p, C, cl, fe, nf))))) (QS n μ0 K B fe) := by
  have hn := hT.1
  unfold pCall pCallB
  rw [now_ok, pNext_ok, pExp_ok]
  show OKB N n t μ0 μ p C cl fe nf 0 1 (pExp (tkf n t) 10 (pAdd 43 0 (pCallE (tkf n t) p _ _))) _
  obtain ⟨f, hf⟩ : ∃ f, f = tkf n t p - 52 := ⟨_, rfl⟩
  have hf2 : tkf n t p = 52 + f := by omega
  rcases m_callB hT ⟨hw.1, by omega⟩ (by omega) (by omega) h with ⟨a1, μ2, e2, d2⟩ | ⟨a1, a2, a3, μ2, e2, d2⟩ | ⟨a1, a2, a3, μ2, e2, h2, hp3⟩ | ⟨a1, a2, μ2, e2, h2, hp2⟩
  · rw [if_neg a1]
    unfold pArg
    rw [now_e, if_neg (by decide), pV_e, pArgs_e]
    exact ER_tr (tr μ2 e2) d2 (by omega)
  · rw [if_pos a1]
    unfold pArg pCallE
    rw [now_ok, if_pos (show tkf n t (p + 1 + 1) = 7 from a2)]
    dsimp only
    rw [pExp_ok, if_pos (show tkf n t (p + 1 + 1) = 7 from a2)]
    show OKB N n t μ0 μ p C cl fe nf 0 1 (pExp (tkf n t) 10 (pAdd 43 0 (pAdd 42 (tkf n t p - 52) (.ok (p + 1 + 1 + 1, C, (fun i => if i = p then some 0 else cl i), fe, nf))))) _
    rw [pAdd_ok (by omega), pAdd_ok (by simp; omega), pExp_ok, if_neg (show ¬ tkf n t (p + 1 + 1 + 1) = 10 from a3)]
    exact ER_tr (tr μ2 e2) d2 (by omega)
  · rw [if_pos a1]
    unfold pArg pCallE
    rw [now_ok, if_pos (show tkf n t (p + 1 + 1) = 7 from a2)]
    dsimp only
    rw [pExp_ok, if_pos (show tkf n t (p + 1 + 1) = 7 from a2)]
    show OKB N n t μ0 μ p C cl fe nf 0 1 (pExp (tkf n t) 10 (pAdd 43 0 (pAdd 42 (tkf n t p - 52) (.ok (p + 1 + 1 + 1, C, (fun i => if i = p then some 0 else cl i), fe, nf))))) _
    rw [pAdd_ok (by omega), pAdd_ok (by simp; omega), pExp_ok, if_pos (show tkf n t (p + 1 + 1 + 1) = 10 from a3), ← hf]
    rw [← hf] at h2
    refine ⟨rfl, rfl, [(42, f), (43, 0)], [(p, f, 0)], 1, μ2, by simp, by omega, by omega, by simp; omega, KO_cons (KO_nil (by omega)) hf2 (by omega) (by omega), CK_mark (tk := tkf n t) (q := p + 1) (p' := p + 1) hcl (CK_nil _) (KO_nil (Nat.le_refl _)) (by omega), ?_, tr μ2 e2, by omega, D, by simpa using h2⟩
    intro ar ha X hg
    obtain ⟨⟨b1, b2⟩, -⟩ := AK_cons ha
    rw [show C ++ [(42, f), (43, 0)] = (C ++ [(42, f)]) ++ [(43, 0)] by simp]
    refine GD_fin (x := 1) (GD_val hg (VT_one (Or.inr (Or.inr (Or.inr (Or.inr ⟨rfl, 0, b1, by omega⟩)))) (by omega) ?_)) (Or.inr (Or.inr ⟨Or.inl rfl, rfl⟩))
    unfold nx
    dsimp only at b1 ⊢
    rw [if_neg (by decide), if_neg (by decide), if_pos rfl, b1]
    rfl
  · rw [if_pos a1]
    unfold pArg
    rw [now_ok, if_neg (show ¬ tkf n t (p + 1 + 1) = 7 from a2), ← hf]
    rw [← hf] at h2
    have tr1 := tr μ2 e2
    have hsv : SimV N n t μ0 (pV (tkf n t) 4) 24 ([] : List VF).length := sim_V hN hT 3 0 rfl
    have hs1 := hsv μ2 (p + 2) C (K ++ [(p, f, 1)]) B D fe cl nf 9 K.length [] rfl (by simp [wtot]) (by omega) (by simp; omega) (fun i hi => hcl i (by omega)) h2
    cases hr : pV (tkf n t) 4 (.ok (p + 1 + 1, C, cl, fe, nf)) with
    | error x =>
      rw [show p + 2 = p + 1 + 1 from rfl, hr] at hs1
      unfold pCallE
      rw [pArgs_e]
      show ER N n μ0 μ p x
      exact ER_trans tr1 (by omega) hs1
    | ok σ =>
      obtain ⟨p3, C3, cl3, fe3, nf3⟩ := σ
      rw [show p + 2 = p + 1 + 1 from rfl, hr] at hs1
      obtain ⟨rfl, rfl, S, K', j, μc, rfl, q1, q2, q3, q4, q5, q6, q7, q8, q9⟩ := hs1
      have hav := AV_K q9
      rw [show (K ++ [(p, f, 1)]) ++ K' = K ++ (p, f, 1) :: K' by simp] at hav
      have hlen3 : (K ++ (p, f, 1) :: K').length ≤ p3 := by
        have := q4.2.2
        simp
        omega
      rcases sim_args hN hT (Or.inr rfl) (by simp [wtot]) hsv 159 1 μc p3 (C ++ S) cl3 K' (by decide) (by omega) (by omega) (by simp; omega) hlen3 (NC_CK (fun i hi => hcl i (by omega)) q5 q4) hav with ⟨g2, x, e1', e2⟩ | ⟨g2, p2, C2, cl2, S2, K2, j2, μ2', e1', e2, e3, e4, e5, e6, e7, e8, e9, e10, e11, e12, e13⟩
      · rw [e1']
        show ER N n μ0 μ p x
        exact ER_trans (TR_trans tr1 q7) (by omega) e2
      · rw [e1']
        unfold pCallE
        dsimp only
        rw [pExp_ok]
        have trA := TR_trans (TR_trans tr1 q7) e10
        have hC2 : C2.length + 3 ≤ p2 := by rw [e2]; simp; omega
        rcases av_end hN hT (by omega) e12 with ⟨h1', her⟩ | ⟨μa, ha, hb⟩
        · have h7 : ¬ tkf n t p2 = 7 := fun hh => by rw [hh] at h1'; exact absurd h1' (by decide)
          rw [if_neg h7]
          show ER N n μ0 μ p (1, p2)
          exact ER_trans trA (by omega) her
        · rw [List.append_nil] at hb
          have hKc : (K ++ (p, f, g2) :: (K' ++ K2))[K.length]? = some (p, f, g2) := by simp
          rcases ve_call hT hKc e13 (by omega) hb with ⟨b1, μb, eb, db⟩ | ⟨b1, b2, μb, eb, db⟩ | ⟨b1, b2, μb, eb, hb2, hpn2⟩
          · rw [if_neg b1]
            show ER N n μ0 μ p (1, p2)
            exact ER_trans trA (by omega) (ER_tr (ha μb eb) db e4)
          · rw [if_pos b1]
            show OKB N n t μ0 μ p C cl fe nf 0 1 (pExp (tkf n t) 10 (pAdd 43 0 (pAdd 42 f (.ok (p2 + 1, C2, (fun i => if i = p then some g2 else cl2 i), fe, nf))))) _
            rw [pAdd_ok (by omega), pAdd_ok (by simp; omega), pExp_ok, if_neg b2]
            exact ER_trans trA (by omega) (ER_tr (ha μb eb) db e4)
          · rw [if_pos b1]
            show OKB N n t μ0 μ p C cl fe nf 0 1 (pExp (tkf n t) 10 (pAdd 43 0 (pAdd 42 f (.ok (p2 + 1, C2, (fun i => if i = p then some g2 else cl2 i), fe, nf))))) _
            rw [pAdd_ok (by omega), pAdd_ok (by simp; omega), pExp_ok, if_pos b2, e2]
            have hko : KO (tkf n t) (p + 1) (p2 + 1 + 1) (K' ++ K2) := KO_mono (KO_app q4 e6) (by omega) (by omega)
            refine ⟨rfl, rfl, S ++ S2 ++ [(42, f), (43, 0)], (p, f, g2) :: (K' ++ K2), 1 + j + j2 + 1, μb, by simp, by omega, by omega, by simp; omega, KO_cons hko hf2 (by omega) e8.2, CK_mark hcl (CK_app q5 e7) hko (by omega), ?_, TR_trans trA (ha μb eb), by omega, D, by rw [e2] at hb2; simpa using hb2⟩
            intro ar hak X hg
            obtain ⟨⟨b1, b2⟩, b3⟩ := AK_cons hak
            obtain ⟨b4, b5⟩ := AK_app b3
            dsimp only at b1 b2
            rw [show C ++ (S ++ S2 ++ [(42, f), (43, 0)]) = ((C ++ (S ++ S2)) ++ [(42, f)]) ++ [(43, 0)] by simp]
            have v1 := q6 ar b4 0 (by omega)
            have v2 := e9 ar b5 b2 0 (by omega)
            refine GD_fin (x := 1) (GD_val (GD_val hg (VT_app v1 v2)) (VT_one (Or.inr (Or.inr (Or.inr (Or.inr ⟨rfl, g2, b1, by omega⟩)))) (by omega) ?_)) (Or.inr (Or.inr ⟨Or.inl rfl, rfl⟩))
            unfold nx
            dsimp only
            rw [if_neg (by decide), if_neg (by decide), if_pos rfl, b1]
            show 0 + g2 + 1 - g2 = 1
            omega
end STS
