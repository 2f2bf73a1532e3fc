/-! a piece, side by side -/
def SimV (N n : Nat) (t : Nat → Nat) (μ0 : St) (v : RR → RR) (c x : Nat) : Prop := ∀ (μ : St) (p : Nat) (C : List (Nat × Nat)) (K : List KF) (B : List BF) (D : Int32 × Int32 × Int32) (fe : Nat → Option (Nat × Nat)) (cl : Nat → Option Nat) (nf wh nm' : Nat) (V : List VF), V.length = x → wtot V ≤ 3 * x → C.length + 1 ≤ p → K.length ≤ p → NC cl p → MX n μ0 μ p 3 C K B D fe (some ((wh, nm', 0, []) :: V)) → OKV N n t μ0 μ p C cl fe nf c (v (.ok (p, C, cl, fe, nf))) (AV n t μ0 K B D fe wh nm' V)
def Hv (N n : Nat) (t : Nat → Nat) (μ0 : St) (v : RR → RR) (c m : Nat) : Prop := (m = 4 → v = pFail 3) ∧ (m < 4 → SimV N n t μ0 v c m)
theorem pExp_ok (tk : Nat → Nat) (c p : Nat) (s : List (Nat × Nat) × (Nat → Option Nat) × (Nat → Option (Nat × Nat)) × Nat) : pExp tk c (.ok (p, s)) = if tk p = c then .ok (p + 1, s) else .error (1, p) := rfl
theorem pAdd_ok {o a p : Nat} {C : List (Nat × Nat)} {s : (Nat → Option Nat) × (Nat → Option (Nat × Nat)) × Nat} (h : C.length < 160) : pAdd o a (.ok (p, C, s)) = .ok (p, C ++ [(o, a)], s) := by unfold pAdd; dsimp only; rw [if_pos h]
theorem pNext_ok (p : Nat) (s : List (Nat × Nat) × (Nat → Option Nat) × (Nat → Option (Nat × Nat)) × Nat) : pNext (.ok (p, s)) = .ok (p + 1, s) := rfl
theorem now_ok (tk : Nat → Nat) (p : Nat) (s : List (Nat × Nat) × (Nat → Option Nat) × (Nat → Option (Nat × Nat)) × Nat) : now tk (.ok (p, s)) = tk p := rfl
theorem TYP_mono {c c' : Nat} {S : List (Nat × Nat)} {K : List KF} (h : TYP c S K) (hc : c ≤ c') : TYP c' S K := fun ar ha x hx => h ar ha x (by omega)
theorem pArgs_e (tk : Nat → Nat) (v : RR → RR) (k g : Nat) (x : Nat × Nat) : pArgs tk v k g (.error x) = (g, .error x) := by cases k <;> simp [pArgs, now_e]
section SP
variable {N n : Nat} {t : Nat → Nat} {μ0 μ : St} {p c : Nat} {C : List (Nat × Nat)} {K : List KF} {B : List BF} {D : Int32 × Int32 × Int32} {fe : Nat → Option (Nat × Nat)} {cl : Nat → Option Nat} {nf wh nm' s : Nat} {W : List Nat} {V : List VF} {v : RR → RR}
theorem AV_K {K' : List KF} {μ' : St} {p' : Nat} {C' : List (Nat × Nat)} (h : AV n t μ0 K B D fe wh nm' V μ' p' C' K') : AV n t μ0 (K ++ K') B D fe wh nm' V μ' p' C' [] := by
  obtain ⟨Cm, s, Wv, h1, h2, h3, h4, h5⟩ := h
  exact ⟨Cm, s, Wv, h1, h2, h3, by rw [List.append_nil]; exact h4, h5⟩
theorem AV_p {K' : List KF} {μ' : St} {p' : Nat} {C' : List (Nat × Nat)} (h : AV n t μ0 K B D fe wh nm' V μ' p' C' K') : p' ≤ n := by
  obtain ⟨Cm, s, Wv, h1, h2, h3, h4, h5⟩ := h
  exact h4.2.1.2.1
theorem sim_args (hN : 200 ≤ N) (hT : HM n t μ0) {pl f : Nat} {K0 : List KF} (hw : wh = 2 ∨ wh = 9) (hwt : wtot V ≤ 3 * V.length) (hv : SimV N n t μ0 v c V.length) : ∀ (k g : Nat) (μ : St) (p1 : Nat) (C1 : List (Nat × Nat)) (cl1 : Nat → Option Nat) (K1 : List KF), k + g = 160 → g + 2 ≤ p1 → 1 ≤ g → C1.length + 1 ≤ p1 → (K0 ++ (pl, f, g) :: K1).length ≤ p1 → NC cl1 p1 → AV n t μ0 (K0 ++ (pl, f, g) :: K1) B D fe wh K0.length V μ p1 C1 [] →
    (∃ g2 x, pArgs (tkf n t) v k g (.ok (p1, C1, cl1, fe, nf)) = (g2, .error x) ∧ ER N n μ0 μ p1 x) ∨
    (∃ g2 p2 C2 cl2 S K2 j μ2, pArgs (tkf n t) v k g (.ok (p1, C1, cl1, fe, nf)) = (g2, .ok (p2, C2, cl2, fe, nf)) ∧ C2 = C1 ++ S ∧ p1 ≤ p2 ∧ p2 ≤ n ∧ S.length + p1 ≤ p2 ∧ KO (tkf n t) p1 p2 K2 ∧ CK cl1 cl2 K2 ∧ (g ≤ g2 ∧ g2 ≤ 160) ∧ (∀ ar, AK ar K2 → g2 ≤ 3 → ∀ x, x + 2 + c ≤ 30 → VT ar (x + g) S (x + g2)) ∧ TR N j μ μ2 ∧ j + p1 ≤ p2 ∧ AV n t μ0 (K0 ++ (pl, f, g2) :: (K1 ++ K2)) B D fe wh K0.length V μ2 p2 C2 [] ∧ tkf n t p2 ≠ 11) := by
  have hn := hT.1
  intro k
  induction k with
  | zero =>
    intro g μ p1 C1 cl1 K1 hk hg hg1 hC hK hcl hA
    have := AV_p hA
    omega
  | succ k ih =>
    intro g μ p1 C1 cl1 K1 hk hg hg1 hC hK hcl hA
    have hp1 := AV_p hA
    by_cases h11 : tkf n t p1 = 11
    · have hpa : pArgs (tkf n t) v (k + 1) g (.ok (p1, C1, cl1, fe, nf)) = pArgs (tkf n t) v k (g + 1) (v (.ok (p1 + 1, C1, cl1, fe, nf))) := by
        show (if now (tkf n t) (.ok (p1, C1, cl1, fe, nf)) = 11 then _ else _) = _
        rw [now_ok, if_pos h11, pNext_ok]
      rw [hpa]
      obtain ⟨-, ⟨-, μa, ea, ha, l1, l2⟩ | ⟨h1, -⟩⟩ := av_step hN hT (by omega) hA
      · rw [List.append_nil] at ha
        have hKc : (K0 ++ (pl, f, g) :: K1)[K0.length]? = some (pl, f, g) := by simp
        obtain ⟨μb, eb, hb, hpn⟩ := ve_comma hT hw hKc h11 ha
        rw [giv_mid] at hb
        have tr1 : TR N 1 μ μb := ⟨l1, l2, μb, by rw [ea, eb], rfl⟩
        have hlen : (K0 ++ (pl, f, g + 1) :: K1).length ≤ p1 + 1 := by simp at hK ⊢; omega
        have hs := hv μb (p1 + 1) C1 (K0 ++ (pl, f, g + 1) :: K1) B D fe cl1 nf wh K0.length V rfl hwt (by omega) hlen (fun i hi => hcl i (by omega)) hb
        cases hr : v (.ok (p1 + 1, C1, cl1, fe, nf)) with
        | error x =>
          rw [hr] at hs
          refine Or.inl ⟨g + 1, x, by rw [pArgs_e], ER_trans tr1 (by omega) hs⟩
        | ok σ =>
          obtain ⟨p3, C3, cl3, fe3, nf3⟩ := σ
          rw [hr] at hs
          obtain ⟨rfl, rfl, S, K', j, μc, rfl, q1, q2, q3, q4, q5, q6, q7, q8, q9⟩ := hs
          have hav := AV_K q9
          rw [show (K0 ++ (pl, f, g + 1) :: K1) ++ K' = K0 ++ (pl, f, g + 1) :: (K1 ++ K') by simp] at hav
          have hlen3 : (K0 ++ (pl, f, g + 1) :: (K1 ++ K')).length ≤ p3 := by
            have := q4.2.2
            simp at hK ⊢
            omega
          rcases ih (g + 1) μc p3 (C1 ++ S) cl3 (K1 ++ K') (by omega) (by omega) (by omega) (by simp; omega) hlen3 (NC_CK (fun i hi => hcl i (by omega)) q5 q4) hav with ⟨g2, x, e1, e2⟩ | ⟨g2, p2, C2, cl2, S2, K2, j2, μ2, e1, e2, e3, e4, e5, e6, e7, e8, e9, e10, e11, e12, e13⟩
          · exact Or.inl ⟨g2, x, e1, ER_trans (TR_trans tr1 q7) (by omega) e2⟩
          · refine Or.inr ⟨g2, p2, C2, cl2, S ++ S2, K' ++ K2, 1 + j + j2, μ2, e1, by rw [e2, List.append_assoc], by omega, e4, by simp; omega, KO_mono (KO_app q4 e6) (by omega) (Nat.le_refl _), CK_app q5 e7, ⟨by omega, e8.2⟩, fun ar ha hg3 x hx => ?_, TR_trans (TR_trans tr1 q7) e10, by omega, by rw [List.append_assoc] at e12; exact e12, e13⟩
            obtain ⟨a1, a2⟩ := AK_app ha
            have v1 := q6 ar a1 (x + g) (by omega)
            have v2 := e9 ar a2 hg3 x hx
            rw [show x + g + 1 = x + (g + 1) by omega] at v1
            exact VT_app v1 v2
      · rw [h11] at h1
        exact absurd h1 (by decide)
    · refine Or.inr ⟨g, p1, C1, cl1, [], [], 0, μ, ?_, by simp, Nat.le_refl _, hp1, by simp, KO_nil (Nat.le_refl _), CK_nil _, ⟨Nat.le_refl _, by omega⟩, fun ar _ _ x _ => rfl, rfl, by omega, by rw [List.append_nil]; exact hA, h11⟩
      show (if now (tkf n t) (.ok (p1, C1, cl1, fe, nf)) = 11 then _ else _) = _
      rw [now_ok, if_neg h11]
set_option maxHeartbeats 1000000 in
theorem sim_piece (hN : 200 ≤ N) (hT : HM n t μ0) (hve : ∀ x, v (.error x) = .error x) (hv : Hv N n t μ0 v c (V.length + 1)) (hs : s = 5 ∨ s = 6 ∨ (s = 0 ∧ tkf n t p ≠ 14 ∧ tkf n t p ≠ 20)) (hwt : W.length + wtot V ≤ 3 * (V.length + 1)) (hC : C.length + 1 ≤ p) (hK : K.length ≤ p) (hcl : NC cl p) (h : MX n μ0 μ p 3 C K B D fe (some ((wh, nm', s, W) :: V))) :
    OKV N n t μ0 μ p C cl fe nf (c + 3) (pPiece (tkf n t) v (.ok (p, C, cl, fe, nf))) (fun μ' p' C' K' => MX n μ0 μ' p' 4 C' (K ++ K') B D fe (some ((wh, nm', s, W) :: V))) := by
  have hn := hT.1
  have hpn := h.2.1.2.1
  have h4 := m_mode (x := 4) 4 rfl h
  have eT : turn N μ = pieceB (tI (tkf n t p)) (st μ 106 0 4) := by rw [turn_3 h.2.1.2.2.1, m_piece_B hT hs h]
  have one : ∀ o a, ((64 ≤ tkf n t p ∧ tkf n t p ≤ 191 ∧ o = 33 ∧ a = tkf n t p - 64) ∨ (tkf n t p = 5 ∧ o = 34 ∧ a = 0) ∨ (32 ≤ tkf n t p ∧ tkf n t p ≤ 39 ∧ o = 36 ∧ a = tkf n t p - 32) ∨ (44 ≤ tkf n t p ∧ tkf n t p ≤ 51 ∧ o = 38 ∧ a = tkf n t p - 44)) → OKV N n t μ0 μ p C cl fe nf (c + 3) (pNext (pAdd o a (.ok (p, C, cl, fe, nf)))) (fun μ' p' C' K' => MX n μ0 μ' p' 4 C' (K ++ K') B D fe (some ((wh, nm', s, W) :: V))) := by
    intro o a hw
    obtain ⟨μ1, e1, h1, hp⟩ := pb_one hT o a hw (by omega) h4
    rw [pAdd_ok (by omega), pNext_ok]
    refine ⟨rfl, rfl, [(o, a)], [], 1, μ1, rfl, by omega, by omega, by simp; omega, KO_nil (by omega), CK_nil _, fun ar _ x hx => VT_one ?_ (by omega) ?_, TR_one h (by rw [eT, e1]), by omega, (by dsimp only; rw [List.append_nil]; exact h1)⟩
    · refine Or.inl ?_
      dsimp only
      omega
    · unfold nx
      rw [if_pos (by dsimp only; omega)]
  unfold pPiece
  rw [now_ok]
  by_cases c1 : 52 ≤ tkf n t p ∧ tkf n t p < 58
  · rw [if_pos c1]
    unfold pCall pCallB
    rw [now_ok, pNext_ok, pExp_ok]
    show OKV N n t μ0 μ p C cl fe nf (c + 3) (pCallE (tkf n t) p _ _) _
    obtain ⟨f, hf⟩ : ∃ f, f = tkf n t p - 52 := ⟨_, rfl⟩
    have hf2 : tkf n t p = 52 + f := by omega
    have hp : p < n := tk_lt (t := t) (by omega)
    rw [← hf]
    rcases pb_call hT ⟨c1.1, by omega⟩ (by omega) (by omega) h4 with ⟨a1, μ1, e1, d1⟩ | ⟨a1, a2, μ1, e1, h1, hp2⟩ | ⟨a1, a2, a3, μ1, e1, d1⟩ | ⟨a1, a2, a3, μ1, e1, h1⟩
    · rw [if_neg a1]
      unfold pArg
      rw [now_e, if_neg (by decide), hve, pArgs_e]
      show ER N n μ0 μ p (1, p + 1)
      exact ER_one h (by rw [eT, e1]) d1
    · rw [if_pos a1]
      unfold pArg pCallE
      rw [now_ok, if_pos a2]
      dsimp only
      rw [pExp_ok, if_pos a2]
      show OKV N n t μ0 μ p C cl fe nf (c + 3) (pAdd 42 f (.ok (p + 1 + 1 + 1, C, (fun i => if i = p then some 0 else cl i), fe, nf))) _
      rw [pAdd_ok (by omega)]
      rw [← hf] at h1
      refine ⟨rfl, rfl, [(42, f)], [(p, f, 0)], 1, μ1, rfl, by omega, by omega, by simp; omega, KO_cons (KO_nil (by omega)) hf2 (by omega) (by omega), CK_mark (tk := tkf n t) (q := p + 1) (p' := p + 1) hcl (CK_nil _) (KO_nil (Nat.le_refl _)) (by omega), fun ar ha x hx => ?_, TR_one h (by rw [eT, e1]), by omega, h1⟩
      obtain ⟨⟨b1, b2⟩, -⟩ := AK_cons ha
      refine VT_one (Or.inr (Or.inr (Or.inr (Or.inr ⟨rfl, 0, b1, by omega⟩)))) (by omega) ?_
      unfold nx
      dsimp only at b1 ⊢
      rw [if_neg (by decide), if_neg (by decide), if_pos rfl, b1]
      rfl
    · rw [if_pos a1]
      unfold pArg pCallE
      rw [now_ok, if_neg a2, hv.1 (by simpa using a3)]
      show OKV N n t μ0 μ p C cl fe nf (c + 3) (pAdd 42 f (pMark p (pArgs (tkf n t) (pFail 3) 159 1 (.error (3, p + 1 + 1))).1 (pExp (tkf n t) 7 (pArgs (tkf n t) (pFail 3) 159 1 (.error (3, p + 1 + 1))).2))) _
      rw [pArgs_e]
      show ER N n μ0 μ p (3, p + 2)
      exact ER_one h (by rw [eT, e1]) d1
    · rw [if_pos a1]
      unfold pArg
      rw [now_ok, if_neg a2]
      have hlt : V.length + 1 < 4 := by simpa using a3
      have hsv := hv.2 hlt
      rw [← hf] at h1
      have tr1 : TR N 1 μ μ1 := TR_one h (by rw [eT, e1])
      have hwt2 : wtot ((wh, nm', s, W) :: V) ≤ 3 * (V.length + 1) := hwt
      have hs1 := hsv μ1 (p + 2) C (K ++ [(p, f, 1)]) B D fe cl nf 2 K.length ((wh, nm', s, W) :: V) (by simp) hwt2 (by omega) (by simp; omega) (fun i hi => hcl i (by omega)) h1
      cases hr : v (.ok (p + 1 + 1, C, cl, fe, nf)) with
      | error x =>
        rw [show p + 2 = p + 1 + 1 from rfl, hr] at hs1
        unfold pCallE
        rw [pArgs_e]
        show ER N n μ0 μ p x
        exact ER_trans tr1 (by omega) hs1
      | ok σ =>
        obtain ⟨p3, C3, cl3, fe3, nf3⟩ := σ
        rw [show p + 2 = p + 1 + 1 from rfl, hr] at hs1
        obtain ⟨rfl, rfl, S, K', j, μc, rfl, q1, q2, q3, q4, q5, q6, q7, q8, q9⟩ := hs1
        have hav := AV_K q9
        rw [show (K ++ [(p, f, 1)]) ++ K' = K ++ (p, f, 1) :: K' by simp] at hav
        have hlen3 : (K ++ (p, f, 1) :: K').length ≤ p3 := by
          have := q4.2.2
          simp
          omega
        rcases sim_args hN hT (Or.inl rfl) hwt2 hsv 159 1 μc p3 (C ++ S) cl3 K' (by decide) (by omega) (by omega) (by simp; omega) hlen3 (NC_CK (fun i hi => hcl i (by omega)) q5 q4) hav with ⟨g2, x, e1', e2⟩ | ⟨g2, p2, C2, cl2, S2, K2, j2, μ2, e1', e2, e3, e4, e5, e6, e7, e8, e9, e10, e11, e12, e13⟩
        · rw [e1']
          show ER N n μ0 μ p x
          exact ER_trans (TR_trans tr1 q7) (by omega) e2
        · rw [e1']
          unfold pCallE
          dsimp only
          rw [pExp_ok]
          have trA := TR_trans (TR_trans tr1 q7) e10
          have hC2 : C2.length ≤ 160 := by rw [e2]; simp; omega
          obtain ⟨-, ⟨-, μa, ea, ha, l1, l2⟩ | ⟨h1', her⟩⟩ := av_step hN hT hC2 e12
          · rw [List.append_nil] at ha
            have hKc : (K ++ (p, f, g2) :: (K' ++ K2))[K.length]? = some (p, f, g2) := by simp
            rcases ve_arg hT hKc e13 (by omega) ha with ⟨b1, μb, eb, db⟩ | ⟨b1, μb, eb, hb, hpn2⟩
            · rw [if_neg b1]
              show ER N n μ0 μ p (1, p2)
              exact ER_trans (p1 := p2) trA (by omega) ⟨1, μb, ⟨l1, l2, μb, by rw [ea, eb], rfl⟩, db, by omega⟩
            · rw [if_pos b1]
              show OKV N n t μ0 μ p C cl fe nf (c + 3) (pAdd 42 f (.ok (p2 + 1, C2, (fun i => if i = p then some g2 else cl2 i), fe, nf))) _
              rw [pAdd_ok (by rw [e2]; simp; omega), e2]
              have tr2 : TR N 1 μ2 μb := ⟨l1, l2, μb, by rw [ea, eb], rfl⟩
              have hko : KO (tkf n t) (p + 1) (p2 + 1) (K' ++ K2) := KO_mono (KO_app q4 e6) (by omega) (by omega)
              refine ⟨rfl, rfl, S ++ S2 ++ [(42, f)], (p, f, g2) :: (K' ++ K2), 1 + j + j2 + 1, μb, by simp, by omega, by omega, by simp; omega, KO_cons hko hf2 (by omega) e8.2, CK_mark hcl (CK_app q5 e7) hko (by omega), fun ar ha x hx => ?_, TR_trans trA tr2, by omega, by rw [e2] at hb; exact hb⟩
              obtain ⟨⟨b1, b2⟩, b3⟩ := AK_cons ha
              obtain ⟨b4, b5⟩ := AK_app b3
              dsimp only at b1 b2
              refine VT_app (VT_app (q6 ar b4 x (by omega)) (e9 ar b5 b2 x (by omega))) (VT_one (Or.inr (Or.inr (Or.inr (Or.inr ⟨rfl, g2, b1, by omega⟩)))) (by omega) ?_)
              unfold nx
              dsimp only
              rw [if_neg (by decide), if_neg (by decide), if_pos rfl, b1]
              show x + g2 + 1 - g2 = x + 1
              omega
          · have h7 : ¬ tkf n t p2 = 7 := fun hh => by rw [hh] at h1'; exact absurd h1' (by decide)
            rw [if_neg h7]
            show ER N n μ0 μ p (1, p2)
            exact ER_trans trA (by omega) her
  rw [if_neg c1]
  by_cases c2 : 40 ≤ tkf n t p ∧ tkf n t p < 44
  · rw [if_pos c2]
    unfold pIdx
    rw [pNext_ok, pExp_ok]
    have hp : p < n := tk_lt (t := t) (by omega)
    rcases pb_arr hT ⟨c2.1, by omega⟩ h4 with ⟨a1, μ1, e1, d1⟩ | ⟨a1, a2, μ1, e1, d1⟩ | ⟨a1, a2, μ1, e1, h1⟩
    · rw [if_neg a1, show v (.error (1, p + 1)) = .error (1, p + 1) from ?_]
      · exact ER_one h (by rw [eT, e1]) d1
      · exact hve _
    · rw [if_pos a1, hv.1 (by simpa using a2)]
      show ER N n μ0 μ p (3, p + 2)
      exact ER_one h (by rw [eT, e1]) d1
    · rw [if_pos a1]
      have hlt : V.length + 1 < 4 := by simpa using a2
      have hsv := hv.2 hlt
      have tr1 : TR N 1 μ μ1 := TR_one h (by rw [eT, e1])
      have hs1 := hsv μ1 (p + 2) C K B D fe cl nf 1 (tkf n t p - 40) ((wh, nm', s, W) :: V) (by simp) hwt (by omega) (by omega) (fun i hi => hcl i (by omega)) h1
      cases hr : v (.ok (p + 1 + 1, C, cl, fe, nf)) with
      | error x =>
        rw [show p + 2 = p + 1 + 1 from rfl, hr] at hs1
        show ER N n μ0 μ p x
        exact ER_trans tr1 (by omega) hs1
      | ok σ =>
        obtain ⟨p3, C3, cl3, fe3, nf3⟩ := σ
        rw [show p + 2 = p + 1 + 1 from rfl, hr] at hs1
        obtain ⟨rfl, rfl, S, K', j, μc, rfl, q1, q2, q3, q4, q5, q6, q7, q8, q9⟩ := hs1
        rw [pExp_ok]
        have trA := TR_trans tr1 q7
        have hC2 : (C ++ S).length ≤ 160 := by simp; omega
        obtain ⟨-, ⟨-, μa, ea, ha, l1, l2⟩ | ⟨h1', her⟩⟩ := av_step hN hT hC2 q9
        · rcases ve_place hT (by omega) ha with ⟨b1, μb, eb, db⟩ | ⟨b1, μb, eb, hb, hpn2⟩
          · rw [if_neg b1]
            show ER N n μ0 μ p (1, p3)
            exact ER_trans (p1 := p3) trA (by omega) ⟨1, μb, ⟨l1, l2, μb, by rw [ea, eb], rfl⟩, db, by omega⟩
          · rw [if_pos b1, pAdd_ok (by simp; omega)]
            have tr2 : TR N 1 μc μb := ⟨l1, l2, μb, by rw [ea, eb], rfl⟩
            refine ⟨rfl, rfl, S ++ [(40, tkf n t p - 40)], K', 1 + j + 1, μb, by simp, by omega, by omega, by simp; omega, KO_mono q4 (by omega) (by omega), q5, fun ar ha x hx => ?_, TR_trans trA tr2, by omega, hb⟩
            refine VT_app (q6 ar ha x (by omega)) (VT_one (Or.inr (Or.inr (Or.inr (Or.inl ⟨rfl, by dsimp only; omega, by omega⟩)))) (by omega) rfl)
        · have h7 : ¬ tkf n t p3 = 22 := fun hh => by rw [hh] at h1'; exact absurd h1' (by decide)
          rw [if_neg h7]
          show ER N n μ0 μ p (1, p3)
          exact ER_trans trA (by omega) her
  rw [if_neg c2]
  by_cases c3 : tkf n t p = 6
  · rw [if_pos c3, pNext_ok]
    have hp : p < n := tk_lt (t := t) (by omega)
    rcases pb_open hT c3 h4 with ⟨a2, μ1, e1, d1⟩ | ⟨a2, μ1, e1, h1⟩
    · rw [hv.1 (by simpa using a2)]
      show ER N n μ0 μ p (3, p + 1)
      exact ER_one h (by rw [eT, e1]) d1
    · have hlt : V.length + 1 < 4 := by simpa using a2
      have hsv := hv.2 hlt
      have tr1 : TR N 1 μ μ1 := TR_one h (by rw [eT, e1])
      have hs1 := hsv μ1 (p + 1) C K B D fe cl nf 0 0 ((wh, nm', s, W) :: V) (by simp) hwt (by omega) (by omega) (fun i hi => hcl i (by omega)) h1
      cases hr : v (.ok (p + 1, C, cl, fe, nf)) with
      | error x =>
        rw [hr] at hs1
        show ER N n μ0 μ p x
        exact ER_trans tr1 (by omega) hs1
      | ok σ =>
        obtain ⟨p3, C3, cl3, fe3, nf3⟩ := σ
        rw [hr] at hs1
        obtain ⟨rfl, rfl, S, K', j, μc, rfl, q1, q2, q3, q4, q5, q6, q7, q8, q9⟩ := hs1
        rw [pExp_ok]
        have trA := TR_trans tr1 q7
        have hC2 : (C ++ S).length ≤ 160 := by simp; omega
        obtain ⟨-, ⟨-, μa, ea, ha, l1, l2⟩ | ⟨h1', her⟩⟩ := av_step hN hT hC2 q9
        · rcases ve_bracket (y := nI 0) hT ha with ⟨b1, μb, eb, db⟩ | ⟨b1, μb, eb, hb, hpn2⟩
          · rw [if_neg b1]
            show ER N n μ0 μ p (1, p3)
            exact ER_trans (p1 := p3) trA (by omega) ⟨1, μb, ⟨l1, l2, μb, by rw [ea, eb], rfl⟩, db, by omega⟩
          · rw [if_pos b1]
            have tr2 : TR N 1 μc μb := ⟨l1, l2, μb, by rw [ea, eb], rfl⟩
            exact ⟨rfl, rfl, S, K', 1 + j + 1, μb, rfl, by omega, by omega, by omega, KO_mono q4 (by omega) (by omega), q5, TYP_mono q6 (by omega), TR_trans trA tr2, by omega, hb⟩
        · have h7 : ¬ tkf n t p3 = 7 := fun hh => by rw [hh] at h1'; exact absurd h1' (by decide)
          rw [if_neg h7]
          show ER N n μ0 μ p (1, p3)
          exact ER_trans trA (by omega) her
  rw [if_neg c3]
  unfold pSingle
  by_cases d1 : 64 ≤ tkf n t p ∧ tkf n t p < 192
  · rw [if_pos d1]; exact one 33 _ (Or.inl ⟨d1.1, by omega, rfl, rfl⟩)
  rw [if_neg d1]
  by_cases d2 : tkf n t p = 5
  · rw [if_pos d2]; exact one 34 0 (Or.inr (Or.inl ⟨d2, rfl, rfl⟩))
  rw [if_neg d2]
  by_cases d3 : 32 ≤ tkf n t p ∧ tkf n t p < 40
  · rw [if_pos d3]; exact one 36 _ (Or.inr (Or.inr (Or.inl ⟨d3.1, by omega, rfl, rfl⟩)))
  rw [if_neg d3]
  by_cases d4 : 44 ≤ tkf n t p ∧ tkf n t p < 52
  · rw [if_pos d4]; exact one 38 _ (Or.inr (Or.inr (Or.inr ⟨d4.1, by omega, rfl, rfl⟩)))
  rw [if_neg d4]
  obtain ⟨μ1, e1, d1⟩ := pb_bad hT ⟨by omega, d2, by omega, by omega, by omega, by omega, c3⟩ h4
  show ER N n μ0 μ p (1, p)
  exact ER_one h (by rw [eT, e1]) d1
end SP
