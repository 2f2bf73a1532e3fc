/-! the class's readers of values -/
def Rf (n : Nat) (ν0 : St) (f : St → Option St) (P : RR → RR) : Prop := ∀ ν r, GS n ν0 ν r → ∃ ν', f ν = some ν' ∧ GS n ν0 ν' (P r)
theorem now_add (tk : Nat → Nat) (o a : Nat) (r : RR) : now tk (pAdd o a r) = now tk r := by
  cases r with
  | error x => rfl
  | ok σ => obtain ⟨p, C, s⟩ := σ; unfold pAdd; dsimp only; split <;> rfl
theorem isOk_add (o a : Nat) (r : RR) : isOk (pAdd o a r) = isOk r := by
  cases r with
  | error x => rfl
  | ok σ => obtain ⟨p, C, s⟩ := σ; unfold pAdd; dsimp only; split <;> rfl
section GR
variable {n : Nat} {t : Nat → Nat} {ν0 : St} {N : Nat} {rv : Int32 → St → Option St} {v : RR → RR} {a : Int32}
theorem g_ex {ν : St} {r : RR} {x : Int32} (c : Nat) (hx : x = nI c) (hc : c < 192) (hT : HT n t ν0) (h : GS n ν0 ν r) : ∃ ν', f_G_expect x ν = some ν' ∧ GS n ν0 ν' (pExp (tkf n t) c r) := by
  subst hx; exact g_exp c hc hT h
theorem g_fl {ν : St} {r : RR} {x : Int32} (e : Nat) (hx : x = nI e) (he : 1 ≤ e ∧ e ≤ 6) (hT : HT n t ν0) (h : GS n ν0 ν r) : ∃ ν', f_G_fail x ν = some ν' ∧ GS n ν0 ν' (pFail e r) := by
  subst hx; exact g_fail hT he h
theorem g_readIndex (hT : HT n t ν0) (hv : Rf n ν0 (rv a) v) : Rf n ν0 (f_G_readIndex rv a) (pIdx (tkf n t) v) := by
  intro ν r h
  obtain ⟨ν1, e1, h1⟩ := g_ex (x := 21) 21 rfl (by decide) hT h
  obtain ⟨ν2, e2, h2⟩ := hv ν1 _ h1
  obtain ⟨ν3, e3, h3⟩ := g_ex (x := 22) 22 rfl (by decide) hT h2
  exact ⟨ν3, by unfold f_G_readIndex; rw [e1, ca_s, e2, ca_s, e3, ca_s], h3⟩
theorem g_mark {ν : St} {r : RR} {k c : Nat} (hk : k < 160) (hc : c ≤ 160) (h : GS n ν0 ν r) : GS n ν0 (st ν 17 k (nI c)) (pMark k c r) := by
  obtain ⟨h1, h2⟩ := h
  cases r with
  | error x =>
    obtain ⟨a1, a2, a3, a4, a5, a6, dl, a7, a8⟩ := h2
    exact ⟨frG_st h1 (by decide), by simp [st, a1], by simp [st, a2], a3, a4, by simp [st, a5], a6, dl, a7, by simp [st, a8]⟩
  | ok σ =>
    obtain ⟨p, C, cl, fe, nf⟩ := σ
    obtain ⟨hP, hC, ⟨l1, l2⟩, hF⟩ := h2
    refine ⟨frG_st h1 (by decide), gP_same hP (by simp [st]) (by simp [st]) (by simp [st]), gC_same hC (by simp [st]) (by simp [st]) (by simp [st]), ⟨fun i hi => ?_, fun i c' hh => ?_⟩, gF_same hF (by simp [st]) (by simp [st]) (by simp [st])⟩
    · by_cases hik : i = k
      · subst hik
        rw [st_at]
        simp [oI]
      · rw [st_nj hik]
        simp [hik]
        exact l1 i hi
    · dsimp only at hh
      by_cases hik : i = k
      · rw [if_pos hik] at hh
        cases hh
        exact hc
      · rw [if_neg hik] at hh
        exact l2 i c' hh
def FA (rv : Int32 → St → Option St) (a1 : Int32) (k13 : Int32 → St → Option St) (k32 : Int32 → St → Option St) (x30 : Int32) (μ31 : St) : Option St :=
  if (160 : Int32) ≤ x30 then k13 x30 μ31 else ca (f_G_now μ31) fun x36 => if x36 = (11 : Int32) then (ca (f_G_next μ31) fun μ39 => ca (rv a1 μ39) fun μ41 => nm (x30 + (1 : Int32)) fun x42 => k32 x42 μ41) else k13 x30 μ31
def kA (x1 x4 : Int32) (x11 : Int32) (μ12 : St) : Option St :=
  ca (f_G_expect (7 : Int32) μ12) fun μ16 => jn (fun (μ17 : St) => ca2 (f_D_add (42 : Int32) x4 μ17) fun x21 μ22 => some μ22) fun k18 => if x1 < 0 then k18 μ16 else if (160 : Int32) ≤ x1 then k18 μ16 else gd (inb x1 160) <| nm (st μ16 17 x1.toNatClampNeg x11) fun μ26 => k18 μ26
theorem readCall_eq (N : Nat) (rv : Int32 → St → Option St) (a1 : Int32) (μ : St) : f_G_readCall N rv a1 μ = ca (f_G_now μ) fun x3 => ca (f_G_next μ) fun μ6 => ca (f_G_expect (6 : Int32) μ6) fun μ8 => ca (f_G_now μ8) fun x10 => if x10 = (7 : Int32) then kA (μ 203 0) (x3 - 52) 0 μ8 else ca (rv a1 μ8) fun μ29 => lpk (FA rv a1 (kA (μ 203 0) (x3 - 52))) (fun _ _ => none) N 1 μ29 := rfl
theorem g_argsL (hT : HT n t ν0) (hv : Rf n ν0 (rv a) v) (k13 : Int32 → St → Option St) : ∀ k fuel c ν r, c + k = 160 → k < fuel → GS n ν0 ν r → ∃ ν', lpk (FA rv a k13) (fun _ _ => none) fuel (nI c) ν = k13 (nI (pArgs (tkf n t) v k c r).1) ν' ∧ GS n ν0 ν' (pArgs (tkf n t) v k c r).2 ∧ (pArgs (tkf n t) v k c r).1 ≤ 160 := by
  intro k
  induction k with
  | zero =>
    intro fuel c ν r h1 h2 h
    obtain ⟨g, rfl⟩ : ∃ g, fuel = g + 1 := ⟨fuel - 1, by omega⟩
    refine ⟨ν, ?_, h, by show c ≤ 160; omega⟩
    rw [lpk_s]
    unfold FA
    rw [if_pos (show (160 : Int32) ≤ nI c from nI_le (a := 160) (by omega) (by omega))]
    rfl
  | succ k ih =>
    intro fuel c ν r h1 h2 h
    obtain ⟨g, rfl⟩ : ∃ g, fuel = g + 1 := ⟨fuel - 1, by omega⟩
    rw [lpk_s]
    have hF : ∀ kk, FA rv a k13 kk (nI c) ν = if now (tkf n t) r = 11 then (ca (f_G_next ν) fun μ39 => ca (rv a μ39) fun μ41 => kk (nI (c + 1)) μ41) else k13 (nI c) ν := by
      intro kk
      unfold FA
      rw [if_neg (show ¬ (160 : Int32) ≤ nI c from nI_ge (b := 160) (by omega) (by decide)), g_now hT h, ca_s]
      by_cases hx : now (tkf n t) r = 11
      · rw [if_pos ((tI_l (x := 11) 11 rfl (by decide)).mpr hx), if_pos hx]
        simp only [nm_eq, nI_1]
      · rw [if_neg (fun hh => hx ((tI_l (x := 11) 11 rfl (by decide)).mp hh)), if_neg hx]
    rw [hF]
    by_cases hx : now (tkf n t) r = 11
    · obtain ⟨ν1, e1, g1⟩ := g_next hT h (by omega)
      obtain ⟨ν2, e2, g2⟩ := hv ν1 _ g1
      obtain ⟨ν3, e3, g3⟩ := ih g (c + 1) ν2 _ (by omega) (by omega) g2
      refine ⟨ν3, ?_, ?_⟩
      · rw [if_pos hx, e1, ca_s, e2, ca_s, e3]
        simp only [pArgs, if_pos hx]
      · simp only [pArgs, if_pos hx]
        exact g3
    · refine ⟨ν, ?_, ?_⟩
      · rw [if_neg hx]
        simp only [pArgs, if_neg hx]
      · simp only [pArgs, if_neg hx]
        exact ⟨h, by omega⟩
theorem g_kA (hT : HT n t ν0) {ν : St} {r : RR} {k c f : Nat} (hk : k < 160) (hc : c ≤ 160) (h : GS n ν0 ν r) : ∃ ν', kA (nI k) (nI f) (nI c) ν = some ν' ∧ GS n ν0 ν' (pAdd 42 f (pMark k c (pExp (tkf n t) 7 r))) := by
  obtain ⟨ν1, e1, h1⟩ := g_ex (x := 7) 7 rfl (by decide) hT h
  have h2 := g_mark (k := k) (c := c) hk hc h1
  obtain ⟨z, ν3, e3, h3, -⟩ := g_add (x := 42) (y := nI f) 42 f rfl rfl h2
  refine ⟨ν3, ?_, h3⟩
  unfold kA
  rw [e1, ca_s, jn_eq]
  try dsimp only
  rw [if_neg (nI_pos (by omega)), if_neg (show ¬ (160 : Int32) ≤ nI k from nI_ge (b := 160) hk (by decide)), gd_i (inb_nI hk (by decide)), nm_eq, cl_nI (by omega), e3, ca2_s]
theorem g_readCall (hN : 200 ≤ N) (hT : HT n t ν0) (hv : Rf n ν0 (rv a) v) {ν : St} {r : RR} (h : GS n ν0 ν r) (hn : 52 ≤ now (tkf n t) r ∧ now (tkf n t) r < 58) : ∃ ν', f_G_readCall N rv a ν = some ν' ∧ GS n ν0 ν' (pCall (tkf n t) v r) := by
  obtain ⟨p, C, cl, fe, nf, rfl, hp⟩ := g_ok h (show now (tkf n t) r ≠ 999 by omega)
  have hpl : ν 203 0 = nI p := h.2.1.1
  have hn160 := hT.1
  obtain ⟨ν1, e1, h1⟩ := g_next hT h (by omega)
  obtain ⟨ν2, e2, h2⟩ := g_ex (x := 6) 6 rfl (by decide) hT h1
  rw [readCall_eq, g_now hT h, ca_s, e1, ca_s, e2, ca_s, g_now hT h2, ca_s, show (52 : Int32) = nI 52 from rfl, tI_sub hn.1 (by omega), hpl]
  unfold pCall pCallB pArg pCallE
  by_cases hx : now (tkf n t) (pExp (tkf n t) 6 (pNext (.ok (p, C, cl, fe, nf)))) = 7
  · rw [if_pos ((tI_l (x := 7) 7 rfl (by decide)).mpr hx), if_pos hx]
    exact g_kA hT (c := 0) (by omega) (by decide) h2
  · rw [if_neg (fun hh => hx ((tI_l (x := 7) 7 rfl (by decide)).mp hh)), if_neg hx]
    obtain ⟨ν3, e3, h3⟩ := hv ν2 _ h2
    rw [e3, ca_s]
    obtain ⟨ν4, e4, h4, h5⟩ := g_argsL hT hv (kA (nI p) (nI (now (tkf n t) (.ok (p, C, cl, fe, nf)) - 52))) 159 N 1 ν3 _ (by decide) (by omega) h3
    obtain ⟨ν5, e5, h6⟩ := g_kA (f := now (tkf n t) (.ok (p, C, cl, fe, nf)) - 52) (k := p) hT (by omega) h5 h4
    exact ⟨ν5, e4.trans e5, h6⟩
theorem g_readSingle (hT : HT n t ν0) {ν : St} {r : RR} (h : GS n ν0 ν r) : ∃ ν', f_G_readSingle (tI (now (tkf n t) r)) ν = some ν' ∧ GS n ν0 ν' (pSingle (now (tkf n t) r) r) := by
  obtain ⟨w, hw⟩ : ∃ w, w = now (tkf n t) r := ⟨_, rfl⟩
  unfold f_G_readSingle pSingle
  rw [← hw, show f_G_isOf (tI w) (64 : Int32) (128 : Int32) = some (if 64 ≤ w ∧ w < 192 then 1 else 0) from isOf_t 64 128 (by decide), show f_G_isOf (tI w) (32 : Int32) (8 : Int32) = some (if 32 ≤ w ∧ w < 40 then 1 else 0) from isOf_t 32 8 (by decide), show f_G_isOf (tI w) (44 : Int32) (8 : Int32) = some (if 44 ≤ w ∧ w < 52 then 1 else 0) from isOf_t 44 8 (by decide)]
  simp only [ca_s, jn_eq]
  have add : ∀ (o b : Nat) (x y : Int32), x = nI o → y = nI b → w ≠ 999 → ∃ ν', (ca2 (f_D_add x y ν) fun _ μ => ca (f_G_next μ) fun μ7 => some μ7) = some ν' ∧ GS n ν0 ν' (pNext (pAdd o b r)) := by
    intro o b x y hx hy hw2
    obtain ⟨z, ν1, e1, h1, -⟩ := g_add o b hx hy h
    obtain ⟨ν2, e2, h2⟩ := g_next hT h1 (by rw [now_add, ← hw]; exact hw2)
    exact ⟨ν2, by rw [e1, ca2_s, e2, ca_s], h2⟩
  by_cases c1 : 64 ≤ w ∧ w < 192
  · rw [if_pos c1, if_pos c1, if_neg (by decide)]
    exact add 33 (w - 64) _ _ rfl (tI_sub c1.1 c1.2) (by omega)
  rw [if_neg c1, if_neg c1, if_pos rfl]
  by_cases c2 : w = 5
  · rw [if_pos ((tI_l (x := 5) 5 rfl (by decide)).mpr c2), if_pos c2]
    exact add 34 0 _ _ rfl rfl (by omega)
  rw [if_neg (fun hh => c2 ((tI_l (x := 5) 5 rfl (by decide)).mp hh)), if_neg c2]
  by_cases c3 : 32 ≤ w ∧ w < 40
  · rw [if_pos c3, if_pos c3, if_neg (by decide)]
    exact add 36 (w - 32) _ _ rfl (tI_sub c3.1 (by omega)) (by omega)
  rw [if_neg c3, if_neg c3, if_pos rfl]
  by_cases c4 : 44 ≤ w ∧ w < 52
  · rw [if_pos c4, if_pos c4, if_neg (by decide)]
    exact add 38 (w - 44) _ _ rfl (tI_sub c4.1 (by omega)) (by omega)
  rw [if_neg c4, if_neg c4, if_pos rfl]
  obtain ⟨ν1, e1, h1⟩ := g_fl (x := 1) 1 rfl (by decide) hT h
  exact ⟨ν1, by rw [e1, ca_s], h1⟩
theorem g_readPiece (hN : 200 ≤ N) (hT : HT n t ν0) (hv : Rf n ν0 (rv (a + 1)) v) : Rf n ν0 (f_G_readPiece N rv a) (pPiece (tkf n t) v) := by
  intro ν r h
  obtain ⟨w, hw⟩ : ∃ w, w = now (tkf n t) r := ⟨_, rfl⟩
  unfold f_G_readPiece pPiece
  rw [g_now hT h, ca_s, ← hw, show f_G_isOf (tI w) (52 : Int32) (6 : Int32) = some (if 52 ≤ w ∧ w < 58 then 1 else 0) from isOf_t 52 6 (by decide), ca_s, show f_G_isOf (tI w) (40 : Int32) (4 : Int32) = some (if 40 ≤ w ∧ w < 44 then 1 else 0) from isOf_t 40 4 (by decide), ca_s]
  by_cases c1 : 52 ≤ w ∧ w < 58
  · rw [if_pos c1, if_pos c1, if_neg (by decide)]
    obtain ⟨ν1, e1, h1⟩ := g_readCall hN hT hv h (by rw [← hw]; exact c1)
    exact ⟨ν1, by rw [e1, ca_s], h1⟩
  rw [if_neg c1, if_neg c1, if_pos rfl]
  by_cases c2 : 40 ≤ w ∧ w < 44
  · rw [if_pos c2, if_pos c2, if_neg (by decide)]
    obtain ⟨ν1, e1, h1⟩ := g_next hT h (by omega)
    obtain ⟨ν2, e2, h2⟩ := g_readIndex hT hv ν1 _ h1
    obtain ⟨z, ν3, e3, h3, -⟩ := g_add (x := 40) (y := tI w - 40) 40 (w - 40) rfl (tI_sub c2.1 (by omega)) h2
    exact ⟨ν3, by rw [e1, ca_s, e2, ca_s, e3, ca2_s], h3⟩
  rw [if_neg c2, if_neg c2, if_pos rfl]
  by_cases c3 : w = 6
  · rw [if_pos ((tI_l (x := 6) 6 rfl (by decide)).mpr c3), if_pos c3]
    obtain ⟨ν1, e1, h1⟩ := g_next hT h (by omega)
    obtain ⟨ν2, e2, h2⟩ := hv ν1 _ h1
    obtain ⟨ν3, e3, h3⟩ := g_ex (x := 7) 7 rfl (by decide) hT h2
    exact ⟨ν3, by rw [e1, ca_s, e2, ca_s, e3, ca_s], h3⟩
  rw [if_neg (fun hh => c3 ((tI_l (x := 6) 6 rfl (by decide)).mp hh)), if_neg c3]
  obtain ⟨ν1, e1, h1⟩ := g_readSingle hT h
  rw [← hw] at e1 h1
  exact ⟨ν1, by rw [e1, ca_s], h1⟩
theorem g_readPart (hN : 200 ≤ N) (hT : HT n t ν0) (hv : Rf n ν0 (rv (a + 1)) v) : Rf n ν0 (f_G_readPart N rv a) (pPart (tkf n t) v) := by
  intro ν r h
  obtain ⟨w, hw⟩ : ∃ w, w = now (tkf n t) r := ⟨_, rfl⟩
  unfold f_G_readPart pPart
  rw [g_now hT h, ca_s, ← hw]
  simp only [jn_eq]
  by_cases c1 : w = 14
  · rw [if_pos ((tI_l (x := 14) 14 rfl (by decide)).mpr c1), if_pos c1]
    obtain ⟨ν1, e1, h1⟩ := g_next hT h (by omega)
    obtain ⟨ν2, e2, h2⟩ := g_readPiece hN hT hv ν1 _ h1
    obtain ⟨z, ν3, e3, h3, -⟩ := g_add (x := 35) (y := 0) 35 0 rfl rfl h2
    exact ⟨ν3, by rw [e1, ca_s, e2, ca_s, if_pos ((tI_l (x := 14) 14 rfl (by decide)).mpr c1), e3, ca2_s], h3⟩
  have c1' : ¬ tI w = (14 : Int32) := fun hh => c1 ((tI_l (x := 14) 14 rfl (by decide)).mp hh)
  rw [if_neg c1', if_neg c1]
  by_cases c2 : w = 20
  · rw [if_pos ((tI_l (x := 20) 20 rfl (by decide)).mpr c2), if_pos c2]
    obtain ⟨ν1, e1, h1⟩ := g_next hT h (by omega)
    obtain ⟨ν2, e2, h2⟩ := g_readPiece hN hT hv ν1 _ h1
    obtain ⟨z, ν3, e3, h3, -⟩ := g_add (x := 20) (y := 0) 20 0 rfl rfl h2
    exact ⟨ν3, by rw [e1, ca_s, e2, ca_s, if_neg c1', e3, ca2_s], h3⟩
  rw [if_neg (fun hh => c2 ((tI_l (x := 20) 20 rfl (by decide)).mp hh)), if_neg c2]
  obtain ⟨ν1, e1, h1⟩ := g_readPiece hN hT hv ν _ h
  exact ⟨ν1, by rw [e1, ca_s], h1⟩
def FP (N : Nat) (rv : Int32 → St → Option St) (a1 : Int32) (k8 : Int32 → Int32 → St → Option St) (x5 : Int32) (x6 : Int32) (μ7 : St) : Option St :=
  if (160 : Int32) ≤ x6 then some μ7 else ca (f_G_isOf x5 (15 : Int32) (3 : Int32)) fun x12 => if x12 = 0 then some μ7 else ca (f_G_next μ7) fun μ15 => ca (f_G_readPart N rv a1 μ15) fun μ17 => ca2 (f_D_add x5 (0 : Int32) μ17) fun x19 μ20 => ca (f_G_now μ20) fun x22 => nm (x6 + (1 : Int32)) fun x23 => k8 x22 x23 μ20
theorem readProduct_eq (N : Nat) (rv : Int32 → St → Option St) (a1 : Int32) (μ : St) : f_G_readProduct N rv a1 μ = ca (f_G_readPart N rv a1 μ) fun μ2 => ca (f_G_now μ2) fun x4 => lpk (FP N rv a1) (fun _ _ _ => none) N x4 0 μ2 := rfl
theorem g_prodL (hN : 200 ≤ N) (hT : HT n t ν0) (hv : Rf n ν0 (rv (a + 1)) v) : ∀ k fuel i ν r, i + k = 160 → k < fuel → GS n ν0 ν r → ∃ ν', lpk (FP N rv a) (fun _ _ _ => none) fuel (tI (now (tkf n t) r)) (nI i) ν = some ν' ∧ GS n ν0 ν' (pProdL (tkf n t) v k r) := by
  intro k
  induction k with
  | zero =>
    intro fuel i ν r h1 h2 h
    obtain ⟨g, rfl⟩ : ∃ g, fuel = g + 1 := ⟨fuel - 1, by omega⟩
    refine ⟨ν, ?_, h⟩
    rw [lpk_s]
    unfold FP
    rw [if_pos (show (160 : Int32) ≤ nI i from nI_le (a := 160) (by omega) (by omega))]
  | succ k ih =>
    intro fuel i ν r h1 h2 h
    obtain ⟨g, rfl⟩ : ∃ g, fuel = g + 1 := ⟨fuel - 1, by omega⟩
    obtain ⟨w, hw⟩ : ∃ w, w = now (tkf n t) r := ⟨_, rfl⟩
    rw [lpk_s]
    have hF : ∀ kk, FP N rv a kk (tI w) (nI i) ν = if 15 ≤ w ∧ w < 18 then (ca (f_G_next ν) fun μ15 => ca (f_G_readPart N rv a μ15) fun μ17 => ca2 (f_D_add (tI w) (0 : Int32) μ17) fun x19 μ20 => ca (f_G_now μ20) fun x22 => kk x22 (nI (i + 1)) μ20) else some ν := by
      intro kk
      unfold FP
      rw [if_neg (show ¬ (160 : Int32) ≤ nI i from nI_ge (b := 160) (by omega) (by decide)), show f_G_isOf (tI w) (15 : Int32) (3 : Int32) = some (if 15 ≤ w ∧ w < 18 then 1 else 0) from isOf_t 15 3 (by decide), ca_s]
      by_cases hx : 15 ≤ w ∧ w < 18
      · rw [if_pos hx, if_neg (by decide), if_pos hx]
        simp only [nm_eq, nI_1]
      · rw [if_neg hx, if_pos rfl, if_neg hx]
    rw [← hw, hF]
    unfold pProdL
    rw [← hw]
    by_cases hx : 15 ≤ w ∧ w < 18
    · rw [if_pos hx, if_pos hx]
      obtain ⟨ν1, e1, g1⟩ := g_next hT h (by omega)
      obtain ⟨ν2, e2, g2⟩ := g_readPart hN hT hv ν1 _ g1
      obtain ⟨z, ν3, e3, g3, -⟩ := g_add (x := tI w) (y := 0) w 0 (by unfold tI; rw [if_pos (by omega)]) rfl g2
      obtain ⟨ν4, e4, g4⟩ := ih g (i + 1) ν3 _ (by omega) (by omega) g3
      exact ⟨ν4, by rw [e1, ca_s, e2, ca_s, e3, ca2_s, g_now hT g3, ca_s, e4], g4⟩
    · rw [if_neg hx, if_neg hx]
      exact ⟨ν, rfl, h⟩
theorem g_readProduct (hN : 200 ≤ N) (hT : HT n t ν0) (hv : Rf n ν0 (rv (a + 1)) v) : Rf n ν0 (f_G_readProduct N rv a) (pProd (tkf n t) v) := by
  intro ν r h
  obtain ⟨ν1, e1, h1⟩ := g_readPart hN hT hv ν _ h
  obtain ⟨ν2, e2, h2⟩ := g_prodL hN hT hv 160 N 0 ν1 _ (by decide) (by omega) h1
  exact ⟨ν2, by rw [readProduct_eq, e1, ca_s, g_now hT h1, ca_s]; exact e2, h2⟩
def FS (N : Nat) (rv : Int32 → St → Option St) (a1 : Int32) (k8 : Int32 → Int32 → St → Option St) (x5 : Int32) (x6 : Int32) (μ7 : St) : Option St :=
  if (160 : Int32) ≤ x6 then some μ7 else jn (ca (f_G_next μ7) fun μ15 => ca (f_G_readProduct N rv a1 μ15) fun μ17 => ca2 (f_D_add x5 (0 : Int32) μ17) fun x19 μ20 => ca (f_G_now μ20) fun x22 => nm (x6 + (1 : Int32)) fun x23 => k8 x22 x23 μ20) fun k12 => if x5 = (13 : Int32) then k12 else if x5 = (14 : Int32) then k12 else some μ7
theorem readSum_eq (N : Nat) (rv : Int32 → St → Option St) (a1 : Int32) (μ : St) : f_G_readSum N rv a1 μ = ca (f_G_readProduct N rv a1 μ) fun μ2 => ca (f_G_now μ2) fun x4 => lpk (FS N rv a1) (fun _ _ _ => none) N x4 0 μ2 := rfl
theorem g_sumL (hN : 200 ≤ N) (hT : HT n t ν0) (hv : Rf n ν0 (rv (a + 1)) v) : ∀ k fuel i ν r, i + k = 160 → k < fuel → GS n ν0 ν r → ∃ ν', lpk (FS N rv a) (fun _ _ _ => none) fuel (tI (now (tkf n t) r)) (nI i) ν = some ν' ∧ GS n ν0 ν' (pSumL (tkf n t) v k r) := by
  intro k
  induction k with
  | zero =>
    intro fuel i ν r h1 h2 h
    obtain ⟨g, rfl⟩ : ∃ g, fuel = g + 1 := ⟨fuel - 1, by omega⟩
    refine ⟨ν, ?_, h⟩
    rw [lpk_s]
    unfold FS
    rw [if_pos (show (160 : Int32) ≤ nI i from nI_le (a := 160) (by omega) (by omega))]
  | succ k ih =>
    intro fuel i ν r h1 h2 h
    obtain ⟨g, rfl⟩ : ∃ g, fuel = g + 1 := ⟨fuel - 1, by omega⟩
    obtain ⟨w, hw⟩ : ∃ w, w = now (tkf n t) r := ⟨_, rfl⟩
    rw [lpk_s]
    have hF : ∀ kk, FS N rv a kk (tI w) (nI i) ν = if w = 13 ∨ w = 14 then (ca (f_G_next ν) fun μ15 => ca (f_G_readProduct N rv a μ15) fun μ17 => ca2 (f_D_add (tI w) (0 : Int32) μ17) fun x19 μ20 => ca (f_G_now μ20) fun x22 => kk x22 (nI (i + 1)) μ20) else some ν := by
      intro kk
      unfold FS
      rw [if_neg (show ¬ (160 : Int32) ≤ nI i from nI_ge (b := 160) (by omega) (by decide)), jn_eq]
      simp only [nm_eq, nI_1]
      by_cases h13 : w = 13
      · rw [if_pos ((tI_l (x := 13) 13 rfl (by decide)).mpr h13), if_pos (Or.inl h13)]
      rw [if_neg (fun hh => h13 ((tI_l (x := 13) 13 rfl (by decide)).mp hh))]
      by_cases h14 : w = 14
      · rw [if_pos ((tI_l (x := 14) 14 rfl (by decide)).mpr h14), if_pos (Or.inr h14)]
      rw [if_neg (fun hh => h14 ((tI_l (x := 14) 14 rfl (by decide)).mp hh)), if_neg (by omega)]
    rw [← hw, hF]
    unfold pSumL
    rw [← hw]
    by_cases hx : w = 13 ∨ w = 14
    · rw [if_pos hx, if_pos hx]
      obtain ⟨ν1, e1, g1⟩ := g_next hT h (by omega)
      obtain ⟨ν2, e2, g2⟩ := g_readProduct hN hT hv ν1 _ g1
      obtain ⟨z, ν3, e3, g3, -⟩ := g_add (x := tI w) (y := 0) w 0 (by unfold tI; rw [if_pos (by omega)]) rfl g2
      obtain ⟨ν4, e4, g4⟩ := ih g (i + 1) ν3 _ (by omega) (by omega) g3
      exact ⟨ν4, by rw [e1, ca_s, e2, ca_s, e3, ca2_s, g_now hT g3, ca_s, e4], g4⟩
    · rw [if_neg hx, if_neg hx]
      exact ⟨ν, rfl, h⟩
theorem g_readSum (hN : 200 ≤ N) (hT : HT n t ν0) (hv : Rf n ν0 (rv (a + 1)) v) : Rf n ν0 (f_G_readSum N rv a) (pSum (tkf n t) v) := by
  intro ν r h
  obtain ⟨ν1, e1, h1⟩ := g_readProduct hN hT hv ν _ h
  obtain ⟨ν2, e2, h2⟩ := g_sumL hN hT hv 160 N 0 ν1 _ (by decide) (by omega) h1
  exact ⟨ν2, by rw [readSum_eq, e1, ca_s, g_now hT h1, ca_s]; exact e2, h2⟩
theorem g_readValueB (hN : 200 ≤ N) (hT : HT n t ν0) (ha : a ≤ 3) (hv : Rf n ν0 (rv (a + 1)) v) : Rf n ν0 (f_G_readValueB N rv a) (pValue (tkf n t) v) := by
  intro ν r h
  obtain ⟨ν1, e1, h1⟩ := g_readSum hN hT hv ν _ h
  unfold f_G_readValueB pValue pCmp
  obtain ⟨w, hw⟩ : ∃ w, w = now (tkf n t) (pSum (tkf n t) v r) := ⟨_, rfl⟩
  rw [if_pos ha, e1, ca_s, g_now hT h1, ca_s, jn_eq, ← hw]
  have go : (w = 18 ∨ w = 19) → ∃ ν', (ca (f_G_next ν1) fun μ10 => ca (f_G_readSum N rv a μ10) fun μ12 => ca2 (f_D_add (tI w) (0 : Int32) μ12) fun x14 μ15 => some μ15) = some ν' ∧ GS n ν0 ν' (pAdd w 0 (pSum (tkf n t) v (pNext (pSum (tkf n t) v r)))) := by
    intro hx
    obtain ⟨ν2, e2, h2⟩ := g_next hT h1 (by omega)
    obtain ⟨ν3, e3, h3⟩ := g_readSum hN hT hv ν2 _ h2
    obtain ⟨z, ν4, e4, h4, -⟩ := g_add (x := tI w) (y := 0) w 0 (by unfold tI; rw [if_pos (by omega)]) rfl h3
    exact ⟨ν4, by rw [e2, ca_s, e3, ca_s, e4, ca2_s], h4⟩
  by_cases h18 : w = 18
  · rw [if_pos ((tI_l (x := 18) 18 rfl (by decide)).mpr h18), if_pos (Or.inl h18)]
    exact go (Or.inl h18)
  rw [if_neg (fun hh => h18 ((tI_l (x := 18) 18 rfl (by decide)).mp hh))]
  by_cases h19 : w = 19
  · rw [if_pos ((tI_l (x := 19) 19 rfl (by decide)).mpr h19), if_pos (Or.inr h19)]
    exact go (Or.inr h19)
  rw [if_neg (fun hh => h19 ((tI_l (x := 19) 19 rfl (by decide)).mp hh)), if_neg (by omega)]
  exact ⟨ν1, rfl, h1⟩
theorem g_readValue (hN : 200 ≤ N) (hT : HT n t ν0) : ∀ d i k, i + d = 4 → d < k → Rf n ν0 (f_G_readValue N k (nI i)) (pV (tkf n t) d) := by
  intro d
  induction d with
  | zero =>
    intro i k hi hk ν r h
    obtain ⟨g, rfl⟩ : ∃ g, k = g + 1 := ⟨k - 1, by omega⟩
    obtain rfl : i = 4 := by omega
    show ∃ ν', f_G_readValueB N (f_G_readValue N g) (nI 4) ν = some ν' ∧ _
    unfold f_G_readValueB
    obtain ⟨ν1, e1, h1⟩ := g_fl (x := 3) 3 rfl (by decide) hT h
    exact ⟨ν1, by rw [if_neg (by decide), e1, ca_s], h1⟩
  | succ d ih =>
    intro i k hi hk
    obtain ⟨g, rfl⟩ : ∃ g, k = g + 1 := ⟨k - 1, by omega⟩
    have := ih (i + 1) g (by omega) (by omega)
    have hh := g_readValueB (N := N) (rv := f_G_readValue N g) (v := pV (tkf n t) d) (a := nI i) hN hT (nI_le (b := 3) (by omega) (by decide)) (by rw [nI_1]; exact this)
    exact hh
end GR
