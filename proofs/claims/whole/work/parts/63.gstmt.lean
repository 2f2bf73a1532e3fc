/-! the class's readers of statements, functions, texts -/
theorem isOk_now {tk : Nat → Nat} {r : RR} (h : now tk r ≠ 999) : isOk r = true := by
  cases r with
  | error x => exact absurd rfl h
  | ok σ => rfl
theorem clen_le {n : Nat} {ν0 ν : St} {r : RR} (h : GS n ν0 ν r) : clen r ≤ 160 := by
  cases r with
  | error x => exact Nat.zero_le _
  | ok σ => obtain ⟨p, C, cl, fe, nf⟩ := σ; exact h.2.2.1.2.1
section GST
variable {n : Nat} {t : Nat → Nat} {ν0 : St} {N : Nat} {rb : Int32 → St → Option St} {b : RR → RR} {a : Int32}
theorem g_rv (hN : 200 ≤ N) (hT : HT n t ν0) : Rf n ν0 (f_G_readValue N 8 0) (pV (tkf n t) 4) := g_readValue hN hT 4 0 8 (by decide) (by decide)
theorem g_readChoice (hN : 200 ≤ N) (hT : HT n t ν0) : Rf n ν0 (f_G_readChoice N) (pChoice (tkf n t)) := by
  intro ν r h
  obtain ⟨ν1, e1, h1⟩ := g_ex (x := 6) 6 rfl (by decide) hT h
  obtain ⟨ν2, e2, h2⟩ := g_rv hN hT ν1 _ h1
  obtain ⟨ν3, e3, h3⟩ := g_ex (x := 7) 7 rfl (by decide) hT h2
  exact ⟨ν3, by unfold f_G_readChoice; rw [e1, ca_s, e2, ca_s, e3, ca_s], h3⟩
theorem g_readWord (hN : 200 ≤ N) (hT : HT n t ν0) {ν : St} {r : RR} {x : Int32} (o : Nat) (hx : x = nI o) (h : GS n ν0 ν r) (hn : now (tkf n t) r ≠ 999) : ∃ ν', f_G_readWord N x ν = some ν' ∧ GS n ν0 ν' (pWord (tkf n t) o r) := by
  obtain ⟨ν1, e1, h1⟩ := g_next hT h hn
  obtain ⟨ν2, e2, h2⟩ := g_rv hN hT ν1 _ h1
  obtain ⟨z, ν3, e3, h3, -⟩ := g_add (x := x) (y := 0) o 0 hx rfl h2
  obtain ⟨ν4, e4, h4⟩ := g_ex (x := 10) 10 rfl (by decide) hT h3
  exact ⟨ν4, by unfold f_G_readWord; rw [e1, ca_s, e2, ca_s, e3, ca2_s, e4, ca_s], h4⟩
theorem g_set (hN : 200 ≤ N) (hT : HT n t ν0) {ν : St} {r : RR} {x y : Int32} (o b : Nat) (hx : x = nI o) (hy : y = nI b) (h : GS n ν0 ν r) : ∃ ν', (ca (f_G_expect (12 : Int32) ν) fun μ16 => ca (f_G_readValue N 8 (0 : Int32) μ16) fun μ18 => ca (f_G_expect (10 : Int32) μ18) fun μ20 => ca2 (f_D_add x y μ20) fun x24 μ25 => some μ25) = some ν' ∧ GS n ν0 ν' (pSet (tkf n t) o b r) := by
  obtain ⟨ν1, e1, h1⟩ := g_ex (x := 12) 12 rfl (by decide) hT h
  obtain ⟨ν2, e2, h2⟩ := g_rv hN hT ν1 _ h1
  obtain ⟨ν3, e3, h3⟩ := g_ex (x := 10) 10 rfl (by decide) hT h2
  obtain ⟨z, ν4, e4, h4, -⟩ := g_add o b hx hy h3
  exact ⟨ν4, by rw [e1, ca_s, e2, ca_s, e3, ca_s, e4, ca2_s], h4⟩
theorem g_readSetting (hN : 200 ≤ N) (hT : HT n t ν0) {ν : St} {r : RR} (h : GS n ν0 ν r) : ∃ ν', f_G_readSetting N (tI (now (tkf n t) r)) ν = some ν' ∧ GS n ν0 ν' (pSetting (tkf n t) (now (tkf n t) r) r) := by
  obtain ⟨w, hw⟩ : ∃ w, w = now (tkf n t) r := ⟨_, rfl⟩
  unfold f_G_readSetting pSetting
  rw [← hw, show f_G_isOf (tI w) (32 : Int32) (8 : Int32) = some (if 32 ≤ w ∧ w < 40 then 1 else 0) from isOf_t 32 8 (by decide), show f_G_isOf (tI w) (44 : Int32) (8 : Int32) = some (if 44 ≤ w ∧ w < 52 then 1 else 0) from isOf_t 44 8 (by decide), show f_G_isOf (tI w) (40 : Int32) (4 : Int32) = some (if 40 ≤ w ∧ w < 44 then 1 else 0) from isOf_t 40 4 (by decide)]
  simp only [ca_s, jn_eq]
  by_cases c1 : 32 ≤ w ∧ w < 40
  · have c2 : ¬ (44 ≤ w ∧ w < 52) := by omega
    have c3 : ¬ (40 ≤ w ∧ w < 44) := by omega
    obtain ⟨ν1, e1, h1⟩ := g_next hT h (by omega)
    obtain ⟨ν2, e2, h2⟩ := g_set hN hT (x := 37) (y := tI w - 32) 37 (w - 32) rfl (tI_sub c1.1 (by omega)) h1
    refine ⟨ν2, ?_, by rw [if_pos c1]; exact h2⟩
    simp only [if_pos c1, if_neg c2, if_neg c3, if_true, e1, ca_s, show ¬ (1 : Int32) = 0 by decide, if_false]
    exact e2
  by_cases c2 : 44 ≤ w ∧ w < 52
  · have c3 : ¬ (40 ≤ w ∧ w < 44) := by omega
    obtain ⟨ν1, e1, h1⟩ := g_next hT h (by omega)
    obtain ⟨ν2, e2, h2⟩ := g_set hN hT (x := 39) (y := tI w - 44) 39 (w - 44) rfl (tI_sub c2.1 (by omega)) h1
    refine ⟨ν2, ?_, by rw [if_neg c1, if_pos c2]; exact h2⟩
    simp only [if_neg c1, if_pos c2, if_neg c3, if_true, e1, ca_s, show ¬ (1 : Int32) = 0 by decide, if_false]
    exact e2
  by_cases c3 : 40 ≤ w ∧ w < 44
  · obtain ⟨ν1, e1, h1⟩ := g_next hT h (by omega)
    obtain ⟨ν2, e2, h2⟩ := g_readIndex hT (g_rv hN hT) ν1 _ h1
    obtain ⟨ν3, e3, h3⟩ := g_set hN hT (x := 41) (y := tI w - 40) 41 (w - 40) rfl (tI_sub c3.1 (by omega)) h2
    refine ⟨ν3, ?_, by rw [if_neg c1, if_neg c2, if_pos c3]; exact h3⟩
    simp only [if_neg c1, if_neg c2, if_pos c3, if_true, e1, e2, ca_s, show ¬ (1 : Int32) = 0 by decide, if_false]
    exact e3
  obtain ⟨ν1, e1, h1⟩ := g_fl (x := 1) 1 rfl (by decide) hT h
  refine ⟨ν1, ?_, by rw [if_neg c1, if_neg c2, if_neg c3]; exact h1⟩
  simp only [if_neg c1, if_neg c2, if_neg c3, if_true, e1, ca_s]
theorem g_readIf (hN : 200 ≤ N) (hT : HT n t ν0) (hb : Rf n ν0 (rb (a + 1)) b) (hbe : ∀ x, b (.error x) = .error x) {ν : St} {r : RR} (h : GS n ν0 ν r) (hn : now (tkf n t) r ≠ 999) : ∃ ν', f_G_readIf N rb a ν = some ν' ∧ GS n ν0 ν' (pIf (tkf n t) b r) := by
  obtain ⟨ν1, e1, h1⟩ := g_next hT h hn
  obtain ⟨ν2, e2, h2⟩ := g_readChoice hN hT ν1 _ h1
  obtain ⟨z3, ν3, e3, h3, k3⟩ := g_add (x := 46) (y := 0) 46 0 rfl rfl h2
  obtain ⟨ν4, e4, h4⟩ := hb ν3 _ h3
  unfold f_G_readIf pIf pIfB pElse
  obtain ⟨r2, hr2⟩ : ∃ z, z = pChoice (tkf n t) (pNext r) := ⟨_, rfl⟩
  rw [← hr2] at h2 h3 k3 h4 ⊢
  have ok2 : isOk (b (pAdd 46 0 r2)) = true → isOk r2 = true := by
    intro hh
    cases r2 with
    | error x => rw [pAdd_e, hbe] at hh; exact hh
    | ok σ => rfl
  rw [e1, ca_s, e2, ca_s, e3, ca2_s, e4, ca_s, g_now hT h4, ca_s]
  have hcl := clen_le h2
  by_cases c1 : now (tkf n t) (b (pAdd 46 0 r2)) = 1
  · rw [if_pos ((tI_l (x := 1) 1 rfl (by decide)).mpr c1), if_pos c1]
    obtain ⟨ν5, e5, h5⟩ := g_next hT h4 (by omega)
    obtain ⟨z6, ν6, e6, h6, k6⟩ := g_add (x := 45) (y := 0) 45 0 rfl rfl h5
    have oki := isOk_now (tk := tkf n t) (r := b (pAdd 46 0 r2)) (by omega)
    obtain ⟨ν7, e7, h7⟩ := g_aim (x := z3) (clen r2) (fun _ => ⟨k3 (ok2 oki), hcl⟩) h6
    obtain ⟨ν8, e8, h8⟩ := hb ν7 _ h7
    have hc4 : clen (pNext (b (pAdd 46 0 r2))) = clen (b (pAdd 46 0 r2)) := by
      cases b (pAdd 46 0 r2) with
      | error x => rfl
      | ok σ => rfl
    obtain ⟨ν9, e9, h9⟩ := g_aim (x := z6) (clen (b (pAdd 46 0 r2))) (fun _ => ⟨by rw [← hc4]; exact k6 (by cases hb4 : b (pAdd 46 0 r2) with
      | error x => rw [hb4] at oki; exact oki
      | ok σ => rfl), clen_le h4⟩) h8
    exact ⟨ν9, by rw [e5, ca_s, e6, ca2_s, e7, ca_s, e8, ca_s, e9, ca_s], h9⟩
  · rw [if_neg (fun hh => c1 ((tI_l (x := 1) 1 rfl (by decide)).mp hh)), if_neg c1]
    obtain ⟨ν7, e7, h7⟩ := g_aim (x := z3) (clen r2) (fun hh => ⟨k3 (ok2 hh), hcl⟩) h4
    exact ⟨ν7, by rw [e7, ca_s], h7⟩
theorem g_readWhile (hN : 200 ≤ N) (hT : HT n t ν0) (hb : Rf n ν0 (rb (a + 1)) b) (hbe : ∀ x, b (.error x) = .error x) {ν : St} {r : RR} {y : Int32} {bg : Nat} (hy : y = nI bg) (h : GS n ν0 ν r) (hn : now (tkf n t) r ≠ 999) : ∃ ν', f_G_readWhile N rb a y ν = some ν' ∧ GS n ν0 ν' (pWhile (tkf n t) b bg r) := by
  obtain ⟨ν1, e1, h1⟩ := g_next hT h hn
  obtain ⟨ν2, e2, h2⟩ := g_readChoice hN hT ν1 _ h1
  obtain ⟨z3, ν3, e3, h3, k3⟩ := g_add (x := 46) (y := 0) 46 0 rfl rfl h2
  obtain ⟨ν4, e4, h4⟩ := hb ν3 _ h3
  obtain ⟨z5, ν5, e5, h5, k5⟩ := g_add (x := 45) (y := y) 45 bg rfl hy h4
  unfold f_G_readWhile pWhile pWhileB
  obtain ⟨r2, hr2⟩ : ∃ z, z = pChoice (tkf n t) (pNext r) := ⟨_, rfl⟩
  rw [← hr2] at h2 h3 k3 h4 h5 ⊢
  have ok2 : isOk (pAdd 45 bg (b (pAdd 46 0 r2))) = true → isOk r2 = true := by
    intro hh
    rw [isOk_add] at hh
    cases r2 with
    | error x => rw [pAdd_e, hbe] at hh; exact hh
    | ok σ => rfl
  obtain ⟨ν7, e7, h7⟩ := g_aim (x := z3) (clen r2) (fun hh => ⟨k3 (ok2 hh), clen_le h2⟩) h5
  exact ⟨ν7, by rw [e1, ca_s, e2, ca_s, e3, ca2_s, e4, ca_s, e5, ca2_s, e7, ca_s], h7⟩
theorem g_readStatement (hN : 200 ≤ N) (hT : HT n t ν0) (hb : Rf n ν0 (rb (a + 1)) b) (hbe : ∀ x, b (.error x) = .error x) {ν : St} {r : RR} (h : GS n ν0 ν r) (hok : isOk r = true) : ∃ ν', f_G_readStatement N rb a ν = some ν' ∧ GS n ν0 ν' (pStmt (tkf n t) b r) := by
  obtain ⟨z1, ν1, e1, h1, k1⟩ := g_add (x := 32) (y := 0) 32 0 rfl rfl h
  unfold f_G_readStatement pStmt pStmtB
  rw [e1, ca2_s, g_now hT h1, ca_s]
  obtain ⟨r1, hr1⟩ : ∃ z, z = pAdd 32 0 r := ⟨_, rfl⟩
  rw [← hr1] at h1 ⊢
  obtain ⟨w, hw⟩ : ∃ w, w = now (tkf n t) r1 := ⟨_, rfl⟩
  rw [← hw]
  by_cases c0 : w = 0
  · rw [if_pos ((tI_l (x := 0) 0 rfl (by decide)).mpr c0), if_pos c0]
    obtain ⟨ν2, e2, h2⟩ := g_readIf hN hT hb hbe h1 (by omega)
    exact ⟨ν2, by rw [e2, ca_s], h2⟩
  rw [if_neg (fun hh => c0 ((tI_l (x := 0) 0 rfl (by decide)).mp hh)), if_neg c0]
  by_cases c2 : w = 2
  · rw [if_pos ((tI_l (x := 2) 2 rfl (by decide)).mpr c2), if_pos c2]
    obtain ⟨ν2, e2, h2⟩ := g_readWhile hN hT hb hbe (k1 hok) h1 (by omega)
    exact ⟨ν2, by rw [e2, ca_s], h2⟩
  rw [if_neg (fun hh => c2 ((tI_l (x := 2) 2 rfl (by decide)).mp hh)), if_neg c2]
  by_cases c3 : w = 3
  · rw [if_pos ((tI_l (x := 3) 3 rfl (by decide)).mpr c3), if_pos c3]
    obtain ⟨ν2, e2, h2⟩ := g_readWord hN hT (x := 0) 0 rfl h1 (by omega)
    exact ⟨ν2, by rw [e2, ca_s], h2⟩
  rw [if_neg (fun hh => c3 ((tI_l (x := 3) 3 rfl (by decide)).mp hh)), if_neg c3]
  by_cases c4 : w = 4
  · rw [if_pos ((tI_l (x := 4) 4 rfl (by decide)).mpr c4), if_pos c4]
    obtain ⟨ν2, e2, h2⟩ := g_readWord hN hT (x := 44) 44 rfl h1 (by omega)
    exact ⟨ν2, by rw [e2, ca_s], h2⟩
  rw [if_neg (fun hh => c4 ((tI_l (x := 4) 4 rfl (by decide)).mp hh)), if_neg c4, show f_G_isOf (tI w) (52 : Int32) (6 : Int32) = some (if 52 ≤ w ∧ w < 58 then 1 else 0) from isOf_t 52 6 (by decide), ca_s]
  by_cases c5 : 52 ≤ w ∧ w < 58
  · rw [if_pos c5, if_pos c5, if_neg (by decide)]
    obtain ⟨ν2, e2, h2⟩ := g_readCall hN hT (g_rv hN hT) h1 (by rw [← hw]; exact c5)
    obtain ⟨z3, ν3, e3, h3, -⟩ := g_add (x := 43) (y := 0) 43 0 rfl rfl h2
    obtain ⟨ν4, e4, h4⟩ := g_ex (x := 10) 10 rfl (by decide) hT h3
    exact ⟨ν4, by rw [e2, ca_s, e3, ca2_s, e4, ca_s], h4⟩
  rw [if_neg c5, if_neg c5, if_pos rfl]
  obtain ⟨ν2, e2, h2⟩ := g_readSetting hN hT h1
  rw [← hw] at e2 h2
  exact ⟨ν2, by rw [e2, ca_s], h2⟩
def FB (N : Nat) (rb : Int32 → St → Option St) (a1 : Int32) (k6 : Int32 → St → Option St) (x4 : Int32) (μ5 : St) : Option St :=
  jn (ca (f_G_expect (9 : Int32) μ5) fun μ12 => some μ12) fun k9 => if (160 : Int32) ≤ x4 then k9 else if (μ5 204 0) = 0 then (ca (f_G_now μ5) fun x16 => if x16 = (9 : Int32) then k9 else ca (f_G_readStatement N rb a1 μ5) fun μ19 => nm (x4 + (1 : Int32)) fun x20 => k6 x20 μ19) else k9
theorem readBlockB_eq (N : Nat) (rb : Int32 → St → Option St) (a1 : Int32) (μ : St) : f_G_readBlockB N rb a1 μ = if a1 ≤ (3 : Int32) then (ca (f_G_expect (8 : Int32) μ) fun μ3 => lpk (FB N rb a1) (fun _ _ => none) N 0 μ3) else (ca (f_G_fail (3 : Int32) μ) fun μ22 => some μ22) := rfl
theorem g_204 {ν : St} {r : RR} (h : GS n ν0 ν r) : (ν 204 0 = 0) ↔ isOk r = true := by
  cases r with
  | error x =>
    obtain ⟨_, a1, a2, a3, a4, _⟩ := h
    rw [a2]
    exact ⟨fun hh => absurd hh (nI_ne0 (by omega) (by omega)), fun hh => absurd hh (by simp [isOk])⟩
  | ok σ => obtain ⟨p, C, cl, fe, nf⟩ := σ; exact ⟨fun _ => rfl, fun _ => h.2.1.2.2.1⟩
theorem g_stL (hN : 200 ≤ N) (hT : HT n t ν0) (hb : Rf n ν0 (rb (a + 1)) b) (hbe : ∀ x, b (.error x) = .error x) : ∀ k fuel i ν r, i + k = 160 → k < fuel → GS n ν0 ν r → ∃ ν', lpk (FB N rb a) (fun _ _ => none) fuel (nI i) ν = some ν' ∧ GS n ν0 ν' (pExp (tkf n t) 9 (pStL (tkf n t) (pStmt (tkf n t) b) k r)) := by
  intro k
  induction k with
  | zero =>
    intro fuel i ν r h1 h2 h
    obtain ⟨g, rfl⟩ : ∃ g, fuel = g + 1 := ⟨fuel - 1, by omega⟩
    obtain ⟨ν1, e1, g1⟩ := g_ex (x := 9) 9 rfl (by decide) hT h
    refine ⟨ν1, ?_, g1⟩
    rw [lpk_s]
    unfold FB
    rw [jn_eq, if_pos (show (160 : Int32) ≤ nI i from nI_le (a := 160) (by omega) (by omega)), e1, ca_s]
  | succ k ih =>
    intro fuel i ν r h1 h2 h
    obtain ⟨g, rfl⟩ : ∃ g, fuel = g + 1 := ⟨fuel - 1, by omega⟩
    obtain ⟨ν1, e1, g1⟩ := g_ex (x := 9) 9 rfl (by decide) hT h
    rw [lpk_s]
    have hF : ∀ kk, FB N rb a kk (nI i) ν = if isOk r = true then (if now (tkf n t) r = 9 then some ν1 else ca (f_G_readStatement N rb a ν) fun μ19 => kk (nI (i + 1)) μ19) else some ν1 := by
      intro kk
      unfold FB
      rw [jn_eq, if_neg (show ¬ (160 : Int32) ≤ nI i from nI_ge (b := 160) (by omega) (by decide)), e1, ca_s]
      simp only [nm_eq, nI_1]
      by_cases hx : isOk r = true
      · rw [if_pos ((g_204 h).mpr hx), if_pos hx, g_now hT h, ca_s]
        by_cases h9 : now (tkf n t) r = 9
        · rw [if_pos ((tI_l (x := 9) 9 rfl (by decide)).mpr h9), if_pos h9]
        · rw [if_neg (fun hh => h9 ((tI_l (x := 9) 9 rfl (by decide)).mp hh)), if_neg h9]
      · rw [if_neg (fun hh => hx ((g_204 h).mp hh)), if_neg hx]
    rw [hF]
    unfold pStL
    by_cases hx : isOk r = true
    · rw [if_pos hx, if_pos hx]
      by_cases h9 : now (tkf n t) r = 9
      · rw [if_pos h9, if_pos h9]
        exact ⟨ν1, rfl, g1⟩
      · rw [if_neg h9, if_neg h9]
        obtain ⟨ν2, e2, g2⟩ := g_readStatement hN hT hb hbe h hx
        obtain ⟨ν3, e3, g3⟩ := ih g (i + 1) ν2 _ (by omega) (by omega) g2
        exact ⟨ν3, by rw [e2, ca_s, e3], g3⟩
    · rw [if_neg hx, if_neg hx]
      exact ⟨ν1, rfl, g1⟩
theorem g_readBlockB (hN : 200 ≤ N) (hT : HT n t ν0) (ha : a ≤ 3) (hb : Rf n ν0 (rb (a + 1)) b) (hbe : ∀ x, b (.error x) = .error x) : Rf n ν0 (f_G_readBlockB N rb a) (pBlock (tkf n t) (pStmt (tkf n t) b)) := by
  intro ν r h
  obtain ⟨ν1, e1, h1⟩ := g_ex (x := 8) 8 rfl (by decide) hT h
  obtain ⟨ν2, e2, h2⟩ := g_stL hN hT hb hbe 160 N 0 ν1 _ (by decide) (by omega) h1
  exact ⟨ν2, by rw [readBlockB_eq, if_pos ha, e1, ca_s]; exact e2, h2⟩
theorem g_readBlock (hN : 200 ≤ N) (hT : HT n t ν0) : ∀ d i k, i + d = 4 → d < k → Rf n ν0 (f_G_readBlock N k (nI i)) (pB (tkf n t) d) := by
  intro d
  induction d with
  | zero =>
    intro i k hi hk ν r h
    obtain ⟨g, rfl⟩ : ∃ g, k = g + 1 := ⟨k - 1, by omega⟩
    obtain rfl : i = 4 := by omega
    show ∃ ν', f_G_readBlockB N (f_G_readBlock N g) (nI 4) ν = some ν' ∧ _
    obtain ⟨ν1, e1, h1⟩ := g_fl (x := 3) 3 rfl (by decide) hT h
    exact ⟨ν1, by rw [readBlockB_eq, if_neg (by decide), e1, ca_s], h1⟩
  | succ d ih =>
    intro i k hi hk
    obtain ⟨g, rfl⟩ : ∃ g, k = g + 1 := ⟨k - 1, by omega⟩
    have := ih (i + 1) g (by omega) (by omega)
    exact g_readBlockB (N := N) (rb := f_G_readBlock N g) (b := pB (tkf n t) d) (a := nI i) hN hT (nI_le (b := 3) (by omega) (by decide)) (by rw [nI_1]; exact this) (fun x => pB_e _ _ x)
theorem g_param {ν : St} {r : RR} {f : Nat} (hf : f < 6) (h : GS n ν0 ν r) (hok : isOk r = true) : ∃ p C cl fe nf, r = .ok (p, C, cl, fe, nf) ∧ f_D_parametersOf (nI f) ν = some (oI ((fe f).map (fun x => x.2))) := by
  cases r with
  | error x => exact absurd hok (by simp [isOk])
  | ok σ =>
    obtain ⟨p, C, cl, fe, nf⟩ := σ
    refine ⟨p, C, cl, fe, nf, rfl, ?_⟩
    obtain ⟨-, -, -, -, ⟨f1, f2, f3⟩⟩ := h
    unfold f_D_parametersOf
    rw [jn_eq, if_neg (nI_pos (by omega)), if_neg (show ¬ (6 : Int32) ≤ nI f from nI_ge (b := 6) hf (by decide)), gd_i (inb_nI hf (by decide)), nm_eq, cl_nI (by omega)]
    have := f1 f hf
    cases hfe : fe f with
    | none =>
      rw [hfe] at this
      have h0 : ν 16 f = 0 := this
      rw [h0]
      rfl
    | some x =>
      rw [hfe] at this
      rw [this.2, nI_pred]
      rfl
theorem g_decl {ν : St} {r : RR} {f np : Nat} (hf : f < 6) (hp : np ≤ 3) (h : GS n ν0 ν r) (hok : isOk r = true) : ∃ ν', f_D_addFunction (nI f) (nI np) ν = some ν' ∧ GS n ν0 ν' (pDecl f np r) := by
  cases r with
  | error x => exact absurd hok (by simp [isOk])
  | ok σ =>
    obtain ⟨p, C, cl, fe, nf⟩ := σ
    obtain ⟨h1, hP, hC, hL, ⟨f1, f2, f3⟩⟩ := h
    unfold f_D_addFunction
    rw [if_neg (nI_pos (by omega)), if_neg (show ¬ (6 : Int32) ≤ nI f from nI_ge (b := 6) hf (by decide)), gd_i (inb_nI hf (by decide)), nm_eq, gd_i (inb_nI hf (by decide)), nm_eq, nm_eq, cl_nI (by omega), nI_1]
    refine ⟨_, rfl, frG_st (frG_st (frG_st h1 (by decide)) (by decide)) (by decide), gP_same hP (by simp [st]) (by simp [st]) (by simp [st]), gC_same hC (by simp [st]) (by simp [st]) (by simp [st]), gL_same hL (by simp [st]), ⟨fun g hg => ?_, fun g x hx => ?_, ?_⟩⟩
    · by_cases hgf : g = f
      · subst hgf
        simp [eD, st, upd, hC.1]
      · have := f1 g hg
        simp only [eD, if_neg hgf] at *
        simp [st, upd, hgf]
        exact this
    · dsimp only at hx
      by_cases hgf : g = f
      · rw [if_pos hgf] at hx
        cases hx
        exact hp
      · rw [if_neg hgf] at hx
        exact f2 g x hx
    · simp [st, upd, f3, nI_1]
theorem oI_none {x : Option Nat} (h : ∀ c, x = some c → c ≤ 1000) : (oI x = -1) ↔ x = none := by
  cases x with
  | none => exact ⟨fun _ => rfl, fun _ => rfl⟩
  | some c =>
    have := h c rfl
    constructor
    · intro hh
      have h2 := congrArg Int32.toInt hh
      have h3 : (oI (some c)).toInt = (c : Int) := nI_toInt (by omega)
      have e : ((-1 : Int32)).toInt = -1 := rfl
      omega
    · intro hh; cases hh
theorem tI_neg {w c : Nat} (hc : c < 192) (hd : (-1 - nI c : Int32) < 0) (h : w < c ∨ 192 ≤ w) : tI w - nI c < 0 := by
  unfold tI
  by_cases hw : w < 192
  · rw [if_pos hw]
    exact pk_sneg (by omega) (by omega)
  · rw [if_neg hw]
    exact hd
end GST
