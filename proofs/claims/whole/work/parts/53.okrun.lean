/-! run and start agree -/
theorem lpk_FC {N : Nat} {x4 : Int32} {k0 : Int32} {ν : St} (n : Nat) : lpk (fun (k7 : Int32 → St → Option (Int32 × St)) (x5 : Int32) (μ6 : St) => if (1000000 : Int32) ≤ x5 then some (μ6 228 0, μ6) else if (μ6 228 0) = (1 : Int32) then ca (f_P_stepAt (μ6 233 0) μ6) fun x12 => jn (ca (f_P_operandAt (μ6 233 0) μ6) fun x17 => nm (st μ6 233 0 ((μ6 233 0) + (1 : Int32))) fun μ18 => ca (f_E_act N x12 x17 μ18) fun μ20 => nm (x5 + (1 : Int32)) fun x21 => k7 x21 μ20) fun k14 => if x12 = (32 : Int32) then (if (μ6 229 0) < x4 then k14 else some (μ6 228 0, μ6)) else k14 else some (μ6 228 0, μ6)) (fun _ _ => none) n k0 ν = lpk (FC N x4) (fun _ _ => none) n k0 ν := rfl
theorem s_E_go {N : Nat} {ν : St} (a1 : Int32) : f_E_go N a1 ν = (if (ν 228 0) = (2 : Int32) then (if (ν 142 0) ≤ 0 then lpk (FC N (ν 229 0 + a1)) (fun _ _ => none) N 0 ν else lpk (FC N ((st ν 228 0 1) 229 0 + a1)) (fun _ _ => none) N 0 (st ν 228 0 1)) else lpk (FC N (ν 229 0 + a1)) (fun _ _ => none) N 0 ν) := rfl
def runM (N : Nat) (a1 : Int32) (μ5 : St) (y10 : Int32) : Option (Int32 × St) := lpk (FM N a1) (fun _ _ _ => none) N 0 1 (st μ5 137 0 y10)
theorem s_M_run {N : Nat} {μ : St} (a1 : Int32) (h1 : ¬ a1 < 1) (h2 : a1 ≤ 200) (h3 : ¬ μ 137 0 = 0) : f_M_run N a1 μ = (if ((st μ 100 0 0) 137 0) = (2 : Int32) then (if ((st μ 100 0 0) 140 0) ≤ 0 then runM N a1 (st μ 100 0 0) ((st μ 100 0 0) 137 0) else runM N a1 (st μ 100 0 0) 1) else runM N a1 (st μ 100 0 0) ((st μ 100 0 0) 137 0)) := by
  unfold f_M_run
  rw [jn_eq, jn_eq, if_neg h1, if_pos h2, if_neg h3]
  try dsimp only
  rw [nm_eq, st_at, if_pos (by decide)]
  rfl
theorem FIN_Rel {op arg : Nat → Nat} {L : Nat} {e : Nat → Option (Nat × Nat)} {dep : Nat → Nat} {ν μ : St} {Bm Sm sv j : Nat} (hW : WF op arg L e dep) (h : FIN op arg L e dep ν μ Bm Sm sv) (hB : Bm ≤ 200 * j) (hS : Sm ≤ 1000000 * j) : Rel j ν μ := by
  obtain ⟨B, S, rn, h1, h2, h3, h4, h5, ⟨c1, c2, c3, c4, c5, c6, c7, c8, c9, c10⟩, h7⟩ := h
  refine ⟨c1, c2, ⟨sv, B, S, rn, h5, by omega, by omega, h3, c10.1, c10.2, c7.1, c7.2, c8.1, c8.2, c9.1, c9.2, c6.1, c6.2.1, c6.2.2.1, c6.2.2.2.1, c6.2.2.2.2⟩, c5.1, Or.inr ⟨c5.2.1, op, arg, L, e, dep, hW, c3, c4, fun hs => ?_⟩⟩
  have : sv = 1 ∨ sv = 2 := by
    rw [c10.1] at hs
    rcases hs with hs | hs
    · exact Or.inl ((nI_eq (a := sv) (b := 1) (by omega) (by decide)).mp hs)
    · exact Or.inr ((nI_eq (a := sv) (b := 2) (by omega) (by decide)).mp hs)
  obtain ⟨a, tp, fl, ra, hF⟩ := h7 this
  exact ⟨rn, a, tp, fl, ra, hF⟩
theorem big_run {x : Int32} : x < 1 ∨ ¬ x ≤ 200 ∨ ∃ n : Nat, 1 ≤ n ∧ n ≤ 200 ∧ x = nI n := by
  by_cases h1 : x < 1
  · exact Or.inl h1
  by_cases h2 : x ≤ 200
  · rw [Int32.lt_iff_toInt_lt] at h1
    rw [Int32.le_iff_toInt_le] at h2
    have e1 : (1 : Int32).toInt = 1 := rfl
    have e2 : (200 : Int32).toInt = 200 := rfl
    refine Or.inr (Or.inr ⟨x.toInt.toNat, by omega, by omega, ?_⟩)
    apply Int32.toInt_inj.mp
    rw [nI_toInt (by omega)]
    omega
  · exact Or.inr (Or.inl h2)
set_option maxHeartbeats 4000000 in
set_option maxRecDepth 100000 in
theorem ok_run {N j : Nat} (hN : 1000000 ≤ N) {ν μ : St} (p0 : Int32) (hj : j < 64) (h : Rel j ν μ) : ∃ (k : Nat) (r : Int32) (ν' : St) (bv : Int32) (μ' : St), (k = 0 ∨ k = 1 ∨ k = 2) ∧ f_S_run N p0 ν = some (k, r, ν') ∧ f_M_run N p0 μ = some (bv, μ') ∧ f_M_thrown μ' = some (if k = 0 then 0 else if k = 1 then 1 else 2) ∧ (k = 0 → bv = r) ∧ Rel (j + 1) ν' μ' := by
  obtain ⟨hT, hK, ⟨sv, B, S, rn, hsv, hB, hS, hrn, v1, v2, v3, v4, v5, v6, v7, v8, r1, r2, r3, r4, r5⟩, hP0, hP⟩ := id h
  rcases big_run (x := p0) with hp | hp | ⟨n, hn1, hn2, rfl⟩
  · exact ⟨1, 0, ν, 0, st μ 100 0 1, Or.inr (Or.inl rfl), by simp [f_S_run, hp], by simp [f_M_run, jn_eq, nm_eq, hp, st_at], thr_0 _ _, fun h => absurd h (by decide), Rel_no (Rel_threw h)⟩
  · by_cases hp1 : p0 < 1
    · exact ⟨1, 0, ν, 0, st μ 100 0 1, Or.inr (Or.inl rfl), by simp [f_S_run, hp1], by simp [f_M_run, jn_eq, nm_eq, hp1, st_at], thr_0 _ _, fun h => absurd h (by decide), Rel_no (Rel_threw h)⟩
    · exact ⟨1, 0, ν, 0, st μ 100 0 1, Or.inr (Or.inl rfl), by simp [f_S_run, hp1, hp], by simp [f_M_run, jn_eq, nm_eq, hp1, hp, st_at], thr_0 _ _, fun h => absurd h (by decide), Rel_no (Rel_threw h)⟩
  · have hp1 : ¬ nI n < 1 := nI_nlt (a := n) (b := 1) hn1 (by omega)
    have hp2 : nI n ≤ 200 := nI_le (b := 200) hn2 (by decide)
    by_cases hs0 : sv = 0
    · subst hs0
      have z1 : ν 228 0 = 0 := v1
      have z2 : μ 137 0 = 0 := v2
      exact ⟨2, 0, ν, 0, st μ 100 0 2, Or.inr (Or.inr rfl), by simp [f_S_run, hp1, hp2, f_E_state, ca_s, z1], by simp [f_M_run, jn_eq, nm_eq, hp1, hp2, z2, st_at], thr_0 _ _, fun h => absurd h (by decide), Rel_no (Rel_threw h)⟩
    · have z1 : ¬ ν 228 0 = 0 := by rw [v1]; exact nI_ne0 (by omega) (by omega)
      have z2 : ¬ μ 137 0 = 0 := by rw [v2]; exact nI_ne0 (by omega) (by omega)
      rcases hP with ⟨-, hP⟩ | ⟨hP1, op, arg, L, e, dep, hW, pc, pm, hfr⟩
      · exact absurd hP z1
      obtain ⟨f, c, hf, hc, k1, k2, k3, hk⟩ := id hK
      have w1 : (st μ 100 0 0) 137 0 = nI sv := by rw [st_ne (by decide)]; exact v2
      have w2 : (st μ 100 0 0) 140 0 = nI c := by rw [st_ne (by decide)]; exact k3
      have hcore : ∀ x : Nat, ∀ y : St, (∀ k, k ≠ 228 → y k = ν k) → y 228 0 = nI x → CORE op arg L e y (st (st μ 100 0 0) 137 0 (nI x)) B S x rn := by
        intro x y hy hy2
        refine ⟨RT_same hT (hy 7 (by decide)) (hy 121 (by decide)) (by simp [st]) (by simp [st]), RK_same hK (hy 8 (by decide)) (hy 141 (by decide)) (hy 142 (by decide)) (by simp [st]) (by simp [st]), ?_, ?_, ⟨by rw [hy 165 (by decide)]; simp [st]; exact hP0, by rw [hy 165 (by decide)]; exact hP1, by simp [st, upd]⟩, ?_, ⟨by rw [hy 229 (by decide)]; exact v3, by simp [st, v4]⟩, ⟨by rw [hy 230 (by decide)]; exact v5, by simp [st, v6]⟩, ⟨by rw [hy 231 (by decide)]; exact v7, by simp [st, v8]⟩, ⟨hy2, st_at _ _ _ _⟩⟩
        · unfold PCls eC at *
          simp only [hy 9 (by decide), hy 10 (by decide), hy 11 (by decide), hy 12 (by decide)]
          exact pc
        · unfold PMod eM at *
          simp only [st_ne' (show (4 : Nat) ≠ 137 by decide), st_ne' (show (4 : Nat) ≠ 100 by decide), st_ne' (show (5 : Nat) ≠ 137 by decide), st_ne' (show (5 : Nat) ≠ 100 by decide), st_ne' (show (8 : Nat) ≠ 137 by decide), st_ne' (show (8 : Nat) ≠ 100 by decide), st_ne' (show (9 : Nat) ≠ 137 by decide), st_ne' (show (9 : Nat) ≠ 100 by decide)]
          exact pm
        · rw [hy 18 (by decide), hy 19 (by decide), hy 23 (by decide), hy 20 (by decide), hy 22 (by decide)]
          simp [st]
          exact ⟨r1, r2, r3, r4, r5⟩
      have hfrx : ∀ x : Nat, ∀ y : St, (∀ k, k ≠ 228 → y k = ν k) → (sv = 1 ∨ sv = 2) → ∃ (rn' a tp : Nat) (fl ra : Nat → Nat), FR y (st (st μ 100 0 0) 137 0 (nI x)) L dep rn' a tp fl ra ∧ rn' = rn := by
        intro x y hy hs
        obtain ⟨rn', a, tp, fl, ra, f1, f2, f3, f4, f5, f6, f7, f8, f9, f10, f11, f12, f13⟩ := hfr (by rw [v1]; rcases hs with rfl | rfl; exact Or.inl rfl; exact Or.inr rfl)
        refine ⟨rn', a, tp, fl, ra, ⟨by rw [hy 231 (by decide)]; exact f1, by simp [st, f2], f3, f4, by rw [hy 233 (by decide)]; exact f5, by simp [st, f6], f7, by rw [hy 232 (by decide)]; exact f8, by simp [st, f9], f10, f11, fun i hi => by simp [st, f12 i hi], fun i g1 g2 => ?_⟩, ?_⟩
        · have := f13 i g1 g2
          rw [hy 21 (by decide)]
          simp [st, this]
        · exact (nI_eq (by omega) (by omega)).mp (f1.symm.trans v7)
      have fin : ∀ (r : Int32) (ν' : St) (μ' : St) (sv' : Nat), f_E_go N (nI n) ν = some (nI sv', ν') → f_M_run N (nI n) μ = some (nI sv', μ') → FIN op arg L e dep ν' μ' (B + n) (S + 1000000) sv' → ∃ (k : Nat) (r : Int32) (ν' : St) (bv : Int32) (μ' : St), (k = 0 ∨ k = 1 ∨ k = 2) ∧ f_S_run N (nI n) ν = some (k, r, ν') ∧ f_M_run N (nI n) μ = some (bv, μ') ∧ f_M_thrown μ' = some (if k = 0 then 0 else if k = 1 then 1 else 2) ∧ (k = 0 → bv = r) ∧ Rel (j + 1) ν' μ' := by
        intro r ν' μ' sv' g1 g2 g3
        refine ⟨0, nI sv', ν', nI sv', μ', Or.inl rfl, ?_, g2, ?_, fun _ => rfl, FIN_Rel hW g3 (by omega) (by omega)⟩
        · simp [f_S_run, hp1, hp2, f_E_state, ca_s, z1, g1, ca2_s]
        · obtain ⟨_, _, _, _, _, _, _, _, hc9, _⟩ := g3
          simp [f_M_thrown, hc9.2.2.2.2.1.2.2]
      by_cases hgo : sv = 1 ∨ (sv = 2 ∧ 0 < c)
      · obtain ⟨y, hy⟩ : ∃ y : St, y = if sv = 2 then st ν 228 0 1 else ν := ⟨_, rfl⟩
        have hy1 : ∀ k, k ≠ 228 → y k = ν k := fun k hk => by rw [hy]; split; exact st_ne' hk; rfl
        have hy2 : y 228 0 = nI 1 := by
          rw [hy]
          rcases hgo with h | h
          · rw [if_neg (by omega), v1, h]
          · rw [if_pos h.1, st_at]; rfl
        obtain ⟨rn', a, tp, fl, ra, hF, hrr⟩ := hfrx 1 y hy1 (by omega)
        have hC := hcore 1 y hy1 hy2
        rw [hrr] at hF
        have hps := psi_le (op := op) hW.1 hF
        obtain ⟨sv', ν', μ', g1, g2, g3⟩ := run_loop (z1 := fun _ _ => none) (z2 := fun _ _ _ => none) (B0 := B) (S0 := S) (n := n) (N := N) (by omega) hW hn2 (by omega) (by omega) N 0 0 S rn a tp fl ra y _ hC hF (by omega) (by omega) (by omega) (by omega)
        refine fin 0 ν' μ' sv' ?_ ?_ g3
        · rw [s_E_go, v1, k2]
          rcases hgo with h | h
          · subst h
            rw [if_neg (by decide), v3, nI_add]
            rw [hy, if_neg (by decide)] at g1
            exact g1
          · rw [if_pos (by rw [h.1]; rfl), if_neg (nI_nle h.2 (by omega)), st_ne (by decide), v3, nI_add]
            rw [hy, if_pos h.1] at g1
            exact g1
        · rw [s_M_run _ hp1 hp2 z2, w1, w2]
          unfold runM
          rcases hgo with h | h
          · subst h
            rw [if_neg (by decide)]
            exact g2
          · rw [if_pos (by rw [h.1]; rfl), if_neg (nI_nle h.2 (by omega))]
            exact g2
      · have hne : ¬ nI sv = (1 : Int32) := nI_ne1 hsv (by omega)
        have hC := hcore sv ν (fun _ _ => rfl) v1
        obtain ⟨g, rfl⟩ : ∃ g, N = g + 1 := ⟨N - 1, by omega⟩
        have g1 : f_E_go (g + 1) (nI n) ν = some (nI sv, ν) := by
          rw [s_E_go, v1, k2]
          have hl : ∀ x, lpk (FC (g + 1) x) (fun _ _ => none) (g + 1) 0 ν = some (nI sv, ν) := fun x => by rw [lpk_s, FC_eq, if_neg (by decide), v1, if_neg hne]
          rw [hl]
          by_cases h2 : nI sv = (2 : Int32)
          · have : sv = 2 := (nI_eq (a := sv) (b := 2) (by omega) (by decide)).mp h2
            have hc0 : c = 0 := by omega
            subst hc0
            rw [if_pos h2, if_pos (by decide)]
          · rw [if_neg h2]
        have g2 : f_M_run (g + 1) (nI n) μ = some (nI sv, st (st μ 100 0 0) 137 0 (nI sv)) := by
          rw [s_M_run _ hp1 hp2 z2, w1, w2]
          have hl : runM (g + 1) (nI n) (st μ 100 0 0) (nI sv) = some (nI sv, st (st μ 100 0 0) 137 0 (nI sv)) := by unfold runM; rw [lpk_s, FM_eq, st_at, if_neg hne]
          rw [hl]
          by_cases h2 : nI sv = (2 : Int32)
          · have : sv = 2 := (nI_eq (a := sv) (b := 2) (by omega) (by decide)).mp h2
            have hc0 : c = 0 := by omega
            subst hc0
            rw [if_pos h2, if_pos (by decide)]
          · rw [if_neg h2]
        refine fin 0 _ _ sv g1 g2 ⟨B, S, rn, by omega, by omega, hrn, by omega, hsv, hC, fun hs => ?_⟩
        obtain ⟨rn', a, tp, fl, ra, hF, hrr⟩ := hfrx sv ν (fun _ _ => rfl) hs
        rw [hrr] at hF
        exact ⟨a, tp, fl, ra, hF⟩
