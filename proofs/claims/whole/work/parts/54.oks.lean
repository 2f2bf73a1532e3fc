/-! start agrees -/
set_option maxHeartbeats 4000000 in
set_option maxRecDepth 100000 in
theorem ok_start {N j : Nat} (hN : 100 ≤ N) {ν μ : St} (h : Rel j ν μ) : ∃ (k : Nat) (r : Int32) (ν' : St) (bv : Int32) (μ' : St), (k = 0 ∨ k = 2) ∧ f_S_start N ν = some (k, r, ν') ∧ f_M_start N μ = some (bv, μ') ∧ f_M_thrown μ' = some (if k = 0 then 0 else 1) ∧ (k = 0 → bv = r) ∧ Rel (j + 1) ν' μ' := by
  obtain ⟨hT, hK, ⟨sv, B, S, rn, hsv, hB, hS, hrn, v1, v2, v3, v4, v5, v6, v7, v8, r1, r2, r3, r4, r5⟩, hP0, hP⟩ := id h
  rcases hP with ⟨hP, -⟩ | ⟨hP1, op, arg, L, e, dep, hW, pc, pm, hfr⟩
  · have hP' : μ 117 0 = 0 := hP0.symm.trans hP
    exact ⟨2, 0, ν, 0, st μ 100 0 1, Or.inr rfl, by simp [f_S_start, f_P_functions, ca_s, hP], by simp [f_M_start, jn_eq, nm_eq, hP', st_at], thr_0 _ _, fun h => absurd h (by decide), Rel_no (Rel_threw h)⟩
  · have hP' : ¬ μ 117 0 = 0 := fun hh => hP1 (hP0.trans hh)
    obtain ⟨hL, hwf, hd, he, en, he0⟩ := id hW
    obtain ⟨hf0, hen, hdep, hnp, hop⟩ := he 0 _ he0
    have pc0 := pc.2 0 (by decide)
    have pm0 := pm.2 0 (by decide)
    rw [he0] at pc0 pm0
    have pc1 : ν 11 0 = nI en ∧ ν 12 0 = nI (0 + 1) := pc0
    have pm1 : μ 8 0 = nI en ∧ μ 9 0 = nI 0 := pm0
    obtain ⟨ν1, e1⟩ : ∃ z, z = clrC ν := ⟨_, rfl⟩
    have c231 : ν1 231 0 = nI 0 := by rw [e1]; simp [clrC, st, upd]; rfl
    have c232 : ν1 232 0 = nI 0 := by rw [e1]; simp [clrC, st, upd]; rfl
    have c229 : ν1 229 0 = nI 0 := by rw [e1]; simp [clrC, st, upd]; rfl
    have c230 : ν1 230 0 = nI 0 := by rw [e1]; simp [clrC, st, upd]; rfl
    have c18 : ∀ i, i < 8 → ν1 18 i = 0 := fun i hi => by rw [e1]; simp [clrC, st, fil, hi]
    have c19 : ∀ i, i < 32 → ν1 19 i = 0 := fun i hi => by rw [e1]; simp [clrC, st, fil, hi]
    have cr : ∀ r, r ≠ 18 → r ≠ 19 → r ≠ 228 → r ≠ 229 → r ≠ 230 → r ≠ 231 → r ≠ 232 → r ≠ 233 → ν1 r = ν r := fun r g1 g2 g3 g4 g5 g6 g7 g8 => by rw [e1]; simp [clrC, st, fil, g1, g2, g3, g4, g5, g6, g7, g8]
    obtain ⟨ν2, h2, b1, b2, b3, b4, b5, b6⟩ := s_E_enter (N := N) (ν := ν1) (rn := 0) (tp := 0) (t := 0) (np := 0) (fi := 0) (en := en) hN c231 (by decide) c232 rfl (by decide) (by decide) (by rw [cr 12 (by decide) (by decide) (by decide) (by decide) (by decide) (by decide) (by decide) (by decide)]; exact pc1.2) (by decide) (by rw [cr 11 (by decide) (by decide) (by decide) (by decide) (by decide) (by decide) (by decide) (by decide)]; exact pc1.1)
    obtain ⟨μ1, e2⟩ : ∃ z, z = clrM (st μ 100 0 0) := ⟨_, rfl⟩
    have d146 : μ1 146 0 = nI 0 := by rw [e2]; simp [clrM, st, upd]; rfl
    have d147 : μ1 147 0 = nI 0 := by rw [e2]; simp [clrM, st, upd]; rfl
    have d139 : μ1 139 0 = nI 0 := by rw [e2]; simp [clrM, st, upd]; rfl
    have d141 : μ1 141 0 = nI 0 := by rw [e2]; simp [clrM, st, upd]; rfl
    have d100 : μ1 100 0 = 0 := by rw [e2]; simp [clrM, st, upd, fil]
    have d22 : ∀ i, i < 8 → μ1 22 i = 0 := fun i hi => by rw [e2]; simp [clrM, st, fil, hi]
    have d23 : ∀ i, i < 32 → μ1 23 i = 0 := fun i hi => by rw [e2]; simp [clrM, st, fil, hi]
    have dr : ∀ r, r ≠ 22 → r ≠ 23 → r ≠ 139 → r ≠ 141 → r ≠ 146 → r ≠ 147 → r ≠ 100 → μ1 r = μ r := fun r g1 g2 g3 g4 g5 g6 g7 => by rw [e2]; simp [clrM, st, fil, g1, g2, g3, g4, g5, g6, g7]
    have h3 := s_M_enter (N := N) hN (μ := μ1) (rn := 0) (tp := 0) (fi := 0) 0 d146 (by decide) d147 (by decide)
    obtain ⟨ν3, e3⟩ : ∃ z, z = st ν2 228 0 1 := ⟨_, rfl⟩
    obtain ⟨μ3, e4⟩ : ∃ z, z = st (entM μ1 0 0 0 0) 137 0 1 := ⟨_, rfl⟩
    have s1 : f_S_start N ν = some (0, 1, ν3) := by
      unfold f_S_start f_E_begin f_P_functions
      rw [ca_s, if_neg hP1, s_E_clear hN, ← e1, ca_s, show (0 : Int32) = nI 0 from rfl, h2, ca_s, nm_eq, ← e3, ca_s]
    have s2 : f_M_start N μ = some (1, μ3) := by
      unfold f_M_start
      rw [jn_eq, if_neg hP']
      try dsimp only
      rw [nm_eq, st_at, if_pos (by decide), s_M_nothing hN, ← e2, ca_s, show (f_M_enter N (0 : Int32) (0 : Int32) μ1) = some (entM μ1 0 0 0 0) from h3, ca_s, nm_eq, ← e4]
    have n3 : ∀ r, r ≠ 18 → r ≠ 19 → r ≠ 228 → r ≠ 229 → r ≠ 230 → r ≠ 231 → r ≠ 232 → r ≠ 233 → r ≠ 20 → r ≠ 21 → ν3 r = ν r := fun r g1 g2 g3 g4 g5 g6 g7 g8 g9 g10 => by rw [e3, st_ne' g3, b6 r g6 g7 g8 g9 g10, cr r g1 g2 g3 g4 g5 g6 g7 g8]
    have m3 : ∀ r, r ≠ 22 → r ≠ 23 → r ≠ 139 → r ≠ 141 → r ≠ 146 → r ≠ 147 → r ≠ 100 → r ≠ 27 → r ≠ 28 → r ≠ 26 → r ≠ 138 → r ≠ 137 → μ3 r = μ r := fun r g1 g2 g3 g4 g5 g6 g7 g8 g9 g10 g11 g12 => by rw [e4]; simp [entM, st, fil, g5, g8, g9, g10, g11, g12]; exact dr r g1 g2 g3 g4 g5 g6 g7
    refine ⟨0, 1, ν3, 1, μ3, Or.inl rfl, s1, s2, ?_, fun _ => rfl, ?_, ?_, ?_, ?_⟩
    · unfold f_M_thrown
      rw [e4]
      simp [entM, st, fil, d100]
    · exact RT_same hT (n3 7 (by decide) (by decide) (by decide) (by decide) (by decide) (by decide) (by decide) (by decide) (by decide) (by decide)) (n3 121 (by decide) (by decide) (by decide) (by decide) (by decide) (by decide) (by decide) (by decide) (by decide) (by decide)) (m3 1 (by decide) (by decide) (by decide) (by decide) (by decide) (by decide) (by decide) (by decide) (by decide) (by decide) (by decide) (by decide)) (m3 101 (by decide) (by decide) (by decide) (by decide) (by decide) (by decide) (by decide) (by decide) (by decide) (by decide) (by decide) (by decide))
    · exact RK_same hK (n3 8 (by decide) (by decide) (by decide) (by decide) (by decide) (by decide) (by decide) (by decide) (by decide) (by decide)) (n3 141 (by decide) (by decide) (by decide) (by decide) (by decide) (by decide) (by decide) (by decide) (by decide) (by decide)) (n3 142 (by decide) (by decide) (by decide) (by decide) (by decide) (by decide) (by decide) (by decide) (by decide) (by decide)) (m3 24 (by decide) (by decide) (by decide) (by decide) (by decide) (by decide) (by decide) (by decide) (by decide) (by decide) (by decide) (by decide)) (m3 140 (by decide) (by decide) (by decide) (by decide) (by decide) (by decide) (by decide) (by decide) (by decide) (by decide) (by decide) (by decide))
    · have q22 : ∀ i, ν3 20 i = if i < 8 then 0 else ν 20 i := fun i => by
        rw [e3, st_ne (by decide), b4 i, if_neg (by omega)]
        rw [cr 20 (by decide) (by decide) (by decide) (by decide) (by decide) (by decide) (by decide) (by decide)]
        simp
      have q26 : ∀ i, μ3 26 i = if i < 8 then 0 else μ 26 i := fun i => by
        rw [e4]; simp [entM, st, fil]
        split
        · rfl
        · rw [dr 26 (by decide) (by decide) (by decide) (by decide) (by decide) (by decide) (by decide)]
      refine ⟨1, 0, 0, 1, by decide, by omega, by omega, by decide, ?_, ?_, ?_, ?_, ?_, ?_, ?_, ?_, ?_, ?_, ?_, ?_, ?_⟩
      · rw [e3, st_at]; rfl
      · rw [e4, st_at]; rfl
      · rw [e3, st_ne (by decide), b6 229 (by decide) (by decide) (by decide) (by decide) (by decide)]; exact c229
      · rw [e4]; simp [entM, st, fil, d141]
      · rw [e3, st_ne (by decide), b6 230 (by decide) (by decide) (by decide) (by decide) (by decide)]; exact c230
      · rw [e4]; simp [entM, st, fil, d139]
      · rw [e3, st_ne (by decide)]; exact b1
      · rw [e4]; simp [entM, st, fil, upd]
      · intro i hi
        rw [e3, st_ne (by decide), b6 18 (by decide) (by decide) (by decide) (by decide) (by decide), c18 i hi, e4]
        simp [entM, st, fil, d22 i hi]
      · intro i hi
        rw [e3, st_ne (by decide), b6 19 (by decide) (by decide) (by decide) (by decide) (by decide), c19 i hi, e4]
        simp [entM, st, fil, d23 i hi]
      · rw [n3 23 (by decide) (by decide) (by decide) (by decide) (by decide) (by decide) (by decide) (by decide) (by decide) (by decide), m3 25 (by decide) (by decide) (by decide) (by decide) (by decide) (by decide) (by decide) (by decide) (by decide) (by decide) (by decide) (by decide)]
        exact r3
      · intro i hi
        rw [q22, q26]
        split
        · rfl
        · exact r4 i hi
      · rw [n3 22 (by decide) (by decide) (by decide) (by decide) (by decide) (by decide) (by decide) (by decide) (by decide) (by decide), m3 29 (by decide) (by decide) (by decide) (by decide) (by decide) (by decide) (by decide) (by decide) (by decide) (by decide) (by decide) (by decide)]
        exact r5
    · have n165 := n3 165 (by decide) (by decide) (by decide) (by decide) (by decide) (by decide) (by decide) (by decide) (by decide) (by decide)
      have m117 := m3 117 (by decide) (by decide) (by decide) (by decide) (by decide) (by decide) (by decide) (by decide) (by decide) (by decide) (by decide) (by decide)
      refine ⟨by rw [n165, m117]; exact hP0, Or.inr ⟨by rw [n165]; exact hP1, op, arg, L, e, dep, hW, ?_, ?_, fun _ => ⟨1, en, 0, fun _ => 0, fun _ => 0, ?_⟩⟩⟩
      · unfold PCls eC at *
        simp only [n3 9 (by decide) (by decide) (by decide) (by decide) (by decide) (by decide) (by decide) (by decide) (by decide) (by decide), n3 10 (by decide) (by decide) (by decide) (by decide) (by decide) (by decide) (by decide) (by decide) (by decide) (by decide), n3 11 (by decide) (by decide) (by decide) (by decide) (by decide) (by decide) (by decide) (by decide) (by decide) (by decide), n3 12 (by decide) (by decide) (by decide) (by decide) (by decide) (by decide) (by decide) (by decide) (by decide) (by decide)]
        exact pc
      · unfold PMod eM at *
        simp only [m3 4 (by decide) (by decide) (by decide) (by decide) (by decide) (by decide) (by decide) (by decide) (by decide) (by decide) (by decide) (by decide), m3 5 (by decide) (by decide) (by decide) (by decide) (by decide) (by decide) (by decide) (by decide) (by decide) (by decide) (by decide) (by decide), m3 8 (by decide) (by decide) (by decide) (by decide) (by decide) (by decide) (by decide) (by decide) (by decide) (by decide) (by decide) (by decide), m3 9 (by decide) (by decide) (by decide) (by decide) (by decide) (by decide) (by decide) (by decide) (by decide) (by decide) (by decide) (by decide)]
        exact pm
      · refine ⟨?_, ?_, by decide, by decide, ?_, ?_, hen, ?_, ?_, by rw [hdep], rfl, ?_, fun i g1 g2 => by omega⟩
        · rw [e3, st_ne (by decide)]; exact b1
        · rw [e4]; simp [entM, st, fil, upd]
        · rw [e3, st_ne (by decide)]; exact b3
        · rw [e4, st_ne (by decide)]
          unfold entM
          rw [st_at, dr 8 (by decide) (by decide) (by decide) (by decide) (by decide) (by decide) (by decide)]
          exact pm1.1
        · rw [e3, st_ne (by decide)]; exact b2
        · rw [e4]; simp [entM, st, fil, d147]
        · intro i hi
          obtain rfl : i = 0 := by omega
          rw [e4]; simp [entM, st, fil, upd]
