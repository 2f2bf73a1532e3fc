/-! the small calls: about, global, array, shown, key -/
theorem thr_0 (μ : St) (v : Int32) : f_M_thrown (st μ 100 0 v) = some v := by simp [f_M_thrown, st_at]
theorem ok_about {j : Nat} {ν μ : St} (p0 : Int32) (h : Rel j ν μ) : ∃ (r : Int32) (μ' : St), f_S_about p0 ν = some r ∧ f_M_about p0 μ = some (r, μ') ∧ Rel (j + 1) ν μ' := by
  obtain ⟨⟨n, t, -, -, hn1, hn2, -⟩, ⟨f, c, -, -, -, hc1, hc2, -⟩, ⟨sv, B, S, rn, -, -, -, -, a1, a2, a3, a4, a5, a6, a7, a8, -⟩, ⟨hf, -⟩⟩ := id h
  have e : ∀ k, k ≠ 100 → (st μ 100 0 0) k = μ k := fun k hk => st_ne' hk
  have key : ∃ r, f_S_about p0 ν = some r ∧ f_M_about p0 μ = some (r, st μ 100 0 0) := by
    unfold f_S_about f_M_about
    simp only [nm_eq, f_E_state, f_T_length, f_P_functions, f_E_begun, f_E_countShown, f_K_count, f_E_running, ca_s, e 137 (by decide), e 101 (by decide), e 117 (by decide), e 141 (by decide), e 139 (by decide), e 140 (by decide), e 146 (by decide), a1, a2, a3, a4, a5, a6, a7, a8, hn1, hn2, hc1, hc2, hf]
    repeat' split
    all_goals exact ⟨_, rfl, rfl⟩
  obtain ⟨r, h1, h2⟩ := key
  exact ⟨r, _, h1, h2, Rel_no (Rel_threw h)⟩
theorem ok_global {j : Nat} {ν μ : St} (p0 : Int32) (h : Rel j ν μ) : ∃ (k : Nat) (r : Int32) (ν' : St) (bv : Int32) (μ' : St), (k = 0 ∨ k = 3) ∧ f_S_global p0 ν = some (k, r, ν') ∧ f_M_global p0 μ = some (bv, μ') ∧ f_M_thrown μ' = some (if k = 0 then 0 else 1) ∧ (k = 0 → bv = r) ∧ Rel (j + 1) ν' μ' := by
  have e : ∀ (v : Int32) k, k ≠ 100 → (st μ 100 0 v) k = μ k := fun v k hk => st_ne' hk
  obtain ⟨-, -, ⟨sv, B, S, rn, -, -, -, -, -, -, -, -, -, -, -, -, hg, -⟩, -⟩ := id h
  rcases pk_ix p0 (n := 8) (by decide) with hp | hp | ⟨i, hi, rfl⟩
  · exact ⟨3, 0, ν, 0, st μ 100 0 1, Or.inr rfl, by simp [f_S_global, hp], by simp [f_M_global, jn_eq, nm_eq, hp, st_at], thr_0 _ _, fun h => absurd h (by decide), Rel_no (Rel_threw h)⟩
  · have h0 : ¬ p0 < 0 := fun hh => by rw [Int32.lt_iff_toInt_lt] at hh; rw [Int32.le_iff_toInt_le, nI_toInt (by decide)] at hp; have : (0 : Int32).toInt = 0 := rfl; omega
    have h8 : ¬ p0 < 8 := fun hh => by rw [Int32.lt_iff_toInt_lt] at hh; rw [Int32.le_iff_toInt_le, nI_toInt (by decide)] at hp; have : (8 : Int32).toInt = 8 := rfl; omega
    have h7 : ¬ p0 ≤ 7 := fun hh => by rw [Int32.le_iff_toInt_le] at hh; rw [Int32.le_iff_toInt_le, nI_toInt (by decide)] at hp; have : (7 : Int32).toInt = 7 := rfl; omega
    exact ⟨3, 0, ν, 0, st μ 100 0 1, Or.inr rfl, by simp [f_S_global, h0, h8], by simp [f_M_global, jn_eq, nm_eq, h0, h7, st_at], thr_0 _ _, fun h => absurd h (by decide), Rel_no (Rel_threw h)⟩
  · have h0 : ¬ nI i < 0 := nI_pos (by omega)
    have h8 : nI i < 8 := nI_lt (b := 8) hi (by decide)
    have h8' : ¬ (8 : Int32) ≤ nI i := nI_ge (b := 8) hi (by decide)
    have h7 : nI i ≤ 7 := nI_le (b := 7) (by omega) (by decide)
    refine ⟨0, ν 18 i, ν, μ 22 i, st μ 100 0 0, Or.inl rfl, ?_, ?_, thr_0 _ _, fun _ => (hg i hi).symm, Rel_no (Rel_threw h)⟩
    · simp [f_S_global, f_E_globalAt, jn_eq, h0, h8, h8', gd_i (inb_nI hi (by decide)), nm_eq, ca_s, cl_nI (n := i) (by omega)]
    · simp [f_M_global, jn_eq, nm_eq, h0, h7, st_at, gd_i (inb_nI hi (by decide)), cl_nI (n := i) (by omega), st_ne]
theorem ok_array {j : Nat} {ν μ : St} (p0 p1 : Int32) (h : Rel j ν μ) : ∃ (k : Nat) (r : Int32) (ν' : St) (bv : Int32) (μ' : St), (k = 0 ∨ k = 3) ∧ f_S_array p0 p1 ν = some (k, r, ν') ∧ f_M_array p0 p1 μ = some (bv, μ') ∧ f_M_thrown μ' = some (if k = 0 then 0 else 1) ∧ (k = 0 → bv = r) ∧ Rel (j + 1) ν' μ' := by
  obtain ⟨-, -, ⟨sv, B, S, rn, -, -, -, -, -, -, -, -, -, -, -, -, -, hg, -⟩, -⟩ := id h
  have bad : ∀ (hC : f_S_array p0 p1 ν = some (3, 0, ν)) (hM : f_M_array p0 p1 μ = some (0, st μ 100 0 1)), ∃ (k : Nat) (r : Int32) (ν' : St) (bv : Int32) (μ' : St), (k = 0 ∨ k = 3) ∧ f_S_array p0 p1 ν = some (k, r, ν') ∧ f_M_array p0 p1 μ = some (bv, μ') ∧ f_M_thrown μ' = some (if k = 0 then 0 else 1) ∧ (k = 0 → bv = r) ∧ Rel (j + 1) ν' μ' :=
    fun hC hM => ⟨3, 0, ν, 0, st μ 100 0 1, Or.inr rfl, hC, hM, thr_0 _ _, fun h => absurd h (by decide), Rel_no (Rel_threw h)⟩
  rcases pk_ix p0 (n := 4) (by decide) with hp | hp | ⟨i, hi, rfl⟩
  · exact bad (by simp [f_S_array, hp]) (by simp [f_M_array, jn_eq, nm_eq, hp, st_at])
  · have hp' : (4 : Int32) ≤ p0 := hp
    have h0 : ¬ p0 < 0 := fun hh => by rw [Int32.lt_iff_toInt_lt] at hh; rw [Int32.le_iff_toInt_le, nI_toInt (by decide)] at hp; have : (0 : Int32).toInt = 0 := rfl; omega
    have h3 : (3 : Int32) < p0 := by rw [Int32.lt_iff_toInt_lt]; rw [Int32.le_iff_toInt_le, nI_toInt (by decide)] at hp; have : (3 : Int32).toInt = 3 := rfl; omega
    exact bad (by simp [f_S_array, h0, hp']) (by simp [f_M_array, jn_eq, nm_eq, h0, h3, st_at])
  · have h0 : ¬ nI i < 0 := nI_pos (by omega)
    have h4 : ¬ (4 : Int32) ≤ nI i := nI_ge (b := 4) hi (by decide)
    have h3 : ¬ (3 : Int32) < nI i := nI_nlt (a := 3) (b := i) (by omega) (by decide)
    rcases pk_ix p1 (n := 8) (by decide) with hq | hq | ⟨i2, hi2, rfl⟩
    · exact bad (by simp [f_S_array, h0, h4, hq]) (by simp [f_M_array, jn_eq, nm_eq, h0, h3, hq, st_at])
    · have g0 : ¬ p1 < 0 := fun hh => by rw [Int32.lt_iff_toInt_lt] at hh; rw [Int32.le_iff_toInt_le, nI_toInt (by decide)] at hq; have : (0 : Int32).toInt = 0 := rfl; omega
      have g8 : ¬ p1 < 8 := fun hh => by rw [Int32.lt_iff_toInt_lt] at hh; rw [Int32.le_iff_toInt_le, nI_toInt (by decide)] at hq; have : (8 : Int32).toInt = 8 := rfl; omega
      have g7 : ¬ p1 ≤ 7 := fun hh => by rw [Int32.le_iff_toInt_le] at hh; rw [Int32.le_iff_toInt_le, nI_toInt (by decide)] at hq; have : (7 : Int32).toInt = 7 := rfl; omega
      exact bad (by simp [f_S_array, h0, h4, g0, g8]) (by simp [f_M_array, jn_eq, nm_eq, h0, h3, g0, g7, st_at])
    · have g0 : ¬ nI i2 < 0 := nI_pos (by omega)
      have g8 : nI i2 < 8 := nI_lt (b := 8) hi2 (by decide)
      have g7 : nI i2 ≤ 7 := nI_le (b := 7) (by omega) (by decide)
      have ex : nI i * 8 + nI i2 = nI (i * 8 + i2) := by rw [show (8 : Int32) = nI 8 from rfl, pk_mul, nI_add]
      have ey : 8 * nI i + nI i2 = nI (i * 8 + i2) := by rw [show (8 : Int32) = nI 8 from rfl, pk_mul, nI_add, Nat.mul_comm]
      have f0 : ¬ nI (i * 8 + i2) < 0 := nI_pos (by omega)
      have f32 : ¬ (32 : Int32) ≤ nI (i * 8 + i2) := nI_ge (b := 32) (by omega) (by decide)
      have hb : i * 8 + i2 < 32 := by omega
      refine ⟨0, ν 19 (i * 8 + i2), ν, μ 23 (i * 8 + i2), st μ 100 0 0, Or.inl rfl, ?_, ?_, thr_0 _ _, fun _ => (hg _ hb).symm, Rel_no (Rel_threw h)⟩
      · simp [f_S_array, f_E_placeAt, jn_eq, h0, h4, g0, g8, nm_eq, ca_s, ex, f0, f32, gd_i (inb_nI hb (by decide)), cl_nI (n := i * 8 + i2) (by omega)]
      · simp [f_M_array, jn_eq, nm_eq, h0, h3, g0, g7, ey, st_at, gd_i (inb_nI hb (by decide)), cl_nI (n := i * 8 + i2) (by omega), st_ne]
theorem ok_shown {j : Nat} {ν μ : St} (p0 : Int32) (hj : j < 64) (h : Rel j ν μ) : ∃ (k : Nat) (r : Int32) (ν' : St) (bv : Int32) (μ' : St), (k = 0 ∨ k = 3) ∧ f_S_shown p0 ν = some (k, r, ν') ∧ f_M_shown p0 μ = some (bv, μ') ∧ f_M_thrown μ' = some (if k = 0 then 0 else 1) ∧ (k = 0 → bv = r) ∧ Rel (j + 1) ν' μ' := by
  obtain ⟨-, -, ⟨sv, B, S, rn, -, -, hS, -, -, -, -, -, s1, s2, -, -, -, -, hg, -⟩, -⟩ := id h
  have bad : ∀ (hC : f_S_shown p0 ν = some (3, 0, ν)) (hM : f_M_shown p0 μ = some (0, st μ 100 0 1)), ∃ (k : Nat) (r : Int32) (ν' : St) (bv : Int32) (μ' : St), (k = 0 ∨ k = 3) ∧ f_S_shown p0 ν = some (k, r, ν') ∧ f_M_shown p0 μ = some (bv, μ') ∧ f_M_thrown μ' = some (if k = 0 then 0 else 1) ∧ (k = 0 → bv = r) ∧ Rel (j + 1) ν' μ' :=
    fun hC hM => ⟨3, 0, ν, 0, st μ 100 0 1, Or.inr rfl, hC, hM, thr_0 _ _, fun h => absurd h (by decide), Rel_no (Rel_threw h)⟩
  rcases pk_ix p0 (n := 32) (by decide) with hp | hp | ⟨i, hi, rfl⟩
  · exact bad (by simp [f_S_shown, f_E_hasShown, jn_eq, ca_s, hp]) (by simp [f_M_shown, jn_eq, nm_eq, hp, st_at])
  · have hp' : (32 : Int32) ≤ p0 := hp
    have h0 : ¬ p0 < 0 := fun hh => by rw [Int32.lt_iff_toInt_lt] at hh; rw [Int32.le_iff_toInt_le, nI_toInt (by decide)] at hp; have : (0 : Int32).toInt = 0 := rfl; omega
    have h3 : ¬ p0 < 32 := fun hh => by rw [Int32.lt_iff_toInt_lt] at hh; rw [Int32.le_iff_toInt_le, nI_toInt (by decide)] at hp; have : (32 : Int32).toInt = 32 := rfl; omega
    exact bad (by simp [f_S_shown, f_E_hasShown, jn_eq, ca_s, h0, hp']) (by simp [f_M_shown, jn_eq, nm_eq, h0, h3, st_at])
  · have h0 : ¬ nI i < 0 := nI_pos (by omega)
    have h32 : ¬ (32 : Int32) ≤ nI i := nI_ge (b := 32) hi (by decide)
    have h33 : nI i < 32 := nI_lt (b := 32) hi (by decide)
    by_cases hsi : S ≤ i
    · have hq : nI S ≤ nI i := nI_le hsi (by omega)
      exact bad (by simp [f_S_shown, f_E_hasShown, jn_eq, ca_s, h0, h32, s1, hq]) (by simp [f_M_shown, jn_eq, nm_eq, h0, s2, hq, st_at])
    · have hq : ¬ nI S ≤ nI i := nI_ge (by omega) (by omega)
      have e1 : nI S - 1 - nI i = nI (S - 1 - i) := by rw [show (1 : Int32) = nI 1 from rfl, pk_sub (by omega), pk_sub (by omega)]
      have e2 : nI (S - 1 - i) &&& 31 = nI ((S - 1 - i) % 32) := pk_andN (by omega) 5 rfl
      have e3 : nI (S - 1 - i) - nI (S - 1 - i) / 32 * 32 = nI ((S - 1 - i) % 32) := pk_rem (d := 32) (by omega) (by decide) (by decide)
      have hb : (S - 1 - i) % 32 < 32 := Nat.mod_lt _ (by decide)
      refine ⟨0, ν 23 ((S - 1 - i) % 32), ν, μ 25 ((S - 1 - i) % 32), st μ 100 0 0, Or.inl rfl, ?_, ?_, thr_0 _ _, fun _ => (hg _ hb).symm, Rel_no (Rel_threw h)⟩
      · simp [f_S_shown, f_E_hasShown, f_E_shownAt, jn_eq, h0, h32, s1, hq, ca_s, nm_eq, e1, e2, gd_i (inb_nI hb (by decide)), cl_nI (n := (S - 1 - i) % 32) (by omega)]
      · have s2' : (st μ 100 0 0) 139 0 = nI S := by rw [st_ne (by decide)]; exact s2
        simp [f_M_shown, jn_eq, nm_eq, h0, s2, s2', hq, h33, st_at, nz, gd_t, e1, e3, gd_i (inb_nI hb (by decide)), cl_nI (n := (S - 1 - i) % 32) (by omega), st_ne]
