/-! loops that count; key -/
def up (step : Nat → St → St) : Nat → Nat → St → St
  | _, 0, μ => μ
  | i, d + 1, μ => up step (i + 1) d (step i μ)
theorem loop_up {β : Type} {F : (Int32 → St → Option β) → Int32 → St → Option β} {z : Int32 → St → Option β} {m : Nat} {step : Nat → St → St} {fin : St → Option β} {ok : Nat → St → Prop}
    (hF : ∀ kk i μ, i ≤ m → ok i μ → F kk (nI i) μ = if m ≤ i then fin μ else kk (nI (i + 1)) (step i μ)) (hok : ∀ i μ, i < m → ok i μ → ok (i + 1) (step i μ)) :
    ∀ d i fuel μ, i + d = m → d < fuel → ok i μ → lpk F z fuel (nI i) μ = fin (up step i d μ) := by
  intro d
  induction d with
  | zero =>
    intro i fuel μ h1 h2 h3
    obtain ⟨g, rfl⟩ : ∃ g, fuel = g + 1 := ⟨fuel - 1, by omega⟩
    rw [lpk_s, hF _ _ _ (by omega) h3, if_pos (by omega)]
    rfl
  | succ d ih =>
    intro i fuel μ h1 h2 h3
    obtain ⟨g, rfl⟩ : ∃ g, fuel = g + 1 := ⟨fuel - 1, by omega⟩
    rw [lpk_s, hF _ _ _ (by omega) h3, if_neg (by omega), ih (i + 1) g (step i μ) (by omega) (by omega) (hok i μ (by omega) h3)]
    rfl
theorem up_ok {step : Nat → St → St} {ok : Nat → St → Prop} {m : Nat} (hok : ∀ i μ, i < m → ok i μ → ok (i + 1) (step i μ)) : ∀ d i μ, i + d = m → ok i μ → ok m (up step i d μ) := by
  intro d
  induction d with
  | zero => intro i μ h1 h2; rw [show m = i by omega]; exact h2
  | succ d ih => intro i μ h1 h2; exact ih (i + 1) (step i μ) (by omega) (hok i μ (by omega) h2)
/-- row k from lo on below hi holds v -/
def fil (μ : St) (k lo hi : Nat) (v : Int32) : St := fun a => if a = k then (fun j => if lo ≤ j ∧ j < hi then v else μ k j) else μ a
theorem fil_ne {μ : St} {k lo hi a : Nat} {v : Int32} (h : a ≠ k) : fil μ k lo hi v a = μ a := by simp [fil, h]
theorem fil_at {μ : St} {k lo hi j : Nat} {v : Int32} : fil μ k lo hi v k j = if lo ≤ j ∧ j < hi then v else μ k j := by simp [fil]
theorem fil_0 (μ : St) (k lo : Nat) (v : Int32) : fil μ k lo lo v = μ := by
  funext a j
  by_cases h : a = k
  · subst h; rw [fil_at, if_neg (by omega)]
  · rw [fil_ne h]
theorem fil_s (μ : St) (k lo hi : Nat) (v : Int32) (h : lo < hi) : fil (st μ k lo v) k (lo + 1) hi v = fil μ k lo hi v := by
  funext a j
  by_cases ha : a = k
  · subst ha
    rw [fil_at, fil_at]
    by_cases hj : j = lo
    · subst hj
      rw [if_neg (by omega), if_pos (by omega), st_at]
    · rw [st_nj hj]
      by_cases hc : lo ≤ j ∧ j < hi
      · rw [if_pos hc, if_pos (by omega)]
      · rw [if_neg hc, if_neg (by omega)]
  · rw [fil_ne ha, fil_ne ha, st_ne' ha]
theorem up_fil (k b : Nat) (v : Int32) : ∀ d i μ, up (fun i μ => st μ k (b + i) v) i d μ = fil μ k (b + i) (b + i + d) v := by
  intro d
  induction d with
  | zero => intro i μ; rw [Nat.add_zero, fil_0]; rfl
  | succ d ih =>
    intro i μ
    show up _ (i + 1) d (st μ k (b + i) v) = _
    rw [ih (i + 1), ← fil_s μ k (b + i) (b + i + (d + 1)) v (by omega)]
    congr 1
    omega
theorem RV_same {j : Nat} {ν μ ν' μ' : St} (h : RV j ν μ) (hn : ∀ k, k = 228 ∨ k = 229 ∨ k = 230 ∨ k = 231 ∨ k = 18 ∨ k = 19 ∨ k = 23 ∨ k = 20 ∨ k = 22 → ν' k = ν k) (hm : ∀ k, k = 137 ∨ k = 141 ∨ k = 139 ∨ k = 146 ∨ k = 22 ∨ k = 23 ∨ k = 25 ∨ k = 26 ∨ k = 29 → μ' k = μ k) : RV j ν' μ' := by
  unfold RV at *
  rw [hn 228 (by decide), hn 229 (by decide), hn 230 (by decide), hn 231 (by decide), hn 18 (by decide), hn 19 (by decide), hn 23 (by decide), hn 20 (by decide), hn 22 (by decide), hm 137 (by decide), hm 141 (by decide), hm 139 (by decide), hm 146 (by decide), hm 22 (by decide), hm 23 (by decide), hm 25 (by decide), hm 26 (by decide), hm 29 (by decide)]
  exact h
theorem RP_same {ν μ ν' μ' : St} (h : RP ν μ) (hn : ∀ k, k = 165 ∨ k = 228 ∨ k = 9 ∨ k = 10 ∨ k = 11 ∨ k = 12 ∨ k = 231 ∨ k = 233 ∨ k = 232 ∨ k = 21 → ν' k = ν k) (hm : ∀ k, k = 117 ∨ k = 4 ∨ k = 5 ∨ k = 8 ∨ k = 9 ∨ k = 146 ∨ k = 138 ∨ k = 147 ∨ k = 28 ∨ k = 27 → μ' k = μ k) : RP ν' μ' := by
  unfold RP PCls PMod FR eM eC at *
  simp only [hn 165 (by decide), hn 228 (by decide), hn 9 (by decide), hn 10 (by decide), hn 11 (by decide), hn 12 (by decide), hn 231 (by decide), hn 233 (by decide), hn 232 (by decide), hn 21 (by decide), hm 117 (by decide), hm 4 (by decide), hm 5 (by decide), hm 8 (by decide), hm 9 (by decide), hm 146 (by decide), hm 138 (by decide), hm 147 (by decide), hm 28 (by decide), hm 27 (by decide)]
  exact h
theorem ok_key {j : Nat} {ν μ : St} (p0 : Int32) (h : Rel j ν μ) : ∃ (k : Nat) (r : Int32) (ν' : St) (bv : Int32) (μ' : St), (k = 0 ∨ k = 1 ∨ k = 2) ∧ f_S_key p0 ν = some (k, r, ν') ∧ f_M_key p0 μ = some (bv, μ') ∧ f_M_thrown μ' = some (if k = 0 then 0 else if k = 1 then 1 else 2) ∧ (k = 0 → bv = r) ∧ Rel (j + 1) ν' μ' := by
  obtain ⟨hT, ⟨f, c, hf, hc, k1, k2, k3, hk⟩, hV, hP⟩ := id h
  have k3' : ∀ v, (st μ 100 0 v) 140 0 = nI c := fun v => by rw [st_ne (by decide)]; exact k3
  by_cases ha : p0 < -32768
  · exact ⟨1, 0, ν, nI c, st μ 100 0 1, Or.inr (Or.inl rfl), by simp [f_S_key, ha], by simp [f_M_key, jn_eq, nm_eq, ha, st_at, k3'], thr_0 _ _, fun h => absurd h (by decide), Rel_no (Rel_threw h)⟩
  by_cases hb : p0 ≤ 32767
  · by_cases hc8 : c = 8
    · subst hc8
      refine ⟨2, 0, ν, nI 8, st μ 100 0 2, Or.inr (Or.inr rfl), ?_, ?_, thr_0 _ _, fun h => absurd h (by decide), Rel_no (Rel_threw h)⟩
      · have : ¬ nI 8 < (8 : Int32) := by decide
        simp [f_S_key, f_K_full, ha, hb, k2, this, ca_s]
      · have : nI 8 = (8 : Int32) := rfl
        simp [f_M_key, jn_eq, nm_eq, ha, hb, k3, this, st_at, k3']
    · have h8 : nI c < (8 : Int32) := nI_lt (b := 8) (by omega) (by decide)
      have h8' : ¬ (8 : Int32) ≤ nI c := nI_ge (b := 8) (by omega) (by decide)
      have h8n : ¬ nI c = (8 : Int32) := fun hh => hc8 ((nI_eq (a := c) (b := 8) (by omega) (by decide)).mp hh)
      have ei : (nI f + nI c) &&& 7 = nI ((f + c) % 8) := by rw [nI_add]; exact pk_andN (by omega) 3 rfl
      have hi : (f + c) % 8 < 8 := Nat.mod_lt _ (by decide)
      refine ⟨0, nI (c + 1), st (st ν 8 ((f + c) % 8) p0) 142 0 (nI (c + 1)), nI (c + 1), st (st (st μ 100 0 0) 24 c p0) 140 0 (nI (c + 1)), Or.inl rfl, ?_, ?_, ?_, fun _ => rfl, ?_, ?_, ?_, ?_⟩
      · have e2 : (st ν 8 ((f + c) % 8) p0) 142 0 + 1 = nI (c + 1) := by rw [st_ne (by decide), k2, nI_1]
        simp [f_S_key, f_K_full, f_K_add, f_K_count, ha, hb, k1, k2, h8, h8', ca_s, ei, gd_i (inb_nI hi (by decide)), cl_nI (n := (f + c) % 8) (by omega), nm_eq, e2, st_at]
      · have e2 : (st (st μ 100 0 0) 24 c p0) 140 0 + 1 = nI (c + 1) := by rw [st_ne (by decide), k3', nI_1]
        simp [f_M_key, jn_eq, nm_eq, ha, hb, k3, h8n, st_at, k3', gd_i (inb_nI (n := c) (N := 8) (by omega) (by decide)), cl_nI (n := c) (by omega), e2]
      · simp [f_M_thrown, st_ne, st_at]
      · exact RT_same hT (by rw [st_ne' (by decide), st_ne' (by decide)]) (by rw [st_ne' (by decide), st_ne' (by decide)]) (by rw [st_ne' (by decide), st_ne' (by decide), st_ne' (by decide)]) (by rw [st_ne' (by decide), st_ne' (by decide), st_ne' (by decide)])
      · refine ⟨f, c + 1, hf, by omega, ?_, st_at _ _ _ _, st_at _ _ _ _, fun i hi2 => ?_⟩
        · rw [st_ne (by decide), st_ne (by decide)]; exact k1
        · rw [show (st (st ν 8 ((f + c) % 8) p0) 142 0 (nI (c + 1))) 8 = upd (ν 8) ((f + c) % 8) p0 from by rw [st_ne' (by decide), st_row], show (st (st (st μ 100 0 0) 24 c p0) 140 0 (nI (c + 1))) 24 = upd (μ 24) c p0 from by rw [st_ne' (by decide), st_row, st_ne' (by decide)]]
          by_cases hic : i = c
          · subst hic; simp [upd]
          · rw [pk_un (by omega), pk_un hic]
            exact hk i (by omega)
      · exact RV_mono (by omega) (RV_same hV (fun k hk => by rw [st_ne' (by omega), st_ne' (by omega)]) (fun k hk => by rw [st_ne' (by omega), st_ne' (by omega), st_ne' (by omega)]))
      · exact RP_same hP (fun k hk => by rw [st_ne' (by omega), st_ne' (by omega)]) (fun k hk => by rw [st_ne' (by omega), st_ne' (by omega), st_ne' (by omega)])
  · exact ⟨1, 0, ν, nI c, st μ 100 0 1, Or.inr (Or.inl rfl), by simp [f_S_key, ha, hb], by simp [f_M_key, jn_eq, nm_eq, ha, hb, st_at, k3'], thr_0 _ _, fun h => absurd h (by decide), Rel_no (Rel_threw h)⟩
