/-! calls and returns -/
def ix (k : Nat) : Int32 := nI k - 1
theorem ix_s (k : Nat) : ix (k + 1) = nI k := nI_pred k
theorem ix_0 : ix 0 < 0 := by decide
def dnn (step : Nat → St → St) : Nat → St → St
  | 0, μ => μ
  | k + 1, μ => dnn step k (step k μ)
theorem loop_d {β : Type} {F : (Int32 → St → Option β) → Int32 → St → Option β} {z : Int32 → St → Option β} {step : Nat → St → St} {ok : Nat → St → Prop} {m : Nat}
    (hs : ∀ kk k μ, k < m → ok (k + 1) μ → F kk (nI k) μ = kk (ix k) (step k μ)) (hok : ∀ k μ, k < m → ok (k + 1) μ → ok k (step k μ)) (he : ∀ kk μ, ok 0 μ → F kk (ix 0) μ = F z (ix 0) μ) :
    ∀ k fuel μ, k ≤ m → k < fuel → ok k μ → lpk F z fuel (ix k) μ = F z (ix 0) (dnn step k μ) ∧ ok 0 (dnn step k μ) := by
  intro k
  induction k with
  | zero =>
    intro fuel μ _ h1 h2
    obtain ⟨g, rfl⟩ : ∃ g, fuel = g + 1 := ⟨fuel - 1, by omega⟩
    exact ⟨by rw [lpk_s, he _ _ h2]; rfl, h2⟩
  | succ k ih =>
    intro fuel μ hm h1 h2
    obtain ⟨g, rfl⟩ : ∃ g, fuel = g + 1 := ⟨fuel - 1, by omega⟩
    have h := ih g (step k μ) (by omega) (by omega) (hok k μ (by omega) h2)
    refine ⟨?_, h.2⟩
    rw [lpk_s, ix_s, hs _ _ _ (by omega) h2, h.1]
    rfl
/-- the arguments come off the pile into the locals, the last one first -/
def argC (b t : Nat) (l : Nat) (ν : St) : St := st (st ν 232 0 (nI (t + l))) 20 (b + l) (ν 22 (t + l))
theorem argC_rows (b t : Nat) : ∀ k ν, (∀ j, (dnn (argC b t) k ν) 20 j = if b ≤ j ∧ j < b + k then ν 22 (t + (j - b)) else ν 20 j) ∧ (∀ r, r ≠ 20 → r ≠ 232 → (dnn (argC b t) k ν) r = ν r) := by
  intro k
  induction k with
  | zero => intro ν; exact ⟨fun j => by rw [if_neg (by omega)]; rfl, fun r _ _ => rfl⟩
  | succ k ih =>
    intro ν
    have h := ih (argC b t k ν)
    have e22 : (argC b t k ν) 22 = ν 22 := by simp [argC, st]
    have e20 : (argC b t k ν) 20 = upd (ν 20) (b + k) (ν 22 (t + k)) := by simp [argC, st]
    refine ⟨fun j => ?_, fun r h1 h2 => ?_⟩
    · show (dnn (argC b t) k (argC b t k ν)) 20 j = _
      rw [h.1 j, e22, e20]
      by_cases hj : j = b + k
      · subst hj
        rw [if_neg (by omega), if_pos (by omega), pk_us]
        congr 2
        omega
      · rw [pk_un hj]
        by_cases hc : b ≤ j ∧ j < b + k
        · rw [if_pos hc, if_pos (by omega)]
        · rw [if_neg hc, if_neg (by omega)]
    · show (dnn (argC b t) k (argC b t k ν)) r = _
      rw [h.2 r h1 h2]
      simp [argC, st, h1, h2]
theorem s_E_setLocal {ν : St} {rn l : Nat} (v : Int32) (h : ν 231 0 = nI (rn + 1)) (hr : rn < 10) (hl : l < 8) : f_E_setLocal (nI l) v ν = some (st ν 20 (8 * rn + l) v) := by
  have hi : 8 * rn + l < 80 := by omega
  have e : (nI (rn + 1) - 1) * 8 + nI l = nI (8 * rn + l) := by rw [nI_pred, show (8 : Int32) = nI 8 from rfl, pk_mul, nI_add, Nat.mul_comm]
  unfold f_E_setLocal
  rw [nm_eq, h, e, if_neg (nI_pos (by omega)), if_neg (show ¬ (80 : Int32) ≤ nI (8 * rn + l) from nI_ge (b := 80) hi (by decide)), gd_i (inb_nI hi (by decide)), nm_eq, cl_nI (by omega)]
theorem s_E_enter {N : Nat} (hN : 100 ≤ N) {ν : St} {rn tp t np fi en : Nat} (h1 : ν 231 0 = nI rn) (hr : rn < 10) (h2 : ν 232 0 = nI tp) (ht : tp = t + np) (htb : tp < 500) (hf : fi < 6) (h3 : ν 12 fi = nI (np + 1)) (hnp : np ≤ 3) (h4 : ν 11 fi = nI en) :
    ∃ ν', f_E_enter N (nI fi) ν = some ν' ∧ ν' 231 0 = nI (rn + 1) ∧ ν' 232 0 = nI t ∧ ν' 233 0 = nI en ∧ (∀ j, ν' 20 j = if 8 * rn ≤ j ∧ j < 8 * rn + np then ν 22 (t + (j - 8 * rn)) else if 8 * rn ≤ j ∧ j < 8 * rn + 8 then 0 else ν 20 j) ∧ (∀ j, ν' 21 j = if j = rn then ν 233 0 else ν 21 j) ∧ ∀ r, r ≠ 231 → r ≠ 232 → r ≠ 233 → r ≠ 20 → r ≠ 21 → ν' r = ν r := by
  obtain ⟨ν1, hν1⟩ : ∃ z, z = st (st ν 21 rn (ν 233 0)) 231 0 (nI (rn + 1)) := ⟨_, rfl⟩
  obtain ⟨ν2, hν2⟩ : ∃ z, z = fil ν1 20 (8 * rn) (8 * rn + 8) 0 := ⟨_, rfl⟩
  have a1 : ν1 231 0 = nI (rn + 1) := by rw [hν1]; exact st_at _ _ _ _
  have a2 : ∀ r, r ≠ 20 → ν2 r = ν1 r := fun r h => by rw [hν2, fil_ne h]
  have a3 : ∀ r, r ≠ 231 → r ≠ 21 → ν1 r = ν r := fun r h h' => by rw [hν1]; simp [st, h, h']
  obtain ⟨d1, d2⟩ := argC_rows (8 * rn) t np ν2
  have b1 : ν2 232 0 = nI (t + np) := by rw [a2 232 (by decide), a3 232 (by decide) (by decide), h2, ht]
  have b2 : ν2 231 0 = nI (rn + 1) := by rw [a2 231 (by decide)]; exact a1
  have loopd : ∀ F : (Int32 → St → Option St) → Int32 → St → Option St, (∀ kk k μ, F kk (nI k) μ = if nI k < 0 then (ca (f_P_entryOf (nI fi) μ) fun x18 => nm (st μ 233 0 x18) fun μ19 => some μ19) else ca2 (f_E_pop μ) fun x21 μ22 => ca (f_E_setLocal (nI k) x21 μ22) fun μ24 => nm (nI k + (-1 : Int32)) fun x25 => kk x25 μ24) → (∀ kk μ, F kk (ix 0) μ = (ca (f_P_entryOf (nI fi) μ) fun x18 => nm (st μ 233 0 x18) fun μ19 => some μ19)) →
      lpk F (fun _ _ => none) N (ix np) ν2 = (ca (f_P_entryOf (nI fi) (dnn (argC (8 * rn) t) np ν2)) fun x18 => nm (st (dnn (argC (8 * rn) t) np ν2) 233 0 x18) fun μ19 => some μ19) ∧ (dnn (argC (8 * rn) t) np ν2) 232 0 = nI t ∧ (dnn (argC (8 * rn) t) np ν2) 231 0 = nI (rn + 1) := by
    intro F hF1 hF2
    have h := loop_d (F := F) (z := fun _ _ => none) (m := np) (step := argC (8 * rn) t) (ok := fun k μ => μ 232 0 = nI (t + k) ∧ μ 231 0 = nI (rn + 1))
      (fun kk k μ hk ho => by
        rw [hF1, if_neg (nI_pos (by omega)), s_E_pop (tp := t + k) ho.1 (by omega), ca2_s, s_E_setLocal (rn := rn) (l := k) _ (by rw [st_ne (by decide)]; exact ho.2) hr (by omega), ca_s, nm_eq, show nI k + (-1 : Int32) = ix k from by unfold ix; rw [Int32.sub_eq_add_neg]]
        unfold argC
        rfl)
      (fun k μ hk ho => ⟨by simp [argC, st, upd], by simp [argC, st, ho.2]⟩)
      (fun kk μ _ => by rw [hF2, hF2]) np N ν2 (Nat.le_refl _) (by omega) ⟨b1, b2⟩
    rw [h.1, hF2]
    exact ⟨rfl, by have := h.2.1; rw [Nat.add_zero] at this; exact this, h.2.2⟩
  obtain ⟨ν3, hν3⟩ : ∃ z, z = dnn (argC (8 * rn) t) np ν2 := ⟨_, rfl⟩
  rw [← hν3] at d1 d2
  have hpar : ∀ μ : St, μ 12 fi = nI (np + 1) → f_P_parametersOf (nI fi) μ = some (nI np) := fun μ hμ => by
    unfold f_P_parametersOf
    rw [jn_eq, if_neg (nI_pos (by omega)), if_neg (show ¬ (6 : Int32) ≤ nI fi from nI_ge (b := 6) hf (by decide)), gd_i (inb_nI hf (by decide)), nm_eq, cl_nI (by omega), hμ, nI_pred]
  have hent : f_P_entryOf (nI fi) ν3 = some (nI en) := by
    unfold f_P_entryOf
    rw [jn_eq, if_neg (nI_pos (by omega)), if_neg (show ¬ (6 : Int32) ≤ nI fi from nI_ge (b := 6) hf (by decide)), gd_i (inb_nI hf (by decide)), nm_eq, cl_nI (by omega), d2 11 (by decide) (by decide), a2 11 (by decide), a3 11 (by decide) (by decide), h4]
  have main : f_E_enter N (nI fi) ν = some (st ν3 233 0 (nI en)) ∧ ν3 232 0 = nI t ∧ ν3 231 0 = nI (rn + 1) := by
    unfold f_E_enter
    rw [jn_eq, h1, if_neg (nI_pos (by omega)), if_neg (show ¬ (10 : Int32) ≤ nI rn from nI_ge (b := 10) hr (by decide)), gd_i (inb_nI hr (by decide)), nm_eq, nm_eq, cl_nI (by omega), show (st ν 21 rn (ν 233 0)) 231 0 + 1 = nI (rn + 1) from by rw [st_ne (by decide), h1, nI_1], ← hν1]
    try dsimp only
    have l1 := loop_x (F := fun (k6 : Int32 → St → Option St) (x4 : Int32) (μ5 : St) => if (8 : Int32) ≤ x4 then (ca (f_P_parametersOf (nI fi) μ5) fun x10 => nm (x10 - (1 : Int32)) fun x11 => lpk (fun (k14 : Int32 → St → Option St) (x12 : Int32) (μ13 : St) => if x12 < 0 then (ca (f_P_entryOf (nI fi) μ13) fun x18 => nm (st μ13 233 0 x18) fun μ19 => some μ19) else (ca2 (f_E_pop μ13) fun x21 μ22 => ca (f_E_setLocal x12 x21 μ22) fun μ24 => nm (x12 + (-1 : Int32)) fun x25 => k14 x25 μ24)) (fun _ _ => none) N x11 μ5) else (ca (f_E_setLocal x4 (0 : Int32) μ5) fun μ27 => nm (x4 + (1 : Int32)) fun x28 => k6 x28 μ27)) (z := fun _ _ => none) (m := 8) (step := fun i μ => st μ 20 (8 * rn + i) 0) (ok := fun _ μ => μ 231 0 = nI (rn + 1))
      (fun kk i μ hi ho => by
        show (if (8 : Int32) ≤ nI i then _ else _) = _
        rw [if_neg (show ¬ (8 : Int32) ≤ nI i from nI_ge (b := 8) hi (by decide)), s_E_setLocal (rn := rn) (l := i) _ ho hr hi, ca_s, nm_eq, nI_1])
      (fun i μ _ h => by show st μ 20 _ 0 231 0 = _; rw [st_ne (by decide)]; exact h)
      (fun kk μ _ => by
        show (if (8 : Int32) ≤ nI 8 then _ else _) = (if (8 : Int32) ≤ nI 8 then _ else _)
        rw [if_pos (by decide), if_pos (by decide)]) N ν1 (by omega) a1
    rw [show (0 : Int32) = nI 0 from rfl] 
    refine ⟨l1.trans ?_, ?_⟩
    · rw [up_filb, ← hν2]
      show (if (8 : Int32) ≤ nI 8 then _ else _) = _
      rw [if_pos (by decide), hpar ν2 (by rw [a2 12 (by decide), a3 12 (by decide) (by decide), h3]), ca_s, nm_eq]
      refine (loopd _ (fun kk k μ => rfl) (fun kk μ => by show (if ix 0 < 0 then _ else _) = _; rw [if_pos ix_0])).1.trans ?_
      rw [← hν3, hent, ca_s, nm_eq]
    · have h := (loopd (fun kk x μ => if x < 0 then (ca (f_P_entryOf (nI fi) μ) fun x18 => nm (st μ 233 0 x18) fun μ19 => some μ19) else ca2 (f_E_pop μ) fun x21 μ22 => ca (f_E_setLocal x x21 μ22) fun μ24 => nm (x + (-1 : Int32)) fun x25 => kk x25 μ24) (fun kk k μ => rfl) (fun kk μ => by show (if ix 0 < 0 then _ else _) = _; rw [if_pos ix_0])).2
      rw [← hν3] at h
      exact h
  refine ⟨_, main.1, by rw [st_ne (by decide)]; exact main.2.2, by rw [st_ne (by decide)]; exact main.2.1, st_at _ _ _ _, fun j => ?_, fun j => ?_, fun r g1 g2 g3 g4 g5 => ?_⟩
  · rw [st_ne (by decide), d1 j]
    by_cases hc : 8 * rn ≤ j ∧ j < 8 * rn + np
    · rw [if_pos hc, if_pos hc, a2 22 (by decide), a3 22 (by decide) (by decide)]
    · rw [if_neg hc, if_neg hc, hν2, fil_at, a3 20 (by decide) (by decide)]
  · rw [st_ne (by decide), d2 21 (by decide) (by decide), a2 21 (by decide), hν1]
    by_cases hj : j = rn
    · subst hj; simp [st, upd]
    · simp [st, upd, hj]
  · rw [st_ne' g3, d2 r g4 g2, a2 r g4, a3 r g1 g5]
