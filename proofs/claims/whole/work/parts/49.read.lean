/-! read; calls; returns -/
section OPS4
variable {op arg : Nat → Nat} {L : Nat} {e : Nat → Option (Nat × Nat)} {dep : Nat → Nat} {N : Nat} {ν μ : St} {B S rn a tp : Nat} {fl ra : Nat → Nat}
theorem up_shift : ∀ d i μ, (∀ j, (up (fun i μ => st μ 24 i (μ 24 (i + 1))) i d μ) 24 j = if i ≤ j ∧ j < i + d then μ 24 (j + 1) else μ 24 j) ∧ ∀ k, k ≠ 24 → (up (fun i μ => st μ 24 i (μ 24 (i + 1))) i d μ) k = μ k := by
  intro d
  induction d with
  | zero =>
    intro i μ
    refine ⟨fun j => ?_, fun k _ => rfl⟩
    rw [if_neg (by omega)]
    rfl
  | succ d ih =>
    intro i μ
    have h := ih (i + 1) (st μ 24 i (μ 24 (i + 1)))
    refine ⟨fun j => ?_, fun k hk => ?_⟩
    · show (up _ (i + 1) d (st μ 24 i (μ 24 (i + 1)))) 24 j = _
      rw [h.1 j, st_row]
      by_cases hj : j = i
      · subst hj
        rw [if_neg (by omega), if_pos (by omega)]
        simp [upd]
      · by_cases hc : i + 1 ≤ j ∧ j < i + 1 + d
        · rw [if_pos hc, if_pos (by omega), pk_un (by omega)]
        · rw [if_neg hc, if_neg (by omega), pk_un hj]
    · show (up _ (i + 1) d (st μ 24 i (μ 24 (i + 1)))) k = _
      rw [h.2 k hk, st_ne' hk]
theorem go_34 (hN : 100 ≤ N) (hW : WF op arg L e dep) (hC : CORE op arg L e ν μ B S 1 rn) (hF : FR ν μ L dep rn a tp fl ra) (ho : op a = 34) (hd : dep (a + 1) = dep a + 1) (ha : a + 1 < L) : GO op arg L e dep N ν μ B S rn a ra 34 := by
  obtain ⟨h1, h2, h3, h4, h5, h6⟩ := at_1 hW hC hF
  have hr := hC.2.2.2.2.2.1
  have hSS := hC.2.2.2.2.2.2.2.1
  obtain ⟨f, c, hf, hc, k1, k2, k3, hk⟩ := id hC.2.1
  have k2' : (st ν 233 0 (nI (a + 1))) 142 0 = nI c := by simp [st, k2]
  have k3' : (st μ 138 0 (nI (a + 1))) 140 0 = nI c := by simp [st, k3]
  have k1' : (st ν 233 0 (nI (a + 1))) 141 0 = nI f := by simp [st, k1]
  by_cases hc0 : c = 0
  · subst hc0
    refine ⟨st (st (st ν 233 0 (nI (a + 1))) 228 0 2) 233 0 (nI a), st (st (st μ 138 0 (nI (a + 1))) 137 0 2) 138 0 (nI a), ?_, ?_, 2, S, rn, by decide, by decide, hF.2.2.2.1, by omega, ?_, fun _ => ⟨a, tp, fl, ra, ?_, fun h => absurd h (by decide)⟩⟩
    · rw [show nI 34 = (34 : Int32) from rfl, A_34]
      unfold f_E_read f_K_count
      rw [ca_s, k2', if_pos (by decide), nm_eq, nm_eq, show (st (st ν 233 0 (nI (a + 1))) 228 0 2) 233 0 - 1 = nI a from by rw [st_ne (by decide), st_at, nI_pred], ca_s]
    · rw [show nI (mop 34) = (1 : Int32) from rfl]
      unfold f_M_does f_M_reads
      rw [nm_eq, if_neg (by decide), if_pos rfl, k3', if_pos (by decide), nm_eq, nm_eq, show (st (st μ 138 0 (nI (a + 1))) 137 0 2) 138 0 - 1 = nI a from by rw [st_ne (by decide), st_at, nI_pred], ca_s]
    · refine core_upd hC (fun k hk => by have : k ≠ 233 ∧ k ≠ 228 := (by omega); simp [st, this]) (fun k hk => by have : k ≠ 138 ∧ k ≠ 137 := (by omega); simp [st, this]) (RK_same hC.2.1 (by simp [st]) (by simp [st]) (by simp [st]) (by simp [st]) (by simp [st])) (by simp [st]; exact hr) (by simp [st, hSS]) (by simp [st, hF.1, hF.2.1]) ⟨by simp [st, upd]; rfl, by simp [st, upd]; rfl⟩
    · obtain ⟨f1, f2, f3, f4, f5, f6, f7, f8, f9, f10, f11, f12, f13⟩ := hF
      refine ⟨by simp [st, f1], by simp [st, f2], f3, f4, by simp [st, upd], by simp [st, upd], f7, by simp [st, f8], by simp [st, f9], f10, f11, fun i hi => by simp [st, f12 i hi], fun i g1 g2 => ?_⟩
      have := f13 i g1 g2
      simp [st, this]
  · have ec : nI f &&& 7 = nI f := by rw [pk_andN (n := f) (by omega) 3 rfl, Nat.mod_eq_of_lt hf]
    have ef : (nI f + 1) &&& 7 = nI ((f + 1) % 8) := by rw [nI_1]; exact pk_andN (by omega) 3 rfl
    have hv : ν 8 f = μ 24 0 := by have := hk 0 (by omega); rw [Nat.add_zero, Nat.mod_eq_of_lt hf] at this; exact this
    have hcn : ¬ nI c ≤ 0 := nI_nle (by omega) (by omega)
    have hcz : ¬ nI c = 0 := nI_ne0 (by omega) (by omega)
    obtain ⟨d, rfl⟩ : ∃ d, c = d + 1 := ⟨c - 1, by omega⟩
    obtain ⟨ν2, hν2⟩ : ∃ z, z = st (st (st ν 233 0 (nI (a + 1))) 141 0 (nI ((f + 1) % 8))) 142 0 (nI d) := ⟨_, rfl⟩
    obtain ⟨μ2, hμ2⟩ : ∃ z, z = st (st (st (st μ 138 0 (nI (a + 1))) 29 tp (sx (ν 8 f))) 147 0 (nI (tp + 1))) 140 0 (nI d) := ⟨_, rfl⟩
    have t1 : ν2 232 0 = nI tp := by rw [hν2]; simp [st, hF.2.2.2.2.2.2.2.1]
    have u0 : μ2 140 0 = nI d := by rw [hμ2]; exact st_at _ _ _ _
    obtain ⟨s1, s2⟩ := up_shift d 0 μ2
    generalize hμ3 : up (fun i μ => st μ 24 i (μ 24 (i + 1))) 0 d μ2 = μ3 at s1 s2
    refine ⟨st (st ν2 22 tp (sx (ν 8 f))) 232 0 (nI (tp + 1)), μ3, ?_, ?_, 1, S, rn, by decide, by decide, hF.2.2.2.1, by omega, ?_, fun _ => ⟨a + 1, tp + 1, fl, ra, ?_, fun _ => ?_⟩⟩
    · rw [show nI 34 = (34 : Int32) from rfl, A_34]
      unfold f_E_read f_K_count f_K_take
      rw [ca_s, k2', if_neg hcn, if_neg hcz, k1', ec, gd_i (inb_nI hf (by decide)), nm_eq, ef, nm_eq, nm_eq, cl_nI (by omega), show (st (st ν 233 0 (nI (a + 1))) 141 0 (nI ((f + 1) % 8))) 142 0 - 1 = nI d from by rw [st_ne (by decide), k2', nI_pred], ← hν2, ca2_s, show (st ν 233 0 (nI (a + 1))) 8 f = ν 8 f from by simp [st], s_E_push _ t1 (by omega), ca_s, ca_s]
    · rw [show nI (mop 34) = (1 : Int32) from rfl]
      unfold f_M_does f_M_reads
      rw [nm_eq, if_neg (by decide), if_pos rfl, k3', if_neg hcz, gd_i (by decide), nm_eq, show (0 : Int32).toNatClampNeg = 0 from rfl, show (st μ 138 0 (nI (a + 1))) 24 0 = ν 8 f from by rw [hv]; simp [st], s_M_push _ h2 (by omega), ca_s, nm_eq, show (st (st (st μ 138 0 (nI (a + 1))) 29 tp (sx (ν 8 f))) 147 0 (nI (tp + 1))) 140 0 - 1 = nI d from by rw [st_ne (by decide), st_ne (by decide), k3', nI_pred], ← hμ2]
      have key := loop_x (F := fun (k9 : Int32 → St → Option St) (x7 : Int32) (μ8 : St) => if (μ8 140 0) ≤ x7 then some μ8 else gd (inb (x7 + (1 : Int32)) 8) <| nm (μ8 24 (x7 + (1 : Int32)).toNatClampNeg) fun x13 => gd (inb x7 8) <| nm (st μ8 24 x7.toNatClampNeg x13) fun μ15 => nm (x7 + (1 : Int32)) fun x16 => k9 x16 μ15) (z := fun _ _ => none) (m := d) (step := fun i μ => st μ 24 i (μ 24 (i + 1))) (ok := fun _ μ => μ 140 0 = nI d)
        (fun kk i μ hi hok => by
          show (if (μ 140 0) ≤ nI i then some μ else _) = _
          rw [hok, if_neg (nI_ge hi (by omega)), nI_1, gd_i (inb_nI (by omega) (by decide)), nm_eq, gd_i (inb_nI (by omega) (by decide)), nm_eq, nm_eq, cl_nI (by omega), cl_nI (by omega)])
        (fun i μ _ h => by show st μ 24 i _ 140 0 = _; rw [st_ne (by decide)]; exact h)
        (fun kk μ h => by
          show (if (μ 140 0) ≤ nI d then some μ else _) = (if (μ 140 0) ≤ nI d then some μ else _)
          rw [h, if_pos (nI_le (Nat.le_refl _) (by omega)), if_pos (nI_le (Nat.le_refl _) (by omega))]) N μ2 (by omega) u0
      rw [show ((0 : Int32)) = nI 0 from rfl, key, hμ3]
      show ca (if (μ3 140 0) ≤ nI d then some μ3 else _) _ = _
      rw [s2 140 (by decide), u0, if_pos (nI_le (Nat.le_refl _) (by omega)), ca_s]
    · refine core_upd hC (fun k hk => by have : k ≠ 232 ∧ k ≠ 22 ∧ k ≠ 142 ∧ k ≠ 141 ∧ k ≠ 233 := (by omega); rw [hν2]; simp [st, this]) (fun k hk => by have : k ≠ 24 ∧ k ≠ 140 ∧ k ≠ 147 ∧ k ≠ 29 ∧ k ≠ 138 := (by omega); rw [s2 k this.1, hμ2]; simp [st, this]) ?_ ?_ ?_ ?_ ?_
      · refine ⟨(f + 1) % 8, d, Nat.mod_lt _ (by decide), by omega, by rw [hν2]; simp [st, upd], by rw [hν2]; simp [st, upd], by rw [s2 140 (by decide)]; exact u0, fun i hi => ?_⟩
        rw [s1 i, if_pos (by omega)]
        have h9 := hk (i + 1) (by omega)
        have h10 : ((f + 1) % 8 + i) % 8 = (f + (i + 1)) % 8 := by omega
        rw [h10, hν2, hμ2]
        simp only [st_ne' (show (8 : Nat) ≠ 232 by decide), st_ne' (show (8 : Nat) ≠ 22 by decide), st_ne' (show (8 : Nat) ≠ 142 by decide), st_ne' (show (8 : Nat) ≠ 141 by decide), st_ne' (show (8 : Nat) ≠ 233 by decide), st_ne' (show (24 : Nat) ≠ 140 by decide), st_ne' (show (24 : Nat) ≠ 147 by decide), st_ne' (show (24 : Nat) ≠ 29 by decide), st_ne' (show (24 : Nat) ≠ 138 by decide)]
        exact h9
      · rw [s2 22 (by decide), s2 23 (by decide), s2 25 (by decide), s2 26 (by decide), s2 29 (by decide), hν2, hμ2]
        simp only [st_ne' (show (18 : Nat) ≠ 232 by decide), st_ne' (show (18 : Nat) ≠ 22 by decide), st_ne' (show (18 : Nat) ≠ 142 by decide), st_ne' (show (18 : Nat) ≠ 141 by decide), st_ne' (show (18 : Nat) ≠ 233 by decide)]
        simp [st]
        exact ⟨hr.1, hr.2.1, hr.2.2.1, hr.2.2.2.1, rowEq_upd hr.2.2.2.2 rfl⟩
      · rw [s2 139 (by decide), hν2, hμ2]; simp [st, hSS]
      · rw [s2 146 (by decide), hν2, hμ2]; simp [st, hF.1, hF.2.1]
      · rw [s2 137 (by decide), hν2, hμ2]; simp [st, hC.2.2.2.2.2.2.2.2.2]
    · obtain ⟨f1, f2, f3, f4, f5, f6, f7, f8, f9, f10, f11, f12, f13⟩ := hF
      refine ⟨by rw [hν2]; simp [st, f1], by rw [s2 146 (by decide), hμ2]; simp [st, f2], f3, f4, by rw [hν2]; simp [st, upd], by rw [s2 138 (by decide), hμ2]; simp [st, upd], ha, st_at _ _ _ _, by rw [s2 147 (by decide), hμ2]; simp [st, upd], by omega, f11, fun i hi => by rw [s2 28 (by decide), hμ2]; simp [st, f12 i hi], fun i g1 g2 => ?_⟩
      have := f13 i g1 g2
      rw [s2 27 (by decide), hν2, hμ2]
      simp [st, this]
    · unfold psi
      have := loc_next (op := op) (L := L) (k := a) (by omega) (by omega) ha
      omega
end OPS4
