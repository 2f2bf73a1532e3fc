/-! the run: both loops, step for step -/
section RUNS
variable {op arg : Nat → Nat} {L : Nat} {e : Nat → Option (Nat × Nat)} {dep : Nat → Nat} {N : Nat} {ν μ : St} {B S rn a tp : Nat} {fl ra : Nat → Nat}
theorem step_ok (hN : 100 ≤ N) (hW : WF op arg L e dep) (hC : CORE op arg L e ν μ B S 1 rn) (hF : FR ν μ L dep rn a tp fl ra) (hS : S < 2 ^ 30) (h32 : op a ≠ 32) : GO op arg L e dep N ν μ B S rn a ra (op a) := by
  have haL := hF.2.2.2.2.2.2.1
  rcases hW.2.1 a haL with h | ⟨h, hd, ha⟩ | ⟨h, hd1, hd, ha⟩ | ⟨h, hd1, hd, ha⟩ | ⟨h, hb, hd1, hd, ha⟩ | ⟨h, hb, hd1, hd, ha⟩ | ⟨h, hb, hd1, hd, ha⟩ | ⟨h, hd1, hd, ha⟩ | ⟨h, hd1, hd, ha, hj, ht, hd2⟩ | ⟨h, hd1, ht, hd, hj⟩ | ⟨h, ⟨en, np, he, hnp, hd⟩, ha⟩ | ⟨h, hd1⟩
  · exact absurd h.1 h32
  · rcases h with ⟨h, hb⟩ | h | ⟨h, hb⟩ | ⟨h, hb⟩
    · rw [h]; exact go_33 hW hC hF h hd ha
    · rw [h]; exact go_34 hN hW hC hF h hd ha
    · rw [h]; exact go_36 hW hC hF h hb hd ha
    · rw [h]; exact go_38 hW hC hF h hb hd ha
  · rcases h with h | h
    · rw [h]; exact go_35 hW hC hF h hd1 hd ha
    · rw [h]; exact go_20 hW hC hF h hd1 hd ha
  · rcases (show op a = 13 ∨ op a = 14 ∨ op a = 15 ∨ op a = 16 ∨ op a = 17 ∨ op a = 18 ∨ op a = 19 by omega) with h | h | h | h | h | h | h
    · rw [h]; exact go_13 hW hC hF h hd1 hd ha
    · rw [h]; exact go_14 hW hC hF h hd1 hd ha
    · rw [h]; exact go_15 hW hC hF h hd1 hd ha
    · rw [h]; exact go_16 hW hC hF h hd1 hd ha
    · rw [h]; exact go_17 hW hC hF h hd1 hd ha
    · rw [h]; exact go_18 hW hC hF h hd1 hd ha
    · rw [h]; exact go_19 hW hC hF h hd1 hd ha
  · rw [h]; exact go_40 hW hC hF h hb hd1 hd ha
  · rcases h with h | h
    · rw [h]; exact go_37 hW hC hF h hb hd1 hd ha
    · rw [h]; exact go_39 hW hC hF h hb hd1 hd ha
  · rw [h]; exact go_41 hW hC hF h hb hd1 hd ha
  · rcases h with h | h
    · rw [h]; exact go_43 hW hC hF h hd1 hd ha
    · rw [h]; exact go_44 hW hC hF hS h hd1 hd ha
  · rw [h]; exact go_46 hW hC hF h hd1 hd ha hj ht hd2
  · rw [h]; exact go_45 hW hC hF h hd1 ht hd hj
  · rw [h]; exact go_42 hN hW hC hF h he hnp hd ha
  · rw [h]; exact go_0 hW hC hF h hd1
theorem sm_le {f : Nat → Nat} {c : Nat} (h0 : f 0 = 0) (h : ∀ i, f i ≤ c) : ∀ m, sm f (m + 1) ≤ m * c := by
  intro m
  induction m with
  | zero => show 0 + f 0 ≤ _; omega
  | succ m ih =>
    show sm f (m + 1) + f (m + 1) ≤ _
    have := h (m + 1)
    rw [Nat.succ_mul]
    omega
theorem psi_le (hL : L ≤ 160) (hF : FR ν μ L dep rn a tp fl ra) : psi op L rn a ra ≤ 4800 := by
  have h1 := loc_le op hF.2.2.2.2.2.2.1
  have h2 := hF.2.2.1
  have h3 := hF.2.2.2.1
  obtain ⟨m, rfl⟩ : ∃ m, rn = m + 1 := ⟨rn - 1, by omega⟩
  have h4 := sm_le (f := fun i => if i = 0 then 0 else 3 * (L - ra i)) (c := 480) rfl (fun i => by
    show (if i = 0 then 0 else 3 * (L - ra i)) ≤ 480
    split <;> omega) m
  unfold psi
  have h5 : m * 480 ≤ 9 * 480 := Nat.mul_le_mul_right _ (by omega)
  omega
theorem mop_8' : ∀ o, o < 47 → o ≠ 32 → mop o ≠ 8 := by decide
theorem mop_lt' : ∀ o, o < 47 → mop o < 100 := by decide
/-- where a run comes to -/
def FIN (op arg : Nat → Nat) (L : Nat) (e : Nat → Option (Nat × Nat)) (dep : Nat → Nat) (ν μ : St) (Bm Sm sv : Nat) : Prop :=
  ∃ B S rn : Nat, B ≤ Bm ∧ S ≤ Sm ∧ rn ≤ 10 ∧ 1 ≤ sv ∧ sv ≤ 6 ∧ CORE op arg L e ν μ B S sv rn ∧ ((sv = 1 ∨ sv = 2) → ∃ (a tp : Nat) (fl ra : Nat → Nat), FR ν μ L dep rn a tp fl ra)
/-- the loop of the class -/
def FC (N : Nat) (x4 : Int32) : (Int32 → St → Option (Int32 × St)) → Int32 → St → Option (Int32 × St) := fun k7 x5 μ6 =>
  if (1000000 : Int32) ≤ x5 then some (μ6 228 0, μ6)
  else if (μ6 228 0) = (1 : Int32) then
    ca (f_P_stepAt (μ6 233 0) μ6) fun x12 =>
    jn (ca (f_P_operandAt (μ6 233 0) μ6) fun x17 => nm (st μ6 233 0 ((μ6 233 0) + (1 : Int32))) fun μ18 => ca (f_E_act N x12 x17 μ18) fun μ20 => nm (x5 + (1 : Int32)) fun x21 => k7 x21 μ20) fun k14 =>
    if x12 = (32 : Int32) then (if (μ6 229 0) < x4 then k14 else some (μ6 228 0, μ6)) else k14
  else some (μ6 228 0, μ6)
/-- the loop of the reference -/
def FM (N : Nat) (a1 : Int32) : (Int32 → Int32 → St → Option (Int32 × St)) → Int32 → Int32 → St → Option (Int32 × St) := fun k15 x12 x13 μ14 =>
  if (μ14 137 0) = (1 : Int32) then
    if x13 = 0 then some (μ14 137 0, μ14)
    else gd (inb (μ14 138 0) 600) <| nm (μ14 4 (μ14 138 0).toNatClampNeg) fun x20 =>
      if x20 = (8 : Int32) then
        jn (fun (y32 : Int32) => nm (x12 + (1 : Int32)) fun x33 =>
          jn (fun (y37 : Int32) => nm (st μ14 141 0 ((μ14 141 0) + y37)) fun μ38 =>
            jn (fun (y42 : Int32) => nm (st μ38 138 0 ((μ38 138 0) + y42)) fun μ43 => k15 x33 y32 μ43) fun k40 =>
            if y32 = 0 then k40 (0 : Int32) else k40 (1 : Int32)) fun k35 =>
          if y32 = 0 then k35 (0 : Int32) else k35 (1 : Int32)) fun k30 =>
        if a1 ≤ x12 then k30 (0 : Int32) else k30 (1 : Int32)
      else nm (st μ14 138 0 ((μ14 138 0) + (1 : Int32))) fun μ22 =>
        gd (inb ((μ22 138 0) - (1 : Int32)) 600) <| nm (μ22 4 ((μ22 138 0) - (1 : Int32)).toNatClampNeg) fun x24 =>
        gd (inb ((μ22 138 0) - (1 : Int32)) 600) <| nm (μ22 5 ((μ22 138 0) - (1 : Int32)).toNatClampNeg) fun x26 =>
        ca (f_M_does N x24 x26 μ22) fun μ28 => k15 x12 x13 μ28
  else some (μ14 137 0, μ14)
theorem FC_eq (N : Nat) (x4 : Int32) (k7 : Int32 → St → Option (Int32 × St)) (x5 : Int32) (μ6 : St) : FC N x4 k7 x5 μ6 = (if (1000000 : Int32) ≤ x5 then some (μ6 228 0, μ6)
  else if (μ6 228 0) = (1 : Int32) then
    ca (f_P_stepAt (μ6 233 0) μ6) fun x12 =>
    jn (ca (f_P_operandAt (μ6 233 0) μ6) fun x17 => nm (st μ6 233 0 ((μ6 233 0) + (1 : Int32))) fun μ18 => ca (f_E_act N x12 x17 μ18) fun μ20 => nm (x5 + (1 : Int32)) fun x21 => k7 x21 μ20) fun k14 =>
    if x12 = (32 : Int32) then (if (μ6 229 0) < x4 then k14 else some (μ6 228 0, μ6)) else k14
  else some (μ6 228 0, μ6)) := rfl
theorem FM_eq (N : Nat) (a1 : Int32) (k15 : Int32 → Int32 → St → Option (Int32 × St)) (x12 x13 : Int32) (μ14 : St) : FM N a1 k15 x12 x13 μ14 = (if (μ14 137 0) = (1 : Int32) then
    if x13 = 0 then some (μ14 137 0, μ14)
    else gd (inb (μ14 138 0) 600) <| nm (μ14 4 (μ14 138 0).toNatClampNeg) fun x20 =>
      if x20 = (8 : Int32) then
        jn (fun (y32 : Int32) => nm (x12 + (1 : Int32)) fun x33 =>
          jn (fun (y37 : Int32) => nm (st μ14 141 0 ((μ14 141 0) + y37)) fun μ38 =>
            jn (fun (y42 : Int32) => nm (st μ38 138 0 ((μ38 138 0) + y42)) fun μ43 => k15 x33 y32 μ43) fun k40 =>
            if y32 = 0 then k40 (0 : Int32) else k40 (1 : Int32)) fun k35 =>
          if y32 = 0 then k35 (0 : Int32) else k35 (1 : Int32)) fun k30 =>
        if a1 ≤ x12 then k30 (0 : Int32) else k30 (1 : Int32)
      else nm (st μ14 138 0 ((μ14 138 0) + (1 : Int32))) fun μ22 =>
        gd (inb ((μ22 138 0) - (1 : Int32)) 600) <| nm (μ22 4 ((μ22 138 0) - (1 : Int32)).toNatClampNeg) fun x24 =>
        gd (inb ((μ22 138 0) - (1 : Int32)) 600) <| nm (μ22 5 ((μ22 138 0) - (1 : Int32)).toNatClampNeg) fun x26 =>
        ca (f_M_does N x24 x26 μ22) fun μ28 => k15 x12 x13 μ28
  else some (μ14 137 0, μ14)) := rfl
theorem s_P_stepAt (hp : ν 9 a = nI S) (ha : a < 160) : f_P_stepAt (nI a) ν = some (nI S) := by
  unfold f_P_stepAt
  rw [jn_eq, if_neg (nI_pos (by omega)), if_neg (show ¬ (160 : Int32) ≤ nI a from nI_ge (b := 160) ha (by decide)), gd_i (inb_nI ha (by decide)), nm_eq, cl_nI (by omega), hp]
theorem s_P_operandAt (hp : ν 10 a = nI S) (ha : a < 160) : f_P_operandAt (nI a) ν = some (nI S) := by
  unfold f_P_operandAt
  rw [jn_eq, if_neg (nI_pos (by omega)), if_neg (show ¬ (160 : Int32) ≤ nI a from nI_ge (b := 160) ha (by decide)), gd_i (inb_nI ha (by decide)), nm_eq, cl_nI (by omega), hp]
theorem nI_ne1 {sv : Nat} (h : sv ≤ 6) (h1 : sv ≠ 1) : ¬ nI sv = (1 : Int32) := fun hh => h1 ((nI_eq (a := sv) (b := 1) (by omega) (by decide)).mp hh)
set_option maxHeartbeats 4000000 in
set_option maxRecDepth 100000 in
theorem run_loop (hN : 100 ≤ N) (hW : WF op arg L e dep) {B0 S0 n : Nat} (hn : n ≤ 200) (hB0 : B0 < 2 ^ 29) (hS0 : S0 < 2 ^ 29) {z1 : Int32 → St → Option (Int32 × St)} {z2 : Int32 → Int32 → St → Option (Int32 × St)} :
    ∀ (fuel k b S rn a tp : Nat) (fl ra : Nat → Nat) (ν μ : St), CORE op arg L e ν μ (B0 + b) S 1 rn → FR ν μ L dep rn a tp fl ra → b ≤ n → S ≤ S0 + k → (n - b) * 4801 + psi op L rn a ra + k ≤ 970000 → (n - b) * 4801 + psi op L rn a ra + 3 ≤ fuel →
      ∃ (sv : Nat) (ν' μ' : St), lpk (FC N (nI (B0 + n))) z1 fuel (nI k) ν = some (nI sv, ν') ∧ lpk (FM N (nI n)) z2 fuel (nI b) 1 μ = some (nI sv, μ') ∧ FIN op arg L e dep ν' μ' (B0 + n) (S0 + 1000000) sv := by
  intro fuel
  induction fuel with
  | zero => intro k b S rn a tp fl ra ν μ _ _ _ _ _ h; omega
  | succ fuel ih =>
    intro k b S rn a tp fl ra ν μ hC hF hb hSk hM hfu
    have hL := hW.1
    have haL := hF.2.2.2.2.2.2.1
    have hpl := hF.2.2.2.2.1
    have hat := hF.2.2.2.2.2.1
    have pc := hC.2.2.1.1 a haL
    have pm := hC.2.2.2.1.1 a haL
    have hB := hC.2.2.2.2.2.2.1
    have hsv := hC.2.2.2.2.2.2.2.2.2
    have hk6 : ¬ (1000000 : Int32) ≤ nI k := nI_ge (b := 1000000) (by omega) (by decide)
    have hs1 : ν 228 0 = (1 : Int32) := hsv.1
    have hs2 : μ 137 0 = (1 : Int32) := hsv.2
    have hN1 : ¬ (1 : Int32) = 0 := by decide
    rw [lpk_s, lpk_s]
    by_cases h32 : op a = 32
    · -- a statement begins
      have hwf := hW.2.1 a haL
      have hw32 : dep a = 0 ∧ dep (a + 1) = 0 ∧ a + 1 < L := by
        rcases hwf with h | ⟨h, hd, ha⟩ | ⟨h, hd1, hd, ha⟩ | ⟨h, hd1, hd, ha⟩ | ⟨h, hb, hd1, hd, ha⟩ | ⟨h, hb, hd1, hd, ha⟩ | ⟨h, hb, hd1, hd, ha⟩ | ⟨h, hd1, hd, ha⟩ | ⟨h, hd1, hd, ha, hj, ht, hd2⟩ | ⟨h, hd1, ht, hd, hj⟩ | ⟨h, -, ha⟩ | ⟨h, hd1⟩
        · exact ⟨h.2.1, h.2.2.1, h.2.2.2⟩
        all_goals omega
      have hx8 : μ 4 a = (8 : Int32) := by rw [pm.1, h32]; rfl
      by_cases hbn : b = n
      · -- it is one too many: both stop
        subst hbn
        refine ⟨1, ν, st (st μ 141 0 (nI (B0 + b))) 138 0 (nI a), ?_, ?_, B0 + b, S, rn, Nat.le_refl _, by omega, hF.2.2.2.1, by decide, by decide, ?_, fun _ => ⟨a, tp, fl, ra, ?_⟩⟩
        · rw [FC_eq]
          rw [if_neg hk6, if_pos hs1, hpl, s_P_stepAt pc.1 (by omega), ca_s, jn_eq, h32, if_pos (show nI 32 = (32 : Int32) from rfl), hB.1, if_neg (nI_nlt (Nat.le_refl _) (by omega)), hs1]
          rfl
        · rw [FM_eq]
          obtain ⟨g, rfl⟩ : ∃ g, fuel = g + 1 := ⟨fuel - 1, by omega⟩
          rw [if_pos hs2, if_neg hN1, hat, gd_i (inb_nI (by omega) (by decide)), nm_eq, cl_nI (by omega), hx8, if_pos rfl, jn_eq, if_pos (nI_le (Nat.le_refl _) (by omega))]
          try dsimp only
          rw [nm_eq, jn_eq, if_pos rfl]
          try dsimp only
          rw [nm_eq, jn_eq, if_pos rfl]
          try dsimp only
          rw [nm_eq, hB.2, show nI (B0 + b) + 0 = nI (B0 + b) from Int32.add_zero _, st_ne (μ := μ) (by decide), hat, show nI a + 0 = nI a from Int32.add_zero _, lpk_s]
          rw [FM_eq]
          rw [show (st (st μ 141 0 (nI (B0 + b))) 138 0 (nI a)) 137 0 = 1 from by simp [st, hs2], if_pos rfl, if_pos rfl]
          rfl
        · have hr := hC.2.2.2.2.2.1
          have hSS := hC.2.2.2.2.2.2.2.1
          obtain ⟨c1, c2, c3, c4, c5, c6, c7, c8, c9, c10⟩ := hC
          refine ⟨RT_same c1 rfl rfl (by simp [st]) (by simp [st]), RK_same c2 rfl rfl rfl (by simp [st]) (by simp [st]), c3, ?_, by simp [st]; exact c5, by simp [st]; exact c6, ⟨c7.1, by simp [st, upd]⟩, ⟨c8.1, by simp [st, c8.2]⟩, ⟨c9.1, by simp [st, c9.2]⟩, ⟨c10.1, by simp [st, c10.2]⟩⟩
          unfold PMod eM at *
          simp only [st_ne' (show (4 : Nat) ≠ 138 by decide), st_ne' (show (4 : Nat) ≠ 141 by decide), st_ne' (show (5 : Nat) ≠ 138 by decide), st_ne' (show (5 : Nat) ≠ 141 by decide), st_ne' (show (8 : Nat) ≠ 138 by decide), st_ne' (show (8 : Nat) ≠ 141 by decide), st_ne' (show (9 : Nat) ≠ 138 by decide), st_ne' (show (9 : Nat) ≠ 141 by decide)]
          exact c4
        · obtain ⟨f1, f2, f3, f4, f5, f6, f7, f8, f9, f10, f11, f12, f13⟩ := hF
          refine ⟨f1, by simp [st, f2], f3, f4, f5, by simp [st, upd], f7, f8, by simp [st, f9], f10, f11, fun i hi => by simp [st, f12 i hi], fun i g1 g2 => ?_⟩
          have := f13 i g1 g2
          simp [st, this]
      · have hlt : nI (B0 + b) < nI (B0 + n) := nI_lt (by omega) (by omega)
        have hnb : ¬ nI n ≤ nI b := nI_ge (by omega) (by omega)
        obtain ⟨ν2, hν2⟩ : ∃ z, z = st (st ν 233 0 (nI (a + 1))) 229 0 (nI (B0 + (b + 1))) := ⟨_, rfl⟩
        obtain ⟨μ2, hμ2⟩ : ∃ z, z = st (st μ 141 0 (nI (B0 + (b + 1)))) 138 0 (nI (a + 1)) := ⟨_, rfl⟩
        have hC2 : CORE op arg L e ν2 μ2 (B0 + (b + 1)) S 1 rn := by
          obtain ⟨c1, c2, c3, c4, c5, c6, c7, c8, c9, c10⟩ := hC
          rw [hν2, hμ2]
          refine ⟨RT_same c1 (by simp [st]) (by simp [st]) (by simp [st]) (by simp [st]), RK_same c2 (by simp [st]) (by simp [st]) (by simp [st]) (by simp [st]) (by simp [st]), ?_, ?_, by simp [st]; exact c5, by simp [st]; exact c6, ⟨by simp [st, upd], by simp [st, upd]⟩, ⟨by simp [st, c8.1], by simp [st, c8.2]⟩, ⟨by simp [st, c9.1], by simp [st, c9.2]⟩, ⟨by simp [st, c10.1], by simp [st, c10.2]⟩⟩
          · unfold PCls eC at *
            simp only [st_ne' (show (9 : Nat) ≠ 229 by decide), st_ne' (show (9 : Nat) ≠ 233 by decide), st_ne' (show (10 : Nat) ≠ 229 by decide), st_ne' (show (10 : Nat) ≠ 233 by decide), st_ne' (show (11 : Nat) ≠ 229 by decide), st_ne' (show (11 : Nat) ≠ 233 by decide), st_ne' (show (12 : Nat) ≠ 229 by decide), st_ne' (show (12 : Nat) ≠ 233 by decide)]
            exact c3
          · unfold PMod eM at *
            simp only [st_ne' (show (4 : Nat) ≠ 138 by decide), st_ne' (show (4 : Nat) ≠ 141 by decide), st_ne' (show (5 : Nat) ≠ 138 by decide), st_ne' (show (5 : Nat) ≠ 141 by decide), st_ne' (show (8 : Nat) ≠ 138 by decide), st_ne' (show (8 : Nat) ≠ 141 by decide), st_ne' (show (9 : Nat) ≠ 138 by decide), st_ne' (show (9 : Nat) ≠ 141 by decide)]
            exact c4
        have hF2 : FR ν2 μ2 L dep rn (a + 1) tp fl ra := by
          obtain ⟨f1, f2, f3, f4, f5, f6, f7, f8, f9, f10, f11, f12, f13⟩ := hF
          rw [hν2, hμ2]
          refine ⟨by simp [st, f1], by simp [st, f2], f3, f4, by simp [st, upd], by simp [st, upd], hw32.2.2, by simp [st, f8], by simp [st, f9], by rw [hw32.2.1]; rw [hw32.1] at f10; exact f10, f11, fun i hi => by simp [st, f12 i hi], fun i g1 g2 => ?_⟩
          have := f13 i g1 g2
          simp [st, this]
        have hp2 := psi_le (op := op) hL hF2
        have hmul : (n - b) * 4801 = (n - (b + 1)) * 4801 + 4801 := by
          rw [show n - b = (n - (b + 1)) + 1 by omega, Nat.succ_mul]
        obtain ⟨sv, ν', μ', r1, r2, r3⟩ := ih (k + 1) (b + 1) S rn (a + 1) tp fl ra ν2 μ2 hC2 hF2 (by omega) (by omega) (by omega) (by omega)
        refine ⟨sv, ν', μ', ?_, ?_, r3⟩
        · rw [FC_eq]
          rw [if_neg hk6, if_pos hs1, hpl, s_P_stepAt pc.1 (by omega), ca_s, jn_eq, h32, if_pos (show nI 32 = (32 : Int32) from rfl), hB.1, if_pos hlt, s_P_operandAt pc.2 (by omega), ca_s, nm_eq, nI_1, show nI 32 = (32 : Int32) from rfl, A_32, ca_s, nm_eq, nI_1, st_ne (μ := ν) (by decide), hB.1, nI_1, Nat.add_assoc, ← hν2]
          exact r1
        · rw [FM_eq]
          rw [if_pos hs2, if_neg hN1, hat, gd_i (inb_nI (by omega) (by decide)), nm_eq, cl_nI (by omega), hx8, if_pos rfl, jn_eq, if_neg hnb]
          try dsimp only
          rw [nm_eq, jn_eq, if_neg hN1]
          try dsimp only
          rw [nm_eq, jn_eq, if_neg hN1]
          try dsimp only
          rw [nm_eq, hB.2, nI_1, st_ne (μ := μ) (by decide), hat, nI_1, nI_1, Nat.add_assoc, ← hμ2]
          exact r2
    · -- a step inside a statement
      obtain ⟨ν1, μ1, g1, g2, sv, S1, rn1, q1, q2, q3, q4, q5, q6⟩ := step_ok hN hW hC hF (by omega) h32
      have hcl : lpk (FC N (nI (B0 + n))) z1 fuel (nI (k + 1)) ν1 = FC N (nI (B0 + n)) (lpk (FC N (nI (B0 + n))) z1 fuel) (nI k) ν := by
        rw [FC_eq]
        rw [if_neg hk6, if_pos hs1, hpl, s_P_stepAt pc.1 (by omega), ca_s, jn_eq, if_neg (show ¬ nI (op a) = (32 : Int32) from fun hh => by
          have hle : op a ≤ 46 := by
            rcases hW.2.1 a haL with h | ⟨h, -⟩ | ⟨h, -⟩ | ⟨h, -⟩ | ⟨h, -⟩ | ⟨h, -⟩ | ⟨h, -⟩ | ⟨h, -⟩ | ⟨h, -⟩ | ⟨h, -⟩ | ⟨h, -⟩ | ⟨h, -⟩ <;> omega
          exact h32 ((nI_eq (a := op a) (b := 32) (by omega) (by decide)).mp hh)), s_P_operandAt pc.2 (by omega), ca_s, nm_eq, nI_1, g1, ca_s, nm_eq, nI_1]
      have hcm : lpk (FM N (nI n)) z2 fuel (nI b) 1 μ1 = FM N (nI n) (lpk (FM N (nI n)) z2 fuel) (nI b) 1 μ := by
        rw [FM_eq]
        have hle : op a ≤ 46 := by
          rcases hW.2.1 a haL with h | ⟨h, -⟩ | ⟨h, -⟩ | ⟨h, -⟩ | ⟨h, -⟩ | ⟨h, -⟩ | ⟨h, -⟩ | ⟨h, -⟩ | ⟨h, -⟩ | ⟨h, -⟩ | ⟨h, -⟩ | ⟨h, -⟩ <;> omega
        rw [if_pos hs2, if_neg hN1, hat, gd_i (inb_nI (by omega) (by decide)), nm_eq, cl_nI (by omega), pm.1, if_neg (show ¬ nI (mop (op a)) = (8 : Int32) from fun hh => mop_8' (op a) (by omega) h32 ((nI_eq (a := mop (op a)) (b := 8) (by have := mop_lt' (op a) (by omega); omega) (by decide)).mp hh)), nm_eq, nI_1, st_at, nI_pred, gd_i (inb_nI (by omega) (by decide)), nm_eq, cl_nI (by omega), gd_i (inb_nI (by omega) (by decide)), nm_eq, st_ne (μ := μ) (by decide), pm.1, st_ne (μ := μ) (by decide), g2, ca_s]
      by_cases hsv1 : sv = 1
      · subst hsv1
        obtain ⟨a2, tp2, fl2, ra2, hF2, hps⟩ := q6 (Or.inl rfl)
        have hps := hps rfl
        obtain ⟨sv, ν', μ', r1, r2, r3⟩ := ih (k + 1) b S1 rn1 a2 tp2 fl2 ra2 ν1 μ1 q5 hF2 hb (by omega) (by omega) (by omega)
        exact ⟨sv, ν', μ', by rw [← hcl]; exact r1, by rw [← hcm]; exact r2, r3⟩
      · have c10 := q5.2.2.2.2.2.2.2.2.2
        refine ⟨sv, ν1, μ1, ?_, ?_, B0 + b, S1, rn1, by omega, by omega, q3, q1, q2, q5, fun h => by obtain ⟨a2, tp2, fl2, ra2, hF2, -⟩ := q6 h; exact ⟨a2, tp2, fl2, ra2, hF2⟩⟩
        · rw [← hcl]
          obtain ⟨g, rfl⟩ : ∃ g, fuel = g + 1 := ⟨fuel - 1, by omega⟩
          rw [lpk_s]
          rw [FC_eq]
          rw [if_neg (show ¬ (1000000 : Int32) ≤ nI (k + 1) from nI_ge (b := 1000000) (by omega) (by decide)), c10.1, if_neg (nI_ne1 q2 hsv1)]
        · rw [← hcm]
          obtain ⟨g, rfl⟩ : ∃ g, fuel = g + 1 := ⟨fuel - 1, by omega⟩
          rw [lpk_s]
          rw [FM_eq]
          rw [c10.2, if_neg (nI_ne1 q2 hsv1)]
end RUNS
