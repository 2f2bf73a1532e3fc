/-! the run: one step of each machine -/
def sx (v : Int32) : Int32 := v.toInt16.toInt32
theorem wrap_sx (v : Int32) : f_M_wrap v = some (sx v) := by
  unfold f_M_wrap sx
  congr 1
  apply Int32.toInt_inj.mp
  have h16 : ((16 : Int32) &&& 31) = 16 := rfl
  rw [h16, pk_shr (v <<< 16) 16 16 rfl]
  have h1 : (v <<< (16 : Int32)).toBitVec.toNat = v.toBitVec.toNat * 2 ^ 16 % 2 ^ 32 := pk_shl v 16 16 rfl
  have h2 : (v <<< (16 : Int32)).toInt = ((v <<< (16 : Int32)).toBitVec).toInt := rfl
  have h3 : v.toInt = v.toBitVec.toInt := rfl
  have hv : v.toBitVec.toNat < 2 ^ 32 := v.toBitVec.isLt
  rw [Int16.toInt_toInt32, Int32.toInt_toInt16, h2, h3, BitVec.toInt_eq_toNat_cond, BitVec.toInt_eq_toNat_cond, h1, Int.shiftRight_eq_div_pow, Int.bmod_def]
  generalize v.toBitVec.toNat = X at *
  split <;> split <;> split <;> omega
theorem s_E_push {ν : St} {tp : Nat} (v : Int32) (h : ν 232 0 = nI tp) (ht : tp < 512) : f_E_push v ν = some (st (st ν 22 tp (sx v)) 232 0 (nI (tp + 1))) := by
  unfold f_E_push
  have e : (st ν 22 tp (sx v)) 232 0 = nI tp := by rw [st_ne (by decide)]; exact h
  rw [h, if_neg (nI_pos (by omega)), if_neg (show ¬ (512 : Int32) ≤ nI tp from nI_ge (b := 512) ht (by decide)), gd_i (inb_nI ht (by decide)), nm_eq, nm_eq, cl_nI (by omega)]
  show some (st (st ν 22 tp (sx v)) 232 0 ((st ν 22 tp (sx v)) 232 0 + 1)) = _
  rw [e, nI_1]
theorem s_M_push {μ : St} {tp : Nat} (v : Int32) (h : μ 147 0 = nI tp) (ht : tp < 1000) : f_M_push v μ = some (st (st μ 29 tp (sx v)) 147 0 (nI (tp + 1))) := by
  unfold f_M_push
  have e : (st μ 29 tp (sx v)) 147 0 = nI tp := by rw [st_ne (by decide)]; exact h
  rw [wrap_sx, ca_s, h, gd_i (inb_nI ht (by decide)), nm_eq, nm_eq, cl_nI (by omega), e, nI_1]
theorem s_E_pop {ν : St} {tp : Nat} (h : ν 232 0 = nI (tp + 1)) (ht : tp < 512) : f_E_pop ν = some (ν 22 tp, st ν 232 0 (nI tp)) := by
  unfold f_E_pop
  rw [h, if_neg (show ¬ nI (tp + 1) < 1 from nI_nlt (a := tp + 1) (b := 1) (by omega) (by omega)), if_pos (show nI (tp + 1) ≤ 512 from nI_le (b := 512) (by omega) (by decide)), nm_eq, nI_pred, st_at, gd_i (inb_nI ht (by decide)), nm_eq, cl_nI (by omega), st_ne (by decide)]
theorem s_M_pop {μ : St} {tp : Nat} (h : μ 147 0 = nI (tp + 1)) (ht : tp < 1000) : f_M_pop μ = some (μ 29 tp, st μ 147 0 (nI tp)) := by
  unfold f_M_pop
  rw [nm_eq, h, nI_pred, st_at, gd_i (inb_nI ht (by decide)), nm_eq, cl_nI (by omega), st_ne (by decide)]
theorem A_0 (N : Nat) (a : Int32) (ν : St) : f_E_act N 0 a ν = ca (f_E_leave ν) fun x => some x := by simp [f_E_act]
theorem A_42 (N : Nat) (a : Int32) (ν : St) : f_E_act N 42 a ν = ca (f_E_call N a ν) fun x => some x := by simp [f_E_act]
theorem A_33 (N : Nat) (a : Int32) (ν : St) : f_E_act N 33 a ν = ca (f_E_push a ν) fun x => some x := by simp [f_E_act]
theorem A_32 (N : Nat) (a : Int32) (ν : St) : f_E_act N 32 a ν = some (st ν 229 0 (ν 229 0 + 1)) := by simp [f_E_act, nm_eq]
theorem A_34 (N : Nat) (a : Int32) (ν : St) : f_E_act N 34 a ν = ca (f_E_read ν) fun x => some x := by simp [f_E_act]
theorem A_45 (N : Nat) (a : Int32) (ν : St) : f_E_act N 45 a ν = some (st ν 233 0 a) := by simp [f_E_act, nm_eq]
theorem A_var (N : Nat) (o : Nat) (a : Int32) (ν : St) (h : (13 ≤ o ∧ o ≤ 19) ∨ (36 ≤ o ∧ o ≤ 41)) : f_E_act N (nI o) a ν = ca (f_E_actOnVariable (nI o) a ν) fun x => some x := by
  have e : ∀ k : Nat, k < 100 → o ≠ k → ¬ nI o = nI k := fun k hk hne hh => hne ((nI_eq (by omega) (by omega)).mp hh)
  unfold f_E_act
  rw [if_neg (show ¬ nI o = (0 : Int32) from e 0 (by decide) (by omega)), if_neg (show ¬ nI o = (20 : Int32) from e 20 (by decide) (by omega)), if_neg (show ¬ nI o = (32 : Int32) from e 32 (by decide) (by omega)), if_neg (show ¬ nI o = (33 : Int32) from e 33 (by decide) (by omega)), if_neg (show ¬ nI o = (34 : Int32) from e 34 (by decide) (by omega)), if_neg (show ¬ nI o = (35 : Int32) from e 35 (by decide) (by omega)), if_neg (show ¬ nI o = (42 : Int32) from e 42 (by decide) (by omega)), if_neg (show ¬ nI o = (43 : Int32) from e 43 (by decide) (by omega)), if_neg (show ¬ nI o = (44 : Int32) from e 44 (by decide) (by omega)), if_neg (show ¬ nI o = (45 : Int32) from e 45 (by decide) (by omega)), if_neg (show ¬ nI o = (46 : Int32) from e 46 (by decide) (by omega))]
