/-! the class's fault: the reading of the text, from its clearing on -/
theorem s_D_clear {N : Nat} (hN : 200 ≤ N) (ν : St) : f_D_clear N ν = some (st (st (fil ν 16 0 6 0) 184 0 0) 185 0 0) := by
  unfold f_D_clear
  refine (loop_x (m := 6) (step := fun i μ => st μ 16 i 0) (ok := fun _ _ => True) ?_ (fun _ _ _ _ => trivial) ?_ N ν (by omega) trivial).trans ?_
  · intro kk i μ hi _
    try dsimp only
    rw [if_neg (show ¬ (6 : Int32) ≤ nI i from nI_ge (b := 6) hi (by decide)), gd_i (inb_nI hi (by decide)), nm_eq, nm_eq, cl_nI (by omega), nI_1]
  · intro kk μ _
    try dsimp only
    rw [if_pos (by decide), if_pos (by decide)]
  · dsimp only
    rw [if_pos (by decide), up_fil0]
    rfl
theorem s_G_clear {N : Nat} (hN : 200 ≤ N) (ν : St) : f_G_clear N ν = some (st (st (st (fil (st (st (fil ν 16 0 6 0) 184 0 0) 185 0 0) 17 0 160 (-1)) 203 0 0) 204 0 0) 205 0 0) := by
  unfold f_G_clear
  rw [s_D_clear hN, ca_s]
  refine (loop_x (m := 160) (step := fun i μ => st μ 17 i (-1)) (ok := fun _ _ => True) ?_ (fun _ _ _ _ => trivial) ?_ N _ (by omega) trivial).trans ?_
  · intro kk i μ hi _
    try dsimp only
    rw [if_neg (show ¬ (160 : Int32) ≤ nI i from nI_ge (b := 160) hi (by decide)), gd_i (inb_nI hi (by decide)), nm_eq, nm_eq, cl_nI (by omega), nI_1]
  · intro kk μ _
    try dsimp only
    rw [if_pos (by decide), if_pos (by decide)]
  · dsimp only
    rw [if_pos (by decide), up_fil0]
    rfl
theorem g_clear {N n : Nat} (hN : 200 ≤ N) (ν : St) : ∃ ν', f_G_clear N ν = some ν' ∧ GS n ν ν' (.ok pInit) := by
  refine ⟨_, s_G_clear hN ν, ?_, ?_, ?_, ?_, ?_⟩
  · intro k h1 h2 h3 h4 h5 h6 h7 h8 h9 h10
    simp [st, fil, h1, h2, h3, h6, h7, h9, h10]
  · refine ⟨?_, Nat.zero_le _, ?_, ?_⟩ <;> simp [st, upd] <;> rfl
  · refine ⟨?_, Nat.zero_le _, fun k o a h => by cases h⟩
    simp [st, upd, fil]; rfl
  · refine ⟨fun k hk => ?_, fun k c h => by cases h⟩
    simp [st, fil, hk, oI]
  · refine ⟨fun f hf => ?_, (fun f x h => by cases h), ?_⟩
    · show (st (st (st (fil (st (st (fil ν 16 0 6 0) 184 0 0) 185 0 0) 17 0 160 (-1)) 203 0 0) 204 0 0) 205 0 0) 16 f = 0
      simp [st, fil, hf]
    · simp [st, upd, fil]; rfl
theorem g_fault {N n : Nat} {t : Nat → Nat} {ν : St} (hN : 200 ≤ N) (hT : HT n t ν) (hc : clT n t (pTopL (tkf n t) 160 (.ok pInit))) : ∃ ν', f_G_fault N ν = some (((-1000 : Int32) * (ν' 204 0)) - (ν' 205 0), ν') ∧ FINC n ν ν' (pAll (tkf n t) n) := by
  obtain ⟨ν1, e1, h1⟩ := g_clear (n := n) hN ν
  obtain ⟨ν2, e2, h2⟩ := g_topL hN hT 160 N 0 ν1 _ (by decide) (by omega) h1
  obtain ⟨ν3, e3, h3⟩ := g_kF hN hT h2 hc
  exact ⟨ν3, by rw [fault_eq, e1, ca_s]; exact e2.trans e3, h3⟩
