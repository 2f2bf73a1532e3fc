/-! start: what clears, what enters -/
theorem loop_x {β : Type} {F : (Int32 → St → Option β) → Int32 → St → Option β} {z : Int32 → St → Option β} {m : Nat} {step : Nat → St → St} {ok : Nat → St → Prop}
    (hs : ∀ kk i μ, i < m → ok i μ → F kk (nI i) μ = kk (nI (i + 1)) (step i μ)) (hok : ∀ i μ, i < m → ok i μ → ok (i + 1) (step i μ)) (he : ∀ kk μ, ok m μ → F kk (nI m) μ = F z (nI m) μ) (fuel : Nat) (μ : St) (hf : m < fuel) (h0 : ok 0 μ) :
    lpk F z fuel (nI 0) μ = F z (nI m) (up step 0 m μ) := by
  have key : ∀ d i fuel μ, i + d = m → d < fuel → ok i μ → lpk F z fuel (nI i) μ = F z (nI m) (up step i d μ) := by
    intro d
    induction d with
    | zero =>
      intro i fuel μ h1 h2 h3
      obtain ⟨g, rfl⟩ : ∃ g, fuel = g + 1 := ⟨fuel - 1, by omega⟩
      obtain rfl : i = m := by omega
      rw [lpk_s, he _ _ h3]
      rfl
    | succ d ih =>
      intro i fuel μ h1 h2 h3
      obtain ⟨g, rfl⟩ : ∃ g, fuel = g + 1 := ⟨fuel - 1, by omega⟩
      rw [lpk_s, hs _ _ _ (by omega) h3, ih (i + 1) g (step i μ) (by omega) (by omega) (hok i μ (by omega) h3)]
      rfl
  exact key m 0 fuel μ (by omega) hf h0
theorem up_fil0 (k : Nat) (v : Int32) (m : Nat) (μ : St) : up (fun i μ => st μ k i v) 0 m μ = fil μ k 0 m v := by
  have h := up_fil k 0 v m 0 μ
  simp only [Nat.zero_add] at h
  exact h
def clrC (ν : St) : St := st (st (st (st (st (st (fil (fil ν 18 0 8 0) 19 0 32 0) 228 0 0) 229 0 0) 230 0 0) 231 0 0) 232 0 0) 233 0 0
theorem s_E_clear {N : Nat} (hN : 100 ≤ N) (ν : St) : f_E_clear N ν = some (clrC ν) := by
  unfold f_E_clear
  refine (loop_x (m := 8) (step := fun i μ => st μ 18 i 0) (ok := fun _ _ => True) ?_ (fun _ _ _ _ => trivial) ?_ N ν (by omega) trivial).trans ?_
  · intro kk i μ hi _
    try dsimp only
    rw [if_neg (show ¬ (8 : Int32) ≤ nI i from nI_ge (b := 8) hi (by decide)), gd_i (inb_nI hi (by decide)), nm_eq, nm_eq, cl_nI (by omega), nI_1]
  · intro kk μ _
    try dsimp only
    rw [if_pos (by decide), if_pos (by decide)]
  · dsimp only
    rw [if_pos (by decide), up_fil0]
    refine (loop_x (m := 32) (step := fun i μ => st μ 19 i 0) (ok := fun _ _ => True) ?_ (fun _ _ _ _ => trivial) ?_ N _ (by omega) trivial).trans ?_
    · intro kk i μ hi _
      try dsimp only
      rw [if_neg (show ¬ (32 : Int32) ≤ nI i from nI_ge (b := 32) hi (by decide)), gd_i (inb_nI hi (by decide)), nm_eq, nm_eq, cl_nI (by omega), nI_1]
    · intro kk μ _
      try dsimp only
      rw [if_pos (by decide), if_pos (by decide)]
    · dsimp only
      rw [if_pos (by decide), up_fil0]
      rfl
def clrM (μ : St) : St := st (st (st (st (fil (fil μ 22 0 8 0) 23 0 32 0) 139 0 0) 141 0 0) 146 0 0) 147 0 0
theorem s_M_nothing {N : Nat} (hN : 100 ≤ N) (μ : St) : f_M_nothing N μ = some (clrM μ) := by
  unfold f_M_nothing
  refine (loop_x (m := 8) (step := fun i μ => st μ 22 i 0) (ok := fun _ _ => True) ?_ (fun _ _ _ _ => trivial) ?_ N μ (by omega) trivial).trans ?_
  · intro kk i μ hi _
    try dsimp only
    rw [if_neg (show ¬ (8 : Int32) ≤ nI i from nI_ge (b := 8) hi (by decide)), gd_i (inb_nI hi (by decide)), nm_eq, nm_eq, cl_nI (by omega), nI_1]
  · intro kk μ _
    try dsimp only
    rw [if_pos (by decide), if_pos (by decide)]
  · dsimp only
    rw [if_pos (by decide), up_fil0]
    refine (loop_x (m := 32) (step := fun i μ => st μ 23 i 0) (ok := fun _ _ => True) ?_ (fun _ _ _ _ => trivial) ?_ N _ (by omega) trivial).trans ?_
    · intro kk i μ hi _
      try dsimp only
      rw [if_neg (show ¬ (32 : Int32) ≤ nI i from nI_ge (b := 32) hi (by decide)), gd_i (inb_nI hi (by decide)), nm_eq, nm_eq, cl_nI (by omega), nI_1]
    · intro kk μ _
      try dsimp only
      rw [if_pos (by decide), if_pos (by decide)]
    · dsimp only
      rw [if_pos (by decide), up_fil0]
      rfl
theorem up_filb (k b : Nat) (v : Int32) (m : Nat) (μ : St) : up (fun i μ => st μ k (b + i) v) 0 m μ = fil μ k b (b + m) v := by
  have h := up_fil k b v m 0 μ
  simp only [Nat.add_zero] at h
  exact h
/-- the reference's enter: function fi, coming back to a2 -/
def entM (μ : St) (rn tp fi : Nat) (a2 : Int32) : St := st (st (fil (st (st μ 27 rn a2) 28 rn (nI tp)) 26 (8 * rn) (8 * rn + 8) 0) 146 0 (nI (rn + 1))) 138 0 (μ 8 fi)
theorem s_M_enter {N : Nat} (hN : 100 ≤ N) {μ : St} {rn tp fi : Nat} (a2 : Int32) (h1 : μ 146 0 = nI rn) (hr : rn < 10) (h2 : μ 147 0 = nI tp) (hf : fi < 6) : f_M_enter N (nI fi) a2 μ = some (entM μ rn tp fi a2) := by
  have e1 : (st μ 27 rn a2) 146 0 = nI rn := by rw [st_ne (by decide)]; exact h1
  have e2 : (st μ 27 rn a2) 147 0 = nI tp := by rw [st_ne (by decide)]; exact h2
  have e3 : (st (st μ 27 rn a2) 28 rn (nI tp)) 146 0 = nI rn := by rw [st_ne (by decide)]; exact e1
  unfold f_M_enter
  rw [h1, gd_i (inb_nI hr (by decide)), nm_eq, cl_nI (n := rn) (by omega), e1, gd_i (inb_nI hr (by decide)), nm_eq, cl_nI (n := rn) (by omega), e2]
  refine (loop_x (m := 8) (step := fun i μ => st μ 26 (8 * rn + i) 0) (ok := fun _ μ => μ 146 0 = nI rn) ?_ (fun i μ _ h => by show st μ 26 _ 0 146 0 = _; rw [st_ne (by decide)]; exact h) ?_ N _ (by omega) e3).trans ?_
  · intro kk i μ hi h
    try dsimp only
    rw [if_neg (show ¬ (8 : Int32) ≤ nI i from nI_ge (b := 8) hi (by decide)), h, show (8 : Int32) * nI rn + nI i = nI (8 * rn + i) from by rw [show (8 : Int32) = nI 8 from rfl, pk_mul, nI_add], gd_i (inb_nI (by omega) (by decide)), nm_eq, nm_eq, cl_nI (by omega), nI_1]
  · intro kk μ _
    try dsimp only
    rw [if_pos (by decide), if_pos (by decide)]
  · dsimp only
    rw [if_pos (by decide), up_filb]
    have e4 : (fil (st (st μ 27 rn a2) 28 rn (nI tp)) 26 (8 * rn) (8 * rn + 8) 0) 146 0 = nI rn := by rw [fil_ne (by decide)]; exact e3
    have e5 : (st (fil (st (st μ 27 rn a2) 28 rn (nI tp)) 26 (8 * rn) (8 * rn + 8) 0) 146 0 (nI (rn + 1))) 8 = μ 8 := by rw [st_ne' (by decide), fil_ne (by decide), st_ne' (by decide), st_ne' (by decide)]
    rw [nm_eq, e4, nI_1, gd_i (inb_nI hf (by decide)), nm_eq, nm_eq, cl_nI (by omega), e5]
    rfl
