/-! THE PURE SIDE: the relation of the class's state and the reference's -/
theorem nm_eq {α β : Type} (e : α) (k : α → Option β) : nm e k = k e := rfl
theorem gd_t {β : Type} (k : Option β) : gd true k = k := rfl
theorem gd_i {β : Type} {b : Bool} (h : b = true) (k : Option β) : gd b k = k := by rw [h]; rfl
theorem ca_s {α β : Type} (x : α) (k : α → Option β) : ca (some x) k = k x := rfl
theorem ca2_s {α β γ : Type} (a : α) (b : β) (k : α → β → Option γ) : ca2 (some (a, b)) k = k a b := rfl
theorem jn_eq {κ β : Type} (f : κ) (body : κ → Option β) : jn f body = body f := rfl
theorem lpk_s {κ : Type} (F : κ → κ) (z : κ) (n : Nat) : lpk F z (n + 1) = F (lpk F z n) := rfl
theorem inb_nI {n N : Nat} (h : n < N) (hN : N < 2 ^ 31) : inb (nI n) N = true := by
  simp only [inb, Bool.and_eq_true, decide_eq_true_eq]
  rw [nI_toInt (by omega)]
  omega
theorem cl_nI {n : Nat} (h : n < 2 ^ 31) : (nI n).toNatClampNeg = n := nI_clamp h
/-- the reference's number of a step -/
def mop (o : Nat) : Nat := if o = 33 then 0 else if o = 34 then 1 else if o = 36 then 2 else if o = 38 then 3 else if o = 40 then 4 else if o = 35 then 5 else if o = 20 then 6 else if o = 42 then 7 else if o = 32 then 8 else if o = 37 then 9 else if o = 39 then 10 else if o = 41 then 11 else if o = 43 then 12 else if o = 46 then 13 else if o = 45 then 14 else if o = 0 then 15 else if o = 44 then 16 else o + 20
/-- does a step use its operand -/
def uses (o : Nat) : Bool := o == 33 || o == 36 || o == 37 || o == 38 || o == 39 || o == 40 || o == 41 || o == 42 || o == 45 || o == 46
def wfi (op : Nat → Nat) (L : Nat) (e : Nat → Option (Nat × Nat)) (dep : Nat → Nat) (k o a : Nat) : Prop :=
  (o = 32 ∧ dep k = 0 ∧ dep (k + 1) = 0 ∧ k + 1 < L) ∨
  (((o = 33 ∧ a < 128) ∨ o = 34 ∨ (o = 36 ∧ a < 8) ∨ (o = 38 ∧ a < 8)) ∧ dep (k + 1) = dep k + 1 ∧ k + 1 < L) ∨
  ((o = 35 ∨ o = 20) ∧ 1 ≤ dep k ∧ dep (k + 1) = dep k ∧ k + 1 < L) ∨
  ((13 ≤ o ∧ o ≤ 19) ∧ 2 ≤ dep k ∧ dep (k + 1) + 1 = dep k ∧ k + 1 < L) ∨
  (o = 40 ∧ a < 4 ∧ 1 ≤ dep k ∧ dep (k + 1) = dep k ∧ k + 1 < L) ∨
  ((o = 37 ∨ o = 39) ∧ a < 8 ∧ dep k = 1 ∧ dep (k + 1) = 0 ∧ k + 1 < L) ∨
  (o = 41 ∧ a < 4 ∧ dep k = 2 ∧ dep (k + 1) = 0 ∧ k + 1 < L) ∨
  ((o = 43 ∨ o = 44) ∧ dep k = 1 ∧ dep (k + 1) = 0 ∧ k + 1 < L) ∨
  (o = 46 ∧ dep k = 1 ∧ dep (k + 1) = 0 ∧ k + 1 < L ∧ k < a ∧ a < L ∧ dep a = 0) ∨
  (o = 45 ∧ dep k = 0 ∧ a < L ∧ dep a = 0 ∧ (k < a ∨ op a = 32)) ∨
  (o = 42 ∧ (∃ en np, e a = some (en, np) ∧ np ≤ dep k ∧ dep (k + 1) + np = dep k + 1) ∧ k + 1 < L) ∨
  (o = 0 ∧ dep k = 1)
/-- a program that can't go wrong: its steps, how deep the pile is before each, its functions -/
def WF (op arg : Nat → Nat) (L : Nat) (e : Nat → Option (Nat × Nat)) (dep : Nat → Nat) : Prop :=
  L ≤ 160 ∧ (∀ k, k < L → wfi op L e dep k (op k) (arg k)) ∧ (∀ k, dep k ≤ 30) ∧
  (∀ f x, e f = some x → f < 6 ∧ x.1 < L ∧ dep x.1 = 0 ∧ x.2 ≤ 3 ∧ (op x.1 = 32 ∨ (op x.1 = 33 ∧ op (x.1 + 1) = 0 ∧ x.1 + 1 < L))) ∧ ∃ en, e 0 = some (en, 0)
def eC (ν : St) (f : Nat) (x : Option (Nat × Nat)) : Prop := match x with
  | some y => ν 11 f = nI y.1 ∧ ν 12 f = nI (y.2 + 1)
  | none => ν 12 f = 0
def eM (μ : St) (f : Nat) (x : Option (Nat × Nat)) : Prop := match x with
  | some y => μ 8 f = nI y.1 ∧ μ 9 f = nI y.2
  | none => True
def PCls (ν : St) (op arg : Nat → Nat) (L : Nat) (e : Nat → Option (Nat × Nat)) : Prop := (∀ k, k < L → ν 9 k = nI (op k) ∧ ν 10 k = nI (arg k)) ∧ ∀ f, f < 6 → eC ν f (e f)
def PMod (μ : St) (op arg : Nat → Nat) (L : Nat) (e : Nat → Option (Nat × Nat)) : Prop := (∀ k, k < L → μ 4 k = nI (mop (op k)) ∧ (uses (op k) = true → μ 5 k = nI (arg k))) ∧ ∀ f, f < 6 → eM μ f (e f)
/-- the functions that run: where each came from, where its values begin on the pile -/
def FR (ν μ : St) (L : Nat) (dep : Nat → Nat) (rn a tp : Nat) (fl ra : Nat → Nat) : Prop :=
  ν 231 0 = nI rn ∧ μ 146 0 = nI rn ∧ 1 ≤ rn ∧ rn ≤ 10 ∧ ν 233 0 = nI a ∧ μ 138 0 = nI a ∧ a < L ∧ ν 232 0 = nI tp ∧ μ 147 0 = nI tp ∧ tp = fl (rn - 1) + dep a ∧ fl 0 = 0 ∧ (∀ i, i < rn → μ 28 i = nI (fl i)) ∧
  ∀ i, 1 ≤ i → i < rn → ra i < L ∧ ν 21 i = nI (ra i) ∧ μ 27 i = nI (ra i) ∧ fl i + 1 = fl (i - 1) + dep (ra i)
def rowEq (f g : Nat → Int32) (n : Nat) : Prop := ∀ i, i < n → f i = g i
theorem rowEq_upd {f g : Nat → Int32} {n k : Nat} {v w : Int32} (h : rowEq f g n) (hv : v = w) : rowEq (upd f k v) (upd g k w) n := by
  intro i hi
  simp only [upd]
  split
  · exact hv
  · exact h i hi
/-- the text -/
def RT (ν μ : St) : Prop := ∃ (n : Nat) (t : Nat → Nat), n ≤ 160 ∧ (∀ i, i < n → t i ≤ 191) ∧ ν 121 0 = nI n ∧ μ 101 0 = nI n ∧ ∀ i, i < n → ν 7 i = nI (t i) ∧ μ 1 i = nI (t i)
/-- the keys -/
def RK (ν μ : St) : Prop := ∃ (f c : Nat), f < 8 ∧ c ≤ 8 ∧ ν 141 0 = nI f ∧ ν 142 0 = nI c ∧ μ 140 0 = nI c ∧ ∀ i, i < c → ν 8 ((f + i) % 8) = μ 24 i
/-- what the machines show, and their rows -/
def RV (j : Nat) (ν μ : St) : Prop := ∃ (sv B S rn : Nat), sv ≤ 6 ∧ B ≤ 200 * j ∧ S ≤ 1000000 * j ∧ rn ≤ 10 ∧ ν 228 0 = nI sv ∧ μ 137 0 = nI sv ∧ ν 229 0 = nI B ∧ μ 141 0 = nI B ∧ ν 230 0 = nI S ∧ μ 139 0 = nI S ∧ ν 231 0 = nI rn ∧ μ 146 0 = nI rn ∧
  rowEq (ν 18) (μ 22) 8 ∧ rowEq (ν 19) (μ 23) 32 ∧ rowEq (ν 23) (μ 25) 32 ∧ rowEq (ν 20) (μ 26) 80 ∧ rowEq (ν 22) (μ 29) 512
/-- the program, if there is one; the functions that run, if it runs -/
def RP (ν μ : St) : Prop := ν 165 0 = μ 117 0 ∧ ((ν 165 0 = 0 ∧ ν 228 0 = 0) ∨ (¬ ν 165 0 = 0 ∧ ∃ (op arg : Nat → Nat) (L : Nat) (e : Nat → Option (Nat × Nat)) (dep : Nat → Nat), WF op arg L e dep ∧ PCls ν op arg L e ∧ PMod μ op arg L e ∧ ((ν 228 0 = 1 ∨ ν 228 0 = 2) → ∃ (rn a tp : Nat) (fl ra : Nat → Nat), FR ν μ L dep rn a tp fl ra)))
def Rel (j : Nat) (ν μ : St) : Prop := RT ν μ ∧ RK ν μ ∧ RV j ν μ ∧ RP ν μ
theorem RV_mono {i j : Nat} (h : i ≤ j) {ν μ : St} (hR : RV i ν μ) : RV j ν μ := by
  obtain ⟨sv, B, S, rn, h1, h2, h3, h4⟩ := hR
  exact ⟨sv, B, S, rn, h1, by omega, by omega, h4⟩
theorem Rel_no {j : Nat} {ν μ : St} (h : Rel j ν μ) : Rel (j + 1) ν μ := ⟨h.1, h.2.1, RV_mono (by omega) h.2.2.1, h.2.2.2⟩
theorem Rel_0 : Rel 0 (fun _ _ => 0) (fun _ _ => 0) := by
  refine ⟨⟨0, fun _ => 0, by decide, fun i h => by omega, rfl, rfl, fun i h => by omega⟩, ⟨0, 0, by decide, by decide, rfl, rfl, rfl, fun i h => by omega⟩, ⟨0, 0, 0, 0, by decide, by decide, by decide, by decide, rfl, rfl, rfl, rfl, rfl, rfl, rfl, rfl, fun _ _ => rfl, fun _ _ => rfl, fun _ _ => rfl, fun _ _ => rfl, fun _ _ => rfl⟩, ⟨rfl, Or.inl ⟨rfl, rfl⟩⟩⟩
/-- Rel speaks of these rows alone -/
theorem RT_same {ν μ ν' μ' : St} (h : RT ν μ) (h1 : ν' 7 = ν 7) (h2 : ν' 121 = ν 121) (h3 : μ' 1 = μ 1) (h4 : μ' 101 = μ 101) : RT ν' μ' := by
  unfold RT at *
  rw [h1, h2, h3, h4]
  exact h
theorem RK_same {ν μ ν' μ' : St} (h : RK ν μ) (h1 : ν' 8 = ν 8) (h2 : ν' 141 = ν 141) (h3 : ν' 142 = ν 142) (h4 : μ' 24 = μ 24) (h5 : μ' 140 = μ 140) : RK ν' μ' := by
  unfold RK at *
  rw [h1, h2, h3, h4, h5]
  exact h
/-- nothing but what was thrown has changed in the reference -/
theorem Rel_threw {j : Nat} {ν μ : St} {v : Int32} (h : Rel j ν μ) : Rel j ν (st μ 100 0 v) := by
  have e : ∀ k, k ≠ 100 → (st μ 100 0 v) k = μ k := fun k hk => st_ne' hk
  obtain ⟨h1, h2, h3, h4⟩ := h
  refine ⟨RT_same h1 rfl rfl (e 1 (by decide)) (e 101 (by decide)), RK_same h2 rfl rfl rfl (e 24 (by decide)) (e 140 (by decide)), ?_, ?_⟩
  · unfold RV at *
    simp only [e 137 (by decide), e 141 (by decide), e 139 (by decide), e 146 (by decide), e 22 (by decide), e 23 (by decide), e 25 (by decide), e 26 (by decide), e 29 (by decide)]
    exact h3
  · unfold RP PMod FR eM at *
    simp only [e 117 (by decide), e 4 (by decide), e 5 (by decide), e 8 (by decide), e 9 (by decide), e 146 (by decide), e 138 (by decide), e 147 (by decide), e 28 (by decide), e 27 (by decide)]
    exact h4
