/-! what a step leaves: the relation while a program runs -/
def loc (op : Nat → Nat) (L k : Nat) : Nat := if op k = 32 then 0 else if op k = 0 then 1 else if op k = 33 ∧ op (k + 1) = 0 then 2 else 3 * (L - k)
theorem loc_le (op : Nat → Nat) {L k : Nat} (h : k < L) : loc op L k ≤ 3 * (L - k) := by
  unfold loc
  split
  · omega
  · split
    · omega
    · split
      · omega
      · omega
theorem loc_next {op : Nat → Nat} {L k : Nat} (h1 : op k ≠ 32) (h2 : op k ≠ 0) (h3 : k + 1 < L) : loc op L (k + 1) < loc op L k := by
  have h := loc_le op h3
  unfold loc at *
  rw [if_neg h1, if_neg h2]
  by_cases h4 : op k = 33 ∧ op (k + 1) = 0
  · rw [if_pos h4, if_neg (by omega), if_pos h4.2]
    omega
  · rw [if_neg h4]
    omega
theorem loc_fwd {op : Nat → Nat} {L k t : Nat} (h1 : op k ≠ 32) (h2 : op k ≠ 0) (h3 : op k ≠ 33) (h4 : k < t) (h5 : t < L) : loc op L t < loc op L k := by
  have h := loc_le op h5
  have h6 : loc op L k = 3 * (L - k) := by
    unfold loc
    rw [if_neg h1, if_neg h2, if_neg (by omega)]
  omega
theorem loc_back {op : Nat → Nat} {L k t : Nat} (h1 : op k ≠ 32) (h2 : op k ≠ 0) (h3 : op k ≠ 33) (h4 : k < L) (h5 : op t = 32) : loc op L t < loc op L k := by
  unfold loc
  rw [if_pos h5, if_neg h1, if_neg h2, if_neg (by omega)]
  omega
def sm (f : Nat → Nat) : Nat → Nat
  | 0 => 0
  | n + 1 => sm f n + f n
def psi (op : Nat → Nat) (L rn a : Nat) (ra : Nat → Nat) : Nat := loc op L a + sm (fun i => if i = 0 then 0 else 3 * (L - ra i)) rn
def CORE (op arg : Nat → Nat) (L : Nat) (e : Nat → Option (Nat × Nat)) (ν μ : St) (B S sv rn : Nat) : Prop :=
  RT ν μ ∧ RK ν μ ∧ PCls ν op arg L e ∧ PMod μ op arg L e ∧ (ν 165 0 = μ 117 0 ∧ ¬ ν 165 0 = 0 ∧ μ 100 0 = 0) ∧
  (rowEq (ν 18) (μ 22) 8 ∧ rowEq (ν 19) (μ 23) 32 ∧ rowEq (ν 23) (μ 25) 32 ∧ rowEq (ν 20) (μ 26) 80 ∧ rowEq (ν 22) (μ 29) 512) ∧
  (ν 229 0 = nI B ∧ μ 141 0 = nI B) ∧ (ν 230 0 = nI S ∧ μ 139 0 = nI S) ∧ (ν 231 0 = nI rn ∧ μ 146 0 = nI rn) ∧ (ν 228 0 = nI sv ∧ μ 137 0 = nI sv)
theorem core_upd {op arg : Nat → Nat} {L : Nat} {e : Nat → Option (Nat × Nat)} {ν μ ν' μ' : St} {B S sv rn S' sv' rn' : Nat} (h : CORE op arg L e ν μ B S sv rn)
    (hn : ∀ k, k = 7 ∨ k = 121 ∨ k = 9 ∨ k = 10 ∨ k = 11 ∨ k = 12 ∨ k = 165 ∨ k = 229 → ν' k = ν k) (hm : ∀ k, k = 1 ∨ k = 101 ∨ k = 4 ∨ k = 5 ∨ k = 8 ∨ k = 9 ∨ k = 117 ∨ k = 141 ∨ k = 100 → μ' k = μ k)
    (hK : RK ν' μ') (hr : rowEq (ν' 18) (μ' 22) 8 ∧ rowEq (ν' 19) (μ' 23) 32 ∧ rowEq (ν' 23) (μ' 25) 32 ∧ rowEq (ν' 20) (μ' 26) 80 ∧ rowEq (ν' 22) (μ' 29) 512)
    (hS : ν' 230 0 = nI S' ∧ μ' 139 0 = nI S') (hrn : ν' 231 0 = nI rn' ∧ μ' 146 0 = nI rn') (hsv : ν' 228 0 = nI sv' ∧ μ' 137 0 = nI sv') : CORE op arg L e ν' μ' B S' sv' rn' := by
  obtain ⟨h1, h2, h3, h4, h5, h6, h7, h8, h9, h10⟩ := h
  refine ⟨RT_same h1 (hn 7 (by decide)) (hn 121 (by decide)) (hm 1 (by decide)) (hm 101 (by decide)), hK, ?_, ?_, ?_, hr, ?_, hS, hrn, hsv⟩
  · unfold PCls eC at *
    simp only [hn 9 (by decide), hn 10 (by decide), hn 11 (by decide), hn 12 (by decide)]
    exact h3
  · unfold PMod eM at *
    simp only [hm 4 (by decide), hm 5 (by decide), hm 8 (by decide), hm 9 (by decide)]
    exact h4
  · rw [hn 165 (by decide), hm 117 (by decide), hm 100 (by decide)]; exact h5
  · rw [hn 229 (by decide), hm 141 (by decide)]; exact h7
/-- what a step leaves: S' numbers shown at most one more; the machine goes on nearer to its next statement, waits, or has ended -/
def OUT (op arg : Nat → Nat) (L : Nat) (e : Nat → Option (Nat × Nat)) (dep : Nat → Nat) (ν' μ' : St) (B S Ψ : Nat) : Prop :=
  ∃ sv S' rn : Nat, 1 ≤ sv ∧ sv ≤ 6 ∧ rn ≤ 10 ∧ S' ≤ S + 1 ∧ CORE op arg L e ν' μ' B S' sv rn ∧ ((sv = 1 ∨ sv = 2) → ∃ (a tp : Nat) (fl ra : Nat → Nat), FR ν' μ' L dep rn a tp fl ra ∧ (sv = 1 → psi op L rn a ra < Ψ))
section SIMPLE
variable {op arg : Nat → Nat} {L : Nat} {e : Nat → Option (Nat × Nat)} {dep : Nat → Nat} {ν μ ν' μ' : St} {B S rn a tp a' tp' S' : Nat} {fl ra : Nat → Nat}
/-- a step that stays in its function -/
theorem out_simple (h : CORE op arg L e ν μ B S 1 rn) (hF : FR ν μ L dep rn a tp fl ra)
    (hn : ∀ k, k ≠ 22 → k ≠ 232 → k ≠ 233 → k ≠ 18 → k ≠ 19 → k ≠ 20 → k ≠ 23 → k ≠ 230 → ν' k = ν k) (hm : ∀ k, k ≠ 29 → k ≠ 147 → k ≠ 138 → k ≠ 22 → k ≠ 23 → k ≠ 26 → k ≠ 25 → k ≠ 139 → μ' k = μ k)
    (hr : rowEq (ν' 18) (μ' 22) 8 ∧ rowEq (ν' 19) (μ' 23) 32 ∧ rowEq (ν' 23) (μ' 25) 32 ∧ rowEq (ν' 20) (μ' 26) 80 ∧ rowEq (ν' 22) (μ' 29) 512)
    (hS : ν' 230 0 = nI S' ∧ μ' 139 0 = nI S') (hS' : S' ≤ S + 1) (ht : ν' 232 0 = nI tp' ∧ μ' 147 0 = nI tp') (hp : ν' 233 0 = nI a' ∧ μ' 138 0 = nI a') (ha : a' < L) (hd : tp' = fl (rn - 1) + dep a') (hl : loc op L a' < loc op L a) :
    OUT op arg L e dep ν' μ' B S (psi op L rn a ra) := by
  obtain ⟨f1, f2, f3, f4, f5, f6, f7, f8, f9, f10, f11, f12, f13⟩ := hF
  have hc := core_upd (sv' := 1) (rn' := rn) h (fun k hk => hn k (by omega) (by omega) (by omega) (by omega) (by omega) (by omega) (by omega) (by omega)) (fun k hk => hm k (by omega) (by omega) (by omega) (by omega) (by omega) (by omega) (by omega) (by omega))
    (RK_same h.2.1 (hn 8 (by decide) (by decide) (by decide) (by decide) (by decide) (by decide) (by decide) (by decide)) (hn 141 (by decide) (by decide) (by decide) (by decide) (by decide) (by decide) (by decide) (by decide)) (hn 142 (by decide) (by decide) (by decide) (by decide) (by decide) (by decide) (by decide) (by decide)) (hm 24 (by decide) (by decide) (by decide) (by decide) (by decide) (by decide) (by decide) (by decide)) (hm 140 (by decide) (by decide) (by decide) (by decide) (by decide) (by decide) (by decide) (by decide))) hr hS
    ⟨by rw [hn 231 (by decide) (by decide) (by decide) (by decide) (by decide) (by decide) (by decide) (by decide)]; exact f1, by rw [hm 146 (by decide) (by decide) (by decide) (by decide) (by decide) (by decide) (by decide) (by decide)]; exact f2⟩
    ⟨by rw [hn 228 (by decide) (by decide) (by decide) (by decide) (by decide) (by decide) (by decide) (by decide)]; exact h.2.2.2.2.2.2.2.2.2.1, by rw [hm 137 (by decide) (by decide) (by decide) (by decide) (by decide) (by decide) (by decide) (by decide)]; exact h.2.2.2.2.2.2.2.2.2.2⟩
  refine ⟨1, S', rn, by decide, by decide, f4, hS', hc, fun _ => ⟨a', tp', fl, ra, ⟨hc.2.2.2.2.2.2.2.2.1.1, hc.2.2.2.2.2.2.2.2.1.2, f3, f4, hp.1, hp.2, ha, ht.1, ht.2, hd, f11, ?_, ?_⟩, fun _ => ?_⟩⟩
  · intro i hi
    rw [hm 28 (by decide) (by decide) (by decide) (by decide) (by decide) (by decide) (by decide) (by decide)]
    exact f12 i hi
  · intro i h1 h2
    rw [hn 21 (by decide) (by decide) (by decide) (by decide) (by decide) (by decide) (by decide) (by decide), hm 27 (by decide) (by decide) (by decide) (by decide) (by decide) (by decide) (by decide) (by decide)]
    exact f13 i h1 h2
  · unfold psi
    omega
/-- a step that ends the run in its function: a division by 0, a place outside -/
theorem out_end {sv : Nat} (h : CORE op arg L e ν μ B S 1 rn) (hF : FR ν μ L dep rn a tp fl ra) (hsv : 4 ≤ sv ∧ sv ≤ 6)
    (hn : ∀ k, k ≠ 22 → k ≠ 232 → k ≠ 233 → k ≠ 228 → ν' k = ν k) (hm : ∀ k, k ≠ 29 → k ≠ 147 → k ≠ 138 → k ≠ 137 → μ' k = μ k) (hr : rowEq (ν' 22) (μ' 29) 512) (hs : ν' 228 0 = nI sv ∧ μ' 137 0 = nI sv) (Ψ : Nat) :
    OUT op arg L e dep ν' μ' B S Ψ := by
  have hc := core_upd (sv' := sv) (rn' := rn) (S' := S) h (fun k hk => hn k (by omega) (by omega) (by omega) (by omega)) (fun k hk => hm k (by omega) (by omega) (by omega) (by omega))
    (RK_same h.2.1 (hn 8 (by decide) (by decide) (by decide) (by decide)) (hn 141 (by decide) (by decide) (by decide) (by decide)) (hn 142 (by decide) (by decide) (by decide) (by decide)) (hm 24 (by decide) (by decide) (by decide) (by decide)) (hm 140 (by decide) (by decide) (by decide) (by decide)))
    (by rw [hn 18 (by decide) (by decide) (by decide) (by decide), hn 19 (by decide) (by decide) (by decide) (by decide), hn 23 (by decide) (by decide) (by decide) (by decide), hn 20 (by decide) (by decide) (by decide) (by decide), hm 22 (by decide) (by decide) (by decide) (by decide), hm 23 (by decide) (by decide) (by decide) (by decide), hm 25 (by decide) (by decide) (by decide) (by decide), hm 26 (by decide) (by decide) (by decide) (by decide)]
        exact ⟨h.2.2.2.2.2.1.1, h.2.2.2.2.2.1.2.1, h.2.2.2.2.2.1.2.2.1, h.2.2.2.2.2.1.2.2.2.1, hr⟩)
    (by rw [hn 230 (by decide) (by decide) (by decide) (by decide), hm 139 (by decide) (by decide) (by decide) (by decide)]; exact h.2.2.2.2.2.2.2.1)
    (by rw [hn 231 (by decide) (by decide) (by decide) (by decide), hm 146 (by decide) (by decide) (by decide) (by decide)]; exact h.2.2.2.2.2.2.2.2.1) hs
  exact ⟨sv, S, rn, by omega, hsv.2, hF.2.2.2.1, by omega, hc, fun h => by omega⟩
end SIMPLE
/-- how deep the pile can be -/
theorem fl_le {ν μ : St} {L : Nat} {dep : Nat → Nat} {rn a tp : Nat} {fl ra : Nat → Nat} (hd : ∀ k, dep k ≤ 30) (hF : FR ν μ L dep rn a tp fl ra) : ∀ i, i < rn → fl i ≤ 30 * i := by
  obtain ⟨f1, f2, f3, f4, f5, f6, f7, f8, f9, f10, f11, f12, f13⟩ := hF
  intro i
  induction i with
  | zero => intro _; rw [f11]; omega
  | succ i ih =>
    intro hi
    have h1 := ih (by omega)
    have h2 := (f13 (i + 1) (by omega) hi).2.2.2
    have h3 := hd (ra (i + 1))
    rw [Nat.add_sub_cancel] at h2
    omega
theorem tp_le {ν μ : St} {L : Nat} {dep : Nat → Nat} {rn a tp : Nat} {fl ra : Nat → Nat} (hd : ∀ k, dep k ≤ 30) (hF : FR ν μ L dep rn a tp fl ra) : tp ≤ 300 := by
  have h1 := fl_le hd hF (rn - 1) (by have := hF.2.2.1; omega)
  have h2 := hd a
  have h3 := hF.2.2.2.2.2.2.2.2.2.1
  have h4 := hF.2.2.2.1
  omega
