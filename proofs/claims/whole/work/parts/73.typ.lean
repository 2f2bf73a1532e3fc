/-! what a reading leaves: steps that fit, calls in their order; the two readers side by side -/
def nx (ar : Nat → Option Nat) (i : Nat × Nat) (x : Nat) : Nat :=
  if i.1 = 33 ∨ i.1 = 34 ∨ i.1 = 36 ∨ i.1 = 38 then x + 1
  else if 13 ≤ i.1 ∧ i.1 ≤ 19 then x - 1
  else if i.1 = 42 then x + 1 - (ar i.2).getD 0
  else if i.1 = 37 ∨ i.1 = 39 ∨ i.1 = 43 ∨ i.1 = 44 ∨ i.1 = 46 ∨ i.1 = 0 then x - 1
  else if i.1 = 41 then x - 2
  else x
/-- a step of a value, on a pile of x -/
def vok (ar : Nat → Option Nat) (i : Nat × Nat) (x : Nat) : Prop :=
  ((i.1 = 33 ∧ i.2 < 128) ∨ i.1 = 34 ∨ (i.1 = 36 ∧ i.2 < 8) ∨ (i.1 = 38 ∧ i.2 < 8)) ∨ ((i.1 = 35 ∨ i.1 = 20) ∧ 1 ≤ x) ∨ ((13 ≤ i.1 ∧ i.1 ≤ 19) ∧ 2 ≤ x) ∨ (i.1 = 40 ∧ i.2 < 4 ∧ 1 ≤ x) ∨ (i.1 = 42 ∧ ∃ c, ar i.2 = some c ∧ c ≤ x)
def VT (ar : Nat → Option Nat) : Nat → List (Nat × Nat) → Nat → Prop
  | x, [], y => y = x
  | x, i :: S, y => vok ar i x ∧ x ≤ 30 ∧ VT ar (nx ar i x) S y
theorem VT_app {ar : Nat → Option Nat} : ∀ {S T : List (Nat × Nat)} {x y z : Nat}, VT ar x S y → VT ar y T z → VT ar x (S ++ T) z := by
  intro S
  induction S with
  | nil => intro T x y z h1 h2; cases h1; exact h2
  | cons i S ih => intro T x y z h1 h2; exact ⟨h1.1, h1.2.1, ih h1.2.2 h2⟩
theorem VT_one {ar : Nat → Option Nat} {i : Nat × Nat} {x y : Nat} (h : vok ar i x) (hx : x ≤ 30) (hy : nx ar i x = y) : VT ar x [i] y := ⟨h, hx, hy.symm⟩
def AK (ar : Nat → Option Nat) (K : List KF) : Prop := ∀ y, y ∈ K → ar y.2.1 = some y.2.2 ∧ y.2.2 ≤ 3
theorem AK_app {ar : Nat → Option Nat} {K L : List KF} (h : AK ar (K ++ L)) : AK ar K ∧ AK ar L := ⟨fun y hy => h y (List.mem_append_left _ hy), fun y hy => h y (List.mem_append_right _ hy)⟩
theorem AK_cons {ar : Nat → Option Nat} {x : KF} {L : List KF} (h : AK ar (x :: L)) : (ar x.2.1 = some x.2.2 ∧ x.2.2 ≤ 3) ∧ AK ar L := ⟨h x List.mem_cons_self, fun y hy => h y (List.mem_cons_of_mem _ hy)⟩
/-- a value's steps: they leave one number more -/
def TYP (c : Nat) (S : List (Nat × Nat)) (K : List KF) : Prop := ∀ ar, AK ar K → ∀ x, x + c ≤ 30 → VT ar x S (x + 1)
def KO (tk : Nat → Nat) (p p' : Nat) (K : List KF) : Prop := (∀ y, y ∈ K → p ≤ y.1 ∧ y.1 < p' ∧ tk y.1 = 52 + y.2.1 ∧ y.2.1 < 6 ∧ y.2.2 ≤ 160) ∧ K.Pairwise (fun a b => a.1 < b.1) ∧ K.length + p ≤ p'
def CK (cl cl' : Nat → Option Nat) (K : List KF) : Prop := ∀ k c, cl' k = some c ↔ (cl k = some c ∨ ∃ f, (k, f, c) ∈ K)
def NC (cl : Nat → Option Nat) (p : Nat) : Prop := ∀ k, p ≤ k → cl k = none
theorem KO_nil {tk : Nat → Nat} {p p' : Nat} (h : p ≤ p') : KO tk p p' [] := ⟨(fun y hy => by cases hy), List.Pairwise.nil, by simp; omega⟩
theorem KO_app {tk : Nat → Nat} {p p1 p2 : Nat} {K L : List KF} (h1 : KO tk p p1 K) (h2 : KO tk p1 p2 L) : KO tk p p2 (K ++ L) := by
  have hp : p ≤ p1 := by have := h1.2.2; omega
  have hp2 : p1 ≤ p2 := by have := h2.2.2; omega
  refine ⟨fun y hy => ?_, ?_, by have := h1.2.2; have := h2.2.2; simp; omega⟩
  · rcases List.mem_append.mp hy with h | h
    · have := h1.1 y h; exact ⟨this.1, by omega, this.2.2⟩
    · have := h2.1 y h; exact ⟨by omega, this.2⟩
  · rw [List.pairwise_append]
    exact ⟨h1.2.1, h2.2.1, fun a ha b hb => by have := h1.1 a ha; have := h2.1 b hb; omega⟩
theorem KO_mono {tk : Nat → Nat} {p q p' q' : Nat} {K : List KF} (h : KO tk p p' K) (hq : q ≤ p) (hq' : p' ≤ q') : KO tk q q' K := ⟨fun y hy => by have := h.1 y hy; exact ⟨by omega, by omega, this.2.2⟩, h.2.1, by have := h.2.2; omega⟩
theorem KO_cons {tk : Nat → Nat} {p p' f g : Nat} {K : List KF} (h : KO tk (p + 1) p' K) (ht : tk p = 52 + f) (hf : f < 6) (hg : g ≤ 160) : KO tk p p' ((p, f, g) :: K) := by
  have := h.2.2
  refine ⟨fun y hy => ?_, List.Pairwise.cons (fun b hb => by have := h.1 b hb; show p < b.1; omega) h.2.1, by simp; omega⟩
  rcases List.mem_cons.mp hy with rfl | hy
  · exact ⟨Nat.le_refl _, by show p < p'; omega, ht, hf, hg⟩
  · have := h.1 y hy; exact ⟨by omega, this.2⟩
theorem CK_nil (cl : Nat → Option Nat) : CK cl cl [] := fun k c => by simp
theorem CK_app {cl cl1 cl2 : Nat → Option Nat} {K L : List KF} (h1 : CK cl cl1 K) (h2 : CK cl1 cl2 L) : CK cl cl2 (K ++ L) := by
  intro k c
  rw [h2 k c, h1 k c]
  simp only [List.mem_append]
  constructor
  · rintro ((h | ⟨f, h⟩) | ⟨f, h⟩)
    · exact Or.inl h
    · exact Or.inr ⟨f, Or.inl h⟩
    · exact Or.inr ⟨f, Or.inr h⟩
  · rintro (h | ⟨f, h | h⟩)
    · exact Or.inl (Or.inl h)
    · exact Or.inl (Or.inr ⟨f, h⟩)
    · exact Or.inr ⟨f, h⟩
theorem NC_CK {tk : Nat → Nat} {cl cl' : Nat → Option Nat} {p p' : Nat} {K : List KF} (h : NC cl p) (hc : CK cl cl' K) (hk : KO tk p p' K) : NC cl' p' := by
  intro k hkp
  cases hcl : cl' k with
  | none => rfl
  | some c =>
    rcases (hc k c).mp hcl with h1 | ⟨f, h1⟩
    · have hpp : p ≤ p' := by have := hk.2.2; omega
      rw [h k (by omega)] at h1; cases h1
    · have := hk.1 _ h1
      omega
theorem CK_mark {tk : Nat → Nat} {cl cl' : Nat → Option Nat} {p q p' f g : Nat} {K : List KF} (h : NC cl p) (hc : CK cl cl' K) (hk : KO tk q p' K) (hq : p < q) : CK cl (fun i => if i = p then some g else cl' i) ((p, f, g) :: K) := by
  intro k c
  have hp : cl' p = none := by
    cases hcl : cl' p with
    | none => rfl
    | some c =>
      rcases (hc p c).mp hcl with h1 | ⟨f, h1⟩
      · rw [h p (Nat.le_refl _)] at h1; cases h1
      · have := hk.1 _ h1; simp at this; omega
  by_cases hkp : k = p
  · subst hkp
    dsimp only
    rw [if_pos rfl]
    constructor
    · intro hh; cases hh; exact Or.inr ⟨f, List.mem_cons_self⟩
    · rintro (h1 | ⟨f', h1⟩)
      · rw [h k (Nat.le_refl _)] at h1; cases h1
      · rcases List.mem_cons.mp h1 with h2 | h2
        · cases h2; rfl
        · have := hk.1 _ h2; simp at this; omega
  · dsimp only
    rw [if_neg hkp, hc k c]
    constructor
    · rintro (h1 | ⟨f', h1⟩)
      · exact Or.inl h1
      · exact Or.inr ⟨f', List.mem_cons_of_mem _ h1⟩
    · rintro (h1 | ⟨f', h1⟩)
      · exact Or.inl h1
      · rcases List.mem_cons.mp h1 with h2 | h2
        · cases h2; exact absurd rfl hkp
        · exact Or.inr ⟨f', h2⟩
/-- what a piece of a value leaves, and where the reference is then -/
def OKV (N n : Nat) (t : Nat → Nat) (μ0 μ : St) (p : Nat) (C : List (Nat × Nat)) (cl : Nat → Option Nat) (fe : Nat → Option (Nat × Nat)) (nf c : Nat) (r : RR) (Q : St → Nat → List (Nat × Nat) → List KF → Prop) : Prop := match r with
  | .error x => ER N n μ0 μ p x
  | .ok (p', C', cl', fe', nf') => fe = fe' ∧ nf = nf' ∧ ∃ S K' j μ', C' = C ++ S ∧ p < p' ∧ p' ≤ n ∧ S.length + p ≤ p' ∧ KO (tkf n t) p p' K' ∧ CK cl cl' K' ∧ TYP c S K' ∧ TR N j μ μ' ∧ j + p ≤ p' ∧ Q μ' p' C' K'
/-- behind a part, with operators Wv above W0 that wait -/
def AQ (n : Nat) (μ0 : St) (K : List KF) (B : List BF) (D : Int32 × Int32 × Int32) (fe : Nat → Option (Nat × Nat)) (wh nm' : Nat) (V : List VF) (l : Nat) (W0 : List Nat) (μ' : St) (p' : Nat) (C' : List (Nat × Nat)) (K' : List KF) : Prop :=
  ∃ Cm s Wv, (s = 0 ∨ s = 5 ∨ s = 6) ∧ C' = Cm ++ (sgc s ++ opl Wv) ∧ (∀ o, o ∈ Wv → l ≤ lvl o) ∧ Wv.length + l ≤ 4 ∧ MX n μ0 μ' p' 4 Cm (K ++ K') B D fe (some ((wh, nm', s, Wv ++ W0) :: V))
/-- behind a whole value -/
def AV (n : Nat) (t : Nat → Nat) (μ0 : St) (K : List KF) (B : List BF) (D : Int32 × Int32 × Int32) (fe : Nat → Option (Nat × Nat)) (wh nm' : Nat) (V : List VF) (μ' : St) (p' : Nat) (C' : List (Nat × Nat)) (K' : List KF) : Prop :=
  ∃ Cm s Wv, (s = 0 ∨ s = 5 ∨ s = 6) ∧ C' = Cm ++ (sgc s ++ opl Wv) ∧ (∀ o, o ∈ Wv → 1 ≤ lvl o) ∧ MX n μ0 μ' p' 4 Cm (K ++ K') B D fe (some ((wh, nm', s, Wv) :: V)) ∧ (lvl (tkf n t p') = 0 ∨ (lvl (tkf n t p') = 1 ∧ ∃ A o, Wv = A ++ [o] ∧ lvl o = 1 ∧ ∀ a, a ∈ A → 2 ≤ lvl a))
section AVS
variable {N n : Nat} {t : Nat → Nat} {μ0 μ : St} {p md : Nat} {C : List (Nat × Nat)} {K K' : List KF} {B : List BF} {D : Int32 × Int32 × Int32} {fe : Nat → Option (Nat × Nat)} {V : List VF} {wh nm' : Nat}
theorem turn_3 (h : μ 106 0 = nI 3) : turn N μ = f_M_piece μ := by unfold turn; rw [h, if_neg (by decide), if_neg (by decide), if_neg (by decide), if_pos (by decide)]
theorem turn_4 (h : μ 106 0 = nI 4) : turn N μ = f_M_behind N μ := by unfold turn; rw [h, if_neg (by decide), if_neg (by decide), if_neg (by decide), if_neg (by decide)]
theorem turn_2 (h : μ 106 0 = nI 2) : turn N μ = f_M_statement μ := by unfold turn; rw [h, if_neg (by decide), if_neg (by decide), if_pos (by decide)]
theorem turn_0 (h : μ 106 0 = nI 0) : turn N μ = f_M_function μ := by unfold turn; rw [h, if_pos (by decide)]
theorem TR_one {Vo : Option (List VF)} {μ1 : St} (h : MX n μ0 μ p md C K B D fe Vo) (e : turn N μ = some μ1) : TR N 1 μ μ1 := ⟨h.2.1.2.2.2.1, h.2.1.2.2.2.2, μ1, e, rfl⟩
theorem ER_one {Vo : Option (List VF)} {μ1 : St} {x : Nat × Nat} (h : MX n μ0 μ p md C K B D fe Vo) (e : turn N μ = some μ1) (hd : Dead μ0 μ1 x) : ER N n μ0 μ p x := ⟨1, μ1, TR_one h e, hd, by have := h.2.1.2.1; omega⟩
theorem av_step (hN : 200 ≤ N) (hT : HM n t μ0) (hl : C.length ≤ 160) (h : AV n t μ0 K B D fe wh nm' V μ p C K') : TR N 0 μ μ ∧ ((lvl (tkf n t p) = 0 ∧ ∃ μ1, turn N μ = f_M_valueEnds (nI wh) (nI nm') μ1 ∧ MX n μ0 μ1 p 4 C (K ++ K') B D fe (some ((wh, nm', 0, []) :: V)) ∧ μ 103 0 = 0 ∧ μ 107 0 = 0) ∨ (lvl (tkf n t p) = 1 ∧ ER N n μ0 μ p (1, p))) := by
  refine ⟨rfl, ?_⟩
  obtain ⟨Cm, s, Wv, hs, hC, hW, hM, hcond⟩ := h
  have hlm : Cm.length ≤ 160 := by rw [hC] at hl; simp at hl; omega
  have ht := turn_4 (N := N) hM.2.1.2.2.1
  rcases hcond with h0 | ⟨h1, A, o, rfl, ho, hA⟩
  · obtain ⟨μ1, e1, h1⟩ := m_behind_end hN hT hs h0 hW (by omega) hM
    refine Or.inl ⟨h0, μ1, by rw [ht, e1], by rw [hC]; exact h1, hM.2.1.2.2.2.1, hM.2.1.2.2.2.2⟩
  · obtain ⟨μ1, e1, h2⟩ := m_behind_second hN hT hs h1 hA ho (W := []) (by omega) hM
    exact Or.inr ⟨h1, ER_one hM (by rw [ht, e1]) h2⟩
end AVS
