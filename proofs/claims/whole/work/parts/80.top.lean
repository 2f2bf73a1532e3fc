/-! functions, one after another: side by side -/
def cnt (fe : Nat → Option (Nat × Nat)) : Nat → Nat
  | 0 => 0
  | m + 1 => cnt fe m + if (fe m).isSome = true then 1 else 0
theorem cnt_new {fe : Nat → Option (Nat × Nat)} {f : Nat} {x : Nat × Nat} (h : fe f = none) : ∀ m, cnt (fun i => if i = f then some x else fe i) m = cnt fe m + if f < m then 1 else 0 := by
  intro m
  induction m with
  | zero => rfl
  | succ m ih =>
    show cnt _ m + _ = cnt fe m + _ + _
    rw [ih]
    by_cases hm : m = f
    · subst hm
      simp [h]
    · simp only [if_neg hm]
      by_cases h1 : f < m
      · rw [if_pos h1, if_pos (by omega : f < m + 1)]; omega
      · rw [if_neg h1, if_neg (by omega : ¬ f < m + 1)]; omega
def GT (ar : Nat → Option Nat) (C : List (Nat × Nat)) : Prop :=
  dpf ar 0 C = 0 ∧ ∀ k i, C[k]? = some i → iok ar C (fun _ => False) k i (dq ar C k) ∧ dq ar C k ≤ 30 ∧ ((i.1 = 45 ∨ i.1 = 46) → i.2 < C.length) ∧ (k + 1 < C.length ∨ i.1 = 0)
theorem GT_GD {ar : Nat → Option Nat} {C : List (Nat × Nat)} (h : GT ar C) : GD ar (fun _ => False) C 0 := ⟨h.1, fun k i hk => ⟨(h.2 k i hk).1, (h.2 k i hk).2.1⟩⟩
theorem GT_nil (ar : Nat → Option Nat) : GT ar [] := ⟨rfl, fun k i h => by simp at h⟩
theorem iok_tgt {ar : Nat → Option Nat} {C : List (Nat × Nat)} {k x : Nat} {i : Nat × Nat} (h : iok ar C (fun _ => False) k i x) (hi : i.1 = 45 ∨ i.1 = 46) : i.2 ≤ C.length := by
  rcases h with h | h | h | h | h | ⟨h1, h2, h3⟩ | ⟨h1, h2, h3⟩
  · unfold vok at h; omega
  · omega
  · omega
  · omega
  · omega
  · rcases h3 with h3 | h3
    · exact h3.elim
    · exact h3.2.1
  · rcases h3 with h3 | h3
    · exact h3.elim
    · exact h3.1
theorem GT_fn {ar : Nat → Option Nat} {C : List (Nat × Nat)} (h : GD ar (fun _ => False) C 0) : GT ar (C ++ [(33, 0), (0, 0)]) := by
  have e : C ++ [(33, 0), (0, 0)] = (C ++ [(33, 0)]) ++ [(0, 0)] := by simp
  have h1 : GD ar (fun _ => False) (C ++ [(33, 0)]) 1 := GD_val h (VT_one (Or.inl (Or.inl ⟨rfl, by decide⟩)) (by omega) rfl)
  have h2 : GD ar (fun _ => False) (C ++ [(33, 0), (0, 0)]) 0 := by rw [e]; exact GD_fin h1 (Or.inr (Or.inr ⟨Or.inr (Or.inr rfl), rfl⟩))
  refine ⟨h2.1, fun k i hk => ⟨(h2.2 k i hk).1, (h2.2 k i hk).2, fun hi => ?_, ?_⟩⟩
  · by_cases hkl : k < C.length
    · rw [List.getElem?_append_left hkl] at hk
      have := iok_tgt (h.2 k i hk).1 hi
      simp; omega
    · rw [List.getElem?_append_right (by omega)] at hk
      have hlt : k - C.length < 2 := get_lt hk
      rcases Nat.lt_or_ge (k - C.length) 1 with h0 | h0
      · rw [show k - C.length = 0 by omega] at hk
        simp at hk; subst hk; simp at hi
      · rw [show k - C.length = 1 by omega] at hk
        simp at hk; subst hk; simp at hi
  · have hkl := get_lt hk
    by_cases hkl2 : k + 1 < (C ++ [(33, 0), (0, 0)]).length
    · exact Or.inl hkl2
    · right
      simp at hkl hkl2
      rw [List.getElem?_append_right (by omega), show k - C.length = 1 by omega] at hk
      simp at hk; subst hk; rfl
def EI (C : List (Nat × Nat)) (fe : Nat → Option (Nat × Nat)) : Prop := ∀ f x, fe f = some x → f < 6 ∧ ((∃ a, C[x.1]? = some (32, a)) ∨ ∃ a b, C[x.1]? = some (33, a) ∧ C[x.1 + 1]? = some (0, b))
theorem EI_new {C S : List (Nat × Nat)} {fe : Nat → Option (Nat × Nat)} {f np : Nat} (hf : f < 6) (h : EI C fe) (hS : HD S) : EI (C ++ S ++ [(33, 0), (0, 0)]) (fun i => if i = f then some (C.length, np) else fe i) := by
  intro g x hg
  dsimp only at hg
  by_cases hgf : g = f
  · rw [if_pos hgf] at hg
    cases hg
    refine ⟨by omega, ?_⟩
    rcases hS with rfl | ⟨a, T, rfl⟩
    · right
      exact ⟨0, 0, by simp, by simp⟩
    · left
      exact ⟨a, by simp⟩
  · rw [if_neg hgf] at hg
    obtain ⟨h1, h2⟩ := h g x hg
    refine ⟨h1, ?_⟩
    rcases h2 with ⟨a, h2⟩ | ⟨a, b, h2, h3⟩
    · exact Or.inl ⟨a, get_app _ (get_app _ h2)⟩
    · exact Or.inr ⟨a, b, get_app _ (get_app _ h2), get_app _ (get_app _ h3)⟩
/-- what has been read so far fits -/
def TI (n : Nat) (t : Nat → Nat) (p : Nat) (C : List (Nat × Nat)) (cl : Nat → Option Nat) (K : List KF) (fe : Nat → Option (Nat × Nat)) (nf : Nat) : Prop :=
  C.length ≤ p ∧ KO (tkf n t) 0 p K ∧ CK (fun _ => none) cl K ∧ (∀ ar, AK ar K → GT ar C) ∧ EI C fe ∧ nf = cnt fe 6
section TOP
variable {N n : Nat} {t : Nat → Nat} {μ0 μ : St} {p : Nat} {C : List (Nat × Nat)} {K : List KF} {D : Int32 × Int32 × Int32} {fe : Nat → Option (Nat × Nat)} {cl : Nat → Option Nat} {nf : Nat}
theorem TI_NC (h : TI n t p C cl K fe nf) : NC cl p := NC_CK (p := 0) (fun _ _ => rfl) h.2.2.1 h.2.1
theorem sim_fn (hN : 200 ≤ N) (hT : HM n t μ0) (h9 : tkf n t p ≠ 999) (hI : TI n t p C cl K fe nf) (h : MX n μ0 μ p 0 C K [] D fe none) :
    (∃ x, pFn (tkf n t) (.ok (p, C, cl, fe, nf)) = .error x ∧ ER N n μ0 μ p x) ∨
    (∃ p' C' cl' K' fe' nf' j μ' D', pFn (tkf n t) (.ok (p, C, cl, fe, nf)) = .ok (p', C', cl', fe', nf') ∧ p < p' ∧ p' ≤ n ∧ TI n t p' C' cl' K' fe' nf' ∧ TR N j μ μ' ∧ j + p ≤ p' ∧ MX n μ0 μ' p' 0 C' K' [] D' fe' none) := by
  have hn := hT.1
  have hpn := h.2.1.2.1
  have hcl := TI_NC hI
  obtain ⟨i1, i2, i3, i4, i5, i6⟩ := hI
  have ht := turn_0 (N := N) h.2.1.2.2.1
  unfold pFn
  rw [pExp_ok]
  rcases m_fn hT h9 (by omega) h with ⟨a1, μ1, e1, d1⟩ | ⟨a1, a2, μ1, e1, d1⟩ | ⟨a1, a2, ⟨x, a3⟩, μ1, e1, d1⟩ | ⟨a1, a2, a3, a4, μ1, e1, d1⟩ | ⟨a1, a2, a3, a4, μ1, e1, h1, hp⟩
  · rw [if_neg a1]
    exact Or.inl ⟨(1, p), by simp [pFnB, now_e, pFail_e], ER_one h (by rw [ht, e1]) d1⟩
  · rw [if_pos a1]
    unfold pFnB
    rw [now_ok, if_neg (by omega)]
    exact Or.inl ⟨(1, p + 1), rfl, ER_one h (by rw [ht, e1]) d1⟩
  · rw [if_pos a1]
    unfold pFnB
    have hk : fknown (.ok (p + 1, C, cl, fe, nf)) (tkf n t (p + 1) - 52) = true := by
      show (fe _).isSome = true
      rw [a3]; rfl
    rw [now_ok, if_pos (by omega), if_pos hk]
    exact Or.inl ⟨(2, p + 1), rfl, ER_one h (by rw [ht, e1]) d1⟩
  · rw [if_pos a1]
    unfold pFnB
    have hk : ¬ fknown (.ok (p + 1, C, cl, fe, nf)) (tkf n t (p + 1) - 52) = true := by
      show ¬ (fe _).isSome = true
      rw [a3]; decide
    rw [now_ok, if_pos (by omega), if_neg hk, pNext_ok]
    unfold pSign
    rw [now_ok, if_neg (show ¬ (64 ≤ tkf n t (p + 1 + 1) ∧ tkf n t (p + 1 + 1) < 68) from fun hh => a4 ⟨hh.1, by have := hh.2; show tkf n t (p + 1 + 1) ≤ 67; omega⟩)]
    exact Or.inl ⟨(1, p + 2), rfl, ER_one h (by rw [ht, e1]) d1⟩
  · rw [if_pos a1]
    unfold pFnB
    have hk : ¬ fknown (.ok (p + 1, C, cl, fe, nf)) (tkf n t (p + 1) - 52) = true := by
      show ¬ (fe _).isSome = true
      rw [a3]; decide
    rw [now_ok, if_pos (by omega), if_neg hk, pNext_ok]
    unfold pSign
    rw [now_ok, if_pos (show 64 ≤ tkf n t (p + 1 + 1) ∧ tkf n t (p + 1 + 1) < 68 from ⟨a4.1, by have := a4.2; show tkf n t (p + 2) < 68; omega⟩), pNext_ok]
    obtain ⟨f, hf⟩ : ∃ f, f = tkf n t (p + 1) - 52 := ⟨_, rfl⟩
    obtain ⟨np, hnp⟩ : ∃ np, np = tkf n t (p + 2) - 64 := ⟨_, rfl⟩
    rw [← hf, ← hnp] at h1
    rw [← hf] at a3
    rw [← hf, show tkf n t (p + 1 + 1) - 64 = np from hnp.symm]
    unfold pBody
    show (∃ x, pAdd 0 0 (pAdd 33 0 (pB (tkf n t) 4 (.ok (p + 3, C, cl, (fun i => if i = f then some (C.length, np) else fe i), nf + 1)))) = .error x ∧ _) ∨ (∃ p' C' cl' K' fe' nf' j μ' D', pAdd 0 0 (pAdd 33 0 (pB (tkf n t) 4 (.ok (p + 3, C, cl, (fun i => if i = f then some (C.length, np) else fe i), nf + 1)))) = _ ∧ _)
    have tr1 : TR N 1 μ μ1 := TR_one h (by rw [ht, e1])
    have k2 := i2.2.2
    have hs := sim_B hN hT 3 0 rfl μ1 (p + 3) C K [] D (fun i => if i = f then some (C.length, np) else fe i) cl (nf + 1) 0 0 0 rfl (by omega) (by omega) (fun i hi => hcl i (by omega)) h1
    cases hr : pB (tkf n t) 4 (.ok (p + 3, C, cl, (fun i => if i = f then some (C.length, np) else fe i), nf + 1)) with
    | error x =>
      rw [hr] at hs
      exact Or.inl ⟨x, rfl, ER_trans tr1 (by omega) hs⟩
    | ok σ =>
      obtain ⟨p2, C2, cl2, fe2, nf2⟩ := σ
      rw [hr] at hs
      obtain ⟨rfl, rfl, S, K2, j2, μ2, rfl, r1, r2, r3, r4, r5, r6, r7, r8, r0, r9, D2, r10⟩ := hs
      have hl : (C ++ S).length + 3 ≤ p2 := by simp; omega
      obtain ⟨μ3, e3, h3, hp3⟩ := m_be_fn hT r9 (by omega) r10
      rw [show p2 - 1 + 1 = p2 by omega] at h3
      have trB : TR N 1 μ2 μ3 := TR_one r10 (by rw [turn_2 r10.2.1.2.2.1, e3])
      rw [pAdd_ok (by omega), pAdd_ok (by simp at hl ⊢; omega)]
      refine Or.inr ⟨p2, C ++ S ++ [(33, 0), (0, 0)], cl2, K ++ K2, _, nf + 1, 1 + j2 + 1, μ3, D2, by simp, by omega, r2, ⟨by simp at hl ⊢; omega, KO_app i2 (KO_mono r4 (by omega) (Nat.le_refl _)), CK_app i3 r5, fun ar hak => ?_, EI_new (by omega) i5 r0, ?_⟩, TR_trans (TR_trans tr1 r7) trB, by omega, h3⟩
      · obtain ⟨ak1, ak2⟩ := AK_app hak
        exact GT_fn (r6 ar ak2 _ (GT_GD (i4 ar ak1)))
      · rw [cnt_new a3, if_pos (by omega), i6]
theorem sim_top (hN : 200 ≤ N) (hT : HM n t μ0) : ∀ (k : Nat) (μ : St) (p : Nat) (C : List (Nat × Nat)) (cl : Nat → Option Nat) (K : List KF) (D : Int32 × Int32 × Int32) (fe : Nat → Option (Nat × Nat)) (nf : Nat), 160 ≤ k + p → TI n t p C cl K fe nf → MX n μ0 μ p 0 C K [] D fe none →
    (∃ x, pTopL (tkf n t) k (.ok (p, C, cl, fe, nf)) = .error x ∧ ER N n μ0 μ p x) ∨
    (∃ p' C' cl' K' fe' nf' j μ', pTopL (tkf n t) k (.ok (p, C, cl, fe, nf)) = .ok (p', C', cl', fe', nf') ∧ p' ≤ n ∧ TI n t p' C' cl' K' fe' nf' ∧ TR N j μ μ' ∧ j + p ≤ n + 1 ∧ DN μ0 μ' C' K' fe') := by
  have hn := hT.1
  have fin : ∀ (μ : St) (p : Nat) (C : List (Nat × Nat)) (cl : Nat → Option Nat) (K : List KF) (D : Int32 × Int32 × Int32) (fe : Nat → Option (Nat × Nat)) (nf : Nat), tkf n t p = 999 → TI n t p C cl K fe nf → MX n μ0 μ p 0 C K [] D fe none → ∃ p' C' cl' K' fe' nf' j μ', (Except.ok (p, C, cl, fe, nf) : RR) = .ok (p', C', cl', fe', nf') ∧ p' ≤ n ∧ TI n t p' C' cl' K' fe' nf' ∧ TR N j μ μ' ∧ j + p ≤ n + 1 ∧ DN μ0 μ' C' K' fe' := by
    intro μ p C cl K D fe nf h9 hI h
    obtain ⟨μ1, e1, d1⟩ := m_done hT h9 h
    have hpn := h.2.1.2.1
    exact ⟨p, C, cl, K, fe, nf, 1, μ1, rfl, hpn, hI, TR_one h (by rw [turn_0 h.2.1.2.2.1, e1]), by omega, d1⟩
  intro k
  induction k with
  | zero =>
    intro μ p C cl K D fe nf hk hI h
    have hpn := h.2.1.2.1
    exact Or.inr (fin μ p C cl K D fe nf (by unfold tkf; rw [if_neg (by omega)]) hI h)
  | succ k ih =>
    intro μ p C cl K D fe nf hk hI h
    have hstep : pTopL (tkf n t) (k + 1) (.ok (p, C, cl, fe, nf)) = if tkf n t p = 999 then .ok (p, C, cl, fe, nf) else pTopL (tkf n t) k (pFn (tkf n t) (.ok (p, C, cl, fe, nf))) := rfl
    rw [hstep]
    by_cases h9 : tkf n t p = 999
    · rw [if_pos h9]
      exact Or.inr (fin μ p C cl K D fe nf h9 hI h)
    · rw [if_neg h9]
      rcases sim_fn hN hT h9 hI h with ⟨x, e1, e2⟩ | ⟨p1, C1, cl1, K1, fe1, nf1, j, μ1, D1, e1, q1, q2, q3, q4, q5, q6⟩
      · rw [e1, pTopL_e]
        exact Or.inl ⟨x, rfl, e2⟩
      · rw [e1]
        rcases ih μ1 p1 C1 cl1 K1 D1 fe1 nf1 (by omega) q3 q6 with ⟨x, r1, r2⟩ | ⟨p', C', cl', K', fe', nf', j', μ', r1, r2, r3, r4, r5, r6⟩
        · exact Or.inl ⟨x, r1, ER_trans q4 q5 r2⟩
        · exact Or.inr ⟨p', C', cl', K', fe', nf', j + j', μ', r1, r2, r3, TR_trans q4 r4, by omega, r6⟩
end TOP
