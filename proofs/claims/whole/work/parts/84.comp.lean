/-! compile agrees -/
def opk (C : List (Nat × Nat)) (k : Nat) : Nat := ((C[k]?).getD (0, 0)).1
def agk (C : List (Nat × Nat)) (k : Nat) : Nat := ((C[k]?).getD (0, 0)).2
theorem opk_s {C : List (Nat × Nat)} {k : Nat} {i : Nat × Nat} (h : C[k]? = some i) : opk C k = i.1 := by unfold opk; rw [h]; rfl
theorem agk_s {C : List (Nat × Nat)} {k : Nat} {i : Nat × Nat} (h : C[k]? = some i) : agk C k = i.2 := by unfold agk; rw [h]; rfl
theorem dq_succ {ar : Nat → Option Nat} {C : List (Nat × Nat)} {k : Nat} {i : Nat × Nat} (h : C[k]? = some i) : dq ar C (k + 1) = nx ar i (dq ar C k) := by
  unfold dq
  have hk := get_lt h
  rw [List.take_succ, dpf_app, h]
  rfl
theorem iok_le {ar : Nat → Option Nat} {C : List (Nat × Nat)} {X : Nat → Prop} {k x : Nat} {i : Nat × Nat} (h : iok ar C X k i x) : i.1 ≤ 46 := by
  rcases h with h | h | h | h | h | h | h
  · unfold vok at h; omega
  · omega
  · omega
  · omega
  · omega
  · have := h.1; omega
  · have := h.1; omega
theorem WF_of {C : List (Nat × Nat)} {fe : Nat → Option (Nat × Nat)} (hl : C.length ≤ 160) (hG : GT (fun f => (fe f).map (fun x => x.2)) C) (hE : EI C fe) (hF : ∀ f x, fe f = some x → x.1 ≤ 160 ∧ x.2 ≤ 3) (h0 : ∃ en, fe 0 = some (en, 0)) : WF (opk C) (agk C) C.length fe (dq (fun f => (fe f).map (fun x => x.2)) C) := by
  obtain ⟨ar, har⟩ : ∃ ar : Nat → Option Nat, ar = fun f => (fe f).map (fun x => x.2) := ⟨_, rfl⟩
  rw [← har] at hG ⊢
  refine ⟨hl, fun k hk => ?_, fun k => ?_, fun f x hf => ?_, h0⟩
  · obtain ⟨i, hi⟩ : ∃ x, C[k]? = some x := ⟨C[k], by simp [hk]⟩
    obtain ⟨g1, g2, g3, g4⟩ := hG.2 k i hi
    have hs := dq_succ (ar := ar) hi
    rw [opk_s hi, agk_s hi]
    obtain ⟨o, a⟩ := i
    dsimp only at g3 g4 ⊢
    obtain ⟨x, hx⟩ : ∃ x, x = dq ar C k := ⟨_, rfl⟩
    rw [← hx] at g1 g2 hs
    unfold wfi
    rw [hs, ← hx]
    rcases g1 with ((h | h | h | h) | h | h | h | ⟨h, c, hc1, hc2⟩) | h | h | h | h | ⟨h1, h2, h3⟩ | ⟨h1, h2, h3⟩
    · dsimp only at h
      obtain ⟨rfl, h2⟩ := h
      exact Or.inr (Or.inl ⟨Or.inl ⟨rfl, h2⟩, by simp [nx], by omega⟩)
    · dsimp only at h
      subst h
      exact Or.inr (Or.inl ⟨Or.inr (Or.inl rfl), by simp [nx], by omega⟩)
    · dsimp only at h
      obtain ⟨rfl, h2⟩ := h
      exact Or.inr (Or.inl ⟨Or.inr (Or.inr (Or.inl ⟨rfl, h2⟩)), by simp [nx], by omega⟩)
    · dsimp only at h
      obtain ⟨rfl, h2⟩ := h
      exact Or.inr (Or.inl ⟨Or.inr (Or.inr (Or.inr ⟨rfl, h2⟩)), by simp [nx], by omega⟩)
    · dsimp only at h
      obtain ⟨rfl | rfl, h2⟩ := h
      · exact Or.inr (Or.inr (Or.inl ⟨Or.inl rfl, h2, by simp [nx], by omega⟩))
      · exact Or.inr (Or.inr (Or.inl ⟨Or.inr rfl, h2, by simp [nx], by omega⟩))
    · dsimp only at h
      obtain ⟨h1, h2⟩ := h
      refine Or.inr (Or.inr (Or.inr (Or.inl ⟨h1, h2, ?_, by omega⟩)))
      unfold nx
      dsimp only
      rw [if_neg (by omega), if_pos h1]
      omega
    · dsimp only at h
      obtain ⟨rfl, h2, h3⟩ := h
      exact Or.inr (Or.inr (Or.inr (Or.inr (Or.inl ⟨rfl, h2, h3, by simp [nx], by omega⟩))))
    · dsimp only at h hc1
      subst h
      refine Or.inr (Or.inr (Or.inr (Or.inr (Or.inr (Or.inr (Or.inr (Or.inr (Or.inr (Or.inr (Or.inl ⟨rfl, ?_, by omega⟩))))))))))
      have hc3 := hc1
      rw [har] at hc3
      dsimp only at hc3
      have hcase : (∃ x, fe a = some x) ∨ fe a = none := by cases fe a <;> simp
      rcases hcase with ⟨z, hz⟩ | hz
      · rw [hz] at hc3
        have hz2 : z.2 = c := by cases hc3; rfl
        refine ⟨z.1, c, by rw [hz, ← hz2], hc2, ?_⟩
        unfold nx
        dsimp only
        rw [if_neg (by decide), if_neg (by decide), if_pos rfl, hc1]
        show x + 1 - c + c = x + 1
        omega
      · rw [hz] at hc3; cases hc3
    · dsimp only at h
      obtain ⟨rfl, h2⟩ := h
      exact Or.inl ⟨rfl, h2, by rw [h2]; simp [nx], by omega⟩
    · dsimp only at h
      obtain ⟨rfl | rfl, h2, h3⟩ := h
      · exact Or.inr (Or.inr (Or.inr (Or.inr (Or.inr (Or.inl ⟨Or.inl rfl, h2, h3, by rw [h3]; simp [nx], by omega⟩)))))
      · exact Or.inr (Or.inr (Or.inr (Or.inr (Or.inr (Or.inl ⟨Or.inr rfl, h2, h3, by rw [h3]; simp [nx], by omega⟩)))))
    · dsimp only at h
      obtain ⟨rfl, h2, h3⟩ := h
      exact Or.inr (Or.inr (Or.inr (Or.inr (Or.inr (Or.inr (Or.inl ⟨rfl, h2, h3, by rw [h3]; simp [nx], by omega⟩))))))
    · dsimp only at h
      obtain ⟨rfl | rfl | rfl, h3⟩ := h
      · exact Or.inr (Or.inr (Or.inr (Or.inr (Or.inr (Or.inr (Or.inr (Or.inl ⟨Or.inl rfl, h3, by rw [h3]; simp [nx], by omega⟩)))))))
      · exact Or.inr (Or.inr (Or.inr (Or.inr (Or.inr (Or.inr (Or.inr (Or.inl ⟨Or.inr rfl, h3, by rw [h3]; simp [nx], by omega⟩)))))))
      · exact Or.inr (Or.inr (Or.inr (Or.inr (Or.inr (Or.inr (Or.inr (Or.inr (Or.inr (Or.inr (Or.inr ⟨rfl, h3⟩))))))))))
    · dsimp only at h1 h3
      subst h1
      rcases h3 with h3 | ⟨h3, h4, h5⟩
      · exact h3.elim
      · exact Or.inr (Or.inr (Or.inr (Or.inr (Or.inr (Or.inr (Or.inr (Or.inr (Or.inl ⟨rfl, h2, by rw [h2]; simp [nx], by omega, h3, g3 (Or.inr rfl), h5⟩))))))))
    · dsimp only at h1 h3
      subst h1
      rcases h3 with h3 | ⟨h3, h4, h5⟩
      · exact h3.elim
      · refine Or.inr (Or.inr (Or.inr (Or.inr (Or.inr (Or.inr (Or.inr (Or.inr (Or.inr (Or.inl ⟨rfl, h2, g3 (Or.inl rfl), h4, ?_⟩)))))))))
        rcases h5 with h5 | ⟨b, h5⟩
        · exact Or.inl h5
        · exact Or.inr (opk_s h5)
  · rcases Nat.lt_or_ge k C.length with hk | hk
    · obtain ⟨i, hi⟩ : ∃ x, C[k]? = some x := ⟨C[k], by simp [hk]⟩
      exact (hG.2 k i hi).2.1
    · unfold dq
      rw [List.take_of_length_le hk, hG.1]
      omega
  · obtain ⟨e1, e2⟩ := hE f x hf
    rcases e2 with ⟨a, e2⟩ | ⟨a, b, e2, e3⟩
    · refine ⟨e1, get_lt e2, ?_, (hF f x hf).2, Or.inl (opk_s e2)⟩
      rcases (hG.2 _ _ e2).1 with h1 | h1 | h1 | h1 | h1 | h1 | h1
      · unfold vok at h1; simp at h1
      · exact h1.2
      all_goals simp at h1
    · refine ⟨e1, get_lt e2, ?_, (hF f x hf).2, Or.inr ⟨opk_s e2, opk_s e3, get_lt e3⟩⟩
      have hs := dq_succ (ar := ar) e2
      have h2 : dq ar C (x.1 + 1) = 1 := by
        rcases (hG.2 _ _ e3).1 with h1 | h1 | h1 | h1 | h1 | h1 | h1
        · unfold vok at h1; simp at h1
        · simp at h1
        · simp at h1
        · simp at h1
        · exact h1.2
        · simp at h1
        · simp at h1
      rw [h2] at hs
      simp [nx] at hs
      omega
theorem FR_same {ν μ ν' μ' : St} {L : Nat} {dep : Nat → Nat} {rn a tp : Nat} {fl ra : Nat → Nat} (h : FR ν μ L dep rn a tp fl ra) (h1 : ∀ k, k = 231 ∨ k = 233 ∨ k = 232 ∨ k = 21 → ν' k = ν k) (h2 : ∀ k, k = 146 ∨ k = 138 ∨ k = 147 ∨ k = 28 ∨ k = 27 → μ' k = μ k) : FR ν' μ' L dep rn a tp fl ra := by
  unfold FR at *
  rw [h1 231 (by decide), h1 233 (by decide), h1 232 (by decide), h1 21 (by decide), h2 146 (by decide), h2 138 (by decide), h2 147 (by decide), h2 28 (by decide), h2 27 (by decide)]
  exact h
theorem PC_same {ν ν' : St} {op arg : Nat → Nat} {L : Nat} {e : Nat → Option (Nat × Nat)} (h : PCls ν op arg L e) (h1 : ∀ k, k = 9 ∨ k = 10 ∨ k = 11 ∨ k = 12 → ν' k = ν k) : PCls ν' op arg L e := by
  unfold PCls eC at *
  rw [h1 9 (by decide), h1 10 (by decide), h1 11 (by decide), h1 12 (by decide)]
  exact h
theorem PM_same {μ μ' : St} {op arg : Nat → Nat} {L : Nat} {e : Nat → Option (Nat × Nat)} (h : PMod μ op arg L e) (h1 : ∀ k, k = 4 ∨ k = 5 ∨ k = 8 ∨ k = 9 → μ' k = μ k) : PMod μ' op arg L e := by
  unfold PMod eM at *
  rw [h1 4 (by decide), h1 5 (by decide), h1 8 (by decide), h1 9 (by decide)]
  exact h
/-- rows that a text and its errors are read into do not matter -/
theorem Rel_text {j : Nat} {ν μ ν' μ' : St} (h : Rel j ν μ) (h1 : ∀ k, k ≠ 203 → k ≠ 204 → k ≠ 205 → k ≠ 13 → k ≠ 14 → k ≠ 184 → k ≠ 17 → k ≠ 15 → k ≠ 16 → k ≠ 185 → k ≠ 121 → ν' k = ν k) (h2 : ∀ k, prow k = false → k ≠ 100 → k ≠ 101 → μ' k = μ k) (e1 : ν' 121 0 = 0) (e2 : μ' 101 0 = 0) : Rel (j + 1) ν' μ' := by
  obtain ⟨hT, hK, hV, hP⟩ := h
  have c : ∀ k, (k = 8 ∨ k = 141 ∨ k = 142 ∨ k = 228 ∨ k = 229 ∨ k = 230 ∨ k = 231 ∨ k = 232 ∨ k = 233 ∨ k = 18 ∨ k = 19 ∨ k = 20 ∨ k = 21 ∨ k = 22 ∨ k = 23 ∨ k = 165 ∨ k = 9 ∨ k = 10 ∨ k = 11 ∨ k = 12) → ν' k = ν k := fun k hk => h1 k (by omega) (by omega) (by omega) (by omega) (by omega) (by omega) (by omega) (by omega) (by omega) (by omega) (by omega)
  have m : ∀ k, (k = 24 ∨ k = 140 ∨ k = 137 ∨ k = 141 ∨ k = 139 ∨ k = 146 ∨ k = 22 ∨ k = 23 ∨ k = 25 ∨ k = 26 ∨ k = 29 ∨ k = 117 ∨ k = 4 ∨ k = 5 ∨ k = 8 ∨ k = 9 ∨ k = 138 ∨ k = 147 ∨ k = 28 ∨ k = 27) → μ' k = μ k := fun k hk => h2 k (by rcases hk with rfl | rfl | rfl | rfl | rfl | rfl | rfl | rfl | rfl | rfl | rfl | rfl | rfl | rfl | rfl | rfl | rfl | rfl | rfl | rfl <;> rfl) (by omega) (by omega)
  refine ⟨⟨0, fun _ => 0, by decide, fun i hi => by omega, e1, e2, fun i hi => by omega⟩, RK_same hK (c 8 (by decide)) (c 141 (by decide)) (c 142 (by decide)) (m 24 (by decide)) (m 140 (by decide)), ?_, ?_⟩
  · refine RV_mono (i := j) (j := j + 1) (by omega) ?_
    unfold RV at *
    rw [c 228 (by decide), c 229 (by decide), c 230 (by decide), c 231 (by decide), c 18 (by decide), c 19 (by decide), c 23 (by decide), c 20 (by decide), c 22 (by decide), m 137 (by decide), m 141 (by decide), m 139 (by decide), m 146 (by decide), m 22 (by decide), m 23 (by decide), m 25 (by decide), m 26 (by decide), m 29 (by decide)]
    exact hV
  · obtain ⟨p1, p2⟩ := hP
    unfold RP
    rw [c 165 (by decide), c 228 (by decide), m 117 (by decide)]
    refine ⟨p1, ?_⟩
    rcases p2 with p2 | ⟨p2, op, arg, L, e, dep, q1, q2, q3, q4⟩
    · exact Or.inl p2
    · refine Or.inr ⟨p2, op, arg, L, e, dep, q1, PC_same q2 (fun k hk => c k (by omega)), PM_same q3 (fun k hk => m k (by omega)), fun hs => ?_⟩
      obtain ⟨rn, a, tp, fl, ra, q5⟩ := q4 hs
      exact ⟨rn, a, tp, fl, ra, FR_same q5 (fun k hk => c k (by omega)) (fun k hk => m k (by omega))⟩
theorem cnt_pos {fe : Nat → Option (Nat × Nat)} {x : Nat × Nat} (h : fe 0 = some x) : ∀ m, 1 ≤ cnt fe (m + 1) := by
  intro m
  induction m with
  | zero => show 1 ≤ 0 + _; rw [h]; exact Nat.le_refl 1
  | succ m ih => show 1 ≤ cnt fe (m + 1) + _; omega
theorem cnt_le (fe : Nat → Option (Nat × Nat)) : ∀ m, cnt fe m ≤ m := by
  intro m
  induction m with
  | zero => exact Nat.le_refl _
  | succ m ih => show cnt fe m + _ ≤ _; split <;> omega
set_option maxRecDepth 100000 in
theorem ok_compile {N j : Nat} (hN : 3000 ≤ N) {ν μ : St} (h : Rel j ν μ) : ∃ (r : Int32) (ν' μ' : St), f_S_compile N ν = some (r, ν') ∧ f_M_compile N μ = some (r, μ') ∧ Rel (j + 1) ν' μ' := by
  obtain ⟨⟨n, t, hn, ht, t1, t2, t3⟩, hK, hV, hP⟩ := id h
  obtain ⟨μ1, em1⟩ : ∃ z, z = st μ 100 0 (0 : Int32) := ⟨_, rfl⟩
  have hHM : HM n t μ1 := ⟨hn, ht, by rw [em1, st_ne (by decide)]; exact t2, fun i hi => by rw [em1, st_ne (by decide)]; exact (t3 i hi).2⟩
  have hHT : HT n t ν := ⟨hn, ht, t1, fun i hi => (t3 i hi).1⟩
  obtain ⟨hc, μ3, e3, h3⟩ := rd_text hN hHM
  obtain ⟨ν3, f3, g0, g3⟩ := g_fault (N := N) (by omega) hHT hc
  have hS : f_S_compile N ν = if ((-1000 : Int32) * (ν3 204 0)) - (ν3 205 0) = 0 then (ca (f_P_copy N (st ν3 121 0 0)) fun μ8 => ca (f_E_clear N μ8) fun μ10 => ca (f_P_functions μ10) fun x12 => some (x12, μ10)) else some (((-1000 : Int32) * (ν3 204 0)) - (ν3 205 0), st ν3 121 0 0) := by
    unfold f_S_compile
    rw [f3, ca2_s]
    rfl
  have hM : f_M_compile N μ = if ((st μ3 101 0 (0 : Int32)) 103 0) ≤ 0 then (lpk (cpA N) (fun _ _ => none) N (0 : Int32) (st (st μ3 101 0 (0 : Int32)) 117 0 (0 : Int32))) else some (((-1000 : Int32) * ((st μ3 101 0 (0 : Int32)) 103 0)) - ((st μ3 101 0 (0 : Int32)) 104 0), (st μ3 101 0 (0 : Int32))) := by
    rw [mcompile_eq, nm_eq, ← em1, e3, ca_s, nm_eq, nm_eq]
  rw [st_ne (by decide), st_ne (by decide)] at hM
  rw [hS, hM]
  cases hr : pAll (tkf n t) n with
  | error x =>
    rw [hr] at g3 h3
    obtain ⟨x1, x2, x3, x4, x5⟩ := g3
    obtain ⟨y1, y2, y3, -, -, -⟩ := h3
    rw [x1, x4, y2, y3]
    have hne : ¬ ((-1000 : Int32) * (nI x.1)) - (nI x.2) = 0 := by
      intro hh
      have h2 : (1000 : Int32) * nI x.1 + nI x.2 = 0 := by grind
      rw [show (1000 : Int32) = nI 1000 from rfl, pk_mul, nI_add] at h2
      have := (nI_eq (a := 1000 * x.1 + x.2) (b := 0) (by omega) (by decide)).mp h2
      omega
    rw [if_neg hne, if_neg (show ¬ nI x.1 ≤ (0 : Int32) from nI_ge (a := 0) (b := x.1) (by omega) (by omega))]
    refine ⟨_, _, _, rfl, rfl, Rel_text h (fun k k1 k2 k3 k4 k5 k6 k7 k8 k9 k10 k11 => by rw [st_ne' k11]; exact g0 k k1 k2 k3 k4 k5 k6 k7 k8 k9 k10) (fun k k1 k2 k3 => by rw [st_ne' k3, y1 k k1, em1, st_ne' k2]) (st_at _ _ _ _) (st_at _ _ _ _)⟩
  | ok σ =>
    obtain ⟨p', C, cl', fe, nf⟩ := σ
    rw [hr] at g3 h3
    obtain ⟨x1, x2, x3, x4⟩ := g3
    obtain ⟨K, ⟨d1, d2, d3, d4, d5, d6⟩, l1, l2, l3, ⟨en, l4⟩, l5, l6⟩ := h3
    rw [x1, x2, d2, if_pos (by decide), if_pos (show (0 : Int32) ≤ 0 by decide)]
    obtain ⟨ν4, e4, a1, a2, a3, a4⟩ := s_P_copy (N := N) (by omega) (st ν3 121 0 0)
    rw [e4, ca_s, s_E_clear (by omega), ca_s]
    obtain ⟨μ5, e5, b1, b2, b3⟩ := cpA_run (N := N) (μ := st (st μ3 101 0 (0 : Int32)) 117 0 (0 : Int32)) (fe := fe) (by omega) (mF_same d6 (fun k hk => by rw [st_ne' (by omega), st_ne' (by omega)])) (st_at _ _ _ _)
    obtain ⟨μ6, e6, c1, c2⟩ := cpB_run (N := N) (μ := μ5) (C := C) (K := K) (by omega) l1 (mC_same d4 (fun k hk => by rw [b1 k (by omega) (by omega) (by omega), st_ne' (by omega), st_ne' (by omega)])) (mK_same d5 (fun k hk => by rw [b1 k (by omega) (by omega) (by omega), st_ne' (by omega), st_ne' (by omega)])) l6 (fun k i hk => iok_le (l5.2 k i hk).1)
    rw [e5, e6]
    obtain ⟨νz, eνz⟩ : ∃ z, z = clrC ν4 := ⟨_, rfl⟩
    obtain ⟨μz, eμz⟩ : ∃ z, z = clrM (st μ6 137 0 0) := ⟨_, rfl⟩
    rw [← eνz, ← eμz]
    have cr : ∀ r, r ≠ 18 → r ≠ 19 → r ≠ 228 → r ≠ 229 → r ≠ 230 → r ≠ 231 → r ≠ 232 → r ≠ 233 → νz r = ν4 r := fun r g1 g2 g3 g4 g5 g6 g7 g8 => by rw [eνz]; simp [clrC, st, fil, g1, g2, g3, g4, g5, g6, g7, g8]
    have dr : ∀ r, r ≠ 22 → r ≠ 23 → r ≠ 139 → r ≠ 141 → r ≠ 146 → r ≠ 147 → r ≠ 137 → μz r = μ6 r := fun r g1 g2 g3 g4 g5 g6 g7 => by rw [eμz]; simp [clrM, st, fil, g1, g2, g3, g4, g5, g6, g7]
    have cn : ∀ k, (k = 8 ∨ k = 141 ∨ k = 142 ∨ k = 20 ∨ k = 22 ∨ k = 23) → νz k = ν k := fun k hk => by
      rw [cr k (by omega) (by omega) (by omega) (by omega) (by omega) (by omega) (by omega) (by omega), a1 k (by omega) (by omega) (by omega) (by omega) (by omega) (by omega), st_ne' (by omega)]
      exact g0 k (by omega) (by omega) (by omega) (by omega) (by omega) (by omega) (by omega) (by omega) (by omega) (by omega)
    have mn : ∀ k, (k = 24 ∨ k = 140 ∨ k = 25 ∨ k = 26 ∨ k = 29) → μz k = μ k := fun k hk => by
      rw [dr k (by omega) (by omega) (by omega) (by omega) (by omega) (by omega) (by omega), c1 k (by omega) (by omega), b1 k (by omega) (by omega) (by omega), st_ne' (by omega), st_ne' (by omega), d1 k (by rcases hk with rfl | rfl | rfl | rfl | rfl <;> rfl), em1, st_ne' (by omega)]
    have hnf : νz 165 0 = nI (cnt fe 6) := by
      rw [cr 165 (by decide) (by decide) (by decide) (by decide) (by decide) (by decide) (by decide) (by decide), a4, st_ne (by decide), x4.2.2, l3]
    have hmf : μz 117 0 = nI (cnt fe 6) := by
      rw [dr 117 (by decide) (by decide) (by decide) (by decide) (by decide) (by decide) (by decide), c1 117 (by decide) (by decide), b3]
    have hp1 : 1 ≤ cnt fe 6 := cnt_pos l4 5
    have hp2 := cnt_le fe 6
    refine ⟨νz 165 0, νz, μz, rfl, by rw [hmf, hnf], ?_, RK_same hK (cn 8 (by decide)) (cn 141 (by decide)) (cn 142 (by decide)) (mn 24 (by decide)) (mn 140 (by decide)), ?_, by rw [hnf, hmf], Or.inr ⟨?_, opk C, agk C, C.length, fe, _, WF_of l1 l5 l2 d6.2 ⟨en, l4⟩, ⟨fun k hk => ?_, fun f hf => ?_⟩, ⟨fun k hk => ?_, fun f hf => ?_⟩, fun hh => ?_⟩⟩
    · refine ⟨0, fun _ => 0, by decide, fun i hi => by omega, ?_, ?_, fun i hi => by omega⟩
      · rw [cr 121 (by decide) (by decide) (by decide) (by decide) (by decide) (by decide) (by decide) (by decide), a1 121 (by decide) (by decide) (by decide) (by decide) (by decide) (by decide), st_at]; rfl
      · rw [dr 101 (by decide) (by decide) (by decide) (by decide) (by decide) (by decide) (by decide), c1 101 (by decide) (by decide), b1 101 (by decide) (by decide) (by decide), st_ne (by decide), st_at]; rfl
    · obtain ⟨sv, B, S, rn, -, -, -, -, -, -, -, -, -, -, -, -, -, -, r3, r4, r5⟩ := hV
      refine ⟨0, 0, 0, 0, by decide, by omega, by omega, by decide, ?_, ?_, ?_, ?_, ?_, ?_, ?_, ?_, ?_, ?_, ?_, ?_, ?_⟩
      · rw [eνz]; simp [clrC, st, upd]; rfl
      · rw [eμz]; simp [clrM, st, upd, fil]; rfl
      · rw [eνz]; simp [clrC, st, upd]; rfl
      · rw [eμz]; simp [clrM, st, upd]; rfl
      · rw [eνz]; simp [clrC, st, upd]; rfl
      · rw [eμz]; simp [clrM, st, upd]; rfl
      · rw [eνz]; simp [clrC, st, upd]; rfl
      · rw [eμz]; simp [clrM, st, upd]; rfl
      · intro i hi
        rw [eνz, eμz]; simp [clrC, clrM, st, fil, hi]
      · intro i hi
        rw [eνz, eμz]; simp [clrC, clrM, st, fil, hi]
      · rw [cn 23 (by decide), mn 25 (by decide)]; exact r3
      · rw [cn 20 (by decide), mn 26 (by decide)]; exact r4
      · rw [cn 22 (by decide), mn 29 (by decide)]; exact r5
    · rw [hnf]
      intro hh
      have := (nI_eq (a := cnt fe 6) (b := 0) (by omega) (by decide)).mp hh
      omega
    · obtain ⟨i, hi⟩ : ∃ x, C[k]? = some x := ⟨C[k], by simp [hk]⟩
      obtain ⟨o, a⟩ := i
      rw [cr 9 (by decide) (by decide) (by decide) (by decide) (by decide) (by decide) (by decide) (by decide), cr 10 (by decide) (by decide) (by decide) (by decide) (by decide) (by decide) (by decide) (by decide), (a2 k (by omega)).1, (a2 k (by omega)).2, st_ne (by decide), st_ne (by decide), opk_s hi, agk_s hi]
      exact x3.2.2 k o a hi
    · have hd := x4.1 f hf
      unfold eC
      unfold eD at hd
      rw [cr 11 (by decide) (by decide) (by decide) (by decide) (by decide) (by decide) (by decide) (by decide), cr 12 (by decide) (by decide) (by decide) (by decide) (by decide) (by decide) (by decide) (by decide), (a3 f hf).1, (a3 f hf).2, st_ne (by decide), st_ne (by decide)]
      exact hd
    · obtain ⟨i, hi⟩ : ∃ x, C[k]? = some x := ⟨C[k], by simp [hk]⟩
      obtain ⟨o, a⟩ := i
      rw [dr 4 (by decide) (by decide) (by decide) (by decide) (by decide) (by decide) (by decide), dr 5 (by decide) (by decide) (by decide) (by decide) (by decide) (by decide) (by decide), opk_s hi, agk_s hi]
      exact c2 k o a hi
    · have hd := d6.1 f hf
      unfold eM
      unfold mE at hd
      rw [dr 8 (by decide) (by decide) (by decide) (by decide) (by decide) (by decide) (by decide), dr 9 (by decide) (by decide) (by decide) (by decide) (by decide) (by decide) (by decide), c1 8 (by decide) (by decide), c1 9 (by decide) (by decide), (b2 f hf).1, (b2 f hf).2, st_ne (by decide), st_ne (by decide), st_ne (by decide), st_ne (by decide)]
      have hcase : (∃ x, fe f = some x) ∨ fe f = none := by cases fe f <;> simp
      rcases hcase with ⟨x, hx⟩ | hx
      · rw [hx] at hd ⊢; exact hd
      · rw [hx]; trivial
    · exfalso
      have h228 : νz 228 0 = 0 := by rw [eνz]; simp [clrC, st, upd]
      rw [h228] at hh
      exact absurd hh (by decide)
