/-! calls of the reference; the steps call and leave -/
theorem up_args (b t : Nat) : ∀ d i μ, (∀ j, (up (fun i μ => st μ 26 (b + i) (μ 29 (t + i))) i d μ) 26 j = if b + i ≤ j ∧ j < b + i + d then μ 29 (t + (j - b)) else μ 26 j) ∧ ∀ k, k ≠ 26 → (up (fun i μ => st μ 26 (b + i) (μ 29 (t + i))) i d μ) k = μ k := by
  intro d
  induction d with
  | zero => intro i μ; exact ⟨fun j => by rw [if_neg (by omega)]; rfl, fun k _ => rfl⟩
  | succ d ih =>
    intro i μ
    have h := ih (i + 1) (st μ 26 (b + i) (μ 29 (t + i)))
    refine ⟨fun j => ?_, fun k hk => ?_⟩
    · show (up _ (i + 1) d (st μ 26 (b + i) (μ 29 (t + i)))) 26 j = _
      rw [h.1 j, st_row, st_ne' (by decide)]
      by_cases hj : j = b + i
      · subst hj
        rw [if_neg (by omega), if_pos (by omega), pk_us]
        congr 2
        omega
      · rw [pk_un hj]
        by_cases hc : b + (i + 1) ≤ j ∧ j < b + (i + 1) + d
        · rw [if_pos hc, if_pos (by omega)]
        · rw [if_neg hc, if_neg (by omega)]
    · show (up _ (i + 1) d (st μ 26 (b + i) (μ 29 (t + i)))) k = _
      rw [h.2 k hk, st_ne' hk]
theorem s_M_calls {N : Nat} (hN : 100 ≤ N) {μ : St} {rn tp t np fi en : Nat} (h1 : μ 146 0 = nI rn) (hr : rn < 10) (h2 : μ 147 0 = nI tp) (ht : tp = t + np) (htb : tp < 500) (hf : fi < 6) (h3 : μ 9 fi = nI np) (hnp : np ≤ 3) (h4 : μ 8 fi = nI en) :
    ∃ μ', f_M_calls N (nI fi) μ = some μ' ∧ μ' 146 0 = nI (rn + 1) ∧ μ' 147 0 = nI t ∧ μ' 138 0 = nI en ∧ (∀ j, μ' 26 j = if 8 * rn ≤ j ∧ j < 8 * rn + np then μ 29 (t + (j - 8 * rn)) else if 8 * rn ≤ j ∧ j < 8 * rn + 8 then 0 else μ 26 j) ∧ (∀ j, μ' 27 j = if j = rn then μ 138 0 else μ 27 j) ∧ (∀ j, μ' 28 j = if j = rn then nI t else μ 28 j) ∧ ∀ r, r ≠ 146 → r ≠ 147 → r ≠ 138 → r ≠ 26 → r ≠ 27 → r ≠ 28 → μ' r = μ r := by
  have hne : ¬ nI rn = (10 : Int32) := fun hh => by have := (nI_eq (a := rn) (b := 10) (by omega) (by decide)).mp hh; omega
  have e4 : nI tp - nI np = nI t := by rw [pk_sub (by omega), ht, Nat.add_sub_cancel]
  obtain ⟨μ5, hμ5⟩ : ∃ z, z = st μ 147 0 (nI t) := ⟨_, rfl⟩
  have g1 : μ5 146 0 = nI rn := by rw [hμ5, st_ne (by decide)]; exact h1
  have g2 : μ5 147 0 = nI t := by rw [hμ5]; exact st_at _ _ _ _
  have g3 : ∀ r, r ≠ 147 → μ5 r = μ r := fun r h => by rw [hμ5, st_ne' h]
  obtain ⟨μ7, hμ7⟩ : ∃ z, z = entM μ5 rn t fi (μ5 138 0) := ⟨_, rfl⟩
  have q1 : μ7 146 0 = nI (rn + 1) := by rw [hμ7]; simp [entM, st, upd]
  have q2 : ∀ r, r ≠ 138 → r ≠ 146 → r ≠ 26 → r ≠ 28 → r ≠ 27 → μ7 r = μ5 r := fun r a b c d f => by rw [hμ7]; simp [entM, st, fil, a, b, c, d, f]
  have q3 : μ7 138 0 = nI en := by rw [hμ7]; simp [entM, st, upd, g3 8 (by decide), h4]
  have q4 : ∀ j, μ7 26 j = if 8 * rn ≤ j ∧ j < 8 * rn + 8 then 0 else μ 26 j := fun j => by rw [hμ7]; simp [entM, st, fil, g3 26 (by decide)]
  have q5 : ∀ j, μ7 27 j = if j = rn then μ 138 0 else μ 27 j := fun j => by rw [hμ7]; simp [entM, st, fil, upd, g3 27 (by decide), g3 138 (by decide)]
  have q6 : ∀ j, μ7 28 j = if j = rn then nI t else μ 28 j := fun j => by rw [hμ7]; simp [entM, st, fil, upd, g3 28 (by decide)]
  obtain ⟨s1, s2⟩ := up_args (8 * rn) t np 0 μ7
  refine ⟨up (fun i μ => st μ 26 (8 * rn + i) (μ 29 (t + i))) 0 np μ7, ?_, by rw [s2 146 (by decide)]; exact q1, by rw [s2 147 (by decide), q2 147 (by decide) (by decide) (by decide) (by decide) (by decide)]; exact g2, by rw [s2 138 (by decide)]; exact q3, fun j => ?_, fun j => by rw [s2 27 (by decide)]; exact q5 j, fun j => by rw [s2 28 (by decide)]; exact q6 j, fun r a b c d f g => by rw [s2 r d, q2 r c a d g f, g3 r b]⟩
  · unfold f_M_calls
    rw [h1, if_neg hne, gd_i (inb_nI hf (by decide)), nm_eq, cl_nI (n := fi) (by omega), h3, h2, e4, nm_eq, nm_eq, ← hμ5, s_M_enter hN (rn := rn) (tp := t) _ g1 hr g2 hf, ca_s, ← hμ7]
    refine (loop_x (m := np) (step := fun i μ => st μ 26 (8 * rn + i) (μ 29 (t + i))) (ok := fun _ μ => μ 146 0 = nI (rn + 1)) ?_ (fun i μ _ h => by show st μ 26 _ _ 146 0 = _; rw [st_ne (by decide)]; exact h) ?_ N μ7 (by omega) q1).trans ?_
    · intro kk i μ hi ho
      try dsimp only
      rw [if_neg (nI_ge hi (by omega)), nI_add, gd_i (inb_nI (by omega) (by decide)), nm_eq, ho, nI_pred, show (8 : Int32) * nI rn + nI i = nI (8 * rn + i) from by rw [show (8 : Int32) = nI 8 from rfl, pk_mul, nI_add], gd_i (inb_nI (by omega) (by decide)), nm_eq, nm_eq, cl_nI (by omega), cl_nI (by omega), nI_1]
    · intro kk μ _
      try dsimp only
      rw [if_pos (nI_le (Nat.le_refl _) (by omega)), if_pos (nI_le (Nat.le_refl _) (by omega))]
    · try dsimp only
      rw [if_pos (nI_le (Nat.le_refl _) (by omega))]
  · rw [s1 j, Nat.add_zero, q2 29 (by decide) (by decide) (by decide) (by decide) (by decide), g3 29 (by decide), q4 j]
theorem sm_congr {f g : Nat → Nat} : ∀ n, (∀ i, i < n → f i = g i) → sm f n = sm g n := by
  intro n
  induction n with
  | zero => intro _; rfl
  | succ n ih => intro h; show sm f n + f n = sm g n + g n; rw [ih (fun i hi => h i (by omega)), h n (by omega)]
section OPS5
variable {op arg : Nat → Nat} {L : Nat} {e : Nat → Option (Nat × Nat)} {dep : Nat → Nat} {N : Nat} {ν μ : St} {B S rn a tp : Nat} {fl ra : Nat → Nat}
theorem go_42 (hN : 100 ≤ N) (hW : WF op arg L e dep) (hC : CORE op arg L e ν μ B S 1 rn) (hF : FR ν μ L dep rn a tp fl ra) (ho : op a = 42) {en np : Nat} (he : e (arg a) = some (en, np)) (hnp : np ≤ dep a) (hd : dep (a + 1) + np = dep a + 1) (ha : a + 1 < L) : GO op arg L e dep N ν μ B S rn a ra 42 := by
  obtain ⟨h1, h2, h3, h4, h5, h6⟩ := at_1 hW hC hF
  have hr := hC.2.2.2.2.2.1
  have hSS := hC.2.2.2.2.2.2.2.1
  obtain ⟨w1, w2, w3, w4, w5⟩ := hW.2.2.2.1 _ _ he
  have hf : arg a < 6 := w1
  have pc := hC.2.2.1.2 _ hf
  have pm := hC.2.2.2.1.2 _ hf
  rw [he] at pc pm
  obtain ⟨pc1, pc2⟩ : ν 11 (arg a) = nI en ∧ ν 12 (arg a) = nI (np + 1) := pc
  obtain ⟨pm1, pm2⟩ : μ 8 (arg a) = nI en ∧ μ 9 (arg a) = nI np := pm
  have hF0 := hF
  obtain ⟨f1, f2, f3, f4, f5, f6, f7, f8, f9, f10, f11, f12, f13⟩ := hF
  have ex : f_E_act N (nI 42) (nI (arg a)) (st ν 233 0 (nI (a + 1))) = ca (f_E_call N (nI (arg a)) (st ν 233 0 (nI (a + 1)))) fun x => some x := by rw [show nI 42 = (42 : Int32) from rfl, A_42]
  have ey : f_M_does N (nI (mop 42)) (μ 5 a) (st μ 138 0 (nI (a + 1))) = ca (f_M_calls N (nI (arg a)) (st μ 138 0 (nI (a + 1)))) fun x => some x := by
    rw [show nI (mop 42) = (7 : Int32) from rfl, h6 (by rw [ho]; rfl)]
    unfold f_M_does
    rw [nm_eq, if_neg (by decide), if_neg (by decide), if_neg (by decide), if_neg (by decide), if_neg (by decide), if_neg (by decide), if_neg (by decide), if_pos rfl]
  have v1 : (st ν 233 0 (nI (a + 1))) 231 0 = nI rn := by simp [st, f1]
  have v2 : (st μ 138 0 (nI (a + 1))) 146 0 = nI rn := by simp [st, f2]
  by_cases h10 : rn = 10
  · subst h10
    refine ⟨st (st ν 233 0 (nI (a + 1))) 228 0 6, st (st μ 138 0 (nI (a + 1))) 137 0 6, ?_, ?_, out_end (sv := 6) hC hF0 ⟨by omega, by omega⟩ (fun k _ _ h3 h4 => by simp [st, h3, h4]) (fun k _ _ h3 h4 => by simp [st, h3, h4]) (by simp [st]; exact h5) ⟨st_at _ _ _ _, st_at _ _ _ _⟩ _⟩
    · rw [ex]
      unfold f_E_call
      rw [v1, if_neg (by decide), nm_eq, ca_s]
    · rw [ey]
      unfold f_M_calls
      rw [v2, if_pos (by decide), nm_eq, ca_s]
  · obtain ⟨t, rfl⟩ : ∃ t, tp = t + np := ⟨tp - np, by omega⟩
    obtain ⟨ν', e1, e2, e3, e4, e5, e6, e7⟩ := s_E_enter hN (ν := st ν 233 0 (nI (a + 1))) (rn := rn) (t := t) (np := np) (fi := arg a) (en := en) v1 (by omega) h1 rfl (by omega) hf (by simp [st, pc2]) w4 (by simp [st, pc1])
    obtain ⟨μ', m1, m2, m3, m4, m5, m6, m7, m8⟩ := s_M_calls hN (μ := st μ 138 0 (nI (a + 1))) (rn := rn) (t := t) (np := np) (fi := arg a) (en := en) v2 (by omega) h2 rfl (by omega) hf (by simp [st, pm2]) w4 (by simp [st, pm1])
    have hlt : nI rn < 10 := nI_lt (b := 10) (by omega) (by decide)
    obtain ⟨fl2, hfl2⟩ : ∃ z : Nat → Nat, ∀ i, z i = if i = rn then t else fl i := ⟨fun i => if i = rn then t else fl i, fun _ => rfl⟩
    obtain ⟨ra2, hra2⟩ : ∃ z : Nat → Nat, ∀ i, z i = if i = rn then a + 1 else ra i := ⟨fun i => if i = rn then a + 1 else ra i, fun _ => rfl⟩
    refine ⟨ν', μ', ?_, ?_, 1, S, rn + 1, by decide, by decide, by omega, by omega, ?_, fun _ => ⟨en, t, fl2, ra2, ?_, fun _ => ?_⟩⟩
    · rw [ex]
      unfold f_E_call
      rw [v1, if_pos hlt, e1, ca_s, ca_s]
    · rw [ey, m1, ca_s]
    · refine core_upd hC (fun k hk => by have : k ≠ 231 ∧ k ≠ 232 ∧ k ≠ 233 ∧ k ≠ 20 ∧ k ≠ 21 := (by omega); rw [e7 k this.1 this.2.1 this.2.2.1 this.2.2.2.1 this.2.2.2.2, st_ne' this.2.2.1]) (fun k hk => by have : k ≠ 146 ∧ k ≠ 147 ∧ k ≠ 138 ∧ k ≠ 26 ∧ k ≠ 27 ∧ k ≠ 28 := (by omega); rw [m8 k this.1 this.2.1 this.2.2.1 this.2.2.2.1 this.2.2.2.2.1 this.2.2.2.2.2, st_ne' this.2.2.1]) ?_ ?_ ?_ ⟨e2, m2⟩ ?_
      · exact RK_same hC.2.1 (by rw [e7 8 (by decide) (by decide) (by decide) (by decide) (by decide)]; simp [st]) (by rw [e7 141 (by decide) (by decide) (by decide) (by decide) (by decide)]; simp [st]) (by rw [e7 142 (by decide) (by decide) (by decide) (by decide) (by decide)]; simp [st]) (by rw [m8 24 (by decide) (by decide) (by decide) (by decide) (by decide) (by decide)]; simp [st]) (by rw [m8 140 (by decide) (by decide) (by decide) (by decide) (by decide) (by decide)]; simp [st])
      · rw [e7 18 (by decide) (by decide) (by decide) (by decide) (by decide), e7 19 (by decide) (by decide) (by decide) (by decide) (by decide), e7 23 (by decide) (by decide) (by decide) (by decide) (by decide), e7 22 (by decide) (by decide) (by decide) (by decide) (by decide), m8 22 (by decide) (by decide) (by decide) (by decide) (by decide) (by decide), m8 23 (by decide) (by decide) (by decide) (by decide) (by decide) (by decide), m8 25 (by decide) (by decide) (by decide) (by decide) (by decide) (by decide), m8 29 (by decide) (by decide) (by decide) (by decide) (by decide) (by decide)]
        refine ⟨by simp [st]; exact hr.1, by simp [st]; exact hr.2.1, by simp [st]; exact hr.2.2.1, fun j hj => ?_, by simp [st]; exact hr.2.2.2.2⟩
        rw [e5 j, m5 j]
        by_cases c1 : 8 * rn ≤ j ∧ j < 8 * rn + np
        · rw [if_pos c1, if_pos c1, st_ne (by decide), st_ne (by decide)]
          exact h5 _ (by omega)
        · rw [if_neg c1, if_neg c1]
          by_cases c2 : 8 * rn ≤ j ∧ j < 8 * rn + 8
          · rw [if_pos c2, if_pos c2]
          · rw [if_neg c2, if_neg c2, st_ne (by decide), st_ne (by decide)]
            exact hr.2.2.2.1 j hj
      · rw [e7 230 (by decide) (by decide) (by decide) (by decide) (by decide), m8 139 (by decide) (by decide) (by decide) (by decide) (by decide) (by decide)]; simp [st, hSS]
      · rw [e7 228 (by decide) (by decide) (by decide) (by decide) (by decide), m8 137 (by decide) (by decide) (by decide) (by decide) (by decide) (by decide)]; simp [st, hC.2.2.2.2.2.2.2.2.2]
    · refine ⟨e2, m2, by omega, by omega, e4, m4, w2, e3, m3, ?_, ?_, fun i hi => ?_, fun i g1 g2 => ?_⟩
      · rw [Nat.add_sub_cancel, hfl2, if_pos rfl, w3]
        rfl
      · rw [hfl2, if_neg (by omega)]; exact f11
      · rw [m7 i, hfl2]
        by_cases hi2 : i = rn
        · rw [if_pos hi2, if_pos hi2]
        · rw [if_neg hi2, if_neg hi2, st_ne (by decide)]
          exact f12 i (by omega)
      · by_cases hi2 : i = rn
        · subst hi2
          rw [hra2, hfl2, hfl2, if_pos rfl, if_pos rfl, if_neg (by omega), e6, m6, if_pos rfl, if_pos rfl]
          exact ⟨ha, st_at _ _ _ _, st_at _ _ _ _, by omega⟩
        · have := f13 i g1 (by omega)
          rw [hra2, hfl2, hfl2, if_neg hi2, if_neg hi2, if_neg (by omega), e6, m6, if_neg hi2, if_neg hi2, st_ne (by decide), st_ne (by decide)]
          exact this
    · unfold psi
      have hs : sm (fun i => if i = 0 then 0 else 3 * (L - ra2 i)) (rn + 1) = sm (fun i => if i = 0 then 0 else 3 * (L - ra i)) rn + 3 * (L - (a + 1)) := by
        show sm _ rn + (if rn = 0 then 0 else 3 * (L - ra2 rn)) = _
        rw [if_neg (by omega), hra2, if_pos rfl]
        congr 1
        exact sm_congr rn (fun i hi => by rw [hra2, if_neg (show ¬ i = rn by omega)])
      have hl : loc op L en ≤ 2 := by
        unfold loc
        rcases w5 with w5 | ⟨w5, w6, w7⟩
        · rw [if_pos w5]; omega
        · rw [if_neg (by have : op en = 33 := w5; omega), if_neg (by have : op en = 33 := w5; omega), if_pos ⟨w5, w6⟩]
          omega
      have hl2 : loc op L a = 3 * (L - a) := by
        unfold loc
        rw [if_neg (by omega), if_neg (by omega), if_neg (by omega)]
      omega
theorem go_0 (hW : WF op arg L e dep) (hC : CORE op arg L e ν μ B S 1 rn) (hF : FR ν μ L dep rn a tp fl ra) (ho : op a = 0) (hd1 : dep a = 1) : GO op arg L e dep N ν μ B S rn a ra 0 := by
  obtain ⟨h1, h2, h3, h4, h5, h6⟩ := at_1 hW hC hF
  have hr := hC.2.2.2.2.2.1
  have hSS := hC.2.2.2.2.2.2.2.1
  have hfl := fl_le hW.2.2.1 hF
  obtain ⟨f1, f2, f3, f4, f5, f6, f7, f8, f9, f10, f11, f12, f13⟩ := hF
  obtain ⟨m, rfl⟩ : ∃ m, rn = m + 1 := ⟨rn - 1, by omega⟩
  rw [Nat.add_sub_cancel] at h4 f10
  obtain ⟨q, hq⟩ : ∃ q, q = fl m := ⟨_, rfl⟩
  obtain rfl : tp = q + 1 := by omega
  have hx : ν 22 q = μ 29 q := h5 q (by omega)
  have hfm := f12 m (by omega)
  have ex : f_E_act N (nI 0) (nI (arg a)) (st ν 233 0 (nI (a + 1))) = ca (f_E_leave (st ν 233 0 (nI (a + 1)))) fun x => some x := A_0 N _ _
  have ey : f_M_does N (nI (mop 0)) (μ 5 a) (st μ 138 0 (nI (a + 1))) = ca (f_M_returns (st μ 138 0 (nI (a + 1)))) fun x => some x := by
    rw [show nI (mop 0) = (15 : Int32) from rfl]
    unfold f_M_does
    rw [nm_eq, if_neg (by decide), if_neg (by decide), if_neg (by decide), if_neg (by decide), if_neg (by decide), if_neg (by decide), if_neg (by decide), if_neg (by decide), if_neg (by decide), if_neg (by decide), if_neg (by decide), if_neg (by decide), if_neg (by decide), if_neg (by decide), if_pos rfl]
  have v1 : (st (st ν 233 0 (nI (a + 1))) 232 0 (nI q)) 231 0 - 1 = nI m := by rw [st_ne (by decide), st_ne (by decide), f1, nI_pred]
  have v2 : (st (st μ 138 0 (nI (a + 1))) 147 0 (nI q)) 146 0 - 1 = nI m := by rw [st_ne (by decide), st_ne (by decide), f2, nI_pred]
  by_cases hm : m = 0
  · subst hm
    refine ⟨st (st (st (st (st ν 233 0 (nI (a + 1))) 232 0 (nI q)) 231 0 (nI 0)) 231 0 0) 228 0 3, st (st (st (st (st μ 138 0 (nI (a + 1))) 147 0 (nI q)) 146 0 (nI 0)) 147 0 (nI q)) 137 0 3, ?_, ?_, 3, S, 0, by decide, by decide, by decide, by omega, ?_, fun h => by omega⟩
    · rw [ex]
      unfold f_E_leave
      rw [s_E_pop h1 (by omega), ca2_s, nm_eq, v1, jn_eq, st_at, if_pos (by decide), nm_eq, nm_eq, ca_s]
    · rw [ey]
      unfold f_M_returns
      rw [s_M_pop h2 (by omega), ca2_s, nm_eq, v2, st_at, gd_i (by decide), nm_eq, nm_eq, show (st (st (st μ 138 0 (nI (a + 1))) 147 0 (nI q)) 146 0 (nI 0)) 28 (nI 0).toNatClampNeg = nI q from by rw [show (nI 0).toNatClampNeg = 0 from rfl]; simp [st, hfm, hq], st_ne (by decide), st_at, if_pos (by decide), nm_eq, ca_s]
    · refine core_upd hC (fun k hk => by have : k ≠ 233 ∧ k ≠ 232 ∧ k ≠ 231 ∧ k ≠ 228 := (by omega); simp [st, this]) (fun k hk => by have : k ≠ 138 ∧ k ≠ 147 ∧ k ≠ 146 ∧ k ≠ 137 := (by omega); simp [st, this]) (RK_same hC.2.1 (by simp [st]) (by simp [st]) (by simp [st]) (by simp [st]) (by simp [st])) (by simp [st]; exact hr) (by simp [st, hSS]) ⟨by simp [st, upd]; rfl, by simp [st, upd]⟩ ⟨by simp [st, upd]; rfl, by simp [st, upd]; rfl⟩
  · have hm0 : ¬ nI m ≤ 0 := nI_nle (by omega) (by omega)
    have hmz : ¬ nI m = 0 := nI_ne0 (by omega) (by omega)
    have hm10 : ¬ (10 : Int32) ≤ nI m := nI_ge (b := 10) (by omega) (by decide)
    have fm := f13 m (by omega) (by omega)
    obtain ⟨ν2, hν2⟩ : ∃ z, z = st (st (st (st ν 233 0 (nI (a + 1))) 232 0 (nI q)) 231 0 (nI m)) 233 0 (nI (ra m)) := ⟨_, rfl⟩
    obtain ⟨μ2, hμ2⟩ : ∃ z, z = st (st (st (st (st μ 138 0 (nI (a + 1))) 147 0 (nI q)) 146 0 (nI m)) 147 0 (nI q)) 138 0 (nI (ra m)) := ⟨_, rfl⟩
    have t1 : ν2 232 0 = nI q := by rw [hν2]; simp [st, upd]
    have t2 : μ2 147 0 = nI q := by rw [hμ2]; simp [st, upd]
    refine ⟨st (st ν2 22 q (sx (ν 22 q))) 232 0 (nI (q + 1)), st (st μ2 29 q (sx (ν 22 q))) 147 0 (nI (q + 1)), ?_, ?_, 1, S, m, by decide, by decide, by omega, by omega, ?_, fun _ => ⟨ra m, q + 1, fl, ra, ?_, fun _ => ?_⟩⟩
    · rw [ex]
      unfold f_E_leave
      rw [s_E_pop h1 (by omega), ca2_s, nm_eq, v1, jn_eq, st_at, if_neg hm0, if_neg hm10, gd_i (inb_nI (by omega) (by decide)), nm_eq, cl_nI (by omega), nm_eq, show (st (st (st ν 233 0 (nI (a + 1))) 232 0 (nI q)) 231 0 (nI m)) 21 m = nI (ra m) from by simp [st, fm], ← hν2, st_ne (μ := ν) (by decide), s_E_push _ t1 (by omega), ca_s, ca_s]
    · rw [ey]
      unfold f_M_returns
      rw [s_M_pop h2 (by omega), ca2_s, nm_eq, v2, st_at, gd_i (inb_nI (by omega) (by decide)), nm_eq, cl_nI (by omega), nm_eq, show (st (st (st μ 138 0 (nI (a + 1))) 147 0 (nI q)) 146 0 (nI m)) 28 m = nI q from by simp [st, hfm, hq], st_ne (μ := st (st (st μ 138 0 (nI (a + 1))) 147 0 (nI q)) 146 0 (nI m)) (by decide), st_at, if_neg hmz, gd_i (inb_nI (by omega) (by decide)), nm_eq, cl_nI (by omega), nm_eq, show (st (st (st (st μ 138 0 (nI (a + 1))) 147 0 (nI q)) 146 0 (nI m)) 147 0 (nI q)) 27 m = nI (ra m) from by simp [st, fm], ← hμ2, st_ne (μ := μ) (by decide), ← hx, s_M_push _ t2 (by omega), ca_s, ca_s]
    · refine core_upd hC (fun k hk => by have : k ≠ 233 ∧ k ≠ 232 ∧ k ≠ 231 ∧ k ≠ 22 := (by omega); rw [hν2]; simp [st, this]) (fun k hk => by have : k ≠ 138 ∧ k ≠ 147 ∧ k ≠ 146 ∧ k ≠ 29 := (by omega); rw [hμ2]; simp [st, this]) (RK_same hC.2.1 (by rw [hν2]; simp [st]) (by rw [hν2]; simp [st]) (by rw [hν2]; simp [st]) (by rw [hμ2]; simp [st]) (by rw [hμ2]; simp [st])) ?_ (by rw [hν2, hμ2]; simp [st, hSS]) (by rw [hν2, hμ2]; simp [st, upd]) (by rw [hν2, hμ2]; simp [st, hC.2.2.2.2.2.2.2.2.2])
      rw [hν2, hμ2]
      simp [st]
      exact ⟨hr.1, hr.2.1, hr.2.2.1, hr.2.2.2.1, rowEq_upd hr.2.2.2.2 rfl⟩
    · refine ⟨by rw [hν2]; simp [st, upd], by rw [hμ2]; simp [st, upd], by omega, by omega, by rw [hν2]; simp [st, upd], by rw [hμ2]; simp [st, upd], fm.1, st_at _ _ _ _, st_at _ _ _ _, ?_, f11, fun i hi => by rw [hμ2]; simp [st, f12 i (by omega)], fun i g1 g2 => ?_⟩
      · rw [hq]; exact fm.2.2.2
      · have := f13 i g1 (by omega)
        rw [hν2, hμ2]
        simp [st, this]
    · unfold psi
      have hl := loc_le op fm.1
      have hl2 : loc op L a = 1 := by
        unfold loc
        rw [if_neg (by omega), if_pos ho]
      show loc op L (ra m) + sm _ m < loc op L a + (sm _ m + if m = 0 then 0 else 3 * (L - ra m))
      rw [if_neg hm]
      omega
end OPS5
