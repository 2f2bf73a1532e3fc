/-! both readers, from the first token to the last check -/
theorem check_spec {tk : Nat → Nat} {C : List (Nat × Nat)} {cl : Nat → Option Nat} {fe : Nat → Option (Nat × Nat)} {nf : Nat} : ∀ (d k p : Nat) (L : List KF), d + k = 160 → (∀ y, y ∈ L → k ≤ y.1 ∧ y.1 < 160 ∧ tk y.1 = 52 + y.2.1) → L.Pairwise (fun a b => a.1 < b.1) → (∀ i, k ≤ i → ∀ c, cl i = some c ↔ ∃ f, (i, f, c) ∈ L) → match ckL fe L with
    | some x => pCheckL tk d k (.ok (p, C, cl, fe, nf)) = .error x
    | none => ∃ p', pCheckL tk d k (.ok (p, C, cl, fe, nf)) = .ok (p', C, cl, fe, nf) := by
  intro d
  induction d with
  | zero =>
    intro k p L hd hL hP hcl
    cases L with
    | nil => exact ⟨p, rfl⟩
    | cons y L => have := hL y List.mem_cons_self; omega
  | succ d ih =>
    intro k p L hd hL hP hcl
    have skip : cl k = none → (∀ y, y ∈ L → k + 1 ≤ y.1) → match ckL fe L with
        | some x => pCheckL tk (d + 1) k (.ok (p, C, cl, fe, nf)) = .error x
        | none => ∃ p', pCheckL tk (d + 1) k (.ok (p, C, cl, fe, nf)) = .ok (p', C, cl, fe, nf) := by
      intro h0 h1
      have he : pCheckL tk (d + 1) k (.ok (p, C, cl, fe, nf)) = pCheckL tk d (k + 1) (.ok (p, C, cl, fe, nf)) := by
        show pCheckL tk d (k + 1) (pCheckAt tk k (.ok (p, C, cl, fe, nf))) = _
        unfold pCheckAt
        dsimp only
        rw [h0]
      rw [he]
      exact ih (k + 1) p L (by omega) (fun y hy => ⟨h1 y hy, (hL y hy).2⟩) hP (fun i hi c => hcl i (by omega) c)
    cases L with
    | nil =>
      refine skip ?_ (fun y hy => by cases hy)
      cases hc : cl k with
      | none => rfl
      | some c => obtain ⟨f, hf⟩ := (hcl k (Nat.le_refl _) c).mp hc; cases hf
    | cons y L =>
      obtain ⟨p1, p2⟩ := List.pairwise_cons.mp hP
      obtain ⟨y1, y2, y3⟩ := hL y List.mem_cons_self
      by_cases hk : y.1 = k
      · have hc : cl k = some y.2.2 := (hcl k (Nat.le_refl _) _).mpr ⟨y.2.1, by rw [← hk]; exact List.mem_cons_self⟩
        have ht : tk k - 52 = y.2.1 := by rw [← hk, y3]; omega
        have he : pCheckL tk (d + 1) k (.ok (p, C, cl, fe, nf)) = pCheckL tk d (k + 1) (match fe y.2.1 with | none => .error (4, k) | some x => if x.2 = y.2.2 then .ok (k, C, cl, fe, nf) else .error (5, k)) := by
          show pCheckL tk d (k + 1) (pCheckAt tk k (.ok (p, C, cl, fe, nf))) = _
          unfold pCheckAt
          dsimp only
          rw [hc]
          dsimp only
          rw [ht]
          cases fe y.2.1 <;> rfl
        rw [he]
        unfold ckL
        have hcase : (∃ x, fe y.2.1 = some x) ∨ fe y.2.1 = none := by cases fe y.2.1 <;> simp
        rcases hcase with ⟨x, hx⟩ | hx
        · rw [hx]
          dsimp only
          by_cases hxy : x.2 = y.2.2
          · rw [if_pos hxy, if_pos hxy]
            refine ih (k + 1) k L (by omega) (fun z hz => ⟨by have := p1 z hz; omega, (hL z (List.mem_cons_of_mem _ hz)).2⟩) p2 (fun i hi c => ?_)
            rw [hcl i (by omega) c]
            constructor
            · rintro ⟨f, hf⟩
              rcases List.mem_cons.mp hf with h | h
              · exfalso; rw [← h] at hk; dsimp only at hk; omega
              · exact ⟨f, h⟩
            · rintro ⟨f, hf⟩; exact ⟨f, List.mem_cons_of_mem _ hf⟩
          · rw [if_neg hxy, if_neg hxy, pCheckL_e, hk]
        · rw [hx]
          dsimp only
          rw [pCheckL_e, hk]
      · refine skip ?_ (fun z hz => ?_)
        · cases hc : cl k with
          | none => rfl
          | some c =>
            obtain ⟨f, hf⟩ := (hcl k (Nat.le_refl _) c).mp hc
            rcases List.mem_cons.mp hf with h | h
            · exfalso; rw [← h] at hk; exact hk rfl
            · exfalso; have := p1 _ h; dsimp only at this; omega
        · rcases List.mem_cons.mp hz with h | h
          · rw [h]; omega
          · have := p1 _ h; omega
theorem ckL_none {fe : Nat → Option (Nat × Nat)} : ∀ {L : List KF}, ckL fe L = none → ∀ y, y ∈ L → ∃ x, fe y.2.1 = some x ∧ x.2 = y.2.2 := by
  intro L
  induction L with
  | nil => intro _ y hy; cases hy
  | cons z L ih =>
    intro h y hy
    unfold ckL at h
    have hcase : (∃ x, fe z.2.1 = some x) ∨ fe z.2.1 = none := by cases fe z.2.1 <;> simp
    rcases hcase with ⟨x, hx⟩ | hx
    · rw [hx] at h
      dsimp only at h
      by_cases hxz : x.2 = z.2.2
      · rw [if_pos hxz] at h
        rcases List.mem_cons.mp hy with h1 | h1
        · rw [h1]; exact ⟨x, hx, hxz⟩
        · exact ih h y h1
      · rw [if_neg hxz] at h; cases h
    · rw [hx] at h; cases h
section RD
variable {N n : Nat} {t : Nat → Nat} {μ0 μ : St} {C : List (Nat × Nat)} {K : List KF} {fe : Nat → Option (Nat × Nat)}
theorem ckEnd_ok (hT : HM n t μ0) (h : DN μ0 μ C K fe) : match fe 0 with
    | some x => if x.2 = 0 then ckEnd μ = some μ else ∃ μ', ckEnd μ = some μ' ∧ Dead μ0 μ' (6, n)
    | none => ∃ μ', ckEnd μ = some μ' ∧ Dead μ0 μ' (6, n) := by
  obtain ⟨d1, d2, d3, d4, d5, d6⟩ := h
  have hm := d6.1 0 (by decide)
  have h101 : μ 101 0 = nI n := by rw [d1 101 (by decide)]; exact hT.2.2.1
  have e0 : (0 : Int32).toNatClampNeg = 0 := by decide
  have hbad : ∃ μ', (ca (f_M_wrong (6 : Int32) (μ 101 0) μ) fun μ33 => some μ33) = some μ' ∧ Dead μ0 μ' (6, n) := ⟨_, (by rw [wrong_yes d2, ca_s]; rfl), wr_dead d1 rfl h101 (by decide) hT.1⟩
  unfold ckEnd
  rw [gd_i (by decide), nm_eq, jn_eq, e0, nm_eq, gd_i (by decide)]
  have hcase : (∃ x, fe 0 = some x) ∨ fe 0 = none := by cases fe 0 <;> simp
  rcases hcase with ⟨x, hx⟩ | hx
  · rw [hx] at hm ⊢
    obtain ⟨m1, m2⟩ := hm
    have hb2 := d6.2 _ _ hx
    rw [m1, m2, if_neg (nI_pos (by omega))]
    dsimp only
    by_cases h0 : x.2 = 0
    · rw [if_pos h0, h0, if_pos (show nI 0 ≤ (0 : Int32) by decide)]
    · rw [if_neg h0, if_neg (show ¬ nI x.2 ≤ (0 : Int32) from nI_ge (a := 0) (b := x.2) (by omega) (by omega))]
      exact hbad
  · rw [hx] at hm ⊢
    have hm1 : μ 6 0 = -1 := hm
    rw [hm1, if_pos (show (-1 : Int32) < 0 by decide)]
    exact hbad
/-- what a reading of the reference leaves -/
def RDM (n : Nat) (t : Nat → Nat) (μ0 μ : St) (r : RR) : Prop := match r with
  | .error x => Dead μ0 μ x
  | .ok (_, C, _, fe, nf) => ∃ K, DN μ0 μ C K fe ∧ C.length ≤ 160 ∧ EI C fe ∧ nf = cnt fe 6 ∧ (∃ en, fe 0 = some (en, 0)) ∧ GT (fun f => (fe f).map (fun x => x.2)) C ∧ ∀ y, y ∈ K → y.2.1 < 6
theorem MX_init (hT : HM n t μ) (μ' : St) (h0 : frM μ μ') (h1 : μ' 103 0 = 0) (h2 : μ' 105 0 = 0) (h3 : μ' 106 0 = 0) (h4 : μ' 107 0 = 0) (h5 : μ' 108 0 = 0) (h6 : μ' 118 0 = 0) (h7 : μ' 122 0 = 0) (h8 : ∀ f, f < 6 → μ' 6 f = -1) : MX n μ μ' 0 0 [] [] [] (μ' 134 0, μ' 135 0, μ' 136 0) (fun _ => none) none :=
  ⟨h0, ⟨h2, Nat.zero_le _, h3, h1, h4⟩, ⟨h5, (fun k o a h => by simp at h)⟩, ⟨h6, Nat.zero_le _, (fun i x h => by simp at h)⟩, ⟨h7, Nat.zero_le _, trivial⟩, ⟨rfl, rfl, rfl⟩, ⟨fun f hf => h8 f hf, (fun f x h => by cases h)⟩, trivial⟩
theorem rd_text (hN : 3000 ≤ N) (hT : HM n t μ) : clT n t (pTopL (tkf n t) 160 (.ok pInit)) ∧ ∃ μ', f_M_readText N μ = some μ' ∧ RDM n t μ μ' (pAll (tkf n t) n) := by
  have hn := hT.1
  rw [readText_eq]
  simp only [nm_eq]
  obtain ⟨z, hz⟩ : ∃ z, z = st (st (st (st (st (st (st μ 103 0 (0 : Int32)) 105 0 (0 : Int32)) 106 0 (0 : Int32)) 107 0 (0 : Int32)) 108 0 (0 : Int32)) 118 0 (0 : Int32)) 122 0 (0 : Int32) := ⟨_, rfl⟩
  rw [← hz]
  obtain ⟨μ1, e1, f1, f2, -⟩ := in_run (N := N) 6 0 N z rfl (by omega)
  have hM := MX_init hT μ1 (fun k hk => by
      have a : k ≠ 6 := fun h => by subst h; exact absurd hk (by decide)
      have b : k ≠ 7 := fun h => by subst h; exact absurd hk (by decide)
      rw [f1 k a b, hz]
      exact frM_st (frM_st (frM_st (frM_st (frM_st (frM_st (frM_st (fun _ _ => rfl) (by decide)) (by decide)) (by decide)) (by decide)) (by decide)) (by decide)) (by decide) k hk)
    (by rw [f1 103 (by decide) (by decide), hz]; simp [st, upd]) (by rw [f1 105 (by decide) (by decide), hz]; simp [st, upd]) (by rw [f1 106 (by decide) (by decide), hz]; simp [st, upd]) (by rw [f1 107 (by decide) (by decide), hz]; simp [st, upd]) (by rw [f1 108 (by decide) (by decide), hz]; simp [st, upd]) (by rw [f1 118 (by decide) (by decide), hz]; simp [st, upd]) (by rw [f1 122 (by decide) (by decide), hz]; simp [st, upd]) (fun f hf => f2 f (Nat.zero_le _) hf)
  have hI : TI n t 0 [] (fun _ => none) [] (fun _ => none) 0 := ⟨Nat.zero_le _, KO_nil (Nat.le_refl _), CK_nil _, fun ar _ => GT_nil ar, (fun f x h => by cases h), rfl⟩
  have e1' : lpk (inBody N) (fun _ _ => none) N (0 : Int32) z = lpk (tnBody N) (fun _ _ => none) N (0 : Int32) μ1 := e1
  rw [e1']
  unfold pAll
  rcases sim_top (N := N) (by omega) hT 160 μ1 0 [] (fun _ => none) [] _ (fun _ => none) 0 (by omega) hI hM with ⟨x, q1, j, μ', q2, q3, q4⟩ | ⟨p', C', cl', K', fe', nf', j, μ', q1, q2, q3, q4, q5, q6⟩
  · rw [show (Except.ok pInit : RR) = .ok (0, [], (fun _ => none), (fun _ => none), 0) from rfl, q1]
    refine ⟨trivial, μ', ?_, ?_⟩
    · have := tn_run j 0 N μ1 μ' q2 (Or.inl (fun hh => by
        have h1 := q3.2.1
        have h2 := q3.2.2.2.1
        have h3 := q3.2.2.2.2.1
        rw [h1] at hh
        have := (nI_eq (a := x.1) (b := 0) (by omega) (by decide)).mp hh
        omega)) (by omega) (by omega)
      rw [show (0 : Int32) = nI 0 from rfl, this]
      exact ckAll_dead (by omega) q3
    · rw [pCheckL_e]
      exact q3
  · rw [show (Except.ok pInit : RR) = .ok (0, [], (fun _ => none), (fun _ => none), 0) from rfl, q1]
    obtain ⟨i1, i2, i3, i4, i5, i6⟩ := q3
    refine ⟨fun k c hc => ?_, ?_⟩
    · rcases (i3 k c).mp hc with h | ⟨f, h⟩
      · cases h
      · obtain ⟨a1, a2, a3, a4, a5⟩ := i2.1 _ h
        dsimp only at a2 a3 a4
        have hk : k < n := by omega
        unfold tkf at a3
        rw [if_pos hk] at a3
        exact ⟨hk, by omega, by omega⟩
    · have hrun := tn_run j 0 N μ1 μ' q4 (Or.inr q6.2.2.1) (by omega) (by omega)
      rw [show lpk (tnBody N) (fun _ _ => none) N (0 : Int32) μ1 = ckAll N μ' from hrun]
      have hck := ck_run (fun y hy => by have := i2.1 y hy; exact ⟨by omega, this.2.2.2.1, this.2.2.2.2⟩) q6 K' [] N rfl (by have := i2.2.2; omega)
      have hsp := check_spec (tk := tkf n t) (C := C') (cl := cl') (fe := fe') (nf := nf') 160 0 p' K' rfl (fun y hy => by have := i2.1 y hy; exact ⟨Nat.zero_le _, by omega, this.2.2.1⟩) i2.2.1 (fun i _ c => by rw [i3 i c]; simp)
      have hend := ckEnd_ok hT q6
      cases hc : ckL fe' K' with
      | some x =>
        rw [hc] at hck hsp
        dsimp only at hck hsp
        obtain ⟨μ2, e2, d2⟩ := hck
        rw [hsp]
        exact ⟨μ2, e2, d2⟩
      | none =>
        rw [hc] at hck hsp
        dsimp only at hck hsp
        obtain ⟨p2, hsp⟩ := hsp
        rw [hsp, show ckAll N μ' = ckEnd μ' from hck]
        unfold pEnd
        dsimp only
        have hcase : (∃ x, fe' 0 = some x) ∨ fe' 0 = none := by cases fe' 0 <;> simp
        rcases hcase with ⟨x, hx⟩ | hx
        · rw [hx] at hend ⊢
          dsimp only at hend ⊢
          by_cases h0 : x.2 = 0
          · rw [if_pos h0] at hend ⊢
            refine ⟨μ', hend, K', q6, by omega, i5, i6, ⟨x.1, by rw [hx, ← h0]⟩, i4 _ (fun y hy => ?_), fun y hy => (i2.1 y hy).2.2.2.1⟩
            obtain ⟨z, hz1, hz2⟩ := ckL_none hc y hy
            have := q6.2.2.2.2.2.2 _ _ hz1
            exact ⟨by rw [hz1]; show some z.2 = _; rw [hz2], by omega⟩
          · rw [if_neg h0] at hend ⊢
            exact hend
        · rw [hx] at hend ⊢
          dsimp only at hend ⊢
          exact hend
end RD
