/-! the reference's reader: turns; a piece -/
def turn (N : Nat) (μ : St) : Option St :=
  if (μ 106 0) = 0 then f_M_function μ
  else if (μ 106 0) = (1 : Int32) then (ca2 (f_M_must (8 : Int32) μ) fun x91 μ92 => if x91 = 0 then some μ92 else some (st μ92 106 0 (2 : Int32)))
  else if (μ 106 0) = (2 : Int32) then f_M_statement μ
  else if (μ 106 0) = (3 : Int32) then f_M_piece μ
  else f_M_behind N μ
def TR (N : Nat) : Nat → St → St → Prop
  | 0, μ, μ' => μ' = μ
  | j + 1, μ, μ' => μ 103 0 = 0 ∧ μ 107 0 = 0 ∧ ∃ μ1, turn N μ = some μ1 ∧ TR N j μ1 μ'
theorem TR_trans {N : Nat} : ∀ {i j : Nat} {μ μ1 μ2 : St}, TR N i μ μ1 → TR N j μ1 μ2 → TR N (i + j) μ μ2 := by
  intro i
  induction i with
  | zero => intro j μ μ1 μ2 h1 h2; rw [Nat.zero_add]; cases h1; exact h2
  | succ i ih =>
    intro j μ μ1 μ2 h1 h2
    obtain ⟨a, b, ν, e, h⟩ := h1
    rw [show i + 1 + j = i + j + 1 by omega]
    exact ⟨a, b, ν, e, ih h h2⟩
/-- an error is reached from here -/
def ER (N n : Nat) (μ0 μ : St) (p : Nat) (x : Nat × Nat) : Prop := ∃ j μ', TR N j μ μ' ∧ Dead μ0 μ' x ∧ j + p ≤ n + 1
theorem ER_trans {N n : Nat} {μ0 μ μ1 : St} {i p p1 : Nat} {x : Nat × Nat} (h1 : TR N i μ μ1) (hp : i + p ≤ p1) (h2 : ER N n μ0 μ1 p1 x) : ER N n μ0 μ p x := by
  obtain ⟨j, μ', a, b, c⟩ := h2
  exact ⟨i + j, μ', TR_trans h1 a, b, by omega⟩
theorem in_t {t : Nat} (a b : Nat) (ha : a < 192) (h : b < 192) : f_M_in (tI t) (nI a) (nI b) = some (if a ≤ t ∧ t ≤ b then 1 else 0) := by
  unfold f_M_in
  rw [jn_eq]
  unfold tI
  by_cases h1 : t < 192
  · rw [if_pos h1]
    by_cases h2 : t < a
    · rw [if_pos (nI_lt h2 (by omega)), if_neg (by omega)]
    · rw [if_neg (nI_nlt (by omega) (by omega))]
      by_cases h3 : b < t
      · rw [if_pos (nI_lt h3 (by omega)), if_neg (by omega)]
      · rw [if_neg (nI_nlt (by omega) (by omega)), if_pos (by omega)]
  · rw [if_neg h1, if_pos (show (-1 : Int32) < nI a from by rw [Int32.lt_iff_toInt_lt, nI_toInt (by omega)]; have e : ((-1 : Int32)).toInt = -1 := rfl; omega), if_neg (by omega)]
theorem sI_ne {s : Nat} (h : s = 5 ∨ s = 6) : ¬ sI s = -1 := by rcases h with rfl | rfl <;> decide
def pieceB (x2 : Int32) (μ9 : St) : Option St :=
ca (f_M_in x2 (64 : Int32) (191 : Int32)) fun x11 =>
if x11 = 0 then (
if x2 = (5 : Int32) then (
ca2 (f_M_emit (1 : Int32) (0 : Int32) μ9) fun x69 μ70 =>
nm (st μ70 105 0 ((μ70 105 0) + (1 : Int32))) fun μ71 =>
some μ71)
else (
ca (f_M_in x2 (32 : Int32) (39 : Int32)) fun x15 =>
jn (jn (fun (y22 : Int32) =>
jn (fun (y26 : Int32) =>
ca2 (f_M_emit y22 y26 μ9) fun x28 μ29 =>
nm (st μ29 105 0 ((μ29 105 0) + (1 : Int32))) fun μ30 =>
some μ30) fun k24 =>
if (40 : Int32) ≤ x2 then (
k24 (x2 - (44 : Int32)))
else (
k24 (x2 - (32 : Int32)))) fun k20 =>
if (40 : Int32) ≤ x2 then (
k20 (3 : Int32))
else (
k20 (2 : Int32))) fun k17 =>
if x15 = 0 then (
ca (f_M_in x2 (44 : Int32) (51 : Int32)) fun x35 =>
if x35 = 0 then (
ca (f_M_in x2 (40 : Int32) (43 : Int32)) fun x38 =>
if x38 = 0 then (
ca (f_M_in x2 (52 : Int32) (57 : Int32)) fun x41 =>
if x41 = 0 then (
if x2 = (6 : Int32) then (
nm (st μ9 105 0 ((μ9 105 0) + (1 : Int32))) fun μ46 =>
ca (f_M_enters (0 : Int32) (0 : Int32) μ46) fun μ48 =>
some μ48)
else (
ca (f_M_wrong (1 : Int32) (μ9 105 0) μ9) fun μ45 =>
some μ45))
else (
ca2 (f_M_call μ9) fun x50 μ51 =>
ca2 (f_M_must (6 : Int32) μ51) fun x53 μ54 =>
jn (fun (μ55 : St) =>
some μ55) fun k56 =>
if x53 = 0 then (
k56 μ54)
else (
ca (f_M_arguments x50 μ54) fun μ60 =>
k56 μ60)))
else (
nm (st μ9 105 0 ((μ9 105 0) + (1 : Int32))) fun μ61 =>
ca2 (f_M_must (21 : Int32) μ61) fun x63 μ64 =>
if x63 = 0 then (
some μ64)
else (
ca (f_M_enters (1 : Int32) (x2 - (40 : Int32)) μ64) fun μ67 =>
some μ67)))
else (
k17))
else (
k17)))
else (
ca2 (f_M_emit (0 : Int32) (x2 - (64 : Int32)) μ9) fun x73 μ74 =>
nm (st μ74 105 0 ((μ74 105 0) + (1 : Int32))) fun μ75 =>
some μ75)
section PC
variable {n : Nat} {t : Nat → Nat} {μ0 μ : St} {p md : Nat} {C : List (Nat × Nat)} {K : List KF} {B : List BF} {D : Int32 × Int32 × Int32} {fe : Nat → Option (Nat × Nat)} {wh nm' sg : Nat} {W : List Nat} {V : List VF}
/-- the sign of the value on top -/
theorem m_sign {x : Int32} (s : Nat) (hx : x = sI s) (h : MX n μ0 μ p md C K B D fe (some ((wh, nm', sg, W) :: V))) : MX n μ0 (st μ 17 V.length x) p md C K B D fe (some ((wh, nm', s, W) :: V)) := by
  subst hx
  obtain ⟨h0, hP, hC, hK, hB, hD, hF, ⟨v1, v2, v3, v4, ⟨⟨a1, a2, a3, a4⟩, w, hl⟩⟩⟩ := h
  exact ⟨frM_st h0 (by decide), mP_same hP (fun k hk => st_ne' (by omega)), mC_same hC (fun k hk => st_ne' (by omega)), mK_same hK (fun k hk => st_ne' (by omega)), mB_same hB (fun k hk => st_ne' (by omega)), mD_same hD (fun k hk => st_ne' (by omega)), mF_same hF (fun k hk => st_ne' (by omega)), ⟨by rw [st_ne (by decide)]; exact v1, v2, by rw [st_ne (by decide)]; exact v3, v4, ⟨by rw [st_ne (by decide)]; exact a1, by rw [st_ne (by decide)]; exact a2, st_at _ _ _ _, by rw [st_ne (by decide)]; exact a4⟩, mW_st w (by omega), mVL_st hl (fun _ => Nat.le_refl _) (by omega)⟩⟩
theorem m_top (h : MX n μ0 μ p md C K B D fe (some ((wh, nm', sg, W) :: V))) : V.length < 4 ∧ μ 126 0 = nI (V.length + 1) ∧ μ 16 V.length = nI wh ∧ μ 19 V.length = nI nm' ∧ μ 17 V.length = sI sg ∧ μ 18 V.length = nI (wtot V) ∧ μ 131 0 = nI (W.length + wtot V) ∧ W.length + wtot V ≤ 60 := by
  obtain ⟨h0, hP, hC, hK, hB, hD, hF, ⟨v1, v2, v3, v4, ⟨⟨a1, a2, a3, a4⟩, w, hl⟩⟩⟩ := h
  simp only [List.length_cons] at v1 v2
  exact ⟨by omega, v1, a1, a2, a3, a4, v3, v4⟩
theorem m_piece_sg (hT : HM n t μ0) (s : Nat) (hs : (tkf n t p = 14 ∧ s = 5) ∨ (tkf n t p = 20 ∧ s = 6)) (h : MX n μ0 μ p 3 C K B D fe (some ((wh, nm', 0, W) :: V))) : ∃ μ', f_M_piece μ = some μ' ∧ MX n μ0 μ' (p + 1) 3 C K B D fe (some ((wh, nm', s, W) :: V)) := by
  obtain ⟨v0, v1, v2, v3, v4, v5, v6, v7⟩ := m_top h
  have hp : p < n := tk_lt (t := t) (by omega)
  have h1 := m_next (m_sign (x := sI s) s rfl h) hp
  refine ⟨_, ?_, h1⟩
  have e105 : (st μ 17 V.length (sI s)) 105 0 + 1 = nI (p + 1) := by rw [st_ne (by decide), h.2.1.1, nI_1]
  unfold f_M_piece
  rw [m_token hT h, ca_s, nm_eq, v1, nI_pred, gd_i (inb_nI (by omega) (by decide)), nm_eq, cl_nI (by omega), v4, jn_eq, if_pos (show sI 0 = -1 from rfl), jn_eq, jn_eq]
  rcases hs with ⟨hw, rfl⟩ | ⟨hw, rfl⟩
  · rw [hw, if_pos (by decide), if_pos (by decide)]
    dsimp only
    rw [gd_i (inb_nI (by omega) (by decide)), nm_eq, nm_eq, ← e105]
    rfl
  · rw [hw, if_neg (by decide), if_pos (by decide), if_neg (by decide)]
    dsimp only
    rw [gd_i (inb_nI (by omega) (by decide)), nm_eq, nm_eq, ← e105]
    rfl
theorem m_piece_B (hT : HM n t μ0) (hs : sg = 5 ∨ sg = 6 ∨ (sg = 0 ∧ tkf n t p ≠ 14 ∧ tkf n t p ≠ 20)) (h : MX n μ0 μ p 3 C K B D fe (some ((wh, nm', sg, W) :: V))) : f_M_piece μ = pieceB (tI (tkf n t p)) (st μ 106 0 4) := by
  obtain ⟨v0, v1, v2, v3, v4, v5, v6, v7⟩ := m_top h
  unfold f_M_piece
  rw [m_token hT h, ca_s, nm_eq, v1, nI_pred, gd_i (inb_nI (by omega) (by decide)), nm_eq, cl_nI (by omega), v4, jn_eq]
  rcases hs with rfl | rfl | ⟨rfl, h14, h20⟩
  · rw [if_neg (by decide)]; rfl
  · rw [if_neg (by decide)]; rfl
  · rw [if_pos (show sI 0 = -1 from rfl), jn_eq, if_neg (fun hh => h14 ((tI_l (x := 14) 14 rfl (by decide)).mp hh)), if_neg (fun hh => h20 ((tI_l (x := 20) 20 rfl (by decide)).mp hh))]; rfl
theorem pb_unf (w : Nat) (μ9 : St) : pieceB (tI w) μ9 = if 64 ≤ w ∧ w ≤ 191 then (ca2 (f_M_emit 0 (tI w - 64) μ9) fun _ μ74 => some (st μ74 105 0 (μ74 105 0 + 1))) else if w = 5 then (ca2 (f_M_emit 1 0 μ9) fun _ μ70 => some (st μ70 105 0 (μ70 105 0 + 1))) else if 32 ≤ w ∧ w ≤ 39 then (ca2 (f_M_emit 2 (tI w - 32) μ9) fun _ μ29 => some (st μ29 105 0 (μ29 105 0 + 1))) else if 44 ≤ w ∧ w ≤ 51 then (ca2 (f_M_emit 3 (tI w - 44) μ9) fun _ μ29 => some (st μ29 105 0 (μ29 105 0 + 1))) else if 40 ≤ w ∧ w ≤ 43 then (ca2 (f_M_must 21 (st μ9 105 0 (μ9 105 0 + 1))) fun x63 μ64 => if x63 = 0 then some μ64 else ca (f_M_enters 1 (tI w - 40) μ64) fun μ67 => some μ67) else if 52 ≤ w ∧ w ≤ 57 then (ca2 (f_M_call μ9) fun x50 μ51 => ca2 (f_M_must 6 μ51) fun x53 μ54 => if x53 = 0 then some μ54 else ca (f_M_arguments x50 μ54) fun μ60 => some μ60) else if w = 6 then (ca (f_M_enters 0 0 (st μ9 105 0 (μ9 105 0 + 1))) fun μ48 => some μ48) else (ca (f_M_wrong 1 (μ9 105 0) μ9) fun μ45 => some μ45) := by
  unfold pieceB
  simp only [show f_M_in (tI w) (64 : Int32) (191 : Int32) = some (if 64 ≤ w ∧ w ≤ 191 then 1 else 0) from in_t 64 191 (by decide) (by decide), show f_M_in (tI w) (32 : Int32) (39 : Int32) = some (if 32 ≤ w ∧ w ≤ 39 then 1 else 0) from in_t 32 39 (by decide) (by decide), show f_M_in (tI w) (44 : Int32) (51 : Int32) = some (if 44 ≤ w ∧ w ≤ 51 then 1 else 0) from in_t 44 51 (by decide) (by decide), show f_M_in (tI w) (40 : Int32) (43 : Int32) = some (if 40 ≤ w ∧ w ≤ 43 then 1 else 0) from in_t 40 43 (by decide) (by decide), show f_M_in (tI w) (52 : Int32) (57 : Int32) = some (if 52 ≤ w ∧ w ≤ 57 then 1 else 0) from in_t 52 57 (by decide) (by decide), ca_s, nm_eq, jn_eq]
  by_cases c1 : 64 ≤ w ∧ w ≤ 191
  · rw [if_pos c1, if_neg (by decide), if_pos c1]
  rw [if_neg c1, if_pos rfl, if_neg c1]
  by_cases c2 : w = 5
  · rw [if_pos ((tI_l (x := 5) 5 rfl (by decide)).mpr c2), if_pos c2]
  rw [if_neg (fun hh => c2 ((tI_l (x := 5) 5 rfl (by decide)).mp hh)), if_neg c2]
  by_cases c3 : 32 ≤ w ∧ w ≤ 39
  · have : ¬ (40 : Int32) ≤ tI w := by unfold tI; rw [if_pos (by omega)]; exact nI_ge (b := 40) (by omega) (by decide)
    rw [if_pos c3, if_neg (by decide), if_pos c3, if_neg this, if_neg this]
  rw [if_neg c3, if_pos rfl, if_neg c3]
  by_cases c4 : 44 ≤ w ∧ w ≤ 51
  · have : (40 : Int32) ≤ tI w := by unfold tI; rw [if_pos (by omega)]; exact nI_le (a := 40) (by omega) (by omega)
    rw [if_pos c4, if_neg (by decide), if_pos c4, if_pos this, if_pos this]
  rw [if_neg c4, if_pos rfl, if_neg c4]
  by_cases c5 : 40 ≤ w ∧ w ≤ 43
  · rw [if_pos c5, if_neg (by decide), if_pos c5]
  rw [if_neg c5, if_pos rfl, if_neg c5]
  by_cases c6 : 52 ≤ w ∧ w ≤ 57
  · rw [if_pos c6, if_neg (by decide), if_pos c6]
  rw [if_neg c6, if_pos rfl, if_neg c6]
  by_cases c7 : w = 6
  · rw [if_pos ((tI_l (x := 6) 6 rfl (by decide)).mpr c7), if_pos c7]
  rw [if_neg (fun hh => c7 ((tI_l (x := 6) 6 rfl (by decide)).mp hh)), if_neg c7]
/-- a piece of one token -/
theorem pb_one (hT : HM n t μ0) {Vo : Option (List VF)} (o a : Nat) (hw : (64 ≤ tkf n t p ∧ tkf n t p ≤ 191 ∧ o = 33 ∧ a = tkf n t p - 64) ∨ (tkf n t p = 5 ∧ o = 34 ∧ a = 0) ∨ (32 ≤ tkf n t p ∧ tkf n t p ≤ 39 ∧ o = 36 ∧ a = tkf n t p - 32) ∨ (44 ≤ tkf n t p ∧ tkf n t p ≤ 51 ∧ o = 38 ∧ a = tkf n t p - 44)) (hl : C.length < 600) (h : MX n μ0 μ p md C K B D fe Vo) : ∃ μ', pieceB (tI (tkf n t p)) μ = some μ' ∧ MX n μ0 μ' (p + 1) md (C ++ [(o, a)]) K B D fe Vo ∧ p < n := by
  have hp : p < n := tk_lt (t := t) (by omega)
  have key : ∀ x y : Int32, x = nI (mop o) → opd K o a y → ∃ μ', (ca2 (f_M_emit x y μ) fun _ μ74 => some (st μ74 105 0 (μ74 105 0 + 1))) = some μ' ∧ MX n μ0 μ' (p + 1) md (C ++ [(o, a)]) K B D fe Vo ∧ p < n := by
    intro x y hx hy
    obtain ⟨μ1, e1, h1⟩ := m_emit o a hx hy hl h
    exact ⟨_, by rw [e1, ca2_s, h1.2.1.1, nI_1], m_next h1 hp, hp⟩
  rw [pb_unf]
  rcases hw with ⟨w1, w2, rfl, rfl⟩ | ⟨w1, rfl, rfl⟩ | ⟨w1, w2, rfl, rfl⟩ | ⟨w1, w2, rfl, rfl⟩
  · rw [if_pos ⟨w1, w2⟩]
    exact key _ _ rfl (fun _ => tI_sub (c := 64) w1 (by omega))
  · rw [if_neg (by omega), if_pos w1]
    exact key _ _ rfl (fun _ => rfl)
  · rw [if_neg (by omega), if_neg (by omega), if_pos ⟨w1, w2⟩]
    exact key _ _ rfl (fun _ => tI_sub (c := 32) w1 (by omega))
  · rw [if_neg (by omega), if_neg (by omega), if_neg (by omega), if_pos ⟨w1, w2⟩]
    exact key _ _ rfl (fun _ => tI_sub (c := 44) w1 (by omega))
theorem pb_bad (hT : HM n t μ0) {Vo : Option (List VF)} (hw : ¬ (64 ≤ tkf n t p ∧ tkf n t p ≤ 191) ∧ tkf n t p ≠ 5 ∧ ¬ (32 ≤ tkf n t p ∧ tkf n t p ≤ 39) ∧ ¬ (44 ≤ tkf n t p ∧ tkf n t p ≤ 51) ∧ ¬ (40 ≤ tkf n t p ∧ tkf n t p ≤ 43) ∧ ¬ (52 ≤ tkf n t p ∧ tkf n t p ≤ 57) ∧ tkf n t p ≠ 6) (h : MX n μ0 μ p md C K B D fe Vo) : ∃ μ', pieceB (tI (tkf n t p)) μ = some μ' ∧ Dead μ0 μ' (1, p) := by
  obtain ⟨w1, w2, w3, w4, w5, w6, w7⟩ := hw
  rw [pb_unf, if_neg w1, if_neg w2, if_neg w3, if_neg w4, if_neg w5, if_neg w6, if_neg w7]
  obtain ⟨μ', e1, h1⟩ := m_wrong hT (x := 1) 1 rfl (by decide) (h.2.1.1) h
  exact ⟨μ', by rw [e1, ca_s], h1⟩
theorem pb_open (hT : HM n t μ0) (hw : tkf n t p = 6) (h : MX n μ0 μ p md C K B D fe (some V)) : (V.length = 4 ∧ ∃ μ', pieceB (tI (tkf n t p)) μ = some μ' ∧ Dead μ0 μ' (3, p + 1)) ∨ (V.length < 4 ∧ ∃ μ', pieceB (tI (tkf n t p)) μ = some μ' ∧ MX n μ0 μ' (p + 1) 3 C K B D fe (some ((0, 0, 0, []) :: V))) := by
  have hp : p < n := tk_lt (t := t) (by omega)
  have h1 := m_next h hp
  rw [pb_unf, if_neg (by omega), if_neg (by omega), if_neg (by omega), if_neg (by omega), if_neg (by omega), if_neg (by omega), if_pos hw, h.2.1.1, nI_1]
  rcases m_enters hT (x := 0) (y := 0) 0 0 rfl rfl h1 with ⟨a, μ', e, b⟩ | ⟨a, μ', e, b⟩
  · exact Or.inl ⟨a, μ', by rw [e, ca_s], b⟩
  · exact Or.inr ⟨a, μ', by rw [e, ca_s], b⟩
theorem pb_arr (hT : HM n t μ0) (hw : 40 ≤ tkf n t p ∧ tkf n t p ≤ 43) (h : MX n μ0 μ p md C K B D fe (some V)) : (tkf n t (p + 1) ≠ 21 ∧ ∃ μ', pieceB (tI (tkf n t p)) μ = some μ' ∧ Dead μ0 μ' (1, p + 1)) ∨ (tkf n t (p + 1) = 21 ∧ V.length = 4 ∧ ∃ μ', pieceB (tI (tkf n t p)) μ = some μ' ∧ Dead μ0 μ' (3, p + 2)) ∨ (tkf n t (p + 1) = 21 ∧ V.length < 4 ∧ ∃ μ', pieceB (tI (tkf n t p)) μ = some μ' ∧ MX n μ0 μ' (p + 2) 3 C K B D fe (some ((1, tkf n t p - 40, 0, []) :: V))) := by
  have hp : p < n := tk_lt (t := t) (by omega)
  have h1 := m_next h hp
  rw [pb_unf, if_neg (by omega), if_neg (by omega), if_neg (by omega), if_neg (by omega), if_pos hw, h.2.1.1, nI_1]
  rcases m_must hT (x := 21) 21 rfl (by decide) h1 with ⟨a, μ1, e, b, c⟩ | ⟨a, μ', e, b⟩
  · rw [e, ca2_s, if_neg (by decide)]
    rcases m_enters hT (x := 1) (y := tI (tkf n t p) - 40) 1 (tkf n t p - 40) rfl (tI_sub (c := 40) hw.1 (by omega)) b with ⟨a2, μ', e2, b2⟩ | ⟨a2, μ', e2, b2⟩
    · exact Or.inr (Or.inl ⟨a, a2, μ', by rw [e2, ca_s], b2⟩)
    · exact Or.inr (Or.inr ⟨a, a2, μ', by rw [e2, ca_s], b2⟩)
  · exact Or.inl ⟨a, μ', by rw [e, ca2_s, if_pos rfl], b⟩
theorem giv_mid (K : List KF) (x : KF) (L : List KF) (g : Nat) : giv (K ++ x :: L) K.length g = K ++ (x.1, x.2.1, g) :: L := by
  induction K with
  | nil => rfl
  | cons y K ih =>
    show y :: giv (K ++ x :: L) K.length g = y :: (K ++ (x.1, x.2.1, g) :: L)
    rw [ih]
theorem giv_last (K : List KF) (x : KF) (g : Nat) : giv (K ++ [x]) K.length g = K ++ [(x.1, x.2.1, g)] := giv_mid K x [] g
theorem pb_call (hT : HM n t μ0) (hw : 52 ≤ tkf n t p ∧ tkf n t p ≤ 57) (hk : K.length < 160) (hl : C.length < 600) (h : MX n μ0 μ p md C K B D fe (some V)) :
    (tkf n t (p + 1) ≠ 6 ∧ ∃ μ', pieceB (tI (tkf n t p)) μ = some μ' ∧ Dead μ0 μ' (1, p + 1)) ∨
    (tkf n t (p + 1) = 6 ∧ tkf n t (p + 2) = 7 ∧ ∃ μ', pieceB (tI (tkf n t p)) μ = some μ' ∧ MX n μ0 μ' (p + 3) md (C ++ [(42, tkf n t p - 52)]) (K ++ [(p, tkf n t p - 52, 0)]) B D fe (some V) ∧ p + 2 < n) ∨
    (tkf n t (p + 1) = 6 ∧ tkf n t (p + 2) ≠ 7 ∧ V.length = 4 ∧ ∃ μ', pieceB (tI (tkf n t p)) μ = some μ' ∧ Dead μ0 μ' (3, p + 2)) ∨
    (tkf n t (p + 1) = 6 ∧ tkf n t (p + 2) ≠ 7 ∧ V.length < 4 ∧ ∃ μ', pieceB (tI (tkf n t p)) μ = some μ' ∧ MX n μ0 μ' (p + 2) 3 C (K ++ [(p, tkf n t p - 52, 1)]) B D fe (some ((2, K.length, 0, []) :: V))) := by
  rw [pb_unf, if_neg (by omega), if_neg (by omega), if_neg (by omega), if_neg (by omega), if_neg (by omega), if_pos hw]
  obtain ⟨μ1, e1, h1, hp⟩ := m_call hT ⟨hw.1, by omega⟩ hk h
  rw [e1, ca2_s]
  rcases m_must hT (x := 6) 6 rfl (by decide) h1 with ⟨a, μ2, e2, h2, hp2⟩ | ⟨a, μ', e, b⟩
  · refine Or.inr ?_
    rw [e2, ca2_s, if_neg (by decide)]
    unfold f_M_arguments
    rw [m_token hT h2, ca_s]
    by_cases h7 : tkf n t (p + 2) = 7
    · refine Or.inl ⟨a, h7, ?_⟩
      have hp3 : p + 2 < n := tk_lt (t := t) (by omega)
      have h3 := m_next h2 hp3
      obtain ⟨μ4, e4, h4⟩ := m_emit (x := 7) (y := nI K.length) 42 (tkf n t p - 52) rfl (show opd (K ++ [(p, tkf n t p - 52, 0)]) 42 (tkf n t p - 52) (nI K.length) from ⟨K.length, (p, tkf n t p - 52, 0), by simp, rfl, rfl⟩) hl h3
      refine ⟨μ4, ?_, h4, hp3⟩
      rw [if_pos ((tI_l (x := 7) 7 rfl (by decide)).mpr h7), nm_eq, h2.2.1.1, nI_1]
      unfold f_M_callEnds
      rw [e4, ca2_s, ca_s, ca_s]
    · rw [if_neg (fun hh => h7 ((tI_l (x := 7) 7 rfl (by decide)).mp hh)), gd_i (inb_nI hk (by decide)), nm_eq, cl_nI (by omega)]
      have h3 := m_given (x := 1) K.length 1 rfl (by simp) h2
      rw [giv_last] at h3
      rcases m_enters hT (x := 2) (y := nI K.length) 2 K.length rfl rfl h3 with ⟨a2, μ', e3, b2⟩ | ⟨a2, μ', e3, b2⟩
      · exact Or.inr (Or.inl ⟨a, h7, a2, μ', by rw [e3, ca_s, ca_s], b2⟩)
      · exact Or.inr (Or.inr ⟨a, h7, a2, μ', by rw [e3, ca_s, ca_s], b2⟩)
  · exact Or.inl ⟨a, μ', by rw [e, ca2_s, if_pos rfl], b⟩
end PC
