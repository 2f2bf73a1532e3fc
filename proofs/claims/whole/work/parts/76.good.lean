/-! steps that fit together: how deep the pile is before each; jumps that wait for their aim -/
def dpf (ar : Nat → Option Nat) : Nat → List (Nat × Nat) → Nat
  | x, [] => x
  | x, i :: S => dpf ar (nx ar i x) S
theorem dpf_app (ar : Nat → Option Nat) : ∀ (S T : List (Nat × Nat)) (x : Nat), dpf ar x (S ++ T) = dpf ar (dpf ar x S) T := by
  intro S
  induction S with
  | nil => intro T x; rfl
  | cons i S ih => intro T x; exact ih T _
def dq (ar : Nat → Option Nat) (C : List (Nat × Nat)) (k : Nat) : Nat := dpf ar 0 (C.take k)
def iok (ar : Nat → Option Nat) (C : List (Nat × Nat)) (X : Nat → Prop) (k : Nat) (i : Nat × Nat) (x : Nat) : Prop :=
  vok ar i x ∨ (i.1 = 32 ∧ x = 0) ∨ ((i.1 = 37 ∨ i.1 = 39) ∧ i.2 < 8 ∧ x = 1) ∨ (i.1 = 41 ∧ i.2 < 4 ∧ x = 2) ∨ ((i.1 = 43 ∨ i.1 = 44 ∨ i.1 = 0) ∧ x = 1) ∨
  (i.1 = 46 ∧ x = 1 ∧ (X k ∨ (k < i.2 ∧ i.2 ≤ C.length ∧ dq ar C i.2 = 0))) ∨
  (i.1 = 45 ∧ x = 0 ∧ (X k ∨ (i.2 ≤ C.length ∧ dq ar C i.2 = 0 ∧ (k < i.2 ∨ ∃ a, C[i.2]? = some (32, a)))))
def GD (ar : Nat → Option Nat) (X : Nat → Prop) (C : List (Nat × Nat)) (x : Nat) : Prop :=
  dpf ar 0 C = x ∧ ∀ k i, C[k]? = some i → iok ar C X k i (dq ar C k) ∧ dq ar C k ≤ 30
theorem get_lt {C : List (Nat × Nat)} {k : Nat} {i : Nat × Nat} (h : C[k]? = some i) : k < C.length := by
  rcases Nat.lt_or_ge k C.length with h1 | h1
  · exact h1
  · rw [List.getElem?_eq_none h1] at h; cases h
theorem get_app {C : List (Nat × Nat)} {k : Nat} {i : Nat × Nat} (T : List (Nat × Nat)) (h : C[k]? = some i) : (C ++ T)[k]? = some i := by
  rw [List.getElem?_append_left (get_lt h)]; exact h
theorem dq_app (ar : Nat → Option Nat) {C T : List (Nat × Nat)} {k : Nat} (h : k ≤ C.length) : dq ar (C ++ T) k = dq ar C k := by
  unfold dq
  rw [List.take_append_of_le_length h]
theorem dq_len (ar : Nat → Option Nat) (C : List (Nat × Nat)) : dq ar C C.length = dpf ar 0 C := by
  unfold dq
  rw [List.take_length]
theorem iok_app {ar : Nat → Option Nat} {C : List (Nat × Nat)} {X X' : Nat → Prop} {k x : Nat} {i : Nat × Nat} (T : List (Nat × Nat)) (hX : X k → X' k) (h : iok ar C X k i x) : iok ar (C ++ T) X' k i x := by
  rcases h with h | h | h | h | h | ⟨h1, h2, h3⟩ | ⟨h1, h2, h3⟩
  · exact Or.inl h
  · exact Or.inr (Or.inl h)
  · exact Or.inr (Or.inr (Or.inl h))
  · exact Or.inr (Or.inr (Or.inr (Or.inl h)))
  · exact Or.inr (Or.inr (Or.inr (Or.inr (Or.inl h))))
  · refine Or.inr (Or.inr (Or.inr (Or.inr (Or.inr (Or.inl ⟨h1, h2, ?_⟩)))))
    rcases h3 with h3 | ⟨h3, h4, h5⟩
    · exact Or.inl (hX h3)
    · exact Or.inr ⟨h3, by simp; omega, by rw [dq_app ar h4]; exact h5⟩
  · refine Or.inr (Or.inr (Or.inr (Or.inr (Or.inr (Or.inr ⟨h1, h2, ?_⟩)))))
    rcases h3 with h3 | ⟨h3, h4, h5⟩
    · exact Or.inl (hX h3)
    · refine Or.inr ⟨by simp; omega, by rw [dq_app ar h3]; exact h4, ?_⟩
      rcases h5 with h5 | ⟨a, h5⟩
      · exact Or.inl h5
      · exact Or.inr ⟨a, get_app T h5⟩
theorem GD_nil (ar : Nat → Option Nat) (X : Nat → Prop) : GD ar X [] 0 := ⟨rfl, fun k i h => by simp at h⟩
theorem GD_one {ar : Nat → Option Nat} {X X' : Nat → Prop} {C : List (Nat × Nat)} {x y : Nat} {i : Nat × Nat} (h : GD ar X C x) (hX : ∀ k, X k → X' k) (hi : iok ar (C ++ [i]) X' C.length i x) (hx : x ≤ 30) (hy : nx ar i x = y) : GD ar X' (C ++ [i]) y := by
  refine ⟨by rw [dpf_app, h.1]; exact hy, fun k i' hk => ?_⟩
  by_cases hkl : k < C.length
  · rw [List.getElem?_append_left hkl] at hk
    rw [dq_app ar (by omega)]
    exact ⟨iok_app [i] (hX k) (h.2 k i' hk).1, (h.2 k i' hk).2⟩
  · have := get_lt hk
    simp at this
    have hke : k = C.length := by omega
    subst hke
    simp at hk
    subst hk
    rw [dq_app ar (Nat.le_refl _), dq_len, h.1]
    exact ⟨hi, hx⟩
theorem GD_val {ar : Nat → Option Nat} {X : Nat → Prop} : ∀ {S C : List (Nat × Nat)} {x y : Nat}, GD ar X C x → VT ar x S y → GD ar X (C ++ S) y := by
  intro S
  induction S with
  | nil => intro C x y h hv; cases hv; rw [List.append_nil]; exact h
  | cons i S ih =>
    intro C x y h hv
    obtain ⟨h1, h2, h3⟩ := hv
    have := ih (GD_one h (fun _ hk => hk) (Or.inl h1) h2 rfl) h3
    rw [List.append_assoc] at this
    exact this
theorem GD_32 {ar : Nat → Option Nat} {X : Nat → Prop} {C : List (Nat × Nat)} {a : Nat} (h : GD ar X C 0) : GD ar X (C ++ [(32, a)]) 0 := GD_one h (fun _ hk => hk) (Or.inr (Or.inl ⟨rfl, rfl⟩)) (by omega) rfl
theorem GD_fin {ar : Nat → Option Nat} {X : Nat → Prop} {C : List (Nat × Nat)} {o a x : Nat} (h : GD ar X C x) (ho : ((o = 37 ∨ o = 39) ∧ a < 8 ∧ x = 1) ∨ (o = 41 ∧ a < 4 ∧ x = 2) ∨ ((o = 43 ∨ o = 44 ∨ o = 0) ∧ x = 1)) : GD ar X (C ++ [(o, a)]) 0 := by
  refine GD_one h (fun _ hk => hk) (Or.inr (Or.inr ?_)) (by omega) ?_
  · rcases ho with ho | ho | ho
    · exact Or.inl ho
    · exact Or.inr (Or.inl ho)
    · exact Or.inr (Or.inr (Or.inl ho))
  · rcases ho with ⟨rfl | rfl, -, rfl⟩ | ⟨rfl, -, rfl⟩ | ⟨rfl | rfl | rfl, rfl⟩ <;> simp [nx]
theorem GD_46 {ar : Nat → Option Nat} {X : Nat → Prop} {C : List (Nat × Nat)} {a : Nat} (h : GD ar X C 1) : GD ar (fun k => X k ∨ k = C.length) (C ++ [(46, a)]) 0 := GD_one h (fun _ hk => Or.inl hk) (Or.inr (Or.inr (Or.inr (Or.inr (Or.inr (Or.inl ⟨rfl, rfl, Or.inl (Or.inr rfl)⟩)))))) (by omega) rfl
theorem GD_45 {ar : Nat → Option Nat} {X : Nat → Prop} {C : List (Nat × Nat)} {a : Nat} (h : GD ar X C 0) : GD ar (fun k => X k ∨ k = C.length) (C ++ [(45, a)]) 0 := GD_one h (fun _ hk => Or.inl hk) (Or.inr (Or.inr (Or.inr (Or.inr (Or.inr (Or.inr ⟨rfl, rfl, Or.inl (Or.inr rfl)⟩)))))) (by omega) rfl
theorem GD_back {ar : Nat → Option Nat} {X : Nat → Prop} {C : List (Nat × Nat)} {b a : Nat} (h : GD ar X C 0) (hb : C[b]? = some (32, a)) : GD ar X (C ++ [(45, b)]) 0 := by
  have hl := get_lt hb
  have h0 : dq ar C b = 0 := by
    rcases (h.2 b _ hb).1 with h1 | h1 | h1 | h1 | h1 | h1 | h1
    · unfold vok at h1; simp at h1
    · exact h1.2
    all_goals simp at h1
  exact GD_one h (fun _ hk => hk) (Or.inr (Or.inr (Or.inr (Or.inr (Or.inr (Or.inr ⟨rfl, rfl, Or.inr ⟨by simp; omega, by rw [dq_app ar (by dsimp only; omega)]; exact h0, Or.inr ⟨a, get_app _ hb⟩⟩⟩)))))) (by omega) rfl
theorem aimed_len (C : List (Nat × Nat)) (j v : Nat) : (aimed C j v).length = C.length := by unfold aimed; simp
theorem aimed_get (C : List (Nat × Nat)) (j v k : Nat) : (aimed C j v)[k]? = if j = k then (C[k]?).map (fun x => (x.1, v)) else C[k]? := by
  unfold aimed
  rw [List.getElem?_modify]
  by_cases h : j = k
  · simp [h]
  · simp [h]
theorem aimed_app {C T : List (Nat × Nat)} {j v : Nat} (h : C.length ≤ j) : aimed (C ++ T) j v = C ++ aimed T (j - C.length) v := by
  apply List.ext_getElem?
  intro k
  rw [aimed_get]
  by_cases hk : k < C.length
  · rw [if_neg (by omega), List.getElem?_append_left hk, List.getElem?_append_left hk]
  · rw [List.getElem?_append_right (by omega), List.getElem?_append_right (by omega), aimed_get]
    by_cases hj : j = k
    · rw [if_pos hj, if_pos (by omega)]
    · rw [if_neg hj, if_neg (by omega)]
theorem dpf_aimed (ar : Nat → Option Nat) (v : Nat) : ∀ (C : List (Nat × Nat)) (j k x o a : Nat), C[j]? = some (o, a) → (o = 45 ∨ o = 46) → dpf ar x ((aimed C j v).take k) = dpf ar x (C.take k) := by
  intro C
  induction C with
  | nil => intro j k x o a h; simp at h
  | cons i C ih =>
    intro j k x o a h ho
    cases k with
    | zero => rfl
    | succ k =>
      cases j with
      | zero =>
        simp at h
        subst h
        show dpf ar (nx ar (o, v) x) (C.take k) = dpf ar (nx ar (o, a) x) (C.take k)
        congr 1
        rcases ho with rfl | rfl <;> simp [nx]
      | succ j =>
        show dpf ar (nx ar i x) ((aimed C j v).take k) = dpf ar (nx ar i x) (C.take k)
        exact ih j k _ o a (by simpa using h) ho
theorem GD_aim {ar : Nat → Option Nat} {X X' : Nat → Prop} {C : List (Nat × Nat)} {j o a : Nat} (h : GD ar X C 0) (hj : C[j]? = some (o, a)) (ho : o = 45 ∨ o = 46) (hX : ∀ k, X k → X' k ∨ k = j) : GD ar X' (aimed C j C.length) 0 := by
  have hd : ∀ k, dq ar (aimed C j C.length) k = dq ar C k := fun k => dpf_aimed ar _ C j k 0 o a hj ho
  have hjl := get_lt hj
  have he : dpf ar 0 (aimed C j C.length) = 0 := by
    rw [← dq_len, aimed_len, hd, dq_len]; exact h.1
  have hL : dq ar C C.length = 0 := by rw [dq_len]; exact h.1
  refine ⟨he, fun k i hk => ?_⟩
  rw [hd]
  rw [aimed_get] at hk
  by_cases hkj : j = k
  · subst hkj
    rw [if_pos rfl, hj] at hk
    have hk2 : (o, C.length) = i := by simpa using hk
    subst hk2
    refine ⟨?_, (h.2 j _ hj).2⟩
    have hi := (h.2 j _ hj).1
    rcases ho with rfl | rfl
    · refine Or.inr (Or.inr (Or.inr (Or.inr (Or.inr (Or.inr ⟨rfl, ?_, Or.inr ⟨by rw [aimed_len]; exact Nat.le_refl _, by rw [hd]; exact hL, Or.inl hjl⟩⟩)))))
      rcases hi with h1 | h1 | h1 | h1 | h1 | h1 | h1
      · unfold vok at h1; simp at h1
      · simp at h1
      · simp at h1
      · simp at h1
      · simp at h1
      · simp at h1
      · exact h1.2.1
    · refine Or.inr (Or.inr (Or.inr (Or.inr (Or.inr (Or.inl ⟨rfl, ?_, Or.inr ⟨hjl, by rw [aimed_len]; exact Nat.le_refl _, by rw [hd]; exact hL⟩⟩)))))
      rcases hi with h1 | h1 | h1 | h1 | h1 | h1 | h1
      · unfold vok at h1; simp at h1
      · simp at h1
      · simp at h1
      · simp at h1
      · simp at h1
      · exact h1.2.1
      · simp at h1
  · rw [if_neg hkj] at hk
    have hi := h.2 k i hk
    refine ⟨?_, hi.2⟩
    have hXk : X k → X' k := fun hx => by
      rcases hX k hx with h1 | h1
      · exact h1
      · exact absurd h1.symm hkj
    rcases hi.1 with h1 | h1 | h1 | h1 | h1 | ⟨h1, h2, h3⟩ | ⟨h1, h2, h3⟩
    · exact Or.inl h1
    · exact Or.inr (Or.inl h1)
    · exact Or.inr (Or.inr (Or.inl h1))
    · exact Or.inr (Or.inr (Or.inr (Or.inl h1)))
    · exact Or.inr (Or.inr (Or.inr (Or.inr (Or.inl h1))))
    · refine Or.inr (Or.inr (Or.inr (Or.inr (Or.inr (Or.inl ⟨h1, h2, ?_⟩)))))
      rcases h3 with h3 | ⟨h3, h4, h5⟩
      · exact Or.inl (hXk h3)
      · exact Or.inr ⟨h3, by rw [aimed_len]; exact h4, by rw [hd]; exact h5⟩
    · refine Or.inr (Or.inr (Or.inr (Or.inr (Or.inr (Or.inr ⟨h1, h2, ?_⟩)))))
      rcases h3 with h3 | ⟨h3, h4, h5⟩
      · exact Or.inl (hXk h3)
      · refine Or.inr ⟨by rw [aimed_len]; exact h3, by rw [hd]; exact h4, ?_⟩
        rcases h5 with h5 | ⟨a', h5⟩
        · exact Or.inl h5
        · refine Or.inr ⟨a', ?_⟩
          have hne : ¬ j = i.2 := fun hh => by
            rw [← hh, hj] at h5
            have : o = 32 := by cases h5; rfl
            omega
          rw [aimed_get, if_neg hne]
          exact h5
