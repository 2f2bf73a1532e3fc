/-! words agrees -/
def byt (x : Int32) (k : Nat) : Nat := x.toBitVec.toNat / 2 ^ (8 * k) % 256
theorem byt_C (x : Int32) {k : Nat} (h : k < 4) : f_S_byteOf x (nI k) = some (nI (byt x k)) := by
  unfold f_S_byteOf byt
  rw [pk_and _ 8 rfl]
  have : k = 0 ∨ k = 1 ∨ k = 2 ∨ k = 3 := by omega
  rcases this with rfl | rfl | rfl | rfl
  · rw [pk_ushr _ _ 0 rfl]
  · rw [pk_ushr _ _ 8 rfl]
  · rw [pk_ushr _ _ 16 rfl]
  · rw [pk_ushr _ _ 24 rfl]
theorem byt_aux (x s : Int32) (k : Nat) (hk : k = 0 ∨ k = 8 ∨ k = 16 ∨ k = 24) (hs : (s.toBitVec.smod 32).toNat = k) : (x >>> s).toBitVec.toNat % 2 ^ 8 = x.toBitVec.toNat / 2 ^ k % 256 := by
  have h1 : (x >>> s).toBitVec.toInt = x.toBitVec.toInt >>> k := pk_shr x s k hs
  rw [BitVec.toInt_eq_toNat_cond, BitVec.toInt_eq_toNat_cond, Int.shiftRight_eq_div_pow] at h1
  have h2 := (x >>> s).toBitVec.isLt
  have h3 := x.toBitVec.isLt
  rcases hk with rfl | rfl | rfl | rfl <;> split at h1 <;> split at h1 <;> omega
theorem byt_M (x : Int32) {k : Nat} (h : k < 4) : (x >>> (((8 : Int32) * nI k) &&& 31)) &&& (255 : Int32) = nI (byt x k) := by
  unfold byt
  rw [pk_and _ 8 rfl]
  have : k = 0 ∨ k = 1 ∨ k = 2 ∨ k = 3 := by omega
  rcases this with rfl | rfl | rfl | rfl
  · rw [byt_aux _ _ 0 (by decide) rfl]
  · rw [byt_aux _ _ 8 (by decide) rfl]
  · rw [byt_aux _ _ 16 (by decide) rfl]
  · rw [byt_aux _ _ 24 (by decide) rfl]
theorem byt_lt (x : Int32) (k : Nat) : byt x k < 256 := Nat.mod_lt _ (by decide)
theorem chk1 {β : Type} {F : (Int32 → Option β) → Int32 → Option β} {z : Int32 → Option β} {m : Nat} {b : Nat → Nat} {bad : Option β}
    (hs : ∀ kk i, i < m → F kk (nI i) = if b i ≤ 191 then kk (nI (i + 1)) else bad) (he : ∀ kk, F kk (nI m) = F z (nI m)) :
    ∀ d i fuel, i + d = m → d < fuel → ((∀ k, i ≤ k → k < m → b k ≤ 191) → lpk F z fuel (nI i) = F z (nI m)) ∧ ((∃ k, i ≤ k ∧ k < m ∧ 191 < b k) → lpk F z fuel (nI i) = bad) := by
  intro d
  induction d with
  | zero =>
    intro i fuel h1 h2
    obtain ⟨g, rfl⟩ : ∃ g, fuel = g + 1 := ⟨fuel - 1, by omega⟩
    obtain rfl : i = m := by omega
    exact ⟨fun _ => by rw [lpk_s, he], fun ⟨k, a, b, _⟩ => by omega⟩
  | succ d ih =>
    intro i fuel h1 h2
    obtain ⟨g, rfl⟩ : ∃ g, fuel = g + 1 := ⟨fuel - 1, by omega⟩
    obtain ⟨i1, i2⟩ := ih (i + 1) g (by omega) (by omega)
    refine ⟨fun h => ?_, fun ⟨k, a1, a2, a3⟩ => ?_⟩
    · rw [lpk_s, hs _ _ (by omega), if_pos (h i (by omega) (by omega))]
      exact i1 (fun k h3 h4 => h k (by omega) h4)
    · rw [lpk_s, hs _ _ (by omega)]
      by_cases hb : b i ≤ 191
      · rw [if_pos hb]
        have : k ≠ i := fun hh => by subst hh; omega
        exact i2 ⟨k, by omega, a2, a3⟩
      · rw [if_neg hb]
theorem chk2 {β : Type} {F : (Int32 → Int32 → Option β) → Int32 → Int32 → Option β} {z : Int32 → Int32 → Option β} {m : Nat} {b : Nat → Nat} {bad : Option β}
    (hs : ∀ kk i, i < m → F kk 1 (nI i) = kk (if 191 < b i then 0 else 1) (nI (i + 1))) (hb : ∀ kk x, F kk 0 x = bad) (he : ∀ kk, F kk 1 (nI m) = F z 1 (nI m)) :
    ∀ d i fuel, i + d = m → d < fuel → ((∀ k, i ≤ k → k < m → b k ≤ 191) → lpk F z fuel 1 (nI i) = F z 1 (nI m)) ∧ ((∃ k, i ≤ k ∧ k < m ∧ 191 < b k) → lpk F z fuel 1 (nI i) = bad) := by
  intro d
  induction d with
  | zero =>
    intro i fuel h1 h2
    obtain ⟨g, rfl⟩ : ∃ g, fuel = g + 1 := ⟨fuel - 1, by omega⟩
    obtain rfl : i = m := by omega
    exact ⟨fun _ => by rw [lpk_s, he], fun ⟨k, a, b, _⟩ => by omega⟩
  | succ d ih =>
    intro i fuel h1 h2
    obtain ⟨g, rfl⟩ : ∃ g, fuel = g + 2 := ⟨fuel - 2, by omega⟩
    obtain ⟨i1, i2⟩ := ih (i + 1) (g + 1) (by omega) (by omega)
    refine ⟨fun h => ?_, fun ⟨k, a1, a2, a3⟩ => ?_⟩
    · rw [lpk_s, hs _ _ (by omega), if_neg (by have := h i (by omega) (by omega); omega)]
      exact i1 (fun k h3 h4 => h k (by omega) h4)
    · rw [lpk_s, hs _ _ (by omega)]
      by_cases hbi : 191 < b i
      · rw [if_pos hbi, lpk_s, hb]
      · rw [if_neg hbi]
        have : k ≠ i := fun hh => by subst hh; omega
        exact i2 ⟨k, by omega, a2, a3⟩
theorem big_words {x : Int32} : x < 1 ∨ ¬ x ≤ 4 ∨ ∃ n : Nat, 1 ≤ n ∧ n ≤ 4 ∧ x = nI n := by
  by_cases h1 : x < 1
  · exact Or.inl h1
  by_cases h2 : x ≤ 4
  · rw [Int32.lt_iff_toInt_lt] at h1
    rw [Int32.le_iff_toInt_le] at h2
    have e1 : (1 : Int32).toInt = 1 := rfl
    have e2 : (4 : Int32).toInt = 4 := rfl
    refine Or.inr (Or.inr ⟨x.toInt.toNat, by omega, by omega, ?_⟩)
    apply Int32.toInt_inj.mp
    rw [nI_toInt (by omega)]
    omega
  · exact Or.inr (Or.inl h2)
/-- the text with m bytes of x behind it -/
def txt (t : Nat → Nat) (n m : Nat) (b : Nat → Nat) (i : Nat) : Nat := if i < n then t i else b (m - 1 - (i - n))
def wC (N : Nat) (a1 x11 : Int32) (μ : St) : Option (Nat × Int32 × St) :=
  lpk (fun (k14 : Int32 → St → Option (Nat × Int32 × St)) (x12 : Int32) (μ13 : St) =>
if x12 < 0 then (
ca (f_T_length μ13) fun x18 =>
some (0, x18, μ13))
else (
ca (f_S_byteOf a1 x12) fun x20 =>
ca (f_T_add x20 μ13) fun μ22 =>
nm (x12 + (-1 : Int32)) fun x23 =>
k14 x23 μ22)) (fun _ _ => none) N x11 μ
def wM (N : Nat) (a1 x18 : Int32) (μ17 : St) : Option (Int32 × St) :=
lpk (fun (k21 : Int32 → St → Option (Int32 × St)) (x19 : Int32) (μ20 : St) =>
if x19 < 0 then (
some (μ20 101 0, μ20))
else (
if (μ20 100 0) = 0 then (
gd (inb (μ20 101 0) 161) <| nm (st μ20 1 (μ20 101 0).toNatClampNeg ((a1 >>> (((8 : Int32) * x19) &&& 31)) &&& (255 : Int32))) fun μ26 =>
nm (st μ26 101 0 ((μ26 101 0) + (1 : Int32))) fun μ27 =>
nm (x19 + (-1 : Int32)) fun x28 =>
k21 x28 μ27)
else (
some (μ20 101 0, μ20)))) (fun _ _ => none) N x18 μ17
theorem s_wC {N n m : Nat} (hN : 100 ≤ N) (a1 : Int32) {ν : St} {t : Nat → Nat} (hm : m ≤ 4) (hn : n + m ≤ 160) (h1 : ν 121 0 = nI n) (h2 : ∀ i, i < n → ν 7 i = nI (t i)) :
    ∃ ν', wC N a1 (nI m - 1) ν = some (0, nI (n + m), ν') ∧ ν' 121 0 = nI (n + m) ∧ (∀ i, i < n + m → ν' 7 i = nI (txt t n m (byt a1) i)) ∧ ∀ r, r ≠ 7 → r ≠ 121 → ν' r = ν r := by
  unfold wC
  have h := loop_d (F := fun (k14 : Int32 → St → Option (Nat × Int32 × St)) (x12 : Int32) (μ13 : St) => if x12 < 0 then (ca (f_T_length μ13) fun x18 => some (0, x18, μ13)) else (ca (f_S_byteOf a1 x12) fun x20 => ca (f_T_add x20 μ13) fun μ22 => nm (x12 + (-1 : Int32)) fun x23 => k14 x23 μ22)) (z := fun _ _ => none) (m := m) (step := fun k μ => st (st μ 7 (n + (m - (k + 1))) (nI (byt a1 k))) 121 0 (nI (n + (m - k))))
    (ok := fun k μ => μ 121 0 = nI (n + (m - k)) ∧ (∀ i, i < n + (m - k) → μ 7 i = nI (txt t n m (byt a1) i)) ∧ ∀ r, r ≠ 7 → r ≠ 121 → μ r = ν r)
    (fun kk k μ hk ho => by
      show (if nI k < 0 then _ else _) = _
      rw [if_neg (nI_pos (by omega)), byt_C a1 (by omega), ca_s]
      unfold f_T_add
      rw [ho.1, if_neg (nI_pos (by omega)), if_neg (show ¬ (160 : Int32) ≤ nI (n + (m - (k + 1))) from nI_ge (b := 160) (by omega) (by decide)), gd_i (inb_nI (by omega) (by decide)), nm_eq, nm_eq, ca_s, nm_eq, cl_nI (by omega), st_ne (by decide), ho.1, nI_1, show n + (m - (k + 1)) + 1 = n + (m - k) by omega, show nI k + (-1 : Int32) = ix k from by unfold ix; rw [Int32.sub_eq_add_neg]])
    (fun k μ hk ho => ⟨st_at _ _ _ _, fun i hi => by
      rw [st_ne (by decide), st_row]
      by_cases hi2 : i = n + (m - (k + 1))
      · subst hi2
        rw [pk_us]
        unfold txt
        rw [if_neg (by omega), show m - 1 - (n + (m - (k + 1)) - n) = k by omega]
      · rw [pk_un hi2]
        exact ho.2.1 i (by omega), fun r g1 g2 => by rw [st_ne' g2, st_ne' g1]; exact ho.2.2 r g1 g2⟩)
    (fun kk μ _ => by
      show (if ix 0 < 0 then _ else _) = (if ix 0 < 0 then _ else _)
      rw [if_pos ix_0, if_pos ix_0]) m N ν (by omega) (by omega) ⟨by rw [Nat.sub_self]; exact h1, fun i hi => by rw [h2 i (by omega)]; unfold txt; rw [if_pos (by omega)], fun _ _ _ => rfl⟩
  obtain ⟨ν', hν⟩ : ∃ z, z = dnn (fun k μ => st (st μ 7 (n + (m - (k + 1))) (nI (byt a1 k))) 121 0 (nI (n + (m - k)))) m ν := ⟨_, rfl⟩
  rw [← hν] at h
  refine ⟨ν', ?_, ?_, ?_, h.2.2.2⟩
  · refine h.1.trans ?_
    show (if ix 0 < 0 then _ else _) = _
    rw [if_pos ix_0]
    unfold f_T_length
    rw [ca_s, h.2.1, Nat.sub_zero]
  · exact h.2.1
  · exact h.2.2.1
theorem s_wM {N n m : Nat} (hN : 100 ≤ N) (a1 : Int32) {ν : St} {t : Nat → Nat} (hm : m ≤ 4) (hn : n + m ≤ 160) (h0 : ν 100 0 = 0) (h1 : ν 101 0 = nI n) (h2 : ∀ i, i < n → ν 1 i = nI (t i)) :
    ∃ ν', wM N a1 (nI m - 1) ν = some (nI (n + m), ν') ∧ ν' 101 0 = nI (n + m) ∧ (∀ i, i < n + m → ν' 1 i = nI (txt t n m (byt a1) i)) ∧ ∀ r, r ≠ 1 → r ≠ 101 → ν' r = ν r := by
  unfold wM
  have h := loop_d (F := fun (k21 : Int32 → St → Option (Int32 × St)) (x19 : Int32) (μ20 : St) => if x19 < 0 then (some (μ20 101 0, μ20)) else (if (μ20 100 0) = 0 then (gd (inb (μ20 101 0) 161) <| nm (st μ20 1 (μ20 101 0).toNatClampNeg ((a1 >>> (((8 : Int32) * x19) &&& 31)) &&& (255 : Int32))) fun μ26 => nm (st μ26 101 0 ((μ26 101 0) + (1 : Int32))) fun μ27 => nm (x19 + (-1 : Int32)) fun x28 => k21 x28 μ27) else (some (μ20 101 0, μ20)))) (z := fun _ _ => none) (m := m) (step := fun k μ => st (st μ 1 (n + (m - (k + 1))) (nI (byt a1 k))) 101 0 (nI (n + (m - k))))
    (ok := fun k μ => μ 101 0 = nI (n + (m - k)) ∧ (∀ i, i < n + (m - k) → μ 1 i = nI (txt t n m (byt a1) i)) ∧ ∀ r, r ≠ 1 → r ≠ 101 → μ r = ν r)
    (fun kk k μ hk ho => by
      show (if nI k < 0 then _ else _) = _
      have h100 : μ 100 0 = 0 := by rw [ho.2.2 100 (by decide) (by decide)]; exact h0
      rw [if_neg (nI_pos (by omega)), if_pos h100, byt_M a1 (by omega), ho.1, gd_i (inb_nI (by omega) (by decide)), nm_eq, nm_eq, nm_eq, cl_nI (by omega), st_ne (by decide), ho.1, nI_1, show n + (m - (k + 1)) + 1 = n + (m - k) by omega, show nI k + (-1 : Int32) = ix k from by unfold ix; rw [Int32.sub_eq_add_neg]])
    (fun k μ hk ho => ⟨st_at _ _ _ _, fun i hi => by
      rw [st_ne (by decide), st_row]
      by_cases hi2 : i = n + (m - (k + 1))
      · subst hi2
        rw [pk_us]
        unfold txt
        rw [if_neg (by omega), show m - 1 - (n + (m - (k + 1)) - n) = k by omega]
      · rw [pk_un hi2]
        exact ho.2.1 i (by omega), fun r g1 g2 => by rw [st_ne' g2, st_ne' g1]; exact ho.2.2 r g1 g2⟩)
    (fun kk μ _ => by
      show (if ix 0 < 0 then _ else _) = (if ix 0 < 0 then _ else _)
      rw [if_pos ix_0, if_pos ix_0]) m N ν (by omega) (by omega) ⟨by rw [Nat.sub_self]; exact h1, fun i hi => by rw [h2 i (by omega)]; unfold txt; rw [if_pos (by omega)], fun _ _ _ => rfl⟩
  obtain ⟨ν', hν⟩ : ∃ z, z = dnn (fun k μ => st (st μ 1 (n + (m - (k + 1))) (nI (byt a1 k))) 101 0 (nI (n + (m - k)))) m ν := ⟨_, rfl⟩
  rw [← hν] at h
  refine ⟨ν', ?_, ?_, ?_, h.2.2.2⟩
  · refine h.1.trans ?_
    show (if ix 0 < 0 then _ else _) = _
    rw [if_pos ix_0, h.2.1, Nat.sub_zero]
  · exact h.2.1
  · exact h.2.2.1
theorem s_wM_bad {N : Nat} (hN : 1 ≤ N) (a1 x : Int32) {μ : St} (h : ¬ μ 100 0 = 0) : wM N a1 x μ = some (μ 101 0, μ) := by
  obtain ⟨g, rfl⟩ : ∃ g, N = g + 1 := ⟨N - 1, by omega⟩
  unfold wM
  rw [lpk_s]
  by_cases hx : x < 0
  · rw [if_pos hx]
  · rw [if_neg hx, if_neg h]
def gM (N : Nat) (a1 a2 : Int32) (μ : St) (x5 : Int32) : Option (Int32 × St) := if x5 = 0 then wM N a1 (a2 - 1) (st μ 100 0 1) else if ((μ 101 0) + a2) ≤ (160 : Int32) then wM N a1 (a2 - 1) (st μ 100 0 0) else wM N a1 (a2 - 1) (st μ 100 0 2)
def FW (N : Nat) (a1 a2 : Int32) (μ : St) (k8 : Int32 → Int32 → Option (Int32 × St)) (x5 x6 : Int32) : Option (Int32 × St) :=
  if a2 ≤ x6 then gM N a1 a2 μ x5 else if x5 = 0 then gM N a1 a2 μ x5 else if (191 : Int32) < ((a1 >>> (((8 : Int32) * x6) &&& 31)) &&& (255 : Int32)) then k8 0 (x6 + 1) else k8 1 (x6 + 1)
theorem s_M_words {N : Nat} (a1 a2 : Int32) (μ : St) : f_M_words N a1 a2 μ = (if a2 < 1 then lpk (FW N a1 a2 μ) (fun _ _ => none) N 0 0 else if 4 < a2 then lpk (FW N a1 a2 μ) (fun _ _ => none) N 0 0 else lpk (FW N a1 a2 μ) (fun _ _ => none) N 1 0) := rfl
def FWC (N : Nat) (a1 a2 : Int32) (μ : St) (k5 : Int32 → Option (Nat × Int32 × St)) (x3 : Int32) : Option (Nat × Int32 × St) :=
  if a2 ≤ x3 then (ca (f_T_length μ) fun x9 => if (x9 + a2) ≤ (160 : Int32) then wC N a1 (a2 - 1) μ else some (2, 0, μ)) else (ca (f_S_byteOf a1 x3) fun x25 => if x25 ≤ (191 : Int32) then k5 (x3 + 1) else some (1, 0, μ))
theorem s_S_words {N : Nat} (a1 a2 : Int32) (μ : St) : f_S_words N a1 a2 μ = (if a2 < 1 then some (1, 0, μ) else if a2 ≤ 4 then lpk (FWC N a1 a2 μ) (fun _ => none) N 0 else some (1, 0, μ)) := rfl
theorem FW_bad {N : Nat} (hN : 1 ≤ N) (a1 a2 : Int32) (μ : St) (kk : Int32 → Int32 → Option (Int32 × St)) (x : Int32) : FW N a1 a2 μ kk 0 x = some (μ 101 0, st μ 100 0 1) := by
  have h : gM N a1 a2 μ 0 = some (μ 101 0, st μ 100 0 1) := by
    unfold gM
    rw [if_pos rfl, s_wM_bad hN _ _ (by rw [st_at]; decide), st_ne (by decide)]
  unfold FW
  rw [h]
  by_cases hx : a2 ≤ x
  · rw [if_pos hx]
  · rw [if_neg hx, if_pos rfl]
set_option maxHeartbeats 4000000 in
theorem ok_words {N j : Nat} (hN : 100 ≤ N) {ν μ : St} (p0 p1 : Int32) (h : Rel j ν μ) : ∃ (k : Nat) (r : Int32) (ν' : St) (bv : Int32) (μ' : St), (k = 0 ∨ k = 1 ∨ k = 2) ∧ f_S_words N p0 p1 ν = some (k, r, ν') ∧ f_M_words N p0 p1 μ = some (bv, μ') ∧ f_M_thrown μ' = some (if k = 0 then 0 else if k = 1 then 1 else 2) ∧ (k = 0 → bv = r) ∧ Rel (j + 1) ν' μ' := by
  obtain ⟨⟨n, t, hn, ht, n1, n2, n3⟩, hK, hV, hP⟩ := id h
  have bad : ∀ (hC : f_S_words N p0 p1 ν = some (1, 0, ν)) (hM : f_M_words N p0 p1 μ = some (μ 101 0, st μ 100 0 1)), ∃ (k : Nat) (r : Int32) (ν' : St) (bv : Int32) (μ' : St), (k = 0 ∨ k = 1 ∨ k = 2) ∧ f_S_words N p0 p1 ν = some (k, r, ν') ∧ f_M_words N p0 p1 μ = some (bv, μ') ∧ f_M_thrown μ' = some (if k = 0 then 0 else if k = 1 then 1 else 2) ∧ (k = 0 → bv = r) ∧ Rel (j + 1) ν' μ' :=
    fun hC hM => ⟨1, 0, ν, μ 101 0, st μ 100 0 1, Or.inr (Or.inl rfl), hC, hM, thr_0 _ _, fun h => absurd h (by decide), Rel_no (Rel_threw h)⟩
  have e0 : lpk (FW N p0 p1 μ) (fun _ _ => none) N 0 0 = some (μ 101 0, st μ 100 0 1) := by
    obtain ⟨g, rfl⟩ : ∃ g, N = g + 1 := ⟨N - 1, by omega⟩
    rw [lpk_s, FW_bad (by omega)]
  rcases big_words (x := p1) with hp | hp | ⟨m, hm1, hm2, rfl⟩
  · exact bad (by rw [s_S_words, if_pos hp]) (by rw [s_M_words, if_pos hp, e0])
  · by_cases hp1 : p1 < 1
    · exact bad (by rw [s_S_words, if_pos hp1]) (by rw [s_M_words, if_pos hp1, e0])
    · have hp4 : 4 < p1 := by
        rw [Int32.lt_iff_toInt_lt]
        rw [Int32.le_iff_toInt_le] at hp
        omega
      exact bad (by rw [s_S_words, if_neg hp1, if_neg hp]) (by rw [s_M_words, if_neg hp1, if_pos hp4, e0])
  · have hp1 : ¬ nI m < 1 := nI_nlt (a := m) (b := 1) hm1 (by omega)
    have hp2 : nI m ≤ 4 := nI_le (b := 4) hm2 (by decide)
    have hp3 : ¬ 4 < nI m := nI_nlt (a := 4) (b := m) hm2 (by decide)
    obtain ⟨c1, c2⟩ := chk1 (F := FWC N p0 (nI m) ν) (z := fun _ => none) (m := m) (b := byt p0) (bad := some (1, 0, ν)) (fun kk i hi => by
      unfold FWC
      rw [if_neg (show ¬ nI m ≤ nI i from nI_ge (b := m) hi (by omega)), byt_C p0 (by omega), ca_s, nI_1]
      have hb := byt_lt p0 i
      by_cases hx : byt p0 i ≤ 191
      · rw [if_pos hx, if_pos (show nI (byt p0 i) ≤ (191 : Int32) from nI_le (b := 191) hx (by decide))]
      · rw [if_neg hx, if_neg (show ¬ nI (byt p0 i) ≤ (191 : Int32) from nI_ge (a := 191) (b := byt p0 i) (by omega) (by omega))]) (fun kk => by
      unfold FWC
      rw [if_pos (nI_le (Nat.le_refl m) (by omega)), if_pos (nI_le (Nat.le_refl m) (by omega))]) m 0 N (by omega) (by omega)
    obtain ⟨d1, d2⟩ := chk2 (F := FW N p0 (nI m) μ) (z := fun _ _ => none) (m := m) (b := byt p0) (bad := some (μ 101 0, st μ 100 0 1)) (fun kk i hi => by
      unfold FW
      rw [if_neg (show ¬ nI m ≤ nI i from nI_ge (b := m) hi (by omega)), if_neg (by decide), byt_M p0 (by omega), nI_1]
      have hb := byt_lt p0 i
      by_cases hx : 191 < byt p0 i
      · rw [if_pos hx, if_pos (show (191 : Int32) < nI (byt p0 i) from nI_lt (a := 191) (b := byt p0 i) hx (by omega))]
      · rw [if_neg hx, if_neg (show ¬ (191 : Int32) < nI (byt p0 i) from nI_nlt (a := 191) (b := byt p0 i) (by omega) (by decide))]) (fun kk x => FW_bad (by omega) _ _ _ _ _) (fun kk => by
      unfold FW
      rw [if_pos (nI_le (Nat.le_refl m) (by omega)), if_pos (nI_le (Nat.le_refl m) (by omega))]) m 0 N (by omega) (by omega)
    by_cases hall : ∀ k, 0 ≤ k → k < m → byt p0 k ≤ 191
    · have z1 : FWC N p0 (nI m) ν (fun _ => none) (nI m) = if nI (n + m) ≤ (160 : Int32) then wC N p0 (nI m - 1) ν else some (2, 0, ν) := by
        unfold FWC f_T_length
        rw [if_pos (nI_le (Nat.le_refl m) (by omega)), ca_s, n1, nI_add]
      have z2 : FW N p0 (nI m) μ (fun _ _ => none) 1 (nI m) = if nI (n + m) ≤ (160 : Int32) then wM N p0 (nI m - 1) (st μ 100 0 0) else wM N p0 (nI m - 1) (st μ 100 0 2) := by
        unfold FW gM
        rw [if_pos (nI_le (Nat.le_refl m) (by omega)), if_neg (show ¬ (1 : Int32) = 0 by decide), n2, nI_add]
      have k1 := (c1 hall).trans z1
      have k2 := (d1 hall).trans z2
      by_cases hx : n + m ≤ 160
      · rw [if_pos (show nI (n + m) ≤ (160 : Int32) from nI_le (b := 160) hx (by decide))] at k1 k2
        obtain ⟨ν', a1, a2, a3, a4⟩ := s_wC (N := N) hN p0 (ν := ν) (t := t) hm2 hx n1 (fun i hi => (n3 i hi).1)
        obtain ⟨μ', b1, b2, b3, b4⟩ := s_wM (N := N) hN p0 (ν := st μ 100 0 0) (t := t) hm2 hx (st_at _ _ _ _) (by rw [st_ne (by decide)]; exact n2) (fun i hi => by rw [st_ne (by decide)]; exact (n3 i hi).2)
        have hx' : ∀ k, k ≠ 100 → k ≠ 1 → k ≠ 101 → μ' k = μ k := fun k g1 g2 g3 => by rw [b4 k g2 g3, st_ne' g1]
        refine ⟨0, nI (n + m), ν', nI (n + m), μ', Or.inl rfl, ?_, ?_, ?_, fun _ => rfl, ?_, ?_, ?_, ?_⟩
        · rw [s_S_words, if_neg hp1, if_pos hp2]; exact k1.trans a1
        · rw [s_M_words, if_neg hp1, if_neg hp3]; exact k2.trans b1
        · unfold f_M_thrown
          rw [b4 100 (by decide) (by decide), st_at]
          rfl
        · refine ⟨n + m, txt t n m (byt p0), hx, fun i hi => ?_, a2, b2, fun i hi => ⟨a3 i hi, b3 i hi⟩⟩
          unfold txt
          split
          · exact ht i (by omega)
          · exact hall _ (by omega) (by omega)
        · exact RK_same hK (a4 8 (by decide) (by decide)) (a4 141 (by decide) (by decide)) (a4 142 (by decide) (by decide)) (hx' 24 (by decide) (by decide) (by decide)) (hx' 140 (by decide) (by decide) (by decide))
        · exact RV_mono (by omega) (RV_same hV (fun k hk => a4 k (by omega) (by omega)) (fun k hk => hx' k (by omega) (by omega) (by omega)))
        · exact RP_same hP (fun k hk => a4 k (by omega) (by omega)) (fun k hk => hx' k (by omega) (by omega) (by omega))
      · have hx' : ¬ nI (n + m) ≤ (160 : Int32) := nI_ge (a := 160) (b := n + m) (by omega) (by omega)
        rw [if_neg hx'] at k1 k2
        refine ⟨2, 0, ν, μ 101 0, st μ 100 0 2, Or.inr (Or.inr rfl), ?_, ?_, thr_0 _ _, fun h => absurd h (by decide), Rel_no (Rel_threw h)⟩
        · rw [s_S_words, if_neg hp1, if_pos hp2]; exact k1
        · rw [s_M_words, if_neg hp1, if_neg hp3]
          refine k2.trans ?_
          rw [s_wM_bad (by omega) _ _ (by rw [st_at]; decide), st_ne (by decide)]
    · have : ∃ k, 0 ≤ k ∧ k < m ∧ 191 < byt p0 k := by
        apply Classical.byContradiction
        intro hh
        apply hall
        intro k g1 g2
        apply Nat.le_of_not_lt
        intro g3
        exact hh ⟨k, g1, g2, g3⟩
      exact bad (by rw [s_S_words, if_neg hp1, if_pos hp2]; exact c2 this) (by rw [s_M_words, if_neg hp1, if_neg hp3]; exact d2 this)
