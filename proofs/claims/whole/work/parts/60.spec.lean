/-! THE READING OF A TEXT, on plain numbers: what the class does, as functions on results -/
/-- the place, the steps, the calls by place, the functions, how many -/
abbrev PS : Type := Nat × List (Nat × Nat) × (Nat → Option Nat) × (Nat → Option (Nat × Nat)) × Nat
abbrev RR : Type := Except (Nat × Nat) PS
section SPEC
variable (tk : Nat → Nat)
def now (r : RR) : Nat := match r with
  | .ok (p, _) => tk p
  | .error _ => 999
def pNext (r : RR) : RR := match r with
  | .ok (p, s) => .ok (p + 1, s)
  | .error e => .error e
def pFail (e : Nat) (r : RR) : RR := match r with
  | .ok (p, _) => .error (e, p)
  | .error x => .error x
def pExp (c : Nat) (r : RR) : RR := match r with
  | .ok (p, s) => if tk p = c then .ok (p + 1, s) else .error (1, p)
  | .error x => .error x
def pAdd (o a : Nat) (r : RR) : RR := match r with
  | .ok (p, C, s) => if C.length < 160 then .ok (p, C ++ [(o, a)], s) else .ok (p, C, s)
  | .error x => .error x
def aimed (C : List (Nat × Nat)) (j v : Nat) : List (Nat × Nat) := C.modify j (fun x => (x.1, v))
def pAim (j : Nat) (r : RR) : RR := match r with
  | .ok (p, C, s) => .ok (p, aimed C j C.length, s)
  | .error x => .error x
def clen (r : RR) : Nat := match r with
  | .ok (_, C, _) => C.length
  | .error _ => 0
def plc (r : RR) : Nat := match r with
  | .ok (p, _) => p
  | .error _ => 0
def pMark (k c : Nat) (r : RR) : RR := match r with
  | .ok (p, C, cl, s) => .ok (p, C, (fun i => if i = k then some c else cl i), s)
  | .error x => .error x
def pArgs (v : RR → RR) : Nat → Nat → RR → Nat × RR
  | 0, c, r => (c, r)
  | k + 1, c, r => if now tk r = 11 then pArgs v k (c + 1) (v (pNext r)) else (c, r)
def pArg (v : RR → RR) (r : RR) : Nat × RR := if now tk r = 7 then (0, r) else pArgs tk v 159 1 (v r)
def pCallE (k f : Nat) (x : Nat × RR) : RR := pAdd 42 f (pMark k x.1 (pExp tk 7 x.2))
def pCallB (v : RR → RR) (k f : Nat) (r : RR) : RR := pCallE tk k f (pArg tk v (pExp tk 6 (pNext r)))
def pCall (v : RR → RR) (r : RR) : RR := pCallB tk v (plc r) (now tk r - 52) r
def pSingle (t : Nat) (r : RR) : RR :=
  if 64 ≤ t ∧ t < 192 then pNext (pAdd 33 (t - 64) r)
  else if t = 5 then pNext (pAdd 34 0 r)
  else if 32 ≤ t ∧ t < 40 then pNext (pAdd 36 (t - 32) r)
  else if 44 ≤ t ∧ t < 52 then pNext (pAdd 38 (t - 44) r)
  else pFail 1 r
def pIdx (v : RR → RR) (r : RR) : RR := pExp tk 22 (v (pExp tk 21 r))
def pPiece (v : RR → RR) (r : RR) : RR :=
  if 52 ≤ now tk r ∧ now tk r < 58 then pCall tk v r
  else if 40 ≤ now tk r ∧ now tk r < 44 then pAdd 40 (now tk r - 40) (pIdx tk v (pNext r))
  else if now tk r = 6 then pExp tk 7 (v (pNext r))
  else pSingle (now tk r) r
def pPart (v : RR → RR) (r : RR) : RR :=
  if now tk r = 14 then pAdd 35 0 (pPiece tk v (pNext r)) else if now tk r = 20 then pAdd 20 0 (pPiece tk v (pNext r)) else pPiece tk v r
def pProdL (v : RR → RR) : Nat → RR → RR
  | 0, r => r
  | k + 1, r => if 15 ≤ now tk r ∧ now tk r < 18 then pProdL v k (pAdd (now tk r) 0 (pPart tk v (pNext r))) else r
def pProd (v : RR → RR) (r : RR) : RR := pProdL tk v 160 (pPart tk v r)
def pSumL (v : RR → RR) : Nat → RR → RR
  | 0, r => r
  | k + 1, r => if now tk r = 13 ∨ now tk r = 14 then pSumL v k (pAdd (now tk r) 0 (pProd tk v (pNext r))) else r
def pSum (v : RR → RR) (r : RR) : RR := pSumL tk v 160 (pProd tk v r)
def pCmp (v : RR → RR) (r : RR) : RR := if now tk r = 18 ∨ now tk r = 19 then pAdd (now tk r) 0 (pSum tk v (pNext r)) else r
def pValue (v : RR → RR) (r : RR) : RR := pCmp tk v (pSum tk v r)
def pV : Nat → RR → RR
  | 0 => pFail 3
  | d + 1 => pValue tk (pV d)
def pChoice (r : RR) : RR := pExp tk 7 (pV tk 4 (pExp tk 6 r))
def pWord (o : Nat) (r : RR) : RR := pExp tk 10 (pAdd o 0 (pV tk 4 (pNext r)))
def pSet (o a : Nat) (r : RR) : RR := pAdd o a (pExp tk 10 (pV tk 4 (pExp tk 12 r)))
def pSetting (t : Nat) (r : RR) : RR :=
  if 32 ≤ t ∧ t < 40 then pSet tk 37 (t - 32) (pNext r)
  else if 44 ≤ t ∧ t < 52 then pSet tk 39 (t - 44) (pNext r)
  else if 40 ≤ t ∧ t < 44 then pSet tk 41 (t - 40) (pIdx tk (pV tk 4) (pNext r))
  else pFail 1 r
def pElse (b : RR → RR) (j : Nat) (r : RR) : RR :=
  if now tk r = 1 then pAim (clen r) (b (pAim j (pAdd 45 0 (pNext r)))) else pAim j r
def pIfB (b : RR → RR) (r : RR) : RR := pElse tk b (clen r) (b (pAdd 46 0 r))
def pIf (b : RR → RR) (r : RR) : RR := pIfB tk b (pChoice tk (pNext r))
def pWhileB (b : RR → RR) (bg : Nat) (r : RR) : RR := pAim (clen r) (pAdd 45 bg (b (pAdd 46 0 r)))
def pWhile (b : RR → RR) (bg : Nat) (r : RR) : RR := pWhileB b bg (pChoice tk (pNext r))
def pStmtB (b : RR → RR) (bg : Nat) (r : RR) : RR :=
  if now tk r = 0 then pIf tk b r
  else if now tk r = 2 then pWhile tk b bg r
  else if now tk r = 3 then pWord tk 0 r
  else if now tk r = 4 then pWord tk 44 r
  else if 52 ≤ now tk r ∧ now tk r < 58 then pExp tk 10 (pAdd 43 0 (pCall tk (pV tk 4) r))
  else pSetting tk (now tk r) r
def pStmt (b : RR → RR) (r : RR) : RR := pStmtB tk b (clen r) (pAdd 32 0 r)
def isOk (r : RR) : Bool := match r with
  | .ok _ => true
  | .error _ => false
def pStL (s : RR → RR) : Nat → RR → RR
  | 0, r => r
  | k + 1, r => if isOk r = true then (if now tk r = 9 then r else pStL s k (s r)) else r
def pBlock (s : RR → RR) (r : RR) : RR := pExp tk 9 (pStL tk s 160 (pExp tk 8 r))
def pB : Nat → RR → RR
  | 0 => pFail 3
  | d + 1 => pBlock tk (pStmt tk (pB d))
def pDecl (f np : Nat) (r : RR) : RR := match r with
  | .ok (p, C, cl, fe, nf) => .ok (p, C, cl, (fun i => if i = f then some (C.length, np) else fe i), nf + 1)
  | .error x => .error x
def fknown (r : RR) (f : Nat) : Bool := match r with
  | .ok (_, _, _, fe, _) => (fe f).isSome
  | .error _ => false
def pBody (f np : Nat) (r : RR) : RR := pAdd 0 0 (pAdd 33 0 (pB tk 4 (pDecl f np r)))
def pSign (f : Nat) (r : RR) : RR := if 64 ≤ now tk r ∧ now tk r < 68 then pBody tk f (now tk r - 64) (pNext r) else pFail 1 r
def pFnB (r : RR) : RR :=
  if 52 ≤ now tk r ∧ now tk r < 58 then (if fknown r (now tk r - 52) = true then pFail 2 r else pSign tk (now tk r - 52) (pNext r)) else pFail 1 r
def pFn (r : RR) : RR := pFnB tk (pExp tk 23 r)
def pTopL : Nat → RR → RR
  | 0, r => r
  | k + 1, r => if now tk r = 999 then r else pTopL k (pFn tk r)
def pCheckAt (k : Nat) (r : RR) : RR := match r with
  | .ok (p, C, cl, fe, nf) => (match cl k with
    | none => .ok (p, C, cl, fe, nf)
    | some c => match fe (tk k - 52) with
      | none => .error (4, k)
      | some x => if x.2 = c then .ok (k, C, cl, fe, nf) else .error (5, k))
  | .error x => .error x
def pCheckL : Nat → Nat → RR → RR
  | 0, _, r => r
  | d + 1, k, r => pCheckL d (k + 1) (pCheckAt tk k r)
def pEnd (n : Nat) (r : RR) : RR := match r with
  | .ok (p, C, cl, fe, nf) => (match fe 0 with
    | some x => if x.2 = 0 then .ok (n, C, cl, fe, nf) else .error (6, n)
    | none => .error (6, n))
  | .error x => .error x
def pInit : PS := (0, [], (fun _ => none), (fun _ => none), 0)
def pAll (n : Nat) : RR := pEnd n (pCheckL tk 160 0 (pTopL tk 160 (.ok pInit)))
end SPEC
/-! errors pass through -/
theorem pNext_e (x : Nat × Nat) : pNext (.error x) = .error x := rfl
theorem pFail_e (e : Nat) (x : Nat × Nat) : pFail e (.error x) = .error x := rfl
theorem pAdd_e (o a : Nat) (x : Nat × Nat) : pAdd o a (.error x) = .error x := rfl
theorem pAim_e (j : Nat) (x : Nat × Nat) : pAim j (.error x) = .error x := rfl
theorem pMark_e (k c : Nat) (x : Nat × Nat) : pMark k c (.error x) = .error x := rfl
theorem pExp_e (tk : Nat → Nat) (c : Nat) (x : Nat × Nat) : pExp tk c (.error x) = .error x := rfl
theorem now_e (tk : Nat → Nat) (x : Nat × Nat) : now tk (.error x) = 999 := rfl
theorem pPiece_e (tk : Nat → Nat) (v : RR → RR) (x : Nat × Nat) : pPiece tk v (.error x) = .error x := by simp [pPiece, now_e, pSingle, pFail_e]
theorem pPart_e (tk : Nat → Nat) (v : RR → RR) (x : Nat × Nat) : pPart tk v (.error x) = .error x := by simp [pPart, now_e, pPiece_e]
theorem pProdL_e (tk : Nat → Nat) (v : RR → RR) (k : Nat) (x : Nat × Nat) : pProdL tk v k (.error x) = .error x := by cases k <;> simp [pProdL, now_e]
theorem pProd_e (tk : Nat → Nat) (v : RR → RR) (x : Nat × Nat) : pProd tk v (.error x) = .error x := by simp [pProd, pPart_e, pProdL_e]
theorem pSumL_e (tk : Nat → Nat) (v : RR → RR) (k : Nat) (x : Nat × Nat) : pSumL tk v k (.error x) = .error x := by cases k <;> simp [pSumL, now_e]
theorem pSum_e (tk : Nat → Nat) (v : RR → RR) (x : Nat × Nat) : pSum tk v (.error x) = .error x := by simp [pSum, pProd_e, pSumL_e]
theorem pV_e (tk : Nat → Nat) (d : Nat) (x : Nat × Nat) : pV tk d (.error x) = .error x := by cases d <;> simp [pV, pFail_e, pValue, pSum_e, pCmp, now_e]
theorem pStL_e (tk : Nat → Nat) (s : RR → RR) (k : Nat) (x : Nat × Nat) : pStL tk s k (.error x) = .error x := by cases k <;> simp [pStL, isOk]
theorem pB_e (tk : Nat → Nat) (d : Nat) (x : Nat × Nat) : pB tk d (.error x) = .error x := by cases d <;> simp [pB, pFail_e, pBlock, pExp_e, pStL_e]
theorem pTopL_e (tk : Nat → Nat) (k : Nat) (x : Nat × Nat) : pTopL tk k (.error x) = .error x := by cases k <;> simp [pTopL, now_e]
theorem pCheckL_e (tk : Nat → Nat) (d k : Nat) (x : Nat × Nat) : pCheckL tk d k (.error x) = .error x := by
  induction d generalizing k with
  | zero => rfl
  | succ d ih => exact ih (k + 1)
