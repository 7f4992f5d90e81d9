/-! ===== the run, told once for both: numbers of a run (row 0: work left, 1: end, 2: ready since, 3: count, 4: kept waiting, 5: has become ready, 6: job at work, last one, turn, changes, level, seed, moment; 7: what was done), rows of jobs =====
J: what is told of the jobs (comes, length, deadline, weight, waits for, how many stretches, their locks, first moments, ends); K: rule, slice, cost of changing, lending, rise -/
abbrev St : Type := Mm × (List Nat × (List Nat × List Nat))
abbrev rdy (σ : Mm) (j : Nat) : Prop := σ 5 j = 1 ∧ 0 < σ 0 j
abbrev comP (J σ : Mm) (t : Int) (j : Nat) : Prop := σ 5 j ≠ 1 ∧ J 0 j ≤ t ∧ ∀ k, k < j → (J 4 j).toNat.testBit k = true → σ 0 k = 0
def lcF (σ : Mm) : Nat → Int
  | 0 => -1
  | j + 1 => if rdy σ j ∧ (lcF σ j = -1 ∨ σ 3 j < lcF σ j) then σ 3 j else lcF σ j
def lcZ (σ : Mm) (n : Nat) : Int := if lcF σ n = -1 then 0 else lcF σ n
def rsF (K : Nat → Int) (s : St) : St := if K 0 = 4 ∧ 0 < K 4 ∧ 0 < s.1 6 6 ∧ s.1 6 6 % K 4 = 0 then (s.1, s.2.1 ++ (s.2.2.1 ++ s.2.2.2), [], []) else s
def adN (J : Mm) (n : Nat) (σ : Mm) : Mm := fun a b => if b < n ∧ comP J σ (σ 6 6) b then (if a = 5 then 1 else if a = 2 then σ 6 6 else if a = 3 then lcZ σ n else σ a b) else σ a b
def cmL (J σ : Mm) (n : Nat) : List Nat := (List.range n).filter (fun j => decide (comP J σ (σ 6 6) j))
def adF (J : Mm) (n : Nat) (K : Nat → Int) (s : St) : St := (adN J n s.1, s.2.1 ++ (if K 0 = 0 ∨ K 0 = 4 then cmL J s.1 n else []), s.2.2)
def ovQ (K : Nat → Int) (s : St) (c : Nat) : List Nat × (List Nat × List Nat) := if K 0 = 0 then (s.2.1 ++ [c], s.2.2) else if K 0 = 4 then (if s.1 6 4 = 0 then (s.2.1, s.2.2.1 ++ [c], s.2.2.2) else (s.2.1, s.2.2.1, s.2.2.2 ++ [c])) else s.2
def ovF (K : Nat → Int) (s : St) : St := if s.1 6 0 ≠ -1 ∧ s.1 6 2 ≤ 0 then (mup s.1 6 0 (-1), ovQ K s (s.1 6 0).toNat) else s
def ndF (J σ : Mm) (j : Nat) : Int := lkAt (J 6) (J 7) (J 8) j (J 1 j - σ 0 j) (J 1 j - σ 0 j) (J 5 j).toNat 0
def hdF (J σ : Mm) (j : Nat) : Int := lkAt (J 6) (J 7) (J 8) j (J 1 j - σ 0 j - 1) (J 1 j - σ 0 j) (J 5 j).toNat 0
/-- who but j has the lock y, of d jobs from k on -/
def kpF (J σ : Mm) (j : Nat) (y : Int) : Nat → Nat → Int
  | 0, _ => -1
  | d + 1, k => if k ≠ j ∧ hdF J σ k = y then (k : Int) else kpF J σ j y d (k + 1)
def kpr (J : Mm) (n : Nat) (σ : Mm) (j : Nat) : Int := if ndF J σ j = -1 then -1 else kpF J σ j (ndF J σ j) n 0
def rkF (J : Mm) (n : Nat) (σ : Mm) (le : Int) (j : Nat) : Nat → Int
  | 0 => J 3 j
  | k + 1 => if le ≠ 0 ∧ rdy σ k ∧ kpr J n σ k = (j : Int) ∧ rkF J n σ le j k < J 3 k then J 3 k else rkF J n σ le j k
def keyR (J : Mm) (n : Nat) (K : Nat → Int) (σ : Mm) (j : Nat) : Int :=
  if K 0 = 1 then J 0 j else if K 0 = 2 then J 1 j else if K 0 = 3 then σ 0 j else if K 0 = 5 then σ 3 j else if K 0 = 6 then (if J 2 j = 0 then 401 else J 2 j) else - rkF J n σ (K 3) j n
abbrev okR (J : Mm) (n : Nat) (K : Nat → Int) (σ : Mm) (j : Nat) : Prop := rdy σ j ∧ (K 0 = 8 → kpr J n σ j = -1)
def bsF (J : Mm) (n : Nat) (K : Nat → Int) (σ : Mm) : Nat → Int
  | 0 => -1
  | j + 1 => if okR J n K σ j ∧ (bsF J n K σ j = -1 ∨ keyR J n K σ j < keyR J n K σ (bsF J n K σ j).toNat) then (j : Int) else bsF J n K σ j
def swF (J σ : Mm) : Nat → Int
  | 0 => 0
  | j + 1 => swF J σ j + if rdy σ j then J 3 j else 0
def ltF (J σ : Mm) (z : Int) : Nat → Nat → Int
  | 0, _ => -1
  | d + 1, j => if z < swF J σ (j + 1) then (j : Int) else ltF J σ z d (j + 1)
def sdN (z : Int) : Int := z * 1103515245 + 12345
def pkF (J : Mm) (n : Nat) (K : Nat → Int) (σ : Mm) : Int := if K 0 = 7 then (if swF J σ n ≤ 0 then -1 else ltF J σ (bus (sdN (σ 6 5)) 16 % swF J σ n) n 0) else bsF J n K σ n
def tnF (J : Mm) (K : Nat → Int) (σ : Mm) (lv : Int) (j : Nat) : Int := if K 0 = 1 ∨ K 0 = 2 then σ 0 j else if K 0 = 4 then K 1 * (if lv = 0 then 1 else if lv = 1 then 2 else 4) else if K 0 = 3 ∨ K 0 = 6 ∨ K 0 = 8 then 1 else K 1
def tkN (J : Mm) (K : Nat → Int) (σ : Mm) (lv : Int) (j : Nat) : Mm := mup (mup (mup (mup σ 6 0 j) 6 4 lv) 6 2 (tnF J K σ lv j)) 6 3 (if σ 6 1 = -1 ∨ σ 6 1 = (j : Int) then 0 else K 2)
def seN (K : Nat → Int) (σ : Mm) : Mm := if K 0 = 7 then mup σ 6 5 (sdN (σ 6 5)) else σ
def chQ (J : Mm) (K : Nat → Int) (σ : Mm) : List Nat × (List Nat × List Nat) → St
  | (j :: a, b, c) => (tkN J K σ 0 j, a, b, c)
  | ([], j :: b, c) => (tkN J K σ 1 j, [], b, c)
  | ([], [], j :: c) => (tkN J K σ 2 j, [], [], c)
  | ([], [], []) => (σ, [], [], [])
def chF (J : Mm) (n : Nat) (K : Nat → Int) (s : St) : St :=
  if s.1 6 0 ≠ -1 then s
  else if K 0 = 0 ∨ K 0 = 4 then chQ J K s.1 s.2
  else if pkF J n K s.1 = -1 then s
  else (tkN J K (seN K s.1) 0 (pkF J n K s.1).toNat, s.2)
def kpN (J : Mm) (n : Nat) (σ : Mm) : Mm := fun a b => if a = 4 ∧ b < n ∧ rdy σ b ∧ kpr J n σ b ≠ -1 ∧ J 3 (σ 6 0).toNat < J 3 b then σ a b + 1 else σ a b
def keN (J : Mm) (n : Nat) (K : Nat → Int) (σ : Mm) : Mm := if K 0 = 8 then kpN J n σ else σ
def wk1 (J : Mm) (σ : Mm) (c t : Nat) : Mm := mup (mup (mup (mup (mup (mup σ 7 t c) 3 c (σ 3 c + 2520 / J 3 c)) 0 c (σ 0 c - 1)) 6 2 (σ 6 2 - 1)) 6 1 c) 6 6 (σ 6 6 + 1)
def wkN (J : Mm) (σ : Mm) (c t : Nat) : Mm := if σ 0 c = 1 then mup (mup (wk1 J σ c t) 1 c (σ 6 6 + 1)) 6 0 (-1) else wk1 J σ c t
def psN (J : Mm) (n : Nat) (K : Nat → Int) (σ : Mm) : Mm :=
  if σ 6 0 = -1 then mup (mup σ 7 (σ 6 6).toNat (-1)) 6 6 (σ 6 6 + 1)
  else if 0 < σ 6 3 then mup (mup (mup (keN J n K σ) 6 3 (σ 6 3 - 1)) 7 (σ 6 6).toNat (-2)) 6 6 (σ 6 6 + 1)
  else wkN J (keN J n K σ) (σ 6 0).toNat (σ 6 6).toNat
def psF (J : Mm) (n : Nat) (K : Nat → Int) (s : St) : St := (psN J n K s.1, s.2)
def bgF (J : Mm) (n : Nat) (K : Nat → Int) (s : St) : St := ovF K (adF J n K (rsF K s))
def stF (J : Mm) (n : Nat) (K : Nat → Int) (s : St) : St := psF J n K (chF J n K (bgF J n K s))
abbrev ovr (n : Nat) (σ : Mm) : Prop := ∀ j, j < n → σ 0 j = 0
def ruF (J : Mm) (n : Nat) (K : Nat → Int) : Nat → St → St
  | 0, s => s
  | d + 1, s => if ovr n s.1 then s else ruF J n K d (stF J n K s)
def inN (J : Mm) (z : Int) : Mm := fun a b => if a = 0 then J 1 b else if a = 6 ∧ (b = 0 ∨ b = 1) then -1 else if a = 6 ∧ b = 5 then z else 0
def inS (J : Mm) (z : Int) : St := (inN J z, [], [], [])
def fnF (J : Mm) (n : Nat) (K : Nat → Int) (z : Int) : St := ruF J n K 2304 (inS J z)
/-! ===== what holds in a run ===== -/
abbrev okD (J : Mm) (n : Nat) : Prop := okT (J 0) (J 1) (J 2) (J 3) (J 4) (J 5) (J 6) (J 7) (J 8) (kyF (J 2)) n
abbrev okK (K : Nat → Int) : Prop := (0 ≤ K 0 ∧ K 0 ≤ 8) ∧ (1 ≤ K 1 ∧ K 1 ≤ 20) ∧ (0 ≤ K 2 ∧ K 2 ≤ 5) ∧ (K 3 = 0 ∨ K 3 = 1) ∧ (0 ≤ K 4 ∧ K 4 ≤ 99)
abbrev rRow (K : Nat → Int) : Prop := K 0 = 0 ∨ K 0 = 4
abbrev vBj (J σ : Mm) (j : Nat) : Prop := (σ 5 j = 0 ∨ σ 5 j = 1) ∧ (0 ≤ σ 0 j ∧ σ 0 j ≤ J 1 j) ∧ (σ 5 j = 0 → σ 0 j = J 1 j) ∧ (σ 0 j ≠ 0 → σ 1 j = 0) ∧ (σ 0 j = 0 → J 0 j < σ 1 j ∧ σ 1 j ≤ σ 6 6) ∧ (0 ≤ σ 2 j ∧ σ 2 j ≤ σ 6 6) ∧ (0 ≤ σ 3 j ∧ σ 3 j ≤ 2520 * σ 6 6) ∧ (0 ≤ σ 4 j ∧ σ 4 j ≤ σ 6 6)
abbrev vWj (J σ : Mm) (j : Nat) : Prop := σ 5 j = 1 → J 0 j ≤ σ 6 6 ∧ ∀ k, k < j → (J 4 j).toNat.testBit k = true → σ 0 k = 0
/-- of each job -/
def vB (J : Mm) (n : Nat) (σ : Mm) : Prop := 0 ≤ σ 6 6 ∧ ∀ j, j < n → vBj J σ j
/-- who is ready had a right to be -/
def vW (J : Mm) (n : Nat) (σ : Mm) : Prop := ∀ j, j < n → vWj J σ j
/-- what was done -/
def vL (n : Nat) (σ : Mm) : Prop := ∀ t : Nat, (t : Int) < σ 6 6 → -2 ≤ σ 7 t ∧ σ 7 t < n
/-- the job at work -/
def vA (n : Nat) (σ : Mm) : Prop := (-1 ≤ σ 6 0 ∧ σ 6 0 < n) ∧ (-1 ≤ σ 6 1 ∧ σ 6 1 < n) ∧ (σ 6 0 ≠ -1 → rdy σ (σ 6 0).toNat ∧ (0 ≤ σ 6 2 ∧ σ 6 2 ≤ 80) ∧ (0 ≤ σ 6 3 ∧ σ 6 3 ≤ 5) ∧ (σ 6 2 = 0 → σ 6 3 = 0) ∧ (0 ≤ σ 6 4 ∧ σ 6 4 ≤ 2))
/-- the rows of jobs -/
def vQ (n : Nat) (K : Nat → Int) (s : St) : Prop :=
  (rRow K → (s.2.1 ++ (s.2.2.1 ++ s.2.2.2)).Nodup ∧ ∀ j, j ∈ s.2.1 ++ (s.2.2.1 ++ s.2.2.2) ↔ (j < n ∧ rdy s.1 j ∧ (j : Int) ≠ s.1 6 0)) ∧ (K 0 = 0 → s.2.2.1 = [] ∧ s.2.2.2 = []) ∧ (¬ rRow K → s.2.1 = [] ∧ s.2.2.1 = [] ∧ s.2.2.2 = [])
def smF (f : Nat → Int) : Nat → Int
  | 0 => 0
  | j + 1 => smF f j + f j
/-- the work done -/
def dnF (J σ : Mm) (n : Nat) : Int := smF (fun j => J 1 j - σ 0 j) n
def vT (J : Mm) (n : Nat) (σ : Mm) : Prop := σ 6 6 + 5 ≤ 104 + 6 * dnF J σ n ∨ (σ 6 0 ≠ -1 ∧ 1 ≤ σ 6 2 ∧ σ 6 6 + σ 6 3 ≤ 104 + 6 * dnF J σ n)
/-- no lock has two that have it, and who is at work may take the next one -/
def vX (J : Mm) (n : Nat) (K : Nat → Int) (σ : Mm) : Prop := K 0 = 8 → (∀ i j, i < n → j < n → i ≠ j → hdF J σ i = hdF J σ j → hdF J σ i = -1) ∧ (σ 6 0 ≠ -1 → 1 ≤ σ 6 2 → kpr J n σ (σ 6 0).toNat = -1)
def vS (J : Mm) (n : Nat) (K : Nat → Int) (s : St) : Prop := vB J n s.1 ∧ vW J n s.1 ∧ vL n s.1 ∧ vA n s.1 ∧ vQ n K s ∧ vT J n s.1 ∧ vX J n K s.1
