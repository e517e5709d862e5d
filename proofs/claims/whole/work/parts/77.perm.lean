/-! CALLS: round, the rows of houses -/
def fnL (p : List Nat) (j : Int) : Int := (p.getD j.toNat 0 : Nat)
def dfs (n : Nat) : Nat → List Nat → List (List Nat)
  | 0, pre => [pre]
  | r + 1, pre => (List.range n).flatMap (fun k => if k ∈ pre then [] else dfs n r (pre ++ [k]))
def dfsP (n r : Nat) (pre : List Nat) (i : Nat) : List (List Nat) := (List.range i).flatMap (fun k => if k ∈ pre then [] else dfs n r (pre ++ [k]))
theorem dfsP_s {n r : Nat} {pre : List Nat} {i : Nat} : dfsP n r pre (i + 1) = dfsP n r pre i ++ (if i ∈ pre then [] else dfs n r (pre ++ [i])) := by
  unfold dfsP
  rw [List.range_succ, List.flatMap_append, List.flatMap_cons, List.flatMap_nil, List.append_nil]
theorem dfsP_0 {n r : Nat} {pre : List Nat} (h : 0 ∈ pre) : dfsP n r pre 1 = [] := by
  rw [dfsP_s, if_pos h]
  rfl
/-- the way along the first k houses -/
def plL (a : aA) (f : Int → Int) (k : Int) : Int := fI (fun y i => y + a (86 + (f i * 6 + f (i + 1)))) 0 k
theorem plL_s {a : aA} {f : Int → Int} {k : Int} (h : 0 ≤ k) : plL a f (k + 1) = plL a f k + a (86 + (f k * 6 + f (k + 1))) := fI_s (st := fun y i => y + a (86 + (f i * 6 + f (i + 1)))) h
theorem plL_c {a : aA} {f g : Int → Int} {n : Int} (e : ∀ j, 0 ≤ j → j < n + 1 → f j = g j) : ∀ k, 0 ≤ k → k ≤ n → plL a f k = plL a g k := by
  refine fI_c (fun i y i0 i1 => ?_)
  show y + a (86 + (f i * 6 + f (i + 1))) = y + a (86 + (g i * 6 + g (i + 1)))
  rw [e i i0 (by omega), e (i + 1) (by omega) (by omega)]
theorem plL_r {a : aA} (w : Wf a) {f : Int → Int} {n : Int} (e : ∀ j, 0 ≤ j → j < n + 1 → 0 ≤ f j ∧ f j < 6) : ∀ k, 0 ≤ k → k ≤ n → 0 ≤ plL a f k ∧ plL a f k ≤ 99 * k := by
  refine fI_i (st := fun y i => y + a (86 + (f i * 6 + f (i + 1)))) (n := n) (fun i y => 0 ≤ y ∧ y ≤ 99 * i) (by omega) (fun i y i0 i1 z => ?_)
  have q1 := e i i0 (by omega)
  have q2 := e (i + 1) (by omega) (by omega)
  have q := w.way (k := f i * 6 + f (i + 1)) (by omega)
  show 0 ≤ y + a (86 + (f i * 6 + f (i + 1))) ∧ y + a (86 + (f i * 6 + f (i + 1))) ≤ 99 * (i + 1)
  omega
/-- the whole round -/
def totL (a : aA) (n : Int) (f : Int → Int) : Int := plL a f (n - 1) + a (86 + f (n - 1) * 6)
theorem totL_c {a : aA} {f g : Int → Int} {n : Int} (hn : 1 ≤ n) (e : ∀ j, 0 ≤ j → j < n → f j = g j) : totL a n f = totL a n g := by
  unfold totL
  rw [plL_c (n := n - 1) (fun j x y => e j x (by omega)) (n - 1) (by omega) (by omega), e (n - 1) (by omega) (by omega)]
theorem totL_r {a : aA} (w : Wf a) {f : Int → Int} {n : Int} (hn : 1 ≤ n ∧ n ≤ 6) (e : ∀ j, 0 ≤ j → j < n → 0 ≤ f j ∧ f j < 6) : 0 ≤ totL a n f ∧ totL a n f ≤ 594 := by
  have q := plL_r w (f := f) (n := n - 1) (fun j x y => e j x (by omega)) (n - 1) (by omega) (by omega)
  have q1 := e (n - 1) (by omega) (by omega)
  have q2 := w.way (k := f (n - 1) * 6) (by omega)
  unfold totL
  omega
def rst (a : aA) (n : Int) (S : Int × List Nat) (p : List Nat) : Int × List Nat := if totL a n (fnL p) < S.1 then (totL a n (fnL p), p) else S
/-- the shortest, and its row -/
def rRS (a : aA) (n : Nat) : Int × List Nat := (dfs n (n - 1) [0]).foldl (rst a n) (1000000000, [])
theorem rst_first {a : aA} {n x y : Int} {q1 q2 p : List Nat} {t : List (List Nat)} (h1 : totL a n (fnL p) < x) (h2 : totL a n (fnL p) < y) : (p :: t).foldl (rst a n) (x, q1) = (p :: t).foldl (rst a n) (y, q2) := by
  show t.foldl (rst a n) (rst a n (x, q1) p) = t.foldl (rst a n) (rst a n (y, q2) p)
  unfold rst
  rw [if_pos h1, if_pos h2]
/-- the next row, as the reference makes it -/
def dn1 (f : Int → Int) : Nat → Nat
  | 0 => 0
  | i + 1 => if f ((i : Int) + 1) ≤ f ((i : Int) + 1 + 1) then i + 1 else dn1 f i
def dn2 (f : Int → Int) (v : Int) : Nat → Nat
  | 0 => 0
  | k + 1 => if v ≤ f ((k : Int) + 1) then k + 1 else dn2 f v k
def swp (f : Int → Int) (x y : Int) : Int → Int := aset (aset f x (f y)) y (f x)
def rvs : Nat → (Int → Int) → Int → Int → Int → Int
  | 0, f, _, _ => f
  | t + 1, f, x, y => if y ≤ x then f else rvs t (swp f x y) (x + 1) (y - 1)
def nxI (n : Nat) (f : Int → Int) : Nat := dn1 f (n - 2)
def nxK (n : Nat) (f : Int → Int) : Nat := dn2 f (f (nxI n f)) (n - 1)
def nxF (n : Nat) (f : Int → Int) : Int → Int := rvs 6 (swp f (nxI n f) (nxK n f)) ((nxI n f : Int) + 1) ((n : Int) - 1)
def lstL (n : Nat) (f : Int → Int) : List Nat := (List.range n).map (fun k : Nat => (f (k : Int)).toNat)
/-- each row's next is the next row -/
def chnL (n : Nat) : List (List Nat) → Bool
  | [] => false
  | [p] => Nat.beq (nxI n (fnL p)) 0
  | p :: q :: t => Nat.blt 0 (nxI n (fnL p)) && decide (lstL n (nxF n (fnL p)) = q) && chnL n (q :: t)
def okP (n : Nat) (p : List Nat) : Bool := Nat.beq p.length n && (p.all (fun x => Nat.blt x n) && Nat.beq (p.getD 0 9) 0)
theorem chn_t : ∀ n : Fin 5, chnL (n.val + 2) (dfs (n.val + 2) (n.val + 1) [0]) = true ∧ (dfs (n.val + 2) (n.val + 1) [0]).all (okP (n.val + 2)) = true ∧ (dfs (n.val + 2) (n.val + 1) [0]).head? = some (List.range (n.val + 2)) := by decide +kernel
theorem fnL_r {n : Nat} {p : List Nat} (h : okP n p = true) (hn : 1 ≤ n ∧ n ≤ 6) : (∀ j, 0 ≤ fnL p j ∧ fnL p j < n) ∧ fnL p 0 = 0 := by
  unfold okP at h
  rw [Bool.and_eq_true, Bool.and_eq_true, List.all_eq_true] at h
  obtain ⟨h1, h2, h3⟩ := h
  have l := Nat.eq_of_beq_eq_true h1
  have z := Nat.eq_of_beq_eq_true h3
  refine ⟨fun j => ?_, ?_⟩
  · unfold fnL
    refine ⟨by omega, ?_⟩
    by_cases c : j.toNat < p.length
    · have q := h2 (p[j.toNat]) (List.getElem_mem c)
      rw [List.getD_eq_getElem?_getD, List.getElem?_eq_getElem c, Option.getD_some]
      have := Nat.le_of_ble_eq_true q
      omega
    · rw [List.getD_eq_getElem?_getD, List.getElem?_eq_none (by omega), Option.getD_none]
      omega
  · unfold fnL
    cases p with
    | nil => rfl
    | cons x t =>
      have : x = 0 := z
      subst this
      rfl
theorem lstL_f {n : Nat} {f : Int → Int} (h : ∀ j : Int, 0 ≤ j → j < n → 0 ≤ f j) : ∀ j : Int, 0 ≤ j → j < n → fnL (lstL n f) j = f j := by
  intro j j0 j1
  unfold fnL lstL
  rw [List.getD_eq_getElem?_getD, List.getElem?_map, List.getElem?_range (show j.toNat < n by omega)]
  show ((f ((j.toNat : Nat) : Int)).toNat : Int) = f j
  rw [Int.toNat_of_nonneg j0, Int.toNat_of_nonneg (h j j0 j1)]
theorem fnL_app {p : List Nat} {k : Nat} : (∀ j : Int, 0 ≤ j → j < p.length → fnL (p ++ [k]) j = fnL p j) ∧ fnL (p ++ [k]) p.length = k := by
  refine ⟨fun j j0 j1 => ?_, ?_⟩
  · unfold fnL
    rw [List.getD_eq_getElem?_getD, List.getElem?_append_left (by omega), ← List.getD_eq_getElem?_getD]
  · unfold fnL
    rw [List.getD_eq_getElem?_getD, List.getElem?_append_right (by omega)]
    simp
