/-! TEXTS: what a row of tokens says; code of the class, code of the reference, and its sense -/
abbrev dX : Type := List (Int × Int) × List (Int × Int) × aF
abbrev dR : Type := Nat → Int → Int → Int → dX → Prop
abbrev fR : Type := Nat → Int → Int → Int → Int → Prop
def clp (v : Int) : Int := cutI (-1000000) 1000000 v
def opB (c a b : Int) : Int :=
  if c = 39 then clp (a + b) else if c = 40 then clp (a - b) else if c = 41 then clp (a * b) else if c = 42 then (if b = 0 then 0 else clp (a.tdiv b)) else
  if c = 23 then clp (if b < a then a - b else 0) else if c = 33 then b2i (a < b) else if c = 34 then b2i (a ≤ b) else if c = 35 then b2i (b < a) else
  if c = 36 then b2i (b ≤ a) else if c = 37 then b2i (a = b) else if c = 38 then b2i (a ≠ b) else if c = 30 then b2i (a ≠ 0 ∧ b ≠ 0) else b2i (a ≠ 0 ∨ b ≠ 0)
def opU (c : Int) (br : Int → Int) (a : Int) : Int := if c = 50 then -a else if c = 24 then (if 0 ≤ a ∧ a < 3 then br a else 0) else b2i (a = 0)
def rOp (c : Int) : Int := if c = 23 then 4 else if 39 ≤ c then c - 33 else if 33 ≤ c then c - 23 else if c = 30 then 21 else 22
def rUn (c : Int) : Int := if c = 50 then 5 else if c = 24 then 2 else 20
def xB (c : Int) (x y : dX) : dX := (x.1 ++ (y.1 ++ [(c, 0)]), x.2.1 ++ (y.2.1 ++ [(rOp c, 0)]), fun nm br => opB c (x.2.2 nm br) (y.2.2 nm br))
def xU (c : Int) (x : dX) : dX := (x.1 ++ [(c, 0)], x.2.1 ++ [(rUn c, 0)], fun nm br => opU c br (x.2.2 nm br))
def xIf (b x y : dX) : dX := (b.1 ++ ((51, (x.1.length : Int) + 2) :: (x.1 ++ ((52, (y.1.length : Int) + 1) :: y.1))), b.2.1 ++ (x.2.1 ++ (y.2.1 ++ [(3, 0)])), fun nm br => if b.2.2 nm br = 0 then y.2.2 nm br else x.2.2 nm br)
def chn (y : Nat) (c : Int) : Prop := (y = 0 ∧ (c = 41 ∨ c = 42)) ∨ (y = 1 ∧ (c = 39 ∨ c = 40)) ∨ (y = 3 ∧ c = 30) ∨ (y = 4 ∧ c = 29)
def lft (y : Nat) : Prop := y = 0 ∨ y = 1 ∨ y = 3 ∨ y = 4
def opn (c : Int) : Prop := c = 43 ∨ c = 40 ∨ c = 23 ∨ c = 24 ∨ c = 25
def inn (c : Int) : Nat := if c = 43 then 2 else if c = 25 then 5 else 0
def wnt (c : Int) : Int := if c = 43 then 44 else if c = 23 then 22 else 26
/-- what can't stand behind a whole one -/
def cpl (y : Nat) (c : Int) : Prop := (1 ≤ y → c ≠ 41 ∧ c ≠ 42) ∧ (2 ≤ y → c ≠ 39 ∧ c ≠ 40) ∧ (4 ≤ y → c ≠ 30) ∧ (5 ≤ y → c ≠ 29)
def dCl (cd vl : Int → Int) (law : Int) (X : dR) : Prop :=
  (∀ o k, cd k = 46 → 0 ≤ vl k → vl k ≤ 9999 → X 0 o k (k + 1) ([(46, vl k)], [(0, vl k)], fun _ _ => vl k)) ∧
  (∀ o k, 12 ≤ cd k → cd k ≤ 20 → ¬ (law = 0 ∧ 19 ≤ cd k) → X 0 o k (k + 1) ([(49, cd k - 12)], [(1, cd k - 12)], fun nm _ => nm (cd k - 12))) ∧
  (∀ o k k1 x, cd k = 43 → o < 8 → X 2 (o + 1) (k + 1) k1 x → cd k1 = 44 → X 0 o k (k1 + 1) x) ∧
  (∀ o k k1 x c, (cd k = 40 ∧ c = 50 ∨ cd k = 24 ∧ c = 24) → o < 8 → X 0 (o + 1) (k + 1) k1 x → X 0 o k k1 (xU c x)) ∧
  (∀ o k k1 k2 x y, cd k = 23 → o < 8 → X 0 (o + 1) (k + 1) k1 x → cd k1 = 22 → X 0 (o + 1) (k1 + 1) k2 y → X 0 o k k2 (xB 23 x y)) ∧
  (∀ o k k1 k2 k3 b x y, cd k = 25 → o < 8 → X 5 (o + 1) (k + 1) k1 b → cd k1 = 26 → X 2 (o + 1) (k1 + 1) k2 x → cd k2 = 27 → X 2 (o + 1) (k2 + 1) k3 y → cd k3 = 28 → X 0 o k (k3 + 1) (xIf b x y)) ∧
  (∀ y o k k1 x, lft y → X y o k k1 x → X (y + 1) o k k1 x) ∧
  (∀ y o k k1 k2 x z, chn y (cd k1) → X (y + 1) o k k1 x → X y o (k1 + 1) k2 z → X (y + 1) o k k2 (xB (cd k1) x z)) ∧
  (∀ o k k1 b, cd k = 31 → o < 8 → X 3 (o + 1) (k + 1) k1 b → X 3 o k k1 (xU 31 b)) ∧
  (∀ o k k1 k2 x z, cd k ≠ 31 → X 2 o k k1 x → 33 ≤ cd k1 → cd k1 ≤ 38 → X 2 o (k1 + 1) k2 z → X 3 o k k2 (xB (cd k1) x z))
def Der (cd vl : Int → Int) (law : Int) : dR := fun y o k k1 x => ∀ X, dCl cd vl law X → X y o k k1 x
theorem Der_cl {cd vl : Int → Int} {law : Int} : dCl cd vl law (Der cd vl law) := by
  refine ⟨?_, ?_, ?_, ?_, ?_, ?_, ?_, ?_, ?_, ?_⟩
  · intro o k h1 h2 h3 X c
    exact c.1 o k h1 h2 h3
  · intro o k h1 h2 h3 X c
    exact c.2.1 o k h1 h2 h3
  · intro o k k1 x h1 h2 d h3 X c
    exact c.2.2.1 o k k1 x h1 h2 (d X c) h3
  · intro o k k1 x e h1 h2 d X c
    exact c.2.2.2.1 o k k1 x e h1 h2 (d X c)
  · intro o k k1 k2 x y h1 h2 d h3 d2 X c
    exact c.2.2.2.2.1 o k k1 k2 x y h1 h2 (d X c) h3 (d2 X c)
  · intro o k k1 k2 k3 b x y h1 h2 d h3 d2 h4 d3 h5 X c
    exact c.2.2.2.2.2.1 o k k1 k2 k3 b x y h1 h2 (d X c) h3 (d2 X c) h4 (d3 X c) h5
  · intro y o k k1 x h1 d X c
    exact c.2.2.2.2.2.2.1 y o k k1 x h1 (d X c)
  · intro y o k k1 k2 x z h1 d d2 X c
    exact c.2.2.2.2.2.2.2.1 y o k k1 k2 x z h1 (d X c) (d2 X c)
  · intro o k k1 b h1 h2 d X c
    exact c.2.2.2.2.2.2.2.2.1 o k k1 b h1 h2 (d X c)
  · intro o k k1 k2 x z h1 d h2 h3 d2 X c
    exact c.2.2.2.2.2.2.2.2.2 o k k1 k2 x z h1 (d X c) h2 h3 (d2 X c)
/-- where it is no sum: fault and place -/
def fCl (cd vl : Int → Int) (law : Int) (Y : fR) : Prop :=
  (∀ o k f, ((cd k = 46 ∧ 9999 < vl k ∧ f = 2) ∨ (12 ≤ cd k ∧ cd k ≤ 20 ∧ law = 0 ∧ 19 ≤ cd k ∧ f = 5) ∨ (opn (cd k) ∧ 8 ≤ o ∧ f = 3) ∨ (cd k ≠ 46 ∧ ¬ (12 ≤ cd k ∧ cd k ≤ 20) ∧ ¬ opn (cd k) ∧ f = 1)) → Y 0 o k f k) ∧
  (∀ o k f kf, opn (cd k) → o < 8 → Y (inn (cd k)) (o + 1) (k + 1) f kf → Y 0 o k f kf) ∧
  (∀ o k k1 x, (cd k = 43 ∨ cd k = 23 ∨ cd k = 25) → o < 8 → Der cd vl law (inn (cd k)) (o + 1) (k + 1) k1 x → cpl (inn (cd k)) (cd k1) → cd k1 ≠ wnt (cd k) → Y 0 o k 1 k1) ∧
  (∀ o k k1 x f kf, cd k = 23 → o < 8 → Der cd vl law 0 (o + 1) (k + 1) k1 x → cd k1 = 22 → Y 0 (o + 1) (k1 + 1) f kf → Y 0 o k f kf) ∧
  (∀ o k k1 b f kf, cd k = 25 → o < 8 → Der cd vl law 5 (o + 1) (k + 1) k1 b → cd k1 = 26 → Y 2 (o + 1) (k1 + 1) f kf → Y 0 o k f kf) ∧
  (∀ o k k1 k2 b x, cd k = 25 → o < 8 → Der cd vl law 5 (o + 1) (k + 1) k1 b → cd k1 = 26 → Der cd vl law 2 (o + 1) (k1 + 1) k2 x → cpl 2 (cd k2) → cd k2 ≠ 27 → Y 0 o k 1 k2) ∧
  (∀ o k k1 k2 b x f kf, cd k = 25 → o < 8 → Der cd vl law 5 (o + 1) (k + 1) k1 b → cd k1 = 26 → Der cd vl law 2 (o + 1) (k1 + 1) k2 x → cd k2 = 27 → Y 2 (o + 1) (k2 + 1) f kf → Y 0 o k f kf) ∧
  (∀ o k k1 k2 k3 b x y, cd k = 25 → o < 8 → Der cd vl law 5 (o + 1) (k + 1) k1 b → cd k1 = 26 → Der cd vl law 2 (o + 1) (k1 + 1) k2 x → cd k2 = 27 → Der cd vl law 2 (o + 1) (k2 + 1) k3 y → cpl 2 (cd k3) → cd k3 ≠ 28 → Y 0 o k 1 k3) ∧
  (∀ y o k f kf, lft y → Y y o k f kf → Y (y + 1) o k f kf) ∧
  (∀ y o k k1 x f kf, chn y (cd k1) → Der cd vl law (y + 1) o k k1 x → Y y o (k1 + 1) f kf → Y (y + 1) o k f kf) ∧
  (∀ o k, cd k = 31 → 8 ≤ o → Y 3 o k 3 k) ∧
  (∀ o k f kf, cd k = 31 → o < 8 → Y 3 (o + 1) (k + 1) f kf → Y 3 o k f kf) ∧
  (∀ o k f kf, cd k ≠ 31 → Y 2 o k f kf → Y 3 o k f kf) ∧
  (∀ o k k1 x, cd k ≠ 31 → Der cd vl law 2 o k k1 x → cpl 2 (cd k1) → ¬ (33 ≤ cd k1 ∧ cd k1 ≤ 38) → Y 3 o k 1 k1) ∧
  (∀ o k k1 x f kf, cd k ≠ 31 → Der cd vl law 2 o k k1 x → 33 ≤ cd k1 → cd k1 ≤ 38 → Y 2 o (k1 + 1) f kf → Y 3 o k f kf)
def Fl (cd vl : Int → Int) (law : Int) : fR := fun y o k f kf => ∀ Y, fCl cd vl law Y → Y y o k f kf
theorem Fl_cl {cd vl : Int → Int} {law : Int} : fCl cd vl law (Fl cd vl law) := by
  refine ⟨?_, ?_, ?_, ?_, ?_, ?_, ?_, ?_, ?_, ?_, ?_, ?_, ?_, ?_, ?_⟩
  · intro o k f h Y c
    exact c.1 o k f h
  · intro o k f kf h1 h2 d Y c
    exact c.2.1 o k f kf h1 h2 (d Y c)
  · intro o k k1 x h1 h2 h3 h4 h5 Y c
    exact c.2.2.1 o k k1 x h1 h2 h3 h4 h5
  · intro o k k1 x f kf h1 h2 h3 h4 d Y c
    exact c.2.2.2.1 o k k1 x f kf h1 h2 h3 h4 (d Y c)
  · intro o k k1 x f kf h1 h2 h3 h4 d Y c
    exact c.2.2.2.2.1 o k k1 x f kf h1 h2 h3 h4 (d Y c)
  · intro o k k1 k2 b x h1 h2 h3 h4 h5 h6 h7 Y c
    exact c.2.2.2.2.2.1 o k k1 k2 b x h1 h2 h3 h4 h5 h6 h7
  · intro o k k1 k2 b x f kf h1 h2 h3 h4 h5 h6 d Y c
    exact c.2.2.2.2.2.2.1 o k k1 k2 b x f kf h1 h2 h3 h4 h5 h6 (d Y c)
  · intro o k k1 k2 k3 b x y h1 h2 h3 h4 h5 h6 h7 h8 h9 Y c
    exact c.2.2.2.2.2.2.2.1 o k k1 k2 k3 b x y h1 h2 h3 h4 h5 h6 h7 h8 h9
  · intro y o k f kf h1 d Y c
    exact c.2.2.2.2.2.2.2.2.1 y o k f kf h1 (d Y c)
  · intro y o k k1 x f kf h1 h2 d Y c
    exact c.2.2.2.2.2.2.2.2.2.1 y o k k1 x f kf h1 h2 (d Y c)
  · intro o k h1 h2 Y c
    exact c.2.2.2.2.2.2.2.2.2.2.1 o k h1 h2
  · intro o k f kf h1 h2 d Y c
    exact c.2.2.2.2.2.2.2.2.2.2.2.1 o k f kf h1 h2 (d Y c)
  · intro o k f kf h1 d Y c
    exact c.2.2.2.2.2.2.2.2.2.2.2.2.1 o k f kf h1 (d Y c)
  · intro o k k1 x h1 h2 h3 h4 Y c
    exact c.2.2.2.2.2.2.2.2.2.2.2.2.2.1 o k k1 x h1 h2 h3 h4
  · intro o k k1 x f kf h1 h2 h3 h4 d Y c
    exact c.2.2.2.2.2.2.2.2.2.2.2.2.2.2 o k k1 x f kf h1 h2 h3 h4 (d Y c)
section DR
variable {cd vl : Int → Int} {law : Int}
theorem Der.num {o k : Int} (h1 : cd k = 46) (h2 : 0 ≤ vl k) (h3 : vl k ≤ 9999) : Der cd vl law 0 o k (k + 1) ([(46, vl k)], [(0, vl k)], fun _ _ => vl k) := Der_cl.1 o k h1 h2 h3
theorem Der.nam {o k : Int} (h1 : 12 ≤ cd k) (h2 : cd k ≤ 20) (h3 : ¬ (law = 0 ∧ 19 ≤ cd k)) : Der cd vl law 0 o k (k + 1) ([(49, cd k - 12)], [(1, cd k - 12)], fun nm _ => nm (cd k - 12)) := Der_cl.2.1 o k h1 h2 h3
theorem Der.par {o k k1 : Int} {x : dX} (h1 : cd k = 43) (h2 : o < 8) (d : Der cd vl law 2 (o + 1) (k + 1) k1 x) (h3 : cd k1 = 44) : Der cd vl law 0 o k (k1 + 1) x := Der_cl.2.2.1 o k k1 x h1 h2 d h3
theorem Der.una {o k k1 c : Int} {x : dX} (e : cd k = 40 ∧ c = 50 ∨ cd k = 24 ∧ c = 24) (h2 : o < 8) (d : Der cd vl law 0 (o + 1) (k + 1) k1 x) : Der cd vl law 0 o k k1 (xU c x) := Der_cl.2.2.2.1 o k k1 x c e h2 d
theorem Der.abo {o k k1 k2 : Int} {x y : dX} (h1 : cd k = 23) (h2 : o < 8) (d : Der cd vl law 0 (o + 1) (k + 1) k1 x) (h3 : cd k1 = 22) (d2 : Der cd vl law 0 (o + 1) (k1 + 1) k2 y) : Der cd vl law 0 o k k2 (xB 23 x y) := Der_cl.2.2.2.2.1 o k k1 k2 x y h1 h2 d h3 d2
theorem Der.iff {o k k1 k2 k3 : Int} {b x y : dX} (h1 : cd k = 25) (h2 : o < 8) (d : Der cd vl law 5 (o + 1) (k + 1) k1 b) (h3 : cd k1 = 26) (d2 : Der cd vl law 2 (o + 1) (k1 + 1) k2 x) (h4 : cd k2 = 27) (d3 : Der cd vl law 2 (o + 1) (k2 + 1) k3 y) (h5 : cd k3 = 28) : Der cd vl law 0 o k (k3 + 1) (xIf b x y) := Der_cl.2.2.2.2.2.1 o k k1 k2 k3 b x y h1 h2 d h3 d2 h4 d3 h5
theorem Der.lif {y : Nat} {o k k1 : Int} {x : dX} (h : lft y) (d : Der cd vl law y o k k1 x) : Der cd vl law (y + 1) o k k1 x := Der_cl.2.2.2.2.2.2.1 y o k k1 x h d
theorem Der.chn {y : Nat} {o k k1 k2 : Int} {x z : dX} (h : chn y (cd k1)) (d : Der cd vl law (y + 1) o k k1 x) (d2 : Der cd vl law y o (k1 + 1) k2 z) : Der cd vl law (y + 1) o k k2 (xB (cd k1) x z) := Der_cl.2.2.2.2.2.2.2.1 y o k k1 k2 x z h d d2
theorem Der.nt {o k k1 : Int} {b : dX} (h1 : cd k = 31) (h2 : o < 8) (d : Der cd vl law 3 (o + 1) (k + 1) k1 b) : Der cd vl law 3 o k k1 (xU 31 b) := Der_cl.2.2.2.2.2.2.2.2.1 o k k1 b h1 h2 d
theorem Der.cmp {o k k1 k2 : Int} {x z : dX} (h1 : cd k ≠ 31) (d : Der cd vl law 2 o k k1 x) (h2 : 33 ≤ cd k1) (h3 : cd k1 ≤ 38) (d2 : Der cd vl law 2 o (k1 + 1) k2 z) : Der cd vl law 3 o k k2 (xB (cd k1) x z) := Der_cl.2.2.2.2.2.2.2.2.2 o k k1 k2 x z h1 d h2 h3 d2
theorem Fl.now {o k f : Int} (h : (cd k = 46 ∧ 9999 < vl k ∧ f = 2) ∨ (12 ≤ cd k ∧ cd k ≤ 20 ∧ law = 0 ∧ 19 ≤ cd k ∧ f = 5) ∨ (opn (cd k) ∧ 8 ≤ o ∧ f = 3) ∨ (cd k ≠ 46 ∧ ¬ (12 ≤ cd k ∧ cd k ≤ 20) ∧ ¬ opn (cd k) ∧ f = 1)) : Fl cd vl law 0 o k f k := Fl_cl.1 o k f h
theorem Fl.ins {o k f kf : Int} (h1 : opn (cd k)) (h2 : o < 8) (d : Fl cd vl law (inn (cd k)) (o + 1) (k + 1) f kf) : Fl cd vl law 0 o k f kf := Fl_cl.2.1 o k f kf h1 h2 d
theorem Fl.cls {o k k1 : Int} {x : dX} (h1 : cd k = 43 ∨ cd k = 23 ∨ cd k = 25) (h2 : o < 8) (d : Der cd vl law (inn (cd k)) (o + 1) (k + 1) k1 x) (h3 : cpl (inn (cd k)) (cd k1)) (h4 : cd k1 ≠ wnt (cd k)) : Fl cd vl law 0 o k 1 k1 := Fl_cl.2.2.1 o k k1 x h1 h2 d h3 h4
theorem Fl.abo {o k k1 f kf : Int} {x : dX} (h1 : cd k = 23) (h2 : o < 8) (d : Der cd vl law 0 (o + 1) (k + 1) k1 x) (h3 : cd k1 = 22) (d2 : Fl cd vl law 0 (o + 1) (k1 + 1) f kf) : Fl cd vl law 0 o k f kf := Fl_cl.2.2.2.1 o k k1 x f kf h1 h2 d h3 d2
theorem Fl.thn {o k k1 f kf : Int} {b : dX} (h1 : cd k = 25) (h2 : o < 8) (d : Der cd vl law 5 (o + 1) (k + 1) k1 b) (h3 : cd k1 = 26) (d2 : Fl cd vl law 2 (o + 1) (k1 + 1) f kf) : Fl cd vl law 0 o k f kf := Fl_cl.2.2.2.2.1 o k k1 b f kf h1 h2 d h3 d2
theorem Fl.els {o k k1 k2 : Int} {b x : dX} (h1 : cd k = 25) (h2 : o < 8) (d : Der cd vl law 5 (o + 1) (k + 1) k1 b) (h3 : cd k1 = 26) (d2 : Der cd vl law 2 (o + 1) (k1 + 1) k2 x) (h4 : cpl 2 (cd k2)) (h5 : cd k2 ≠ 27) : Fl cd vl law 0 o k 1 k2 := Fl_cl.2.2.2.2.2.1 o k k1 k2 b x h1 h2 d h3 d2 h4 h5
theorem Fl.el2 {o k k1 k2 f kf : Int} {b x : dX} (h1 : cd k = 25) (h2 : o < 8) (d : Der cd vl law 5 (o + 1) (k + 1) k1 b) (h3 : cd k1 = 26) (d2 : Der cd vl law 2 (o + 1) (k1 + 1) k2 x) (h4 : cd k2 = 27) (d3 : Fl cd vl law 2 (o + 1) (k2 + 1) f kf) : Fl cd vl law 0 o k f kf := Fl_cl.2.2.2.2.2.2.1 o k k1 k2 b x f kf h1 h2 d h3 d2 h4 d3
theorem Fl.en3 {o k k1 k2 k3 : Int} {b x y : dX} (h1 : cd k = 25) (h2 : o < 8) (d : Der cd vl law 5 (o + 1) (k + 1) k1 b) (h3 : cd k1 = 26) (d2 : Der cd vl law 2 (o + 1) (k1 + 1) k2 x) (h4 : cd k2 = 27) (d3 : Der cd vl law 2 (o + 1) (k2 + 1) k3 y) (h5 : cpl 2 (cd k3)) (h6 : cd k3 ≠ 28) : Fl cd vl law 0 o k 1 k3 := Fl_cl.2.2.2.2.2.2.2.1 o k k1 k2 k3 b x y h1 h2 d h3 d2 h4 d3 h5 h6
theorem Fl.lif {y : Nat} {o k f kf : Int} (h : lft y) (d : Fl cd vl law y o k f kf) : Fl cd vl law (y + 1) o k f kf := Fl_cl.2.2.2.2.2.2.2.2.1 y o k f kf h d
theorem Fl.chn {y : Nat} {o k k1 f kf : Int} {x : dX} (h : chn y (cd k1)) (d : Der cd vl law (y + 1) o k k1 x) (d2 : Fl cd vl law y o (k1 + 1) f kf) : Fl cd vl law (y + 1) o k f kf := Fl_cl.2.2.2.2.2.2.2.2.2.1 y o k k1 x f kf h d d2
theorem Fl.nt3 {o k : Int} (h1 : cd k = 31) (h2 : 8 ≤ o) : Fl cd vl law 3 o k 3 k := Fl_cl.2.2.2.2.2.2.2.2.2.2.1 o k h1 h2
theorem Fl.nt {o k f kf : Int} (h1 : cd k = 31) (h2 : o < 8) (d : Fl cd vl law 3 (o + 1) (k + 1) f kf) : Fl cd vl law 3 o k f kf := Fl_cl.2.2.2.2.2.2.2.2.2.2.2.1 o k f kf h1 h2 d
theorem Fl.as1 {o k f kf : Int} (h1 : cd k ≠ 31) (d : Fl cd vl law 2 o k f kf) : Fl cd vl law 3 o k f kf := Fl_cl.2.2.2.2.2.2.2.2.2.2.2.2.1 o k f kf h1 d
theorem Fl.asm {o k k1 : Int} {x : dX} (h1 : cd k ≠ 31) (d : Der cd vl law 2 o k k1 x) (h2 : cpl 2 (cd k1)) (h3 : ¬ (33 ≤ cd k1 ∧ cd k1 ≤ 38)) : Fl cd vl law 3 o k 1 k1 := Fl_cl.2.2.2.2.2.2.2.2.2.2.2.2.2.1 o k k1 x h1 d h2 h3
theorem Fl.as2 {o k k1 f kf : Int} {x : dX} (h1 : cd k ≠ 31) (d : Der cd vl law 2 o k k1 x) (h2 : 33 ≤ cd k1) (h3 : cd k1 ≤ 38) (d2 : Fl cd vl law 2 o (k1 + 1) f kf) : Fl cd vl law 3 o k f kf := Fl_cl.2.2.2.2.2.2.2.2.2.2.2.2.2.2 o k k1 x f kf h1 d h2 h3 d2
end DR
/-- code of the class, laid from b on -/
def plC (T : Nat) (h : Hp) : Int → List (Int × Int) → Prop
  | _, [] => True
  | b, e :: r => (h (T + 2) b = e.1 ∧ h (T + 3) b = e.2 + (if e.1 = 51 ∨ e.1 = 52 then b else 0)) ∧ plC T h (b + 1) r
theorem plC_app {T : Nat} {h : Hp} : ∀ (A B : List (Int × Int)) (b : Int), plC T h b (A ++ B) ↔ plC T h b A ∧ plC T h (b + A.length) B := by
  intro A
  induction A with
  | nil =>
    intro B b
    show plC T h b B ↔ True ∧ plC T h (b + ((0 : Nat) : Int)) B
    rw [show b + ((0 : Nat) : Int) = b by omega]
    exact ⟨fun z => ⟨trivial, z⟩, fun z => z.2⟩
  | cons e A ih =>
    intro B b
    show (_ ∧ plC T h (b + 1) (A ++ B)) ↔ (_ ∧ plC T h (b + 1) A) ∧ plC T h (b + ((A.length + 1 : Nat) : Int)) B
    rw [ih, show b + 1 + (A.length : Int) = b + ((A.length + 1 : Nat) : Int) by omega]
    exact ⟨fun z => ⟨⟨z.1, z.2.1⟩, z.2.2⟩, fun z => ⟨z.1.1, z.1.2, z.2⟩⟩
theorem plC_fr {T : Nat} {h h1 : Hp} : ∀ (A : List (Int × Int)) (b : Int), (∀ j, b ≤ j → j < b + A.length → h1 (T + 2) j = h (T + 2) j ∧ h1 (T + 3) j = h (T + 3) j) → plC T h b A → plC T h1 b A := by
  intro A
  induction A with
  | nil => intro b _ _; trivial
  | cons e A ih =>
    intro b q z
    have l : ((e :: A).length : Int) = A.length + 1 := by simp
    have q0 := q b (by omega) (by omega)
    refine ⟨?_, ih (b + 1) (fun j x y => q j (by omega) (by omega)) z.2⟩
    rw [q0.1, q0.2]
    exact z.1
/-- code of the reference -/
def plR (h : Hp) (B : Int) : Int → List (Int × Int) → Prop
  | _, [] => True
  | b, e :: r => (h 87 (B + 2 * b) = e.1 ∧ h 87 (B + 2 * b + 1) = e.2) ∧ plR h B (b + 1) r
theorem plR_app {h : Hp} {B : Int} : ∀ (A C : List (Int × Int)) (b : Int), plR h B b (A ++ C) ↔ plR h B b A ∧ plR h B (b + A.length) C := by
  intro A
  induction A with
  | nil =>
    intro C b
    show plR h B b C ↔ True ∧ plR h B (b + ((0 : Nat) : Int)) C
    rw [show b + ((0 : Nat) : Int) = b by omega]
    exact ⟨fun z => ⟨trivial, z⟩, fun z => z.2⟩
  | cons e A ih =>
    intro C b
    show (_ ∧ plR h B (b + 1) (A ++ C)) ↔ (_ ∧ plR h B (b + 1) A) ∧ plR h B (b + ((A.length + 1 : Nat) : Int)) C
    rw [ih, show b + 1 + (A.length : Int) = b + ((A.length + 1 : Nat) : Int) by omega]
    exact ⟨fun z => ⟨⟨z.1, z.2.1⟩, z.2.2⟩, fun z => ⟨z.1.1, z.1.2, z.2⟩⟩
theorem plR_fr {h h1 : Hp} {B : Int} : ∀ (A : List (Int × Int)) (b : Int), (∀ j, B + 2 * b ≤ j → j < B + 2 * (b + A.length) → h1 87 j = h 87 j) → plR h B b A → plR h1 B b A := by
  intro A
  induction A with
  | nil => intro b _ _; trivial
  | cons e A ih =>
    intro b q z
    have l : ((e :: A).length : Int) = A.length + 1 := by simp
    refine ⟨?_, ih (b + 1) (fun j x y => q j (by omega) (by omega)) z.2⟩
    rw [q (B + 2 * b) (by omega) (by omega), q (B + 2 * b + 1) (by omega) (by omega)]
    exact z.1
