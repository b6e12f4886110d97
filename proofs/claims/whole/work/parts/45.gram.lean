/-! a reading's state: place, place behind, token, number, code, what was said last -/
abbrev pT : Type := Int × Int × Int × Int × List Int × pV
abbrev pat (x : pT) : Int := x.1
abbrev pnx (x : pT) : Int := x.2.1
abbrev ptk (x : pT) : Int := x.2.2.1
abbrev pvl (x : pT) : Int := x.2.2.2.1
abbrev pcd (x : pT) : List Int := x.2.2.2.2.1
abbrev pv (x : pT) : pV := x.2.2.2.2.2
abbrev pE : Type := Except Int pT
def eb (x : pE) (f : pT → pE) : pE := match x with
  | .ok a => f a
  | .error p => .error p
theorem eb_ok {x : pT} {f : pT → pE} : eb (.ok x) f = f x := rfl
theorem eb_er {p : Int} {f : pT → pE} : eb (.error p) f = .error p := rfl
theorem eb_inv {x : pE} {f : pT → pE} {y : pT} (h : eb x f = .ok y) : ∃ z, x = .ok z ∧ f z = .ok y := by
  cases x with
  | ok z => exact ⟨z, rfl, h⟩
  | error p => cases h
theorem eb_assoc {x : pE} {f g : pT → pE} : eb (eb x f) g = eb x (fun y => eb (f y) g) := by cases x <;> rfl
def adv (B : Int → Int) (n : Int) (x : pT) : pE := if (lex B n (pnx x)).2.2.1 = 259 then .error (lex B n (pnx x)).1 else .ok ((lex B n (pnx x)).1, (lex B n (pnx x)).2.1, (lex B n (pnx x)).2.2.1, (lex B n (pnx x)).2.2.2, pcd x, pv x)
def expc (B : Int → Int) (n w : Int) (x : pT) : pE := if ptk x = w then adv B n x else .error (pat x)
def emt (c : Int) (v : pV) (x : pT) : pT := (pat x, pnx x, ptk x, pvl x, pcd x ++ [c], v)
def op3 (t : Int) : Int := if t = 42 then -3 else 0
def op2 (t : Int) : Int := if t = 43 then -1 else if t = 45 then -2 else 0
def op6 (t : Int) : Int := if t = 264 then -6 else 0
def op7 (t : Int) : Int := if t = 263 then -7 else 0
section Rd
variable (B : Int → Int) (n : Int)
def un1 (f : pT → pE) (c : Int) (g : Int → Int) (x : pT) : pE := eb (eb (adv B n x) f) fun z => .ok (emt c (fun nm => g (pv z nm)) z)
def bn1 (f : pT → pE) (c : Int) (x : pT) : pE := eb (eb (adv B n x) f) fun z => .ok (emt c (fun nm => binZ c (pv x nm) (pv z nm)) z)
def lp (f : pT → pE) (op : Int → Int) : Nat → pT → pE
  | 0, x => .ok x
  | m + 1, x => if op (ptk x) = 0 then .ok x else eb (bn1 B n f (op (ptk x)) x) (lp f op m)
def trmF (o : pT → pE) (x : pT) : pE := eb (o x) (lp B n o op3 160)
def smF (o : pT → pE) (x : pT) : pE := eb (trmF B n o x) (lp B n (trmF B n o) op2 160)
def cmF (o : pT → pE) (y : pT) : pE := if ptk y = 60 then bn1 B n (smF B n o) (-4) y else if ptk y = 61 then bn1 B n (smF B n o) (-5) y else .ok y
def negF (o : pT → pE) (g : Option (pT → pE)) (x : pT) : pE := if ptk x = 265 then (match g with | none => .error (pat x) | some h => un1 B n h (-8) notZ x) else eb (smF B n o x) (cmF B n o)
def bthF (g : pT → pE) (x : pT) : pE := eb (g x) (lp B n g op6 160)
def ethF (g : pT → pE) (x : pT) : pE := eb (bthF B n g x) (lp B n (bthF B n g) op7 160)
def onN (x : pT) : pE := adv B n (emt (if ptk x = 256 then pvl x else 10000 + pvl x) (fun nm => if ptk x = 256 then pvl x else nm (pvl x)) x)
def oneF (q : Option ((pT → pE) × (pT → pE))) (x : pT) : pE := if ptk x = 256 ∨ ptk x = 257 then onN B n x else match q with
  | none => .error (pat x)
  | some (o, e) => if ptk x = 45 then un1 B n o (-9) (fun a => wI (-a)) x else if ptk x = 40 then eb (eb (adv B n x) e) (expc B n 41) else .error (pat x)
def pLv : Nat → (pT → pE) × (pT → pE)
  | 0 => (oneF B n none, negF B n (oneF B n none) none)
  | k + 1 => (oneF B n (some ((pLv k).1, ethF B n (pLv k).2)), negF B n (oneF B n (some ((pLv k).1, ethF B n (pLv k).2))) (some (pLv k).2))
def eth5 (x : pT) : pE := ethF B n (pLv B n 5).2 x
def rd0 : pE := adv B n (0, 0, 0, 0, [], fun _ => 0)
def rdZ (p : pE) (k : Int) : pE := eb (eb p (expc B n (260 + k))) (eth5 B n)
def rdW (p : pE) (k : Int) : pE := eb (rdZ B n p k) (expc B n 59)
def rd1 : pE := rdW B n (rd0 B n) 0
def rd2 : pE := rdW B n (rd1 B n) 1
def rd3 : pE := rdW B n (rd2 B n) 2
def rdE (x : pT) : pE := if ptk x = 258 then .ok x else .error (pat x)
def rdF : pE := eb (rd3 B n) rdE
end Rd

