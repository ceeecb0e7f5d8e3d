/-! PURE 3: what is to be answered: fleet, rule, a lane's minutes (the same for class and reference) -/
abbrev Ft : Type := Nat → Nat → Int
abbrev Ak : Type := Nat → Nat → Int → Int → Int → Int
def clampI (hi x : Int) : Int := if x < 0 then 0 else if hi < x then hi else x
theorem clampI_rg {hi x : Int} (h : 0 ≤ hi) : 0 ≤ clampI hi x ∧ clampI hi x ≤ hi := by
  unfold clampI
  split
  · omega
  · split <;> omega
/-- does a kind with that cap fit a lane -/
def fitB (kind cap lane : Int) : Bool := kind == 2 || kind == 4 || (if kind = 5 then decide (lane ≠ 3) else decide (lane.tmod 2 = cap))
def longB (kind : Int) : Bool := kind == 3 || kind == 5
/-- minutes that a kind takes, if a CAR would take so many -/
def minT (kind plain number : Int) : Int := if kind = 1 then 2 * plain else if kind = 3 then 2 * plain + number else if kind = 2 ∨ kind = 4 then plain.tdiv 2 else if kind = 5 then plain + 10 else plain
def takeI (ft : Ft) (ak : Ak) (c : Nat) (l m a : Int) : Int := (fun t => if t < 1 then 1 else t) (minT (ft 5 c) (clampI 40 (ak 0 c l m a) + ft 4 c) (ft 0 c))
def drawB (ft : Ft) (ak : Ak) (eg : Bool) (c : Nat) (l m : Int) : Bool := if ft 5 c = 2 then false else if ft 5 c = 4 then true else (decide (ft 5 c ≠ 5) || decide (4 < ft 0 c)) && (eg || decide (ak 1 c l m 0 ≠ 0))
def mindI (ft : Ft) (ak : Ak) (c : Nat) (l : Int) : Int := clampI 9 (ak 2 c l (ft 3 c) 0)
/-- a lane's minutes: starts, off, pump, ends; who is at the front, at the back -/
abbrev LaS : Type := (Nat → Int) × (Nat → Int) × (Nat → Int) × (Nat → Int) × Int × Int
def fup (f : Nat → Int) (k : Nat) (v : Int) : Nat → Int := fun j => if j = k then v else f j
def candB (ft : Ft) (l : Int) (S : Nat → Bool) (m : Int) (st : Nat → Int) (c : Nat) : Bool := S c && decide (st c = -1) && decide (ft 3 c ≤ m) && fitB (ft 5 c) (ft 1 c) l
/-- the first that has come, fits and hasn't driven up, among the first k -/
def nxtI (ft : Ft) (l : Int) (S : Nat → Bool) (m : Int) (st : Nat → Int) : Nat → Int
  | 0 => -1
  | k + 1 => if candB ft l S m st k = true then (if nxtI ft l S m st k = -1 ∨ ft 3 k < ft 3 (nxtI ft l S m st k).toNat then (k : Int) else nxtI ft l S m st k) else nxtI ft l S m st k
def begI (ft : Ft) (ak : Ak) (l m a : Int) (c : Nat) (pump : Int) (L : LaS) : LaS := (fup L.1 c m, L.2.1, fup L.2.2.1 c pump, fup L.2.2.2.1 c (m + takeI ft ak c l m a), L.2.2.2.2)
/-- first one leaves the front, then the back -/
def lvF (m : Int) (L : LaS) : LaS := if L.2.2.2.2.1 ≠ -1 ∧ L.2.2.2.1 L.2.2.2.2.1.toNat ≤ m then (L.1, fup L.2.1 L.2.2.2.2.1.toNat m, L.2.2.1, L.2.2.2.1, -1, if L.2.2.2.2.2 = L.2.2.2.2.1 then -1 else L.2.2.2.2.2) else L
def lvB (m : Int) (L : LaS) : LaS := if L.2.2.2.2.2 ≠ -1 ∧ L.2.2.2.2.1 = -1 ∧ L.2.2.2.1 L.2.2.2.2.2.toNat ≤ m then (L.1, fup L.2.1 L.2.2.2.2.2.toNat m, L.2.2.1, L.2.2.2.1, L.2.2.2.2.1, -1) else L
/-- at the back -/
def atB (ft : Ft) (ak : Ak) (l m a : Int) (c : Nat) (L : LaS) : LaS := (fun L1 => (L1.1, L1.2.1, L1.2.2.1, L1.2.2.2.1, L1.2.2.2.2.1, (c : Int))) (begI ft ak l m a c 0 L)
def atF (ft : Ft) (ak : Ak) (l m : Int) (c : Nat) (L : LaS) : LaS := (fun L1 => (L1.1, L1.2.1, L1.2.2.1, L1.2.2.2.1, (c : Int), L1.2.2.2.2.2)) (begI ft ak l m 0 c 1 L)
def at2 (ft : Ft) (ak : Ak) (l m : Int) (c : Nat) (L : LaS) : LaS := (fun L1 => (L1.1, L1.2.1, L1.2.2.1, L1.2.2.2.1, (c : Int), (c : Int))) (begI ft ak l m 0 c 2 L)
/-- the second that drives up in a minute, behind one at the front -/
def dr2 (ft : Ft) (ak : Ak) (n : Nat) (l : Int) (S : Nat → Bool) (m : Int) (L : LaS) : LaS := if nxtI ft l S m L.1 n = -1 then L else if longB (ft 5 (nxtI ft l S m L.1 n).toNat) = true then L else atB ft ak l m 1 (nxtI ft l S m L.1 n).toNat L
def dr1 (ft : Ft) (ak : Ak) (eg : Bool) (n : Nat) (l : Int) (S : Nat → Bool) (m : Int) (L : LaS) : LaS :=
  if L.2.2.2.2.2 ≠ -1 then L else if nxtI ft l S m L.1 n = -1 then L
  else if longB (ft 5 (nxtI ft l S m L.1 n).toNat) = true then (if L.2.2.2.2.1 = -1 then at2 ft ak l m (nxtI ft l S m L.1 n).toNat L else L)
  else if L.2.2.2.2.1 = -1 ∧ drawB ft ak eg (nxtI ft l S m L.1 n).toNat l m = true then dr2 ft ak n l S m (atF ft ak l m (nxtI ft l S m L.1 n).toNat L)
  else atB ft ak l m (if L.2.2.2.2.1 = -1 then 0 else 1) (nxtI ft l S m L.1 n).toNat L
def minI (ft : Ft) (ak : Ak) (eg : Bool) (n : Nat) (l : Int) (S : Nat → Bool) (m : Int) (L : LaS) : LaS := dr1 ft ak eg n l S m (lvB m (lvF m L))
/-- all minutes before the k-th, from arrays of which the cars in S have been wiped -/
def runI (ft : Ft) (ak : Ak) (eg : Bool) (n : Nat) (l : Int) (S : Nat → Bool) (L0 : LaS) : Nat → LaS
  | 0 => L0
  | k + 1 => minI ft ak eg n l S k (runI ft ak eg n l S L0 k)
