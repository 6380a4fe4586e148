/-! what a row says, and that both sides read it so -/
def ppl (r : Row) : Nat := (r 7).toNatClampNeg
def hrs (r : Row) : Nat := (r 8).toNatClampNeg
def szN (r : Row) (h : Nat) : Nat := (r (73 + 10 * h + 5)).toNatClampNeg
def mbN (r : Row) (h k : Nat) : Nat := (r (79 + 10 * h + k)).toNatClampNeg
def lst (r : Row) (h : Nat) : Bool := decide (r (73 + 10 * h + 4) = 0)
def std (r : Row) (h : Nat) : Bool := decide (¬ r 9 < r (73 + 10 * h + 2))
def endR (r : Row) (h : Nat) : Int32 := r (73 + 10 * h + 2) + r (73 + 10 * h + 3)
def clsh (r : Row) (a b : Nat) : Bool := decide (¬ endR r b ≤ r (73 + 10 * a + 2)) && decide (¬ endR r a ≤ r (73 + 10 * b + 2))
def inChN (r : Row) (x : Int32) (h : Nat) : Nat → Bool
  | 0 => false
  | k + 1 => inChN r x h k || decide (r (79 + 10 * h + k) = x)
def inCh (r : Row) (x : Int32) (h : Nat) : Bool := inChN r x h (szN r h)
def busyN (r : Row) (x : Int32) (h : Nat) : Nat → Bool
  | 0 => false
  | o + 1 => busyN r x h o || (decide (o ≠ h) && (lst r o && (inCh r x o && clsh r o h)))
def busy (r : Row) (x : Int32) (h : Nat) : Bool := busyN r x h (hrs r)
def earnR (r : Row) (p h : Nat) (sev : Bool) : Int32 :=
  if sev = true then (r (33 + p) * r (73 + 10 * h + 3) + 9) / 10 * (100 + r 6) / 100 else (r (33 + p) * r (73 + 10 * h + 3) + 9) / 10
def payN (r : Row) (h : Nat) (hv : Int32) : Nat → Int32
  | 0 => 0
  | k + 1 => payN r h hv k + earnR r (mbN r h k) h (decide (1 < szN r h)) * hv / 2
def payR (r : Row) (h : Nat) (hv : Int32) : Int32 := payN r h hv (szN r h)
def halv (r : Row) (x : Int32) : Int32 := if r 4 ≤ x then (if r 5 ≤ x then 0 else 1) else 2
/-- a hearing's chain is one: of up to three, different, of the people there are; the other places NONE -/
def ChW (r : Row) (h : Nat) : Prop := szN r h ≤ 3 ∧ r (73 + 10 * h + 5) = nI (szN r h) ∧ (∀ k, k < szN r h → mbN r h k < ppl r ∧ r (79 + 10 * h + k) = nI (mbN r h k)) ∧ (∀ k, szN r h ≤ k → k < 3 → r (79 + 10 * h + k) = -1) ∧ ∀ i j, i < szN r h → j < szN r h → mbN r h i = mbN r h j → i = j
def NumW (r : Row) : Prop := ppl r ≤ 10 ∧ r 7 = nI (ppl r) ∧ hrs r ≤ 30 ∧ r 8 = nI (hrs r)
