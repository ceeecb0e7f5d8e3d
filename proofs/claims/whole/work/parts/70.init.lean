/-! INIT 1: the first text -/
def tx0 : List Int := [116, 97, 107, 101, 115, 32, 52, 32, 59, 32, 102, 111, 114, 119, 97, 114, 100, 115, 32, 49, 32, 59, 32, 109, 105, 110, 100, 115, 32, 49, 32, 59]
def by0 (i : Nat) : Int := tx0.getD i 0
theorem txt0_ok : (match txtP by0 32 with | .inr _ => true | .inl _ => false) = true := by decide +kernel
