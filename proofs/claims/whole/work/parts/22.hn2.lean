/-! Determinants of two, three and four rows, by places: what row operations do to them. -/
def hn_d2 (u v : Nat → Int) (a b : Nat) : Int := u a * v b - u b * v a
def hn_d3 (u v w : Nat → Int) (a b c : Nat) : Int := u a * hn_d2 v w b c - u b * hn_d2 v w a c + u c * hn_d2 v w a b
def hn_d4 (u v w x : Nat → Int) (a b c d : Nat) : Int := u a * hn_d3 v w x b c d - u b * hn_d3 v w x a c d + u c * hn_d3 v w x a b d - u d * hn_d3 v w x a b c
theorem hn_d4_add01 (u v w x : Nat → Int) (k : Int) (a b c d : Nat) : hn_d4 (fun j => u j - k * v j) v w x a b c d = hn_d4 u v w x a b c d := by
  simp only [hn_d4, hn_d3, hn_d2]; grind
theorem hn_d4_sw01 (u v w x : Nat → Int) (a b c d : Nat) : hn_d4 v u w x a b c d = -hn_d4 u v w x a b c d := by
  simp only [hn_d4, hn_d3, hn_d2]; grind
theorem hn_d4_sw12 (u v w x : Nat → Int) (a b c d : Nat) : hn_d4 u w v x a b c d = -hn_d4 u v w x a b c d := by
  simp only [hn_d4, hn_d3, hn_d2]; grind
theorem hn_d4_sw23 (u v w x : Nat → Int) (a b c d : Nat) : hn_d4 u v x w a b c d = -hn_d4 u v w x a b c d := by
  simp only [hn_d4, hn_d3, hn_d2]; grind
theorem hn_d4_neg0 (u v w x : Nat → Int) (a b c d : Nat) : hn_d4 (fun j => -u j) v w x a b c d = -hn_d4 u v w x a b c d := by
  simp only [hn_d4, hn_d3, hn_d2]; grind
