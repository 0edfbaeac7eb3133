/-! swap and turn: all generators moved -/
def swp (s p q : Nat) : Nat := if s.testBit p = s.testBit q then s else s ^^^ (2 ^ p ^^^ 2 ^ q)
def rot (n s : Nat) : Nat := ((2 * s) % 2 ^ n) ||| (s / 2 ^ (n - 1))
theorem f_swp : ∀ s, s < 128 → ∀ p, p < 7 → ∀ q, q < 7 → p ≠ q → X10_exchanged (nI s) (nI p) (nI q) = nI (swp s p q) ∧ (if X11_has (nI s) (nI p) = X11_has (nI s) (nI q) then nI s else nI s ^^^ ((1 <<< (nI p &&& 31)) ||| (1 <<< (nI q &&& 31)))) = nI (swp s p q) ∧ swp (swp s p q) p q = s := by decide +kernel
theorem f_swpn : ∀ n, n < 8 → ∀ s, s < 128 → ∀ p, p < 7 → ∀ q, q < 7 → p < n → q < n → s < 2 ^ n → 0 < s → 0 < swp s p q ∧ swp s p q < 2 ^ n := by decide +kernel
theorem f_rot : ∀ n, n < 8 → ∀ s, s < 128 → 0 < n → s < 2 ^ n → 0 < s → X10_rotated (nI s) (nI n) = nI (rot n s) ∧ ((nI s <<< (1 &&& 31)) &&& (((1 : Int32) <<< (nI n &&& 31)) - 1)) ||| (((nI s <<< (1 &&& 31)) >>> (nI n &&& 31)) &&& 1) = nI (rot n s) ∧ 0 < rot n s ∧ rot n s < 2 ^ n := by decide +kernel
theorem f_roti : ∀ n, n < 8 → 0 < n → ∀ s, s < 128 → s < 2 ^ n → ∃ t, t < 128 ∧ rot n s = t ∧ (t / 2) ||| ((t % 2) * 2 ^ (n - 1)) = s := by decide +kernel
