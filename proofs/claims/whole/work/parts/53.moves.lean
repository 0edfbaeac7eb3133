/-! swap and turn: all generators moved -/
def swp (s p q : Nat) : Nat := if s.testBit p = s.testBit q then s else s ^^^ (2 ^ p ^^^ 2 ^ q)
def rot (n s : Nat) : Nat := ((2 * s) % 2 ^ n) ||| (s / 2 ^ (n - 1))
theorem f_swp : ∀ s, s < 128 → ∀ p, p < 7 → ∀ q, q < 7 → p ≠ q → X10_exchanged (nI s) (nI p) (nI q) = nI (swp s p q) ∧ (if X11_has (nI s) (nI p) = X11_has (nI s) (nI q) then nI s else nI s ^^^ ((1 <<< (nI p &&& 31)) ||| (1 <<< (nI q &&& 31)))) = nI (swp s p q) ∧ swp (swp s p q) p q = s := by decide +kernel
theorem f_swpn' : ((List.range 8).all fun n => (List.range 128).all fun s => (List.range n).all fun p => (List.range n).all fun q => !(decide (s < 2 ^ n) && decide (0 < s)) || (decide (0 < swp s p q) && decide (swp s p q < 2 ^ n))) = true := by decide +kernel
theorem f_swpn {n s p q : Nat} (hn : n < 8) (hs : s < 128) (hp : p < n) (hq : q < n) (h : s < 2 ^ n) (h0 : 0 < s) : 0 < swp s p q ∧ swp s p q < 2 ^ n := by
  have h1 := List.all_eq_true.mp f_swpn' n (List.mem_range.mpr hn)
  have h2 := List.all_eq_true.mp h1 s (List.mem_range.mpr hs)
  have h3 := List.all_eq_true.mp h2 p (List.mem_range.mpr hp)
  have h4 := List.all_eq_true.mp h3 q (List.mem_range.mpr hq)
  simpa [h, h0] using h4
theorem f_rotc : ∀ n, n < 8 → ∀ s, s < 128 → 0 < n → s < 2 ^ n → X10_rotated (nI s) (nI n) = nI (rot n s) := by decide +kernel
theorem f_rotm : ∀ n, n < 8 → ∀ s, s < 128 → 0 < n → s < 2 ^ n → ((nI s <<< ((1 : Int32) &&& 31)) &&& (((1 : Int32) <<< (nI n &&& 31)) - (1 : Int32))) ||| (((nI s <<< ((1 : Int32) &&& 31)) >>> (nI n &&& 31)) &&& (1 : Int32)) = nI (rot n s) := by decide +kernel
theorem f_rotn : ∀ n, n < 8 → ∀ s, s < 128 → 0 < n → s < 2 ^ n → (0 < s → 0 < rot n s) ∧ rot n s < 2 ^ n := by decide +kernel
theorem f_roti : ∀ n, n < 8 → ∀ s, s < 128 → 0 < n → s < 2 ^ n → (rot n s / 2) ||| ((rot n s % 2) * 2 ^ (n - 1)) = s := by decide +kernel
