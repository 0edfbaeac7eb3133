/-! ===== pure: numbers, loops ===== -/
theorem lit_nI (n : Nat) : (OfNat.ofNat n : Int32) = nI n := rfl
theorem nle {a b : Nat} (ha : a < 2 ^ 31) (hb : b < 2 ^ 31) : nI a ≤ nI b ↔ a ≤ b := by
  rw [Int32.le_iff_toInt_le, nI_toInt ha, nI_toInt hb]; omega
theorem nlt {a b : Nat} (ha : a < 2 ^ 31) (hb : b < 2 ^ 31) : nI a < nI b ↔ a < b := by
  rw [Int32.lt_iff_toInt_lt, nI_toInt ha, nI_toInt hb]; omega
theorem neq {a b : Nat} (ha : a < 2 ^ 31) (hb : b < 2 ^ 31) : nI a = nI b ↔ a = b := by
  constructor
  · intro h
    have := congrArg Int32.toInt h
    rw [nI_toInt ha, nI_toInt hb] at this
    omega
  · intro h; rw [h]
theorem nsub {a b : Nat} (h : b ≤ a) : nI a - nI b = nI (a - b) := by
  have e : nI a = nI (a - b) + nI b := by rw [nI_add]; congr 1; omega
  rw [e, Int32.add_sub_cancel]
theorem nmul (a b : Nat) : nI a * nI b = nI (a * b) := by
  unfold nI
  exact (Int32.ofNat_mul a b).symm
theorem nmod {a b : Nat} (ha : a < 2 ^ 31) (hb : b < 2 ^ 31) : nI a % nI b = nI (a % b) := by
  apply Int32.toInt_inj.mp
  rw [Int32.toInt_mod, nI_toInt ha, nI_toInt hb, nI_toInt (Nat.lt_of_le_of_lt (Nat.mod_le _ _) ha), Int.tmod_eq_emod_of_nonneg (by omega)]
  omega
theorem nneg {a : Nat} (ha : a < 2 ^ 31) : ¬ nI a < 0 := nI_pos ha
theorem nnegL (a : Nat) (ha : a < 2 ^ 31) : ¬ nI a < nI 0 := fun h => absurd ((nlt ha (by decide)).mp h) (by omega)
theorem ckA_n {α : Type} {k n : Nat} {t : Option α} (h : k < n) (hn : n < 2 ^ 31) : ckA (nI k) n t = t := by
  unfold ckA
  rw [if_neg]
  exact vp_in_nI h hn
theorem ncl {k : Nat} (h : k < 2 ^ 31) : (nI k).toNatClampNeg = k := nI_clamp h
theorem up_get (σ : Wd) (a i : Nat) (x : Int32) (q j : Nat) : up σ a i x q j = if q = a ∧ j = i then x else σ q j := by
  unfold up upd
  by_cases h : q = a
  · subst h
    simp
  · simp [h]
/-- a loop whose states are known -/
theorem lp_trace {S C : Type} {body : (S → Option C) → S → Option C} (at_ : Nat → S) (N : Nat) (X : Option C) (hstep : ∀ k, k < N → ∀ rec, body rec (at_ k) = rec (at_ (k + 1))) (hexit : ∀ rec, body rec (at_ N) = X) : ∀ (d k fuel : Nat), k + d = N → d < fuel → lp body fuel (at_ k) = X := by
  intro d
  induction d with
  | zero =>
    intro k fuel hk hf
    cases fuel with
    | zero => omega
    | succ f =>
      have : k = N := by omega
      subst this
      exact hexit _
  | succ d ih =>
    intro k fuel hk hf
    cases fuel with
    | zero => omega
    | succ f =>
      show body (lp body f) (at_ k) = X
      rw [hstep k (by omega)]
      exact ih (k + 1) f (by omega) (by omega)
theorem lp_tr {S C : Type} {body : (S → Option C) → S → Option C} (at_ : Nat → S) (N : Nat) (X : Option C) {s : S} (hs : s = at_ 0) (hN : N < 4096) (hstep : ∀ k, k < N → ∀ rec, body rec (at_ k) = rec (at_ (k + 1))) (hexit : ∀ rec, body rec (at_ N) = X) : lp body FU s = X := by
  rw [hs]
  exact lp_trace at_ N X hstep hexit N 0 FU (by omega) hN
theorem foldl_take_succ {A B : Type} (f : A → B → A) (a : A) : ∀ (xs : List B) (k : Nat) (h : k < xs.length), (xs.take (k + 1)).foldl f a = f ((xs.take k).foldl f a) xs[k] := by
  intro xs k h
  rw [List.take_succ, List.getElem?_eq_getElem h, List.foldl_append]
  rfl
/-- a loop that folds over a list, state (accumulator, index) -/
theorem lp_fold {S C A B : Type} {body : (S → Option C) → S → Option C} (xs : List B) (f : A → B → A) (enc : A → Nat → S) (a0 : A) (X : A → Option C) (I : Nat → A → Prop) (h0 : I 0 a0) (hI : ∀ k a (h : k < xs.length), I k a → I (k + 1) (f a xs[k])) {s : S} (hs : s = enc a0 0) (hN : xs.length < 4096)
    (hstep : ∀ k a (h : k < xs.length), I k a → ∀ rec, body rec (enc a k) = rec (enc (f a xs[k]) (k + 1))) (hexit : ∀ a, I xs.length a → ∀ rec, body rec (enc a xs.length) = X a) : lp body FU s = X (xs.foldl f a0) := by
  have key : ∀ k, k ≤ xs.length → I k ((xs.take k).foldl f a0) := by
    intro k
    induction k with
    | zero => intro _; exact h0
    | succ k ih =>
      intro hk
      rw [foldl_take_succ f a0 xs k (by omega)]
      exact hI k _ (by omega) (ih (by omega))
  have e : xs.foldl f a0 = (xs.take xs.length).foldl f a0 := by rw [List.take_length]
  rw [e]
  refine lp_tr (fun k => enc ((xs.take k).foldl f a0) k) xs.length _ hs hN (fun k hk rec => ?_) (fun rec => ?_)
  · rw [foldl_take_succ f a0 xs k hk]
    exact hstep k _ hk (key k (by omega)) rec
  · exact hexit _ (key _ (Nat.le_refl _)) rec
/-! small sets: facts by counting through -/
def pc (s : Nat) : Nat := (List.range 7).countP (fun p => s.testBit p)
theorem f_and : ∀ a, a < 128 → ∀ b, b < 128 → nI a &&& nI b = nI (a &&& b) := by decide +kernel
theorem f_or : ∀ a, a < 128 → ∀ b, b < 128 → nI a ||| nI b = nI (a ||| b) := by decide +kernel
theorem f_andn : ∀ a, a < 128 → ∀ b, b < 128 → nI a &&& (nI b ^^^ (-1)) = nI (a &&& (127 ^^^ b)) := by decide +kernel
theorem f_bit : ∀ s, s < 128 → ∀ p, p < 7 → (nI s >>> (nI p &&& 31)) &&& 1 = nI (if s.testBit p then 1 else 0) := by decide +kernel
theorem f_shl : ∀ p, p < 31 → (1 : Int32) <<< (nI p &&& 31) = nI (2 ^ p) := by decide +kernel
theorem f_bc : ∀ s, s < 128 → J6_bitCount_0f7a4 (nI s) = nI (pc s) := by decide +kernel
theorem f_ones : ∀ s, s < 128 → X11_ones (nI s) = some (nI (pc s)) := by decide +kernel
theorem f_within : ∀ a, a < 128 → ∀ b, b < 128 → X11_isWithin (nI a) (nI b) = if a &&& b = a then 1 else 0 := by decide +kernel
theorem f_has : ∀ s, s < 128 → ∀ p, p < 7 → X11_has (nI s) (nI p) = if s.testBit p then 1 else 0 := by decide +kernel
