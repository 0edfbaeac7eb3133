/-! means -/
def ones1 : Nat → Nat := fun _ => 1
theorem pc_mass : ∀ m, m < 128 → massN ones1 m 7 = pc m := by decide +kernel
theorem sizeC_ok {σ : Wd} {n : Nat} {gs : List Nat} (h : FamR σ n gs) (hn : n ≤ 7) : X0_sizeOfAll σ = some (nI (wsum ones1 (cv gs) n)) := by
  unfold X0_sizeOfAll
  refine lp_tr (fun k => (nI (wsum ones1 (cv gs) k), nI k)) n _ (by simp [wsum, nI_0]) (by omega) (fun k hk rec => ?_) (fun rec => ?_)
  · show X0_sizeOfAll_B4 σ rec (nI (wsum ones1 (cv gs) k), nI k) = rec (nI (wsum ones1 (cv gs) (k + 1)), nI (k + 1))
    rw [X0_sizeOfAll_B4, h.pts, if_neg (by rw [nle (by omega) (by omega)]; omega), often_ok h (by omega), sbind, nI_add, nI_1, wsum, show ones1 k = 1 from rfl, Nat.one_mul]; rfl
  · show X0_sizeOfAll_B4 σ rec (nI (wsum ones1 (cv gs) n), nI n) = _
    rw [X0_sizeOfAll_B4, h.pts, if_pos (by rw [nle (by omega) (by omega)]; omega)]
def zsum (l : List Nat) : Nat → Nat
  | 0 => 0
  | k + 1 => zsum l k + (k + 1) * l.countP (fun m => pc m == k + 1)
theorem zsum_nil : ∀ k, zsum [] k = 0
  | 0 => rfl
  | k + 1 => by rw [zsum, zsum_nil k]; rfl
theorem zsum_cons (m : Nat) (l : List Nat) : ∀ k, zsum (m :: l) k = zsum l k + if pc m ≤ k then pc m else 0
  | 0 => by
    rw [zsum, zsum]
    by_cases e : pc m ≤ 0
    · rw [if_pos e]; omega
    · rw [if_neg e]
  | k + 1 => by
    rw [zsum, zsum, zsum_cons m l k]
    by_cases e : pc m = k + 1
    · rw [List.countP_cons_of_pos (by simpa using e), if_neg (by omega), if_pos (by omega), Nat.mul_succ, e]; omega
    · rw [List.countP_cons_of_neg (by simpa using e)]
      by_cases e2 : pc m ≤ k
      · rw [if_pos e2, if_pos (by omega)]; omega
      · rw [if_neg e2, if_neg (by omega)]; omega
theorem zsum_all : ∀ l : List Nat, (∀ m ∈ l, m < 128) → zsum l 7 = (l.map pc).sum
  | [], _ => zsum_nil 7
  | m :: l, h => by
    have := f_pc8 m (h m (by simp))
    rw [zsum_cons, zsum_all l (fun x hx => h x (by simp [hx])), if_pos (by omega), List.map_cons, List.sum_cons]; omega
theorem mems_p2 {a : St} (hw : wf a) {m : Nat} (hm : m ∈ mems a.2.2.1) : m < 2 ^ a.1 := by
  obtain ⟨S, s1, s2⟩ := (mems_mem (wf_lt hw)).mp hm
  rw [← s2]
  have : ∀ S : List Nat, (∀ x ∈ S, x ∈ a.2.2.1) → un S < 2 ^ a.1 := by
    intro S
    induction S with
    | nil => intro _; exact p2_pos _
    | cons x t ih =>
      intro h
      rw [un_cons]
      exact Nat.or_lt_two_pow (hw.2.2.1.2.1 x (h x (by simp))).2 (ih (fun y hy => h y (by simp [hy])))
  exact this S s1
theorem size_eq {a : St} (hw : wf a) : zsum (mems a.2.2.1) 7 = wsum ones1 (cv a.2.2.1) a.1 := by
  rw [zsum_all _ (fun m hm => mems_lt hm), ← sum_wv]
  congr 1
  apply List.map_congr_left
  intro m hm
  rw [← pc_mass m (mems_lt hm), massN_7 (mems_p2 hw hm) hw.1.2]
theorem gcd_step {a b : Nat} (hb : b ≠ 0) : Nat.gcd a b = Nat.gcd b (a % b) := by
  rw [Nat.gcd_comm a b, Nat.gcd_rec b a, Nat.gcd_comm]
theorem mod_half {a b : Nat} (hb : a % b ≠ 0) (h0 : b ≠ 0) : 2 * (b % (a % b)) < b := by
  have h1 : a % b < b := Nat.mod_lt _ (by omega)
  have h2 : b % (a % b) < a % b := Nat.mod_lt _ (by omega)
  have h3 := Nat.div_add_mod b (a % b)
  have h4 : 1 ≤ b / (a % b) := (Nat.one_le_div_iff (by omega)).mpr (by omega)
  have h5 : a % b * 1 ≤ a % b * (b / (a % b)) := Nat.mul_le_mul (Nat.le_refl _) h4
  omega
theorem ckZ_n {α : Type} {b : Nat} {t : Option α} (h : b ≠ 0) (hb : b < 2 ^ 31) : ckZ (nI b) t = t := by
  unfold ckZ
  rw [if_neg (nI_ne0 (by omega) hb)]
theorem gcdC : ∀ (j f k a b : Nat), b < 2 ^ j → a < 2 ^ 31 → b < 2 ^ 31 → k + 2 * j + 1 ≤ 64 → 2 * j + 1 ≤ f → lp X10_commonDivisor_B7 f (nI a, nI b, nI k) = some (nI (Nat.gcd a b))
  | 0, f, k, a, b, hb, ha, hb', hk, hf => by
    have : b = 0 := by simpa using hb
    subst this
    obtain ⟨g, rfl⟩ : ∃ g, f = g + 1 := ⟨f - 1, by omega⟩
    show X10_commonDivisor_B7 (lp X10_commonDivisor_B7 g) (nI a, nI 0, nI k) = _
    rw [X10_commonDivisor_B7, if_neg (by rw [show (64 : Int32) = nI 64 from rfl, nle (by omega) (by omega)]; omega), if_pos nI_0, Nat.gcd_zero_right]
  | j + 1, f, k, a, b, hb, ha, hb', hk, hf => by
    obtain ⟨g, rfl⟩ : ∃ g, f = g + 2 := ⟨f - 2, by omega⟩
    show X10_commonDivisor_B7 (X10_commonDivisor_B7 (lp X10_commonDivisor_B7 g)) (nI a, nI b, nI k) = _
    rw [X10_commonDivisor_B7, if_neg (by rw [show (64 : Int32) = nI 64 from rfl, nle (by omega) (by omega)]; omega)]
    by_cases e : b = 0
    · rw [if_pos (by rw [e]; exact nI_0), e, Nat.gcd_zero_right]
    · have h1 : a % b < b := Nat.mod_lt _ (by omega)
      rw [if_neg (nI_ne0 (by omega) hb'), ckZ_n e hb', nmod ha hb', nI_1, gcd_step e, X10_commonDivisor_B7, if_neg (by rw [show (64 : Int32) = nI 64 from rfl, nle (by omega) (by omega)]; omega)]
      by_cases e2 : a % b = 0
      · rw [if_pos (by rw [e2]; exact nI_0), e2, Nat.gcd_zero_right]
      · have h2 := mod_half e2 e
        rw [if_neg (nI_ne0 (by omega) (by omega)), ckZ_n e2 (by omega), nmod hb' (by omega), nI_1, gcd_step e2]
        exact gcdC j g (k + 1 + 1) _ _ (by rw [Nat.pow_succ] at hb; omega) (by omega) (by omega) (by omega) (by omega)
theorem gcdM (kx : Int32 → Option (Int32 × Wd)) : ∀ (j f a b : Nat), b < 2 ^ j → a < 2 ^ 31 → b < 2 ^ 31 → 2 * j + 1 ≤ f → lp (X11_mean_B64 kx) f (nI a, nI b) = kx (nI (Nat.gcd a b))
  | 0, f, a, b, hb, ha, hb', hf => by
    have : b = 0 := by simpa using hb
    subst this
    obtain ⟨g, rfl⟩ : ∃ g, f = g + 1 := ⟨f - 1, by omega⟩
    show X11_mean_B64 kx (lp (X11_mean_B64 kx) g) (nI a, nI 0) = _
    rw [X11_mean_B64, if_pos nI_0, Nat.gcd_zero_right]
  | j + 1, f, a, b, hb, ha, hb', hf => by
    obtain ⟨g, rfl⟩ : ∃ g, f = g + 2 := ⟨f - 2, by omega⟩
    show X11_mean_B64 kx (X11_mean_B64 kx (lp (X11_mean_B64 kx) g)) (nI a, nI b) = _
    rw [X11_mean_B64]
    by_cases e : b = 0
    · rw [if_pos (by rw [e]; exact nI_0), e, Nat.gcd_zero_right]
    · have h1 : a % b < b := Nat.mod_lt _ (by omega)
      rw [if_neg (nI_ne0 (by omega) hb'), ckZ_n e hb', nmod ha hb', gcd_step e, X11_mean_B64]
      by_cases e2 : a % b = 0
      · rw [if_pos (by rw [e2]; exact nI_0), e2, Nat.gcd_zero_right]
      · have h2 := mod_half e2 e
        rw [if_neg (nI_ne0 (by omega) (by omega)), ckZ_n e2 (by omega), nmod hb' (by omega), gcd_step e2]
        exact gcdM kx j g _ _ (by rw [Nat.pow_succ] at hb; omega) (by omega) (by omega) (by omega)
theorem q_mean {σ : Wd} {a : St} {hs : List St} {tp : List Nat} (hC : CR σ a hs tp) (hM : MR σ a hs tp) (hw : wf a) (x y : Int32) : ∃ r σ2, X10_mean σ x y = some r ∧ X11_mean σ x y = some (r, σ2) ∧ QO σ σ2 a hs tp := by
  have h7 := hw.1.2
  have hg := wf_lt hw
  have hl := mems_len a.2.2.1
  have hp := mems_pos hg
  have hout : (x < 0 ∨ nI 2 ≤ x) → ∃ r σ2, X10_mean σ x y = some r ∧ X11_mean σ x y = some (r, σ2) ∧ QO σ σ2 a hs tp := by
    intro hx
    refine ⟨-1, σ, ?_, ?_, QO.no hM⟩
    · rw [X10_mean, if_neg (show ¬ x = 0 from out_ne (k := 0) (by decide) hx (by decide)), if_neg (show ¬ x = 1 from out_ne (k := 1) (by decide) hx (by decide))]
    · rw [X11_mean, show X11_in x 0 1 = 0 by rw [lit_1]; exact in_no (by decide) hx, if_pos rfl]
  rcases pk_ix x (n := 2) (by decide) with hx | hx | ⟨k, hk, rfl⟩
  · exact hout (Or.inl hx)
  · exact hout (Or.inr hx)
  clear hout
  obtain ⟨τ, e1, l1, m1, s1, f1⟩ := lays_MR hM hw
  -- for any sum
  have key : ∀ S, S < 2 ^ 31 → ∃ r, X10_mean_J40 σ y (nI S) = some r ∧ X11_mean_J55 y (nI S) τ = some (r, τ) := by
    intro S hS
    have hgp : 0 < Nat.gcd S (mems a.2.2.1).length := Nat.gcd_pos_of_pos_right _ hp
    have hgl : Nat.gcd S (mems a.2.2.1).length ≤ (mems a.2.2.1).length := Nat.gcd_le_right _ hp
    refine ⟨if y = 0 then nI S / nI (Nat.gcd S (mems a.2.2.1).length) else nI (mems a.2.2.1).length / nI (Nat.gcd S (mems a.2.2.1).length), ?_, ?_⟩
    · rw [X10_mean_J40, hC.fam.mem.1, X10_commonDivisor, ← nI_0, gcdC 8 FU 0 S _ (by omega) hS (by omega) (by omega) (by decide), sbind, nI_0, if_pos (by rw [← nI_0, nlt (by omega) (by omega)]; exact hgp), ckZ_n (by omega) (by omega), ckZ_n (by omega) (by omega)]
      by_cases e : y = 0
      · rw [if_pos e, if_pos e]
      · rw [if_neg e, if_neg e]
    · rw [X11_mean_J55, l1.2.1, gcdM _ 8 FU S _ (by omega) hS (by omega) (by decide), X11_mean_T87, ckZ_n (by omega) (by omega), ckZ_n (by omega) (by omega), l1.2.1]
      by_cases e : y = 0
      · rw [if_pos e, if_pos e]
      · rw [if_neg e, if_neg e]
  have hz : lp (X11_mean_B20 τ (X11_mean_T45 (nI k) τ y)) FU (0, 1) = X11_mean_T45 (nI k) τ y (nI (zsum (mems a.2.2.1) 7)) := by
    refine lp_tr (fun z => (nI (zsum (mems a.2.2.1) z), nI (z + 1))) 7 _ (by simp [zsum, nI_0]; rfl) (by omega) (fun z hz rec => ?_) (fun rec => ?_)
    · show X11_mean_B20 τ _ rec (nI (zsum (mems a.2.2.1) z), nI (z + 1)) = rec (nI (zsum (mems a.2.2.1) (z + 1)), nI (z + 1 + 1))
      rw [X11_mean_B20, if_neg (by rw [L7, nlt (by omega) (by omega)]; omega), szM_ok l1 (by omega), sbind, nmul, nI_add, nI_1]; rfl
    · show X11_mean_B20 τ _ rec (nI (zsum (mems a.2.2.1) 7), nI (7 + 1)) = _
      rw [X11_mean_B20, if_pos (by rw [L7, nlt (by omega) (by omega)]; omega)]
  have hmod : X11_mean σ (nI k) y = X11_mean_T45 (nI k) τ y (nI (zsum (mems a.2.2.1) 7)) := by
    rw [X11_mean, show X11_in (nI k) 0 1 = 1 by rw [lit_1]; exact in_in (by decide) hk, if_neg (by decide), e1, sbind, hz]
  have b1 := wsum_le (w := ones1) (c := cv a.2.2.1) (M := 1) (K := 128) a.1 (fun _ _ => Nat.le_refl _) (fun p _ => cntA_le _ _)
  have b2 := wsum_le (w := wv a) (c := cv a.2.2.1) (M := 9) (K := 128) a.1 (fun p _ => wv_le hw p) (fun p _ => cntA_le _ _)
  rcases (by omega : k = 0 ∨ k = 1) with rfl | rfl
  · obtain ⟨r, r1, r2⟩ := key (wsum ones1 (cv a.2.2.1) a.1) (by omega)
    refine ⟨r, τ, ?_, ?_, s1, m1⟩
    · rw [X10_mean, if_pos nI_0, X10_mean_J11, if_pos nI_0, sizeC_ok hC.fam h7, sbind, r1]
    · rw [hmod, X11_mean_T45, if_neg (by decide), size_eq hw, r2]
  · obtain ⟨r, r1, r2⟩ := key (wsum (wv a) (cv a.2.2.1) a.1) (by omega)
    refine ⟨r, τ, ?_, ?_, s1, m1⟩
    · rw [X10_mean, if_neg (by decide), if_pos (by decide), X10_mean_J11, if_neg (by decide), allC_ok hC.fam h7 rfl (fun p hp => hC.st.2.2.1 p (by omega)), sbind]
      exact r1
    · rw [hmod, X11_mean_T45, if_pos (by decide), allM_ok l1 m1.row hw, sbind, r2]
