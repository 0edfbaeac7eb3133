/-! masses -/
def massN (w : Nat → Nat) (s : Nat) : Nat → Nat
  | 0 => 0
  | n + 1 => massN w s n + (if s.testBit n then w n else 0)
def wsum (w c : Nat → Nat) : Nat → Nat
  | 0 => 0
  | n + 1 => wsum w c n + w n * c n
theorem massN_le {w : Nat → Nat} {M : Nat} (s : Nat) : ∀ n, (∀ p, p < n → w p ≤ M) → massN w s n ≤ M * n
  | 0, _ => Nat.le_refl _
  | n + 1, h => by
    have h1 := massN_le s n (fun p hp => h p (by omega))
    have h2 := h n (by omega)
    rw [massN, Nat.mul_succ]
    by_cases e : s.testBit n = true
    · rw [if_pos e]; omega
    · rw [if_neg e]; omega
theorem wsum_le {w c : Nat → Nat} {M K : Nat} : ∀ n, (∀ p, p < n → w p ≤ M) → (∀ p, p < n → c p ≤ K) → wsum w c n ≤ M * K * n
  | 0, _, _ => Nat.le_refl _
  | n + 1, h, h' => by
    have h1 := wsum_le n (fun p hp => h p (by omega)) (fun p hp => h' p (by omega))
    have h2 := Nat.mul_le_mul (h n (by omega)) (h' n (by omega))
    rw [wsum, Nat.mul_succ]; omega
theorem massN_ext {w : Nat → Nat} {s n : Nat} (h : s < 2 ^ n) : ∀ d, massN w s (n + d) = massN w s n
  | 0 => rfl
  | d + 1 => by
    have : s.testBit (n + d) = false := Nat.testBit_lt_two_pow (Nat.lt_of_lt_of_le h (Nat.pow_le_pow_right (by decide) (by omega)))
    rw [← Nat.add_assoc, massN, this, massN_ext h d]; rfl
theorem massN_7 {w : Nat → Nat} {s n : Nat} (h : s < 2 ^ n) (hn : n ≤ 7) : massN w s 7 = massN w s n := by
  have := massN_ext (w := w) h (7 - n)
  rwa [show n + (7 - n) = 7 by omega] at this
theorem map_sum_add (l : List Nat) (f g : Nat → Nat) : (l.map (fun m => f m + g m)).sum = (l.map f).sum + (l.map g).sum := by
  induction l with
  | nil => rfl
  | cons x t ih => simp only [List.map_cons, List.sum_cons, ih]; omega
theorem map_sum_if (l : List Nat) (b : Nat → Bool) (c : Nat) : (l.map (fun m => if b m then c else 0)).sum = c * l.countP b := by
  induction l with
  | nil => rfl
  | cons x t ih =>
    rw [List.map_cons, List.sum_cons, ih]
    by_cases e : b x = true
    · rw [if_pos e, List.countP_cons_of_pos e, Nat.mul_succ]; omega
    · rw [if_neg e, List.countP_cons_of_neg e]; omega
theorem foldl_add_sum (l : List Nat) (f : Nat → Nat) : ∀ a, l.foldl (fun x m => x + f m) a = a + (l.map f).sum := by
  induction l with
  | nil => intro a; rfl
  | cons x t ih => intro a; rw [List.foldl_cons, ih, List.map_cons, List.sum_cons]; omega
theorem two_ways (w : Nat → Nat) (l : List Nat) : ∀ n, (l.map (fun m => massN w m n)).sum = wsum w (fun p => l.countP (fun m => m.testBit p)) n
  | 0 => by
    have : ∀ l : List Nat, (l.map (fun m => massN w m 0)).sum = 0 := by
      intro l
      induction l with
      | nil => rfl
      | cons x t ih => rw [List.map_cons, List.sum_cons, ih]; rfl
    exact this l
  | n + 1 => by
    have e : (l.map (fun m => massN w m (n + 1))) = l.map (fun m => massN w m n + (if m.testBit n then w n else 0)) := rfl
    rw [e, map_sum_add, two_ways w l n, map_sum_if l (fun m => m.testBit n)]; rfl
theorem cnt_bit (gs : List Nat) (p : Nat) : (mems gs).countP (fun m => m.testBit p) = cntA gs (2 ^ p) := by
  unfold cntA
  congr 1
  funext m
  exact sub_pow.symm
def wv (a : St) (p : Nat) : Nat := a.2.1.getD p 0
theorem wv_le {a : St} (hw : wf a) (p : Nat) : wv a p ≤ 9 := by
  unfold wv
  by_cases h : p < a.2.1.length
  · rw [getD_lt h]; exact hw.2.1.2 _ (List.getElem_mem h)
  · rw [List.getD_eq_getElem?_getD, List.getElem?_eq_none (by omega)]; exact Nat.zero_le _
theorem massC_ok {σ : Wd} {a : St} (h : StR σ 1 a) (hw : wf a) {s : Nat} (hs : s < 128) : X7_massOf σ 1 (nI s) = some (nI (massN (wv a) s 7)) := by
  unfold X7_massOf
  refine lp_tr (fun k => (nI (massN (wv a) s k), nI k)) 7 _ (by simp [massN, nI_0]) (by omega) (fun k hk rec => ?_) (fun rec => ?_)
  · show X7_massOf_B4 1 (nI s) σ rec (nI (massN (wv a) s k), nI k) = rec (nI (massN (wv a) s (k + 1)), nI (k + 1))
    rw [X7_massOf_B4, show kLn (1 + 5) = 7 from rfl, if_neg (by rw [nle (by omega) (by omega)]; omega), f_bit s hs k hk, ckA_n hk (by omega), ncl (by omega), h.2.2.1 k hk, massN]
    by_cases e : s.testBit k = true
    · rw [if_pos e, if_pos (by decide), if_pos e]
      dsimp only [lett]
      rw [X7_massOf_J31, nI_1, nI_add]; rfl
    · rw [if_neg e, if_neg (by decide), if_neg e, X7_massOf_J31, nI_1]; rfl
  · show X7_massOf_B4 1 (nI s) σ rec (nI (massN (wv a) s 7), nI 7) = _
    rw [X7_massOf_B4, show kLn (1 + 5) = 7 from rfl, if_pos (by rw [nle (by omega) (by omega)]; omega)]
theorem massM_ok {σ : Wd} {a : St} (h : MRow (σ 121) a) (hw : wf a) {s : Nat} (hs : s < 128) : X11_massOf σ (nI s) = some (nI (massN (wv a) s a.1)) := by
  have h7 := hw.1.2
  unfold X11_massOf
  refine lp_tr (fun k => (nI (massN (wv a) s k), nI k)) a.1 _ (by simp [massN, nI_0]) (by omega) (fun k hk rec => ?_) (fun rec => ?_)
  · show X11_massOf_B4 σ (nI s) rec (nI (massN (wv a) s k), nI k) = rec (nI (massN (wv a) s (k + 1)), nI (k + 1))
    rw [X11_massOf_B4, h.2.1, if_neg (by rw [nle (by omega) (by omega)]; omega), f_has s hs k (by omega), show (3 : Int32) = nI 3 from rfl, nI_add, ckA_n (by omega) (by omega), ncl (by omega), h.2.2.2.2.1 k (by omega), massN]
    by_cases e : s.testBit k = true
    · rw [if_pos e, if_neg (by decide), if_pos e]
      dsimp only [lett]
      rw [X11_massOf_J33, nI_1, nI_add]; rfl
    · rw [if_neg e, if_pos rfl, if_neg e, X11_massOf_J33, nI_1]; rfl
  · show X11_massOf_B4 σ (nI s) rec (nI (massN (wv a) s a.1), nI a.1) = _
    rw [X11_massOf_B4, h.2.1, if_pos (by rw [nle (by omega) (by omega)]; omega)]
theorem q_mass {σ : Wd} {a : St} {hs : List St} {tp : List Nat} (hC : CR σ a hs tp) (hM : MR σ a hs tp) (hw : wf a) (x : Int32) : ∃ r, X10_mass σ x = some r ∧ X11_mass σ x = some r := by
  have h2 := p2_le hw.1.2
  rcases pk_ix x (n := 2 ^ a.1) (by omega) with hx | hx | ⟨t, ht, rfl⟩
  · exact ⟨-1, by rw [X10_mass, c_setN hC.st hw (Or.inl hx)]; rfl, by rw [X11_mass, m_setN hM.row hw (Or.inl hx)]; rfl⟩
  · exact ⟨-1, by rw [X10_mass, c_setN hC.st hw (Or.inr hx)]; rfl, by rw [X11_mass, m_setN hM.row hw (Or.inr hx)]; rfl⟩
  exact ⟨_, by rw [X10_mass, c_set hC.st hw ht, if_neg (by decide), massC_ok hC.st hw (by omega), sbind, massN_7 ht hw.1.2], by rw [X11_mass, m_set hM.row hw ht, if_neg (by decide), massM_ok hM.row hw (by omega), sbind]⟩
def cv (gs : List Nat) (p : Nat) : Nat := cntA gs (2 ^ p)
theorem allC_ok {σ : Wd} {n q : Nat} {gs : List Nat} {w : Nat → Nat} (h : FamR σ n gs) (hn : n ≤ 7) (hq : kLn q = 7) (hv : ∀ p, p < n → σ q p = nI (w p)) : X0_massOfAll σ q = some (nI (wsum w (cv gs) n)) := by
  unfold X0_massOfAll
  refine lp_tr (fun k => (nI (wsum w (cv gs) k), nI k)) n _ (by simp [wsum, nI_0]) (by omega) (fun k hk rec => ?_) (fun rec => ?_)
  · show X0_massOfAll_B4 σ q rec (nI (wsum w (cv gs) k), nI k) = rec (nI (wsum w (cv gs) (k + 1)), nI (k + 1))
    rw [X0_massOfAll_B4, h.pts, hq, if_neg (by rw [nle (by omega) (by omega)]; omega), if_neg (by rw [nle (by omega) (by omega)]; omega), ckA_n (by omega) (by omega), often_ok h (by omega), sbind, ncl (by omega), hv k hk]
    dsimp only [lett]
    rw [nmul, nI_add, nI_1]; rfl
  · show X0_massOfAll_B4 σ q rec (nI (wsum w (cv gs) n), nI n) = _
    rw [X0_massOfAll_B4, h.pts, if_pos (by rw [nle (by omega) (by omega)]; omega)]
theorem sum_wv (gs : List Nat) (w : Nat → Nat) (n : Nat) : ((mems gs).map (fun m => massN w m n)).sum = wsum w (cv gs) n := by
  rw [two_ways]
  simp only [cnt_bit]; rfl
theorem allM_ok {σ : Wd} {a : St} (h : LayR σ a.2.2.1) (hr : MRow (σ 121) a) (hw : wf a) : X11_massOfAll σ = some (nI (wsum (wv a) (cv a.2.2.1) a.1)) := by
  rw [← sum_wv, show ((mems a.2.2.1).map (fun m => massN (wv a) m a.1)).sum = (mems a.2.2.1).foldl (fun x m => x + massN (wv a) m a.1) 0 by rw [foldl_add_sum]; omega]
  unfold X11_massOfAll
  refine lp_fold (mems a.2.2.1) (fun x m => x + massN (wv a) m a.1) (fun x k => (nI x, nI k)) 0 (fun x => some (nI x)) (fun _ _ => True) trivial (fun _ _ _ _ => trivial) (by rw [nI_0]) (mems_4096 _) (fun k x hk _ rec => ?_) (fun x _ rec => ?_)
  · have hk8 := k128 hk
    show X11_massOfAll_B4 σ rec (nI x, nI k) = rec (nI _, nI (k + 1))
    rw [X11_massOfAll_B4, if_neg (lay_go h hk), ckA_n hk8 (by omega), ncl (by omega), lay_at h hk, massM_ok hr hw (mem_at_lt hk), sbind, nI_add, nI_1]
  · show X11_massOfAll_B4 σ rec (nI x, nI (mems a.2.2.1).length) = _
    rw [X11_massOfAll_B4, if_pos (lay_stop h)]
/-! whether weights prove -/
def prfB (w : Nat → Nat) (gs : List Nat) (n : Nat) : Bool := decide (0 < massN w (topv gs) n) && decide (massN w (topv gs) n * (mems gs).length ≤ 2 * wsum w (cv gs) n)
theorem mul_lt {x y : Nat} (h1 : x ≤ 63) (h2 : y ≤ 128) : x * y ≤ 8064 := Nat.le_trans (Nat.mul_le_mul h1 h2) (by decide)
theorem prf_fin {w : Nat → Nat} {gs : List Nat} {n : Nat} (hw : ∀ p, p < n → w p ≤ 9) (hn : n ≤ 7) : (if nI (massN w (topv gs) n) ≤ 0 then some (0 : Int32) else (if 2 * nI (wsum w (cv gs) n) < nI (massN w (topv gs) n) * nI (mems gs).length then some 0 else some 1)) = some (if prfB w gs n then 1 else 0) := by
  have h1 := massN_le (topv gs) n hw
  have h2 := wsum_le (c := cv gs) (K := 128) n hw (fun p _ => cntA_le gs (2 ^ p))
  have h3 := mems_len gs
  have h4 : massN w (topv gs) n ≤ 63 := by omega
  have h5 := mul_lt h4 h3
  rw [show (2 : Int32) = nI 2 from rfl, nmul, nmul]
  have c1 : nI (massN w (topv gs) n) ≤ 0 ↔ massN w (topv gs) n ≤ 0 := nle (b := 0) (by omega) (by omega)
  have c2 := nlt (a := 2 * wsum w (cv gs) n) (b := massN w (topv gs) n * (mems gs).length) (by omega) (by omega)
  unfold prfB
  by_cases e1 : massN w (topv gs) n ≤ 0
  · rw [if_pos (c1.mpr e1), if_neg (by simp; omega)]
  · rw [if_neg (fun h => e1 (c1.mp h))]
    by_cases e2 : 2 * wsum w (cv gs) n < massN w (topv gs) n * (mems gs).length
    · rw [if_pos (c2.mpr e2), if_neg (by simp; omega)]
    · rw [if_neg (fun h => e2 (c2.mp h)), if_pos (by simp; omega)]
theorem prfC_ok {σ : Wd} {n q : Nat} {gs : List Nat} {w : Nat → Nat} (hg : ∀ x ∈ gs, x < 128) (h : FamR σ n gs) (hn : n ≤ 7) (hq : kLn q = 7) (hv : ∀ p, p < n → σ q p = nI (w p)) (hw : ∀ p, p < n → w p ≤ 9) : X0_isProof σ q = some (if prfB w gs n then 1 else 0) := by
  rw [← prf_fin hw hn]
  have ht := topv_lt hg
  unfold X0_isProof
  refine lp_tr (fun k => (nI (massN w (topv gs) k), nI k)) n _ (by simp [massN, nI_0]) (by omega) (fun k hk rec => ?_) (fun rec => ?_)
  · show X0_isProof_B4 σ q (X0_isProof_T42 σ q) rec (nI (massN w (topv gs) k), nI k) = rec (nI (massN w (topv gs) (k + 1)), nI (k + 1))
    rw [X0_isProof_B4, h.pts, hq, if_neg (by rw [nle (by omega) (by omega)]; omega), if_neg (by rw [nle (by omega) (by omega)]; omega), top_c hg h.mem, sbind, f_bit _ ht k (by omega), ckA_n (by omega) (by omega), ncl (by omega), hv k hk, massN]
    by_cases e : (topv gs).testBit k = true
    · rw [if_pos e, if_pos (by decide), if_pos e, X0_isProof_J36, nI_1, nI_add]
    · rw [if_neg e, if_neg (by decide), if_neg e, X0_isProof_J36, nI_1]; rfl
  · show X0_isProof_B4 σ q (X0_isProof_T42 σ q) rec (nI (massN w (topv gs) n), nI n) = _
    rw [X0_isProof_B4, h.pts, if_pos (by rw [nle (by omega) (by omega)]; omega), X0_isProof_T42, X0_isProof_J42, allC_ok h hn hq hv, sbind, h.mem.1]
theorem prfM_ok {σ : Wd} {n : Nat} {gs : List Nat} {w : Nat → Nat} (hg : ∀ x ∈ gs, x < 128) (h : LayR σ gs) (h0 : σ 121 0 = nI n) (hn : n ≤ 7) (hv : ∀ p, p < n → σ 136 p = nI (w p)) (hw : ∀ p, p < n → w p ≤ 9) : X11_isProved σ = some (if prfB w gs n then 1 else 0) := by
  rw [← prf_fin hw hn]
  have ht := topv_lt hg
  unfold X11_isProved
  refine lp_tr (fun k => (nI (wsum w (cv gs) k), nI (massN w (topv gs) k), nI k)) n _ (by simp [massN, wsum, nI_0]) (by omega) (fun k hk rec => ?_) (fun rec => ?_)
  · show X11_isProved_B6 σ (X11_isProved_T60 σ) rec (nI (wsum w (cv gs) k), nI (massN w (topv gs) k), nI k) = rec (nI (wsum w (cv gs) (k + 1)), nI (massN w (topv gs) (k + 1)), nI (k + 1))
    rw [X11_isProved_B6, h0, if_neg (by rw [nle (by omega) (by omega)]; omega), ckA_n (by omega) (by omega), freq_lay h (by omega), sbind, ncl (by omega), hv k hk]
    dsimp only [lett]
    rw [top_m hg h, sbind, f_has _ ht k (by omega), ckA_n (by omega) (by omega), nmul, nI_add, massN]
    by_cases e : (topv gs).testBit k = true
    · rw [if_pos e, if_neg (by decide), if_pos e, X11_isProved_J54, nI_1, nI_add]; rfl
    · rw [if_neg e, if_pos rfl, if_neg e, X11_isProved_J54, nI_1]; rfl
  · show X11_isProved_B6 σ (X11_isProved_T60 σ) rec (nI (wsum w (cv gs) n), nI (massN w (topv gs) n), nI n) = _
    rw [X11_isProved_B6, h0, if_pos (by rw [nle (by omega) (by omega)]; omega), X11_isProved_T60, h.2.1]
