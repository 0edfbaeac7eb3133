/-! degree, single, chain -/
theorem degM_ok {σ : Wd} {gs : List Nat} (h : LayR σ gs) {t : Nat} (ht : t < 128) (b : Bool) : X11_degreeOf σ (nI t) (bI b) = some (nI (if b then cU gs t else cD gs t)) := by
  have key : X11_degreeOf σ (nI t) (bI b) = some (nI ((mems gs).countP (fun m => if b then covB gs m t else covB gs t m))) := by
    unfold X11_degreeOf
    refine lp_cnt (mems gs) (fun m => if b then covB gs m t else covB gs t m) (fun n k => (nI n, nI k)) (fun n => some (nI n)) (by rw [nI_0]) (mems_4096 gs) (fun k n hk hn rec => ?_) (fun n hn rec => ?_)
    · have hm := mem_at_lt hk
      have hk8 := k128 hk
      show X11_degreeOf_B5 σ (bI b) (nI t) rec (nI n, nI k) = rec (nI _, nI (k + 1))
      rw [X11_degreeOf_B5, if_neg (lay_go h hk), ckA_n hk8 (by omega), ckA_n hk8 (by omega), ncl (by omega), lay_at h hk, covM_ok h hm ht, covM_ok h ht hm, sbind, sbind]
      simp only [X11_degreeOf_J51, X11_degreeOf_J54, nI_1]
      cases b
      · rw [if_pos (by decide)]
        cases covB gs t (mems gs)[k] <;> rfl
      · rw [if_neg (by decide)]
        cases covB gs (mems gs)[k] t <;> rfl
    · show X11_degreeOf_B5 σ (bI b) (nI t) rec (nI n, nI (mems gs).length) = _
      rw [X11_degreeOf_B5, if_pos (lay_stop h)]
  rw [key]
  cases b <;> rfl
theorem coversC_ok {σ : Wd} {n : Nat} {gs : List Nat} (hg : ∀ x ∈ gs, x < 128) (hfam : FamR σ n gs) (hO : OrdC gs σ) {k : Nat} (hk : k < (mems gs).length) (b : Bool) : ∃ τ, X2_coversOf σ (nI k) (bI b) = some (nI (if b then cU gs (mg gs k) else cD gs (mg gs k)), τ) ∧ OrdV gs τ ∧ Fr σ τ [103, 104, 105, 106] := by
  have hk8 := k128 hk
  have hl := mems_len gs
  obtain ⟨τ, e1, e2, e3⟩ := make_ok hg hfam hO
  refine ⟨τ, ?_, e2, e3⟩
  have h95 : τ 95 1 = nI (mems gs).length := by rw [e3 95 (by simp)]; exact hfam.mem.1
  rw [X2_coversOf, e1, sbind, if_neg (nneg (by omega)), h95, if_neg (by rw [nle (by omega) (by omega)]; omega), if_pos (by rw [L128, nlt (by omega) (by omega)]; exact hk8), ckA_n hk8 (by omega), ckA_n hk8 (by omega), ncl (by omega), e2.1 k hk8, e2.2.1 k hk, if_pos hk]
  cases b <;> rfl
def OFr (σ σ1 : Wd) : Prop := Fr σ σ1 [103, 104, 105, 106]
theorem q_degree {σ : Wd} {a : St} {hs : List St} {tp : List Nat} (hC : CR σ a hs tp) (hM : MR σ a hs tp) (hw : wf a) (hO : OrdC a.2.2.1 σ) (x : Int32) (b : Bool) : ∃ r σ1 σ2, X10_degree σ x (bI b) = some (r, σ1) ∧ X11_degree σ1 x (bI b) = some (r, σ2) ∧ OFr σ σ1 ∧ OrdC a.2.2.1 σ1 ∧ QO σ1 σ2 a hs tp := by
  have hg := wf_lt hw
  have hl := mems_len a.2.2.1
  have hno : (x < 0 ∨ nI (mems a.2.2.1).length ≤ x) → ∃ r σ1 σ2, X10_degree σ x (bI b) = some (r, σ1) ∧ X11_degree σ1 x (bI b) = some (r, σ2) ∧ OFr σ σ1 ∧ OrdC a.2.2.1 σ1 ∧ QO σ1 σ2 a hs tp := fun hx => by
    obtain ⟨τ, e1, l1, m1, s1, f1⟩ := lays_MR hM hw
    exact ⟨-1, σ, τ, by rw [X10_degree, c_memN hC.fam.mem hx]; rfl, by rw [X11_degree, e1, sbind, m_memN l1 hx]; rfl, Fr.rf _ _, hO, s1, m1⟩
  rcases pk_ix x (n := (mems a.2.2.1).length) (by omega) with hx | hx | ⟨k, hk, rfl⟩
  · exact hno (Or.inl hx)
  · exact hno (Or.inr hx)
  obtain ⟨σ1, c1, c2, c3⟩ := coversC_ok hg hC.fam hO hk b
  have hM1 : MR σ1 a hs tp := hM.hi (fun q hq => c3 q (by simp; omega))
  obtain ⟨τ, e1, l1, m1, s1, f1⟩ := lays_MR hM1 hw
  have hk8 := k128 hk
  exact ⟨_, σ1, τ, by rw [X10_degree, c_mem hC.fam.mem hk, if_neg (by decide), c1, sbind], by rw [X11_degree, e1, sbind, m_mem l1 hk, if_neg (by decide), ckA_n hk8 (by omega), ncl (by omega), lay_at l1 hk, degM_ok l1 (mem_at_lt hk), sbind, mg_eq hk], c3, Or.inr c2, s1, m1⟩
theorem q_single {σ : Wd} {a : St} {hs : List St} {tp : List Nat} (hC : CR σ a hs tp) (hM : MR σ a hs tp) (hw : wf a) (hO : OrdC a.2.2.1 σ) : ∃ r σ1 σ2, X10_single σ = some (r, σ1) ∧ X11_single σ1 = some (r, σ2) ∧ OFr σ σ1 ∧ OrdC a.2.2.1 σ1 ∧ QO σ1 σ2 a hs tp := by
  have hg := wf_lt hw
  have hl := mems_len a.2.2.1
  have hp := mems_pos hg
  obtain ⟨σ1, c1, c2, c3⟩ := make_ok hg hC.fam hO
  have hM1 : MR σ1 a hs tp := hM.hi (fun q hq => c3 q (by simp; omega))
  obtain ⟨τ, e1, l1, m1, s1, f1⟩ := lays_MR hM1 hw
  have h95 : σ1 95 1 = nI (mems a.2.2.1).length := by rw [c3 95 (by simp)]; exact hC.fam.mem.1
  have hC' : lp (X2_coveredOnce_B8 σ1) FU (0, 0) = some (nI ((List.range ((mems a.2.2.1).length - 1)).countP (fun k => cU a.2.2.1 (mg a.2.2.1 k) == 1)), σ1) := by
    refine lp_cnt (List.range ((mems a.2.2.1).length - 1)) _ (fun n k => (nI n, nI k)) (fun n => some (nI n, σ1)) (by rw [nI_0]) (by simp; omega) (fun k n hk hn rec => ?_) (fun n hn rec => ?_)
    · simp only [List.length_range] at hk
      rw [List.getElem_range]
      have hc := cU_le a.2.2.1 (mg a.2.2.1 k)
      show X2_coveredOnce_B8 σ1 rec (nI n, nI k) = rec (nI _, nI (k + 1))
      rw [X2_coveredOnce_B8, h95, nI_1, if_neg (by rw [nle (by omega) (by omega)]; omega), if_neg (le128 (by omega)), ckA_n (by omega) (by omega), ncl (by omega), c2.1 k (by omega), if_pos (show k < (mems a.2.2.1).length by omega)]
      by_cases e : cU a.2.2.1 (mg a.2.2.1 k) = 1
      · rw [if_pos (by rw [e]; rfl), if_pos (by simpa using e), X2_coveredOnce_J46, nI_1, nI_1]
      · rw [if_neg (by rw [show (1 : Int32) = nI 1 from rfl, neq (by omega) (by omega)]; exact e), if_neg (by simpa using e), X2_coveredOnce_J46, nI_1]
    · rw [List.length_range]
      show X2_coveredOnce_B8 σ1 rec (nI n, nI ((mems a.2.2.1).length - 1)) = _
      rw [X2_coveredOnce_B8, h95, nI_1, if_pos (by rw [nle (by omega) (by omega)]; omega)]
  have hM' : lp (X11_single_B8 τ) FU (0, 0) = some (nI ((List.range ((mems a.2.2.1).length - 1)).countP (fun k => cU a.2.2.1 (mg a.2.2.1 k) == 1)), τ) := by
    refine lp_cnt (List.range ((mems a.2.2.1).length - 1)) _ (fun n k => (nI n, nI k)) (fun n => some (nI n, τ)) (by rw [nI_0]) (by simp; omega) (fun k n hk hn rec => ?_) (fun n hn rec => ?_)
    · simp only [List.length_range] at hk
      rw [List.getElem_range]
      have hk' : k < (mems a.2.2.1).length := by omega
      have hc := cU_le a.2.2.1 (mg a.2.2.1 k)
      show X11_single_B8 τ rec (nI n, nI k) = rec (nI _, nI (k + 1))
      have hd := degM_ok l1 (mem_at_lt hk') true
      rw [show bI true = (1 : Int32) from rfl, if_pos rfl, ← mg_eq hk'] at hd
      rw [X11_single_B8, l1.2.1, nI_1, if_neg (by rw [nle (by omega) (by omega)]; omega), ckA_n (by omega) (by omega), ncl (by omega), lay_at l1 hk', ← mg_eq hk', hd, sbind, X11_single_J36, X11_single_J36, nI_1, nI_1]
      by_cases e : cU a.2.2.1 (mg a.2.2.1 k) = 1
      · rw [if_pos (by rw [e]; rfl), if_pos (by simpa using e)]
      · rw [if_neg (by rw [show (1 : Int32) = nI 1 from rfl, neq (by omega) (by omega)]; exact e), if_neg (by simpa using e)]
    · rw [List.length_range]
      show X11_single_B8 τ rec (nI n, nI ((mems a.2.2.1).length - 1)) = _
      rw [X11_single_B8, l1.2.1, nI_1, if_pos (by rw [nle (by omega) (by omega)]; omega)]
  exact ⟨_, σ1, τ, by rw [X10_single, X2_coveredOnce, c1, sbind, hC', sbind], by rw [X11_single, e1, sbind, hM'], c3, Or.inr c2, s1, m1⟩
theorem min_ex {P : Nat → Prop} : ∀ n, P n → ∃ m, P m ∧ ∀ k, k < m → ¬ P k := by
  intro n
  induction n using Nat.strongRecOn with
  | _ n ih =>
    intro h
    by_cases e : ∃ k, k < n ∧ P k
    · obtain ⟨k, k1, k2⟩ := e
      exact ih k k1 k2
    · exact ⟨n, h, fun k hk hp => e ⟨k, hk, hp⟩⟩
theorem riseV {gs : List Nat} {σ : Wd} {q : Nat} (h : ∀ k, k < (mems gs).length → ∃ v, σ q k = nI v ∧ Mx (fun n => Up gs n (mg gs k)) v) : ∃ V : Nat → Nat, ∀ k, k < (mems gs).length → (σ q k = nI (V k) ∧ Mx (fun n => Up gs n (mg gs k)) (V k)) := by
  have hex : ∀ j, ∃ v, j < (mems gs).length → (σ q j = nI v ∧ Mx (fun n => Up gs n (mg gs j)) v) := by
    intro j
    by_cases e : j < (mems gs).length
    · obtain ⟨v, v1⟩ := h j e
      exact ⟨v, fun _ => v1⟩
    · exact ⟨0, fun p => absurd p e⟩
  exact ⟨fun j => Classical.choose (hex j), fun j => Classical.choose_spec (hex j)⟩
theorem next_ex {gs : List Nat} {V : Nat → Nat} (hV : ∀ k, k < (mems gs).length → Mx (fun n => Up gs n (mg gs k)) (V k)) {k : Nat} (hk : k < (mems gs).length) (h0 : V k ≠ 0) : ∃ j, (j < (mems gs).length ∧ V j + 1 = V k ∧ covB gs (mg gs j) (mg gs k) = true) ∧ ∀ j', j' < j → ¬ (j' < (mems gs).length ∧ V j' + 1 = V k ∧ covB gs (mg gs j') (mg gs k) = true) := by
  obtain ⟨v, hv⟩ : ∃ v, V k = v + 1 := ⟨V k - 1, by omega⟩
  have hk1 := hV k hk
  rw [hv] at hk1
  obtain ⟨c, c1, c2, c3⟩ := up_cov hk1.1
  obtain ⟨j1, j2⟩ := idx_get c1
  have hm : mg gs ((mems gs).idxOf c) = c := by rw [mg_eq j1, j2]
  have hj := hV _ j1
  rw [hm] at hj
  have h1 := hj.2 v c3
  have h2 : V ((mems gs).idxOf c) + 1 ≤ v + 1 := hk1.2 _ ⟨mems_getD hk, c, c1, cov_lt c2, hj.1⟩
  exact min_ex _ ⟨j1, by omega, by rw [hm]; exact c2⟩
theorem stepC_ok {σ : Wd} {n : Nat} {gs : List Nat} (hg : ∀ x ∈ gs, x < 128) (hfam : FamR σ n gs) {V : Nat → Nat} (hV : ∀ k, k < (mems gs).length → (σ 106 k = nI (V k) ∧ Mx (fun n => Up gs n (mg gs k)) (V k))) {k j : Nat} (hk : k < (mems gs).length) (hj : j < (mems gs).length ∧ V j + 1 = V k ∧ covB gs (mg gs j) (mg gs k) = true) (hmin : ∀ j', j' < j → ¬ (j' < (mems gs).length ∧ V j' + 1 = V k ∧ covB gs (mg gs j') (mg gs k) = true)) : X2_firstStepUp σ (nI k) = some (nI j) := by
  have hl := mems_len gs
  have hkj := cov_idx hk hj.1 hj.2.2
  have hr : ∀ i, i < (mems gs).length → X2_riseOf σ (nI i) = some (nI (V i)) := fun i hi => by
    rw [X2_riseOf, if_neg (nneg (by omega)), if_neg (le128 (by omega)), ckA_n (by omega) (by omega), ncl (by omega), (hV i hi).1]
  have hb : ∀ i, i < (mems gs).length → V i ≤ 7 := fun i hi => mx7 (hV i hi).2
  unfold X2_firstStepUp
  rw [nI_1]
  have hB : ∀ i, i < (mems gs).length → ∀ rec, X2_firstStepUp_B4 σ (nI k) rec (nI i) = if V i + 1 = V k ∧ covB gs (mg gs i) (mg gs k) = true then some (nI i) else rec (nI (i + 1)) := by
    intro i hi rec
    have b1 := hb i hi
    have b2 := hb k hk
    rw [X2_firstStepUp_B4, if_neg (mem_go hfam.mem hi), hr i hi, sbind, hr k hk, sbind, nI_1]
    by_cases e1 : V i + 1 = V k
    · rw [if_pos (by rw [e1]), X2_firstStepUp_J39, if_neg (by decide), mem_at hfam.mem hi, sbind, mem_at hfam.mem hk, sbind, covC_ok hg hfam (List.getElem_mem hi) (List.getElem_mem hk), sbind, X2_firstStepUp_J77, nI_1, ← mg_eq hi, ← mg_eq hk]
      by_cases e2 : covB gs (mg gs i) (mg gs k) = true
      · rw [e2, if_neg (by decide), if_pos ⟨e1, rfl⟩]
      · rw [if_pos ((bI_0 _).mpr (by simpa using e2)), if_neg (fun h => e2 h.2)]
    · rw [if_neg (by rw [neq (by omega) (by omega)]; exact e1), X2_firstStepUp_J39, if_pos rfl, X2_firstStepUp_J77, nI_1, if_neg (fun h => e1 h.1)]
  refine lp_tr (fun e => nI (k + 1 + e)) (j - (k + 1)) _ rfl (by omega) (fun e he rec => ?_) (fun rec => ?_)
  · rw [hB _ (by omega), if_neg (fun h => hmin (k + 1 + e) (by omega) ⟨by omega, h⟩)]; rfl
  · rw [show k + 1 + (j - (k + 1)) = j by omega, hB j hj.1, if_pos hj.2]
theorem stepM_ok {σ : Wd} {gs : List Nat} (h : LayR σ gs) {V : Nat → Nat} (hV : ∀ k, k < (mems gs).length → (σ 129 k = nI (V k) ∧ V k ≤ 7)) {k j : Nat} (hk : k < (mems gs).length) (hj : j < (mems gs).length ∧ V j + 1 = V k ∧ covB gs (mg gs j) (mg gs k) = true) (hmin : ∀ j', j' < j → ¬ (j' < (mems gs).length ∧ V j' + 1 = V k ∧ covB gs (mg gs j') (mg gs k) = true)) (kx : Int32 → Option (Int32 × Wd)) : lp (X11_chain_B39 (nI k) σ kx) FU 0 = kx (nI j) := by
  have hl := mems_len gs
  have hk8 := k128 hk
  have hB : ∀ i, i < (mems gs).length → ∀ rec, X11_chain_B39 (nI k) σ kx rec (nI i) = if V i + 1 = V k ∧ covB gs (mg gs i) (mg gs k) = true then kx (nI i) else rec (nI (i + 1)) := by
    intro i hi rec
    obtain ⟨a1, b1⟩ := hV i hi
    obtain ⟨a2, b2⟩ := hV k hk
    have hi8 := k128 hi
    rw [X11_chain_B39, ckA_n hi8 (by omega), ckA_n hk8 (by omega), ncl (by omega), ncl (by omega), a1, a2, show (1 : Int32) = nI 1 from rfl, nsub (by omega), ckA_n hi8 (by omega), ckA_n hk8 (by omega), lay_at h hi, lay_at h hk, covM_ok h (mem_at_lt hi) (mem_at_lt hk), sbind, X11_chain_J77, nI_1, ← mg_eq hi, ← mg_eq hk]
    by_cases e1 : V i + 1 = V k
    · rw [if_pos (by rw [show V k - 1 = V i by omega])]
      by_cases e2 : covB gs (mg gs i) (mg gs k) = true
      · rw [e2, if_neg (by decide), if_pos ⟨e1, rfl⟩]
      · rw [if_pos ((bI_0 _).mpr (by simpa using e2)), if_neg (fun h => e2 h.2)]
    · rw [if_neg (by rw [neq (by omega) (by omega)]; omega), if_neg (fun h => e1 h.1)]
  refine lp_tr (fun i => nI i) j _ nI_0.symm (by omega) (fun i hi rec => ?_) (fun rec => ?_)
  · rw [hB i (by omega), if_neg (fun h => hmin i hi ⟨by omega, h⟩)]
  · rw [hB j hj.1, if_pos hj.2]
theorem q_chain {σ : Wd} {a : St} {hs : List St} {tp : List Nat} (hC : CR σ a hs tp) (hM : MR σ a hs tp) (hw : wf a) (hO : OrdC a.2.2.1 σ) (x : Int32) : ∃ r σ1 σ2, X10_chain σ x = some (r, σ1) ∧ X11_chain σ1 x = some (r, σ2) ∧ OFr σ σ1 ∧ OrdC a.2.2.1 σ1 ∧ QO σ1 σ2 a hs tp := by
  have hg := wf_lt hw
  have hl := mems_len a.2.2.1
  have hp := mems_pos hg
  obtain ⟨σ1, c1, c2, c3⟩ := make_ok hg hC.fam hO
  have hM1 : MR σ1 a hs tp := hM.hi (fun q hq => c3 q (by simp; omega))
  have fam1 : FamR σ1 a.1 a.2.2.1 := hC.fam.cg (fun q q1 q2 => c3 q (by simp; omega))
  rcases nn_ix x with hx | ⟨kk, hkk, rfl⟩
  · refine ⟨-1, σ1, σ1, ?_, ?_, c3, Or.inr c2, QO.no hM1⟩
    · rw [X10_chain, X2_stepOfLongest, c1, sbind, if_pos hx, sbind]
    · rw [X11_chain, if_neg]
      rw [Int32.lt_iff_toInt_lt] at hx
      rw [Int32.le_iff_toInt_le]; omega
  obtain ⟨τ, e1, l1, m1, s1, f1⟩ := lays_MR hM1 hw
  obtain ⟨ρ, d1, d2, d3⟩ := meas_ok l1 1
  have lρ : LayR ρ a.2.2.1 := l1.cg (d3 125 (by decide)) (d3 126 (by decide)) (d3 127 (by decide)) (by rw [d3 120 (by decide)])
  have qo : QO σ1 ρ a hs tp := QO.fr (ps := [129]) s1 m1 (fun q hq => d3 q (by simpa using hq)) (by simp)
  obtain ⟨V, hV⟩ := riseV c2.2.2
  have hVM : ∀ k, k < (mems a.2.2.1).length → (ρ 129 k = nI (V k) ∧ V k ≤ 7) := fun k hk => by
    obtain ⟨v, v1, v2⟩ := d2 k hk
    have v2' : Mx (fun n => Up a.2.2.1 n (mg a.2.2.1 k)) v := by unfold MxX at v2; rw [if_neg (by decide)] at v2; exact v2
    have := v2'.uq (hV k hk).2
    exact ⟨by rw [v1, this], mx7 (hV k hk).2⟩
  have h0 := hVM 0 hp
  have hmod0 : X11_chain σ1 (nI kk) = if nI kk ≤ nI (V 0) then lp (X11_chain_B31 (nI kk) ρ) FU (0, 0) else some (-1, ρ) := by
    rw [X11_chain, if_pos (by rw [← nI_0, nle (by omega) hkk]; omega), e1, sbind, d1, sbind, h0.1]
  have hcls0 : X10_chain σ (nI kk) = (if nI kk ≤ nI (V 0) then lp (X2_stepOfLongest_B23 (nI kk) σ1) FU (0, 0) else some (-1, σ1)).bind fun (t1, σ2) => some (t1, σ2) := by
    have : X2_riseOf σ1 0 = some (nI (V 0)) := by
      rw [X2_riseOf, if_neg (by decide), if_neg (by decide)]
      rw [show (0 : Int32) = nI 0 from rfl, ckA_n (by omega) (by omega), ncl (by omega), (hV 0 hp).1]
    rw [X10_chain, X2_stepOfLongest, c1, sbind, if_neg (nneg hkk), this, sbind]
  by_cases e : kk ≤ V 0
  · have key : ∃ r, lp (X2_stepOfLongest_B23 (nI kk) σ1) FU (0, 0) = some (r, σ1) ∧ lp (X11_chain_B31 (nI kk) ρ) FU (0, 0) = some (r, ρ) := by
      refine lpp (fun i s1 s2 => ∃ k, s1 = (nI k, nI i) ∧ s2 = (nI k, nI i) ∧ k < (mems a.2.2.1).length ∧ V k + i = V 0) kk (fun o1 o2 => ∃ r, o1 = some (r, σ1) ∧ o2 = some (r, ρ)) ⟨0, by rw [nI_0], by rw [nI_0], hp, by omega⟩ (by omega) (fun i s1 s2 rec1 rec2 hi hs => ?_) (fun s1 s2 rec1 rec2 hs => ?_)
      · obtain ⟨k, rfl, rfl, hk, hVk⟩ := hs
        obtain ⟨j, j1, j2⟩ := next_ex (fun k hk => (hV k hk).2) hk (by omega)
        left
        refine ⟨(nI j, nI (i + 1)), (nI j, nI (i + 1)), ⟨j, rfl, rfl, j1.1, by omega⟩, ?_, ?_⟩
        · rw [X2_stepOfLongest_B23, if_neg (by rw [nle (by omega) (by omega)]; omega), if_neg (by rw [L7, nle (by omega) (by omega)]; omega), stepC_ok hg fam1 hV hk j1 j2, sbind, nI_1]
        · rw [X11_chain_B31, if_neg (by rw [nle (by omega) (by omega)]; omega), stepM_ok lρ hVM hk j1 j2, X11_chain_T83, nI_1]
      · obtain ⟨k, rfl, rfl, hk, hVk⟩ := hs
        exact ⟨nI k, by rw [X2_stepOfLongest_B23, if_pos (by rw [nle (by omega) (by omega)]; omega)], by rw [X11_chain_B31, if_pos (by rw [nle (by omega) (by omega)]; omega)]⟩
    obtain ⟨r, r1, r2⟩ := key
    exact ⟨r, σ1, ρ, by rw [hcls0, if_pos (by rw [nle hkk (by omega)]; exact e), r1, sbind], by rw [hmod0, if_pos (by rw [nle hkk (by omega)]; exact e), r2], c3, Or.inr c2, qo⟩
  · exact ⟨-1, σ1, ρ, by rw [hcls0, if_neg (by rw [nle hkk (by omega)]; exact e), sbind], by rw [hmod0, if_neg (by rw [nle hkk (by omega)]; exact e)], c3, Or.inr c2, qo⟩
/-! of the whole family -/
theorem mg_0 {gs : List Nat} (hg : ∀ x ∈ gs, x < 128) : mg gs 0 = 0 := by
  obtain ⟨r, hr⟩ := mems_cons hg
  unfold mg; rw [hr]; rfl
theorem heightC_ok {σ : Wd} {n : Nat} {gs : List Nat} (hg : ∀ x ∈ gs, x < 128) (hfam : FamR σ n gs) (hO : OrdC gs σ) : ∃ v τ, X2_height σ = some (nI v, τ) ∧ Mx (fun n => Up gs n 0) v ∧ OrdV gs τ ∧ Fr σ τ [103, 104, 105, 106] := by
  obtain ⟨τ, e1, e2, e3⟩ := make_ok hg hfam hO
  obtain ⟨v, v1, v2⟩ := e2.2.2 0 (mems_pos hg)
  rw [mg_0 hg] at v2
  refine ⟨v, τ, ?_, v2, e2, e3⟩
  have : X2_riseOf τ 0 = some (nI v) := by
    rw [X2_riseOf, if_neg (by decide), if_neg (by decide)]
    rw [show (0 : Int32) = nI 0 from rfl, ckA_n (by omega) (by omega), ncl (by omega), v1]
  rw [X2_height, e1, sbind, this, sbind]
theorem heightM_ok {σ : Wd} {gs : List Nat} (hg : ∀ x ∈ gs, x < 128) (h : LayR σ gs) : ∃ v τ, X11_measures σ 0 = some τ ∧ (ckA ((τ 120 10) - 1) 128 <| some (τ 129 (((τ 120 10) - 1).toNatClampNeg), τ)) = some (nI v, τ) ∧ Mx (fun n => Dn gs n (topv gs)) v ∧ Fr σ τ [129] := by
  have hp := mems_pos hg
  have hl := mems_len gs
  obtain ⟨τ, d1, d2, d3⟩ := meas_ok h 0
  obtain ⟨v, v1, v2⟩ := d2 ((mems gs).length - 1) (by omega)
  unfold MxX at v2
  rw [if_pos rfl] at v2
  refine ⟨v, τ, d1, ?_, v2, fun q hq => d3 q (by simpa using hq)⟩
  rw [d3 120 (by decide), h.2.1, show (1 : Int32) = nI 1 from rfl, nsub (by omega), ckA_n (by omega) (by omega), ncl (by omega), v1]
theorem pairsC_ok {σ : Wd} {n : Nat} {gs : List Nat} (hg : ∀ x ∈ gs, x < 128) (hfam : FamR σ n gs) (hO : OrdC gs σ) : ∃ τ, X2_pairs σ = some (nI ((mems gs).foldl (fun x m => x + cU gs m) 0), τ) ∧ OrdV gs τ ∧ Fr σ τ [103, 104, 105, 106] := by
  have hl := mems_len gs
  obtain ⟨τ, e1, e2, e3⟩ := make_ok hg hfam hO
  refine ⟨τ, ?_, e2, e3⟩
  obtain ⟨F, hF⟩ : ∃ F : Nat → Nat, ∀ k, F k = ((mems gs).take k).foldl (fun x m => x + cU gs m) 0 := ⟨_, fun _ => rfl⟩
  have hS : ∀ k, F (k + 1) = F k + if k < (mems gs).length then cU gs (mg gs k) else 0 := by
    intro k
    rw [hF, hF]
    by_cases e : k < (mems gs).length
    · rw [if_pos e, foldl_take_succ _ _ _ _ e, mg_eq e]
    · rw [if_neg e, List.take_of_length_le (by omega), List.take_of_length_le (by omega)]; rfl
  have hE : (mems gs).foldl (fun x m => x + cU gs m) 0 = F 128 := by rw [hF, List.take_of_length_le hl]
  rw [X2_pairs, e1, sbind, hE]
  refine lp_tr (fun k => (nI (F k), nI k)) 128 _ (by rw [hF]; simp [nI_0]) (by omega) (fun k hk rec => ?_) (fun rec => ?_)
  · show X2_pairs_B8 τ rec (nI (F k), nI k) = rec (nI (F (k + 1)), nI (k + 1))
    rw [X2_pairs_B8, if_neg (le128 hk), ckA_n hk (by omega), ncl (by omega), e2.1 k hk, hS, nI_1]
    by_cases e : k < (mems gs).length
    · rw [if_pos e, if_pos e, nI_add]
    · rw [if_neg e, if_neg e, ← nI_0, nI_add]
  · show X2_pairs_B8 τ rec (nI (F 128), nI 128) = _
    rw [X2_pairs_B8, if_pos ge128]
theorem pairsM_ok {σ : Wd} {gs : List Nat} (h : LayR σ gs) : X11_coverMany σ = some (nI ((mems gs).foldl (fun x m => x + cU gs m) 0)) := by
  unfold X11_coverMany
  refine lp_fold (mems gs) (fun x m => x + cU gs m) (fun x k => (nI x, nI k)) 0 (fun x => some (nI x)) (fun _ _ => True) trivial (fun _ _ _ _ => trivial) (by rw [nI_0]) (mems_4096 _) (fun k x hk _ rec => ?_) (fun x _ rec => ?_)
  · have hk8 := k128 hk
    show X11_coverMany_B4 σ rec (nI x, nI k) = rec (nI _, nI (k + 1))
    rw [X11_coverMany_B4, if_neg (lay_go h hk), ckA_n hk8 (by omega), ncl (by omega), lay_at h hk]
    have := degM_ok h (mem_at_lt hk) true
    rw [show bI true = (1 : Int32) from rfl] at this
    rw [this, sbind, if_pos rfl, nI_add, nI_1]
  · show X11_coverMany_B4 σ rec (nI x, nI (mems gs).length) = _
    rw [X11_coverMany_B4, if_pos (lay_stop h)]
