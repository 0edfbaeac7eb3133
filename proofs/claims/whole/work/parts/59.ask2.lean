/-! point -/
theorem together_ok {σ : Wd} {gs : List Nat} (h : LayR σ gs) {p q : Nat} (hp : p < 7) (hq : q < 7) : X11_together σ (nI p) (nI q) = some (nI (cntA gs (2 ^ p ||| 2 ^ q))) := by
  unfold X11_together cntA
  refine lp_cnt (mems gs) (fun m => subB (2 ^ p ||| 2 ^ q) m) (fun n k => (nI n, nI k)) (fun n => some (nI n)) (by rw [nI_0]) (mems_4096 gs) (fun k n hk hn rec => ?_) (fun n hn rec => ?_)
  · have hk8 := k128 hk
    have hm := mem_at_lt hk
    show X11_together_B5 σ (nI p) (nI q) rec (nI n, nI k) = rec (nI _, nI (k + 1))
    rw [X11_together_B5, if_neg (lay_go h hk), ckA_n hk8 (by omega), ncl (by omega), lay_at h hk, f_has _ hm p hp, ckA_n hk8 (by omega), f_has _ hm q hq, sub_pow2]
    by_cases e1 : (mems gs)[k].testBit p = true
    · rw [if_pos e1, if_neg (by decide), e1]
      by_cases e2 : (mems gs)[k].testBit q = true
      · rw [if_pos e2, if_neg (by decide), X11_together_J45, nI_1, nI_1, e2]; rfl
      · rw [if_neg e2, if_pos rfl, X11_together_J45, nI_1, show (mems gs)[k].testBit q = false by simpa using e2]; rfl
    · rw [if_neg e1, if_pos rfl, X11_together_J45, nI_1, show (mems gs)[k].testBit p = false by simpa using e1]; rfl
  · show X11_together_B5 σ (nI p) (nI q) rec (nI n, nI (mems gs).length) = _
    rw [X11_together_B5, if_pos (lay_stop h)]
def twB (gs : List Nat) (p q : Nat) : Bool := q != p && (cntA gs (2 ^ q) == cntA gs (2 ^ p)) && (cntA gs (2 ^ q ||| 2 ^ p) == cntA gs (2 ^ p))
def twv (gs : List Nat) (n p : Nat) : Int32 := if 0 < cntA gs (2 ^ p) then ((List.range n).findIdx? (twB gs p)).elim (-2) (fun k => nI k) else -2
theorem or_cm (p q : Nat) : 2 ^ p ||| 2 ^ q = 2 ^ q ||| 2 ^ p := Nat.or_comm _ _
theorem twinC_ok {σ : Wd} {n : Nat} {gs : List Nat} (h : FamR σ n gs) (hn : n ≤ 7) {p : Nat} (hp : p < 7) : X0_firstTwin σ (nI p) = some (twv gs n p) := by
  have hc := cntA_le gs (2 ^ p)
  rw [X0_firstTwin, often_ok h hp, sbind]
  unfold twv
  by_cases e0 : 0 < cntA gs (2 ^ p)
  · rw [if_pos e0]
    have := lp_find (body := X0_firstTwin_B8 σ (nI p) (nI (cntA gs (2 ^ p)))) (List.range n) (twB gs p) (fun k => nI k) (some (-2)) (fun k => some (nI k)) (s := 0) nI_0.symm (by simp; omega) (fun k hk hb rec => ?_) (fun k hk hb rec => ?_) (fun rec => ?_)
    · rw [this]; cases (List.range n).findIdx? (twB gs p) <;> rfl
    · simp only [List.length_range] at hk
      rw [List.getElem_range] at hb
      simp only [twB, Bool.and_eq_true, bne_iff_ne, beq_iff_eq] at hb
      obtain ⟨⟨b1, b2⟩, b3⟩ := hb
      have c3 := cntA_le gs (2 ^ k)
      rw [X0_firstTwin_B8, h.pts, if_neg (by rw [nle (by omega) (by omega)]; omega), if_neg (by rw [neq (by omega) (by omega)]; exact b1), if_neg (by rw [← nI_0, nle (by omega) (by omega)]; omega), often_ok h (by omega), sbind, if_pos (by rw [b2]), f_shl k (by omega), f_shl p (by omega), f_or _ (f_pow_lt (by omega)) _ (f_pow_lt hp), around_ok h.mem (or_lt (f_pow_lt (by omega)) (f_pow_lt hp)), sbind, if_pos (by rw [b3])]
    · simp only [List.length_range] at hk
      rw [List.getElem_range] at hb
      have c3 := cntA_le gs (2 ^ k)
      have c4 := cntA_le gs (2 ^ k ||| 2 ^ p)
      rw [X0_firstTwin_B8, h.pts, if_neg (by rw [nle (by omega) (by omega)]; omega)]
      by_cases b1 : k = p
      · rw [if_pos (by rw [b1]), X0_firstTwin_J51, nI_1]
      · rw [if_neg (by rw [neq (by omega) (by omega)]; exact b1), if_neg (by rw [← nI_0, nle (by omega) (by omega)]; omega), often_ok h (by omega), sbind]
        by_cases b2 : cntA gs (2 ^ k) = cntA gs (2 ^ p)
        · rw [if_pos (by rw [b2]), f_shl k (by omega), f_shl p (by omega), f_or _ (f_pow_lt (by omega)) _ (f_pow_lt hp), around_ok h.mem (or_lt (f_pow_lt (by omega)) (f_pow_lt hp)), sbind]
          by_cases b3 : cntA gs (2 ^ k ||| 2 ^ p) = cntA gs (2 ^ p)
          · simp [twB, b1, b2, b3] at hb
          · rw [if_neg (by rw [neq (by omega) (by omega)]; exact b3), X0_firstTwin_J51, nI_1]
        · rw [if_neg (by rw [neq (by omega) (by omega)]; exact b2), X0_firstTwin_J51, nI_1]
    · rw [List.length_range, X0_firstTwin_B8, h.pts, if_pos (by rw [nle (by omega) (by omega)]; omega)]
  · rw [if_neg e0]
    refine lp_tr (fun k => nI k) n _ nI_0.symm (by omega) (fun k hk rec => ?_) (fun rec => ?_)
    · rw [X0_firstTwin_B8, h.pts, if_neg (by rw [nle (by omega) (by omega)]; omega), if_pos (show nI (cntA gs (2 ^ p)) ≤ 0 by rw [← nI_0, nle (by omega) (by omega)]; omega), X0_firstTwin_J51, nI_1]
      by_cases b1 : nI k = nI p
      · rw [if_pos b1]
      · rw [if_neg b1]
    · rw [X0_firstTwin_B8, h.pts, if_pos (by rw [nle (by omega) (by omega)]; omega)]
theorem twinM_ok {σ : Wd} {n : Nat} {gs : List Nat} (hg : ∀ x ∈ gs, x < 128) (h : LayR σ gs) (h0 : σ 121 0 = nI n) (hn : n ≤ 7) {p : Nat} (hp : p < 7) : X11_twinOf σ (nI p) = some (twv gs n p) := by
  have hc := cntA_le gs (2 ^ p)
  rw [X11_twinOf, top_m hg h, sbind, f_has _ (topv_lt hg) p hp]
  unfold twv
  by_cases e0 : 0 < cntA gs (2 ^ p)
  · rw [if_pos e0, if_pos ((cntA_top hg p).mp e0), if_neg (by decide)]
    have hor : ∀ k, 2 ^ k ||| 2 ^ k = 2 ^ k := fun k => Nat.or_self _
    have := lp_find (body := X11_twinOf_B16 σ (nI p)) (List.range n) (twB gs p) (fun k => nI k) (some (-2)) (fun k => some (nI k)) (s := 0) nI_0.symm (by simp; omega) (fun k hk hb rec => ?_) (fun k hk hb rec => ?_) (fun rec => ?_)
    · rw [this]; cases (List.range n).findIdx? (twB gs p) <;> rfl
    · simp only [List.length_range] at hk
      rw [List.getElem_range] at hb
      simp only [twB, Bool.and_eq_true, bne_iff_ne, beq_iff_eq] at hb
      obtain ⟨⟨b1, b2⟩, b3⟩ := hb
      rw [X11_twinOf_B16, h0, if_neg (by rw [nle (by omega) (by omega)]; omega), together_ok h hp (by omega), sbind, if_neg (by rw [neq (by omega) (by omega)]; exact b1), together_ok h hp hp, sbind, hor, or_cm, if_pos (by rw [b3]), together_ok h (by omega) (by omega), sbind, hor, if_pos (by rw [b3, b2])]
    · simp only [List.length_range] at hk
      rw [List.getElem_range] at hb
      have c3 := cntA_le gs (2 ^ k)
      have c4 := cntA_le gs (2 ^ k ||| 2 ^ p)
      rw [X11_twinOf_B16, h0, if_neg (by rw [nle (by omega) (by omega)]; omega), together_ok h hp (by omega), sbind]
      by_cases b1 : k = p
      · rw [if_pos (by rw [b1]), X11_twinOf_J60, nI_1]
      · rw [if_neg (by rw [neq (by omega) (by omega)]; exact b1), together_ok h hp hp, sbind, hor, or_cm]
        by_cases b3 : cntA gs (2 ^ k ||| 2 ^ p) = cntA gs (2 ^ p)
        · rw [if_pos (by rw [b3]), together_ok h (by omega) (by omega), sbind, hor]
          by_cases b2 : cntA gs (2 ^ k) = cntA gs (2 ^ p)
          · simp [twB, b1, b2, b3] at hb
          · rw [if_neg (by rw [neq (by omega) (by omega), b3]; exact fun h => b2 h.symm), X11_twinOf_J60, nI_1]
        · rw [if_neg (by rw [neq (by omega) (by omega)]; exact b3), X11_twinOf_J60, nI_1]
    · rw [List.length_range, X11_twinOf_B16, h0, if_pos (by rw [nle (by omega) (by omega)]; omega)]
  · rw [if_neg e0, if_neg (fun h => e0 ((cntA_top hg p).mpr h)), if_pos rfl]
def lsv (gs : List Nat) (p : Nat) : Int32 := ((mems gs).findIdx? (fun m => m.testBit p)).elim (-2) (fun k => nI (pc ((mems gs).getD k 0)))
theorem leastC_ok {σ : Wd} {n : Nat} {gs : List Nat} (h : FamR σ n gs) {p : Nat} (hp : p < 7) : X0_leastSizeWith σ (nI p) = some (lsv gs p) := by
  rw [X0_leastSizeWith]
  have := lp_find (body := X0_leastSizeWith_B2 σ (nI p)) (mems gs) (fun m => m.testBit p) (fun k => nI k) (some (-2)) (fun k => some (nI (pc ((mems gs).getD k 0)))) (s := 0) nI_0.symm (mems_4096 gs) (fun k hk hb rec => ?_) (fun k hk hb rec => ?_) (fun rec => ?_)
  · rw [this, lsv]; cases (mems gs).findIdx? (fun m => m.testBit p) <;> rfl
  · have hm := mem_at_lt hk
    rw [X0_leastSizeWith_B2, if_neg (mem_go h.mem hk), mem_at h.mem hk, sbind, f_bit _ hm p hp, if_pos hb, if_pos (by decide), sbind, f_bc _ hm, getD_lt hk]
  · have hm := mem_at_lt hk
    rw [X0_leastSizeWith_B2, if_neg (mem_go h.mem hk), mem_at h.mem hk, sbind, f_bit _ hm p hp, hb, if_neg (by decide), nI_1]
  · rw [X0_leastSizeWith_B2, if_pos (mem_stop h.mem)]
theorem leastM_ok {σ : Wd} {gs : List Nat} (h : LayR σ gs) {p : Nat} (hp : p < 7) : X11_leastWith σ (nI p) = some (lsv gs p) := by
  rw [X11_leastWith]
  have := lp_find (body := X11_leastWith_B2 σ (nI p)) (mems gs) (fun m => m.testBit p) (fun k => nI k) (some (-2)) (fun k => some (nI (pc ((mems gs).getD k 0)))) (s := 0) nI_0.symm (mems_4096 gs) (fun k hk hb rec => ?_) (fun k hk hb rec => ?_) (fun rec => ?_)
  · rw [this, lsv]; cases (mems gs).findIdx? (fun m => m.testBit p) <;> rfl
  · have hm := mem_at_lt hk
    have hk8 := k128 hk
    rw [X11_leastWith_B2, if_neg (lay_go h hk), ckA_n hk8 (by omega), ncl (by omega), lay_at h hk, f_has _ hm p hp, if_pos hb, if_neg (by decide), ckA_n hk8 (by omega), f_ones _ hm, sbind, getD_lt hk]
  · have hm := mem_at_lt hk
    have hk8 := k128 hk
    rw [X11_leastWith_B2, if_neg (lay_go h hk), ckA_n hk8 (by omega), ncl (by omega), lay_at h hk, f_has _ hm p hp, hb, if_pos (by decide), nI_1]
  · rw [X11_leastWith_B2, if_pos (lay_stop h)]
theorem mwith_ok {σ : Wd} {a : St} (h : MRow (σ 121) a) (hw : wf a) {p : Nat} (hp : p < 7) : lp (X11_point_B96 σ (nI p)) FU (0, 0) = some (nI (a.2.2.1.countP (fun g => g.testBit p)), σ) := by
  have h12 := hw.2.2.1.1
  have hmany : X11_many σ = nI a.2.2.1.length := h.2.2.1
  refine lp_cnt a.2.2.1 _ (fun n k => (nI n, nI k)) (fun n => some (nI n, σ)) (by rw [nI_0]) (by omega) (fun k n hk hn rec => ?_) (fun n hn rec => ?_)
  · have hg := wf_lt hw _ (List.getElem_mem hk)
    show X11_point_B96 σ (nI p) rec (nI n, nI k) = rec (nI _, nI (k + 1))
    rw [X11_point_B96, hmany, if_neg (by rw [nle (by omega) (by omega)]; omega), gen_ok h hk, sbind, getD_lt hk, f_has _ hg p hp]
    by_cases e : a.2.2.1[k].testBit p = true
    · rw [if_pos e, if_neg (by decide), if_pos e, X11_point_J121, nI_1, nI_1]
    · rw [if_neg e, if_pos rfl, if_neg e, X11_point_J121, nI_1]
  · show X11_point_B96 σ (nI p) rec (nI n, nI a.2.2.1.length) = _
    rw [X11_point_B96, hmany, if_pos (by rw [nle (by omega) (by omega)]; omega)]
theorem q_point {σ : Wd} {a : St} {hs : List St} {tp : List Nat} (hC : CR σ a hs tp) (hM : MR σ a hs tp) (hw : wf a) (x y : Int32) : ∃ r σ2, X10_point σ x y = some r ∧ X11_point σ x y = some (r, σ2) ∧ QO σ σ2 a hs tp := by
  have h7 := hw.1.2
  rcases pk_ix x (n := a.1) (by omega) with hx | hx | ⟨p, hp, rfl⟩
  · exact ⟨-1, σ, by rw [X10_point, c_ptN hC.st (Or.inl hx)]; rfl, by rw [X11_point, m_ptN hM.row hw (Or.inl hx)]; rfl, QO.no hM⟩
  · exact ⟨-1, σ, by rw [X10_point, c_ptN hC.st (Or.inr hx)]; rfl, by rw [X11_point, m_ptN hM.row hw (Or.inr hx)]; rfl, QO.no hM⟩
  have hp7 : p < 7 := by omega
  have hout : (y < 0 ∨ nI 6 ≤ y) → ∃ r σ2, X10_point σ (nI p) y = some r ∧ X11_point σ (nI p) y = some (r, σ2) ∧ QO σ σ2 a hs tp := by
    intro hy
    refine ⟨-1, σ, ?_, ?_, QO.no hM⟩
    · rw [X10_point, c_pt hC.st hw hp, if_neg (by decide), if_neg (show ¬ y = 0 from out_ne (k := 0) (by decide) hy (by decide)), if_neg (show ¬ y = 1 from out_ne (k := 1) (by decide) hy (by decide)), if_neg (show ¬ y = 2 from out_ne (k := 2) (by decide) hy (by decide)), if_neg (show ¬ y = 3 from out_ne (k := 3) (by decide) hy (by decide)), if_neg (show ¬ y = 4 from out_ne (k := 4) (by decide) hy (by decide)), if_neg (show ¬ y = 5 from out_ne (k := 5) (by decide) hy (by decide))]
    · rw [X11_point, m_pt hM.row hw hp, if_neg (by decide), lit_5, in_no (by decide) hy, if_pos rfl]
  rcases pk_ix y (n := 6) (by decide) with hy | hy | ⟨k, hk, rfl⟩
  · exact hout (Or.inl hy)
  · exact hout (Or.inr hy)
  clear hout
  obtain ⟨τ, e1, l1, m1, s1, f1⟩ := lays_MR hM hw
  have hg := wf_lt hw
  have hm0 : X11_in (nI k) 0 5 = 1 := by rw [lit_5]; exact in_in (by decide) hk
  have hmod : X11_point σ (nI p) (nI k) = (if nI k = 0 then ((X11_frequencyIn τ 125 (nI p)).bind fun t7 => some (t7, τ)) else (if nI k = 1 then ((X11_frequentIn τ 125).bind fun t9 => some ((t9 >>> (nI p &&& 31)) &&& 1, τ)) else (if nI k = 2 then (ckA (3 + nI p) 42 <| some (τ 121 ((3 + nI p).toNatClampNeg), τ)) else (if nI k = 3 then (lp (X11_point_B96 τ (nI p)) FU (0, 0)) else (if nI k = 4 then ((X11_twinOf τ (nI p)).bind fun t18 => some (t18, τ)) else ((X11_leastWith τ (nI p)).bind fun t19 => some (t19, τ))))))) := by
    rw [X11_point, m_pt hM.row hw hp, hm0, if_neg (by decide), if_neg (by decide), e1, sbind]
  have hcls : X10_point σ (nI p) (nI k) = (if nI k = 0 then ((X0_oftenOf σ (nI p)).bind fun t4 => some t4) else (if nI k = 1 then ((X0_isFrequent σ (nI p)).bind fun t6 => some (X10_bit t6)) else (if nI k = 2 then ((X7_weightOf σ 1 (nI p)).bind fun t9 => some t9) else (if nI k = 3 then ((X10_generatorsWith σ (nI p)).bind fun t11 => some t11) else (if nI k = 4 then ((X0_firstTwin σ (nI p)).bind fun t13 => some t13) else (if nI k = 5 then ((X0_leastSizeWith σ (nI p)).bind fun t15 => some t15) else some (-1))))))) := by
    rw [X10_point, c_pt hC.st hw hp, if_neg (by decide)]
  have h120 : τ 121 0 = nI a.1 := m1.row.2.1
  rcases (by omega : k = 0 ∨ k = 1 ∨ k = 2 ∨ k = 3 ∨ k = 4 ∨ k = 5) with rfl | rfl | rfl | rfl | rfl | rfl
  · exact ⟨_, τ, by rw [hcls, if_pos (by decide), often_ok hC.fam hp7, sbind], by rw [hmod, if_pos (by decide), freq_lay l1 hp7, sbind], s1, m1⟩
  · refine ⟨if (mems a.2.2.1).length ≤ 2 * cntA a.2.2.1 (2 ^ p) then 1 else 0, τ, ?_, ?_, s1, m1⟩
    · rw [hcls, if_neg (by decide), if_pos (by decide), isFreq_ok hC.fam hp7, sbind]
      by_cases e : (mems a.2.2.1).length ≤ 2 * cntA a.2.2.1 (2 ^ p)
      · rw [if_pos e]; rfl
      · rw [if_neg e]; rfl
    · rw [hmod, if_neg (by decide), if_pos (by decide), freqSet_lay l1 h7 h120, sbind, frqG, f_bit _ (frq_lt _ h7) p hp7]
      by_cases e : (mems a.2.2.1).length ≤ 2 * cntA a.2.2.1 (2 ^ p)
      · rw [if_pos e, if_pos ((frq_bit _ _ _).mpr ⟨hp, by simpa using e⟩)]; rfl
      · rw [if_neg e, if_neg (fun h => e (by simpa using ((frq_bit _ _ _).mp h).2))]; rfl
  · refine ⟨_, τ, by rw [hcls, if_neg (by decide), if_neg (by decide), if_pos (by decide), st_weightOf rfl hC.st hp7, sbind], ?_, s1, m1⟩
    rw [hmod, if_neg (by decide), if_neg (by decide), if_pos (by decide), show (3 : Int32) = nI 3 from rfl, nI_add, ckA_n (by omega) (by omega), ncl (by omega), m1.row.2.2.2.2.1 p hp7]
  · exact ⟨_, τ, by rw [hcls, if_neg (by decide), if_neg (by decide), if_neg (by decide), if_pos (by decide), gwith_ok hC.st hw hp7, sbind], by rw [hmod, if_neg (by decide), if_neg (by decide), if_neg (by decide), if_pos (by decide), mwith_ok m1.row hw hp7], s1, m1⟩
  · exact ⟨_, τ, by rw [hcls, if_neg (by decide), if_neg (by decide), if_neg (by decide), if_neg (by decide), if_pos (by decide), twinC_ok hC.fam h7 hp7, sbind], by rw [hmod, if_neg (by decide), if_neg (by decide), if_neg (by decide), if_neg (by decide), if_pos (by decide), twinM_ok hg l1 h120 h7 hp7, sbind], s1, m1⟩
  · exact ⟨_, τ, by rw [hcls, if_neg (by decide), if_neg (by decide), if_neg (by decide), if_neg (by decide), if_neg (by decide), if_pos (by decide), leastC_ok hC.fam hp7, sbind], by rw [hmod, if_neg (by decide), if_neg (by decide), if_neg (by decide), if_neg (by decide), if_neg (by decide), leastM_ok l1 hp7, sbind], s1, m1⟩
