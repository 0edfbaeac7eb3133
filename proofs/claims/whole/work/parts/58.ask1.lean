/-! generator, member, place, based -/
theorem gens_mem {a : St} (hw : wf a) {k : Nat} (hk : k < a.2.2.1.length) : a.2.2.1.getD k 0 ∈ mems a.2.2.1 :=
  (mems_mem (wf_lt hw)).mpr (Mem.gen (by rw [getD_lt hk]; exact List.getElem_mem hk))
theorem numB_in {gs : List Nat} {t : Nat} (h : t ∈ mems gs) : numB gs t = nI ((mems gs).idxOf t) := if_pos (List.mem_filter.mp h).2
theorem numB_out {gs : List Nat} {t : Nat} (ht : t < 128) (h : t ∉ mems gs) : numB gs t = -2 := if_neg (fun e => h ((mem_iff_famB ht).mpr e))
theorem lit_2 : (2 : Int32) = nI 3 - 1 := by decide
theorem lit_5 : (5 : Int32) = nI 6 - 1 := by decide
theorem lit_3 : (3 : Int32) = nI 4 - 1 := by decide
theorem lit_1 : (1 : Int32) = nI 2 - 1 := by decide
theorem c_genN {σ : Wd} {a : St} (h : StR σ 1 a) {x : Int32} (hx : x < 0 ∨ nI a.2.2.1.length ≤ x) : X10_isGenerator σ x = 0 := by
  have : σ 2 1 = nI a.2.2.1.length := h.1.1
  exact c_ixN this hx
theorem c_gen {σ : Wd} {a : St} (h : StR σ 1 a) (hw : wf a) {j : Nat} (hj : j < a.2.2.1.length) : X10_isGenerator σ (nI j) = 1 := by
  have h12 := hw.2.2.1.1
  have : σ 2 1 = nI a.2.2.1.length := h.1.1
  exact c_ix this (by omega) hj
theorem m_genN {σ : Wd} {a : St} (h : MRow (σ 121) a) (hw : wf a) {x : Int32} (hx : x < 0 ∨ nI a.2.2.1.length ≤ x) : X11_isGenerator σ x = 0 := by
  have h12 := hw.2.2.1.1
  rw [X11_isGenerator, X11_many, h.2.2.1]; exact in_no (by omega) hx
theorem m_gen {σ : Wd} {a : St} (h : MRow (σ 121) a) (hw : wf a) {j : Nat} (hj : j < a.2.2.1.length) : X11_isGenerator σ (nI j) = 1 := by
  have h12 := hw.2.2.1.1
  rw [X11_isGenerator, X11_many, h.2.2.1]; exact in_in (by omega) hj
theorem c_ptN {σ : Wd} {a : St} (h : StR σ 1 a) {x : Int32} (hx : x < 0 ∨ nI a.1 ≤ x) : X10_isPoint σ x = 0 := c_ixN h.2.2.2 hx
theorem c_pt {σ : Wd} {a : St} (h : StR σ 1 a) (hw : wf a) {j : Nat} (hj : j < a.1) : X10_isPoint σ (nI j) = 1 := by
  have := hw.1.2
  exact c_ix h.2.2.2 (by omega) hj
theorem m_ptN {σ : Wd} {a : St} (h : MRow (σ 121) a) (hw : wf a) {x : Int32} (hx : x < 0 ∨ nI a.1 ≤ x) : X11_isPoint σ x = 0 := by
  have := hw.1.2
  rw [X11_isPoint, h.2.1]; exact in_no (by omega) hx
theorem m_pt {σ : Wd} {a : St} (h : MRow (σ 121) a) (hw : wf a) {j : Nat} (hj : j < a.1) : X11_isPoint σ (nI j) = 1 := by
  have := hw.1.2
  rw [X11_isPoint, h.2.1]; exact in_in (by omega) hj
theorem m_memN {σ : Wd} {gs : List Nat} (h : LayR σ gs) {x : Int32} (hx : x < 0 ∨ nI (mems gs).length ≤ x) : X11_isMember σ x = 0 := by
  have := mems_len gs
  rw [X11_isMember, h.2.1]; exact in_no (by omega) hx
theorem m_mem {σ : Wd} {gs : List Nat} (h : LayR σ gs) {j : Nat} (hj : j < (mems gs).length) : X11_isMember σ (nI j) = 1 := by
  have := mems_len gs
  rw [X11_isMember, h.2.1]; exact in_in (by omega) hj
theorem q_generator {σ : Wd} {a : St} {hs : List St} {tp : List Nat} (hC : CR σ a hs tp) (hM : MR σ a hs tp) (hw : wf a) (x y : Int32) : ∃ r σ2, X10_generator σ x y = some r ∧ X11_generator σ x y = some (r, σ2) ∧ QO σ σ2 a hs tp := by
  have h12 := hw.2.2.1.1
  rcases pk_ix x (n := a.2.2.1.length) (by omega) with hx | hx | ⟨j, hj, rfl⟩
  · exact ⟨-1, σ, by rw [X10_generator, c_genN hC.st (Or.inl hx)]; rfl, by rw [X11_generator, m_genN hM.row hw (Or.inl hx)]; rfl, QO.no hM⟩
  · exact ⟨-1, σ, by rw [X10_generator, c_genN hC.st (Or.inr hx)]; rfl, by rw [X11_generator, m_genN hM.row hw (Or.inr hx)]; rfl, QO.no hM⟩
  have hout : (y < 0 ∨ nI 3 ≤ y) → ∃ r σ2, X10_generator σ (nI j) y = some r ∧ X11_generator σ (nI j) y = some (r, σ2) ∧ QO σ σ2 a hs tp := by
    intro hy
    refine ⟨-1, σ, ?_, ?_, QO.no hM⟩
    · rw [X10_generator, c_gen hC.st hw hj, if_neg (by decide), if_neg (show ¬ y = 0 from out_ne (k := 0) (by decide) hy (by decide)), if_neg (show ¬ y = 1 from out_ne (k := 1) (by decide) hy (by decide)), if_neg (show ¬ y = 2 from out_ne (k := 2) (by decide) hy (by decide))]
    · rw [X11_generator, m_gen hM.row hw hj, if_neg (by decide), lit_2, in_no (by decide) hy, if_pos rfl]
  rcases pk_ix y (n := 3) (by decide) with hy | hy | ⟨k, hk, rfl⟩
  · exact hout (Or.inl hy)
  · exact hout (Or.inr hy)
  obtain ⟨τ, e1, l1, m1, s1, f1⟩ := lays_MR hM hw
  have h8 : a.2.2.1.getD j 0 < 128 := by rw [getD_lt hj]; exact wf_lt hw _ (List.getElem_mem hj)
  have r2 : RowR σ 2 a.2.2.1 := hC.st.1
  have hat := row_at_in r2 (by exact h12) (by decide) hj
  have hmem := gens_mem hw hj
  have hm0 : X11_in (nI k) 0 2 = 1 := by rw [lit_2]; exact in_in (by decide) hk
  have hmod : X11_generator σ (nI j) (nI k) = (if nI k = 0 then some (nI (a.2.2.1.getD j 0), τ) else (if nI k = 1 then ((X11_isBased τ (nI (a.2.2.1.getD j 0))).bind fun t10 => (if t10 = 0 then some (1, τ) else some (0, τ))) else some (τ 127 (a.2.2.1.getD j 0), τ))) := by
    rw [X11_generator, m_gen hM.row hw hj, hm0, if_neg (by decide), if_neg (by decide), gen_ok hM.row hj, sbind, e1, sbind, ckA_n h8 (by omega), ncl (by omega)]
  rcases (by omega : k = 0 ∨ k = 1 ∨ k = 2) with rfl | rfl | rfl
  · refine ⟨nI (a.2.2.1.getD j 0), τ, ?_, by rw [hmod, if_pos nI_0], s1, m1⟩
    rw [X10_generator, c_gen hC.st hw hj, if_neg (by decide), if_pos nI_0, hat, sbind]
  · by_cases e : (famB a.2.2.1 (a.2.2.1.getD j 0) && basB a.2.2.1 (a.2.2.1.getD j 0)) = true
    · refine ⟨0, τ, ?_, by rw [hmod, if_neg (by decide), if_pos (by decide), based_ok l1 h8, sbind, if_pos e, if_neg (by decide)], s1, m1⟩
      rw [X10_generator, c_gen hC.st hw hj, if_neg (by decide), if_neg (by decide), if_pos (by decide), idle_ok r2 hC.fam.bas hw hj, sbind, if_pos e]; rfl
    · refine ⟨1, τ, ?_, by rw [hmod, if_neg (by decide), if_pos (by decide), based_ok l1 h8, sbind, if_neg e, if_pos rfl], s1, m1⟩
      rw [X10_generator, c_gen hC.st hw hj, if_neg (by decide), if_neg (by decide), if_pos (by decide), idle_ok r2 hC.fam.bas hw hj, sbind, if_neg e]; rfl
  · refine ⟨nI ((mems a.2.2.1).idxOf (a.2.2.1.getD j 0)), τ, ?_, by rw [hmod, if_neg (by decide), if_neg (by decide), l1.2.2.2 _ hmem], s1, m1⟩
    rw [X10_generator, c_gen hC.st hw hj, if_neg (by decide), if_neg (by decide), if_neg (by decide), if_pos (by decide), hat, sbind, num_ok hC.fam.num h8, sbind, numB_in hmem]
theorem q_member {σ : Wd} {a : St} {hs : List St} {tp : List Nat} (hC : CR σ a hs tp) (hM : MR σ a hs tp) (hw : wf a) (x : Int32) : ∃ r σ2, X10_member σ x = some r ∧ X11_member σ x = some (r, σ2) ∧ QO σ σ2 a hs tp := by
  obtain ⟨τ, e1, l1, m1, s1, f1⟩ := lays_MR hM hw
  have hl := mems_len a.2.2.1
  refine ⟨atv (mems a.2.2.1) x, τ, ?_, ?_, s1, m1⟩
  · rw [X10_member, row_at hC.fam.mem hl (by decide), sbind]
  · rw [X11_member, e1, sbind]
    rcases pk_ix x (n := (mems a.2.2.1).length) (by omega) with hx | hx | ⟨j, hj, rfl⟩
    · rw [m_memN l1 (Or.inl hx), if_pos rfl, atv_out (Or.inl hx)]
    · rw [m_memN l1 (Or.inr hx), if_pos rfl, atv_out (Or.inr hx)]
    · rw [m_mem l1 hj, if_neg (by decide), ckA_n (by omega) (by omega), ncl (by omega), l1.2.2.1 j hj, atv_in hj (by omega)]
theorem q_place {σ : Wd} {a : St} {hs : List St} {tp : List Nat} (hC : CR σ a hs tp) (hM : MR σ a hs tp) (hw : wf a) (x : Int32) : ∃ r σ2, X10_place σ x = some r ∧ X11_place σ x = some (r, σ2) ∧ QO σ σ2 a hs tp := by
  have h2 := p2_le hw.1.2
  rcases pk_ix x (n := 2 ^ a.1) (by omega) with hx | hx | ⟨t, ht, rfl⟩
  · exact ⟨-1, σ, by rw [X10_place, c_setN hC.st hw (Or.inl hx)]; rfl, by rw [X11_place, m_setN hM.row hw (Or.inl hx)]; rfl, QO.no hM⟩
  · exact ⟨-1, σ, by rw [X10_place, c_setN hC.st hw (Or.inr hx)]; rfl, by rw [X11_place, m_setN hM.row hw (Or.inr hx)]; rfl, QO.no hM⟩
  obtain ⟨τ, e1, l1, m1, s1, f1⟩ := lays_MR hM hw
  refine ⟨numB a.2.2.1 t, τ, ?_, ?_, s1, m1⟩
  · rw [X10_place, c_set hC.st hw ht, if_neg (by decide), num_ok hC.fam.num (by omega), sbind]
  · rw [X11_place, m_set hM.row hw ht, if_neg (by decide), e1, sbind, ckA_n (by omega) (by omega), ncl (by omega), l1.1 t (by omega)]
    by_cases e : famB a.2.2.1 t = true
    · rw [if_pos e, if_neg (by decide), ckA_n (by omega) (by omega), l1.2.2.2 t ((mem_iff_famB (by omega)).mpr e), numB, if_pos e]
    · rw [if_neg e, if_pos rfl, numB, if_neg e]
theorem filt_get {p : Nat → Bool} {l : List Nat} {i : Nat} (hi : i < l.length) (hp : p l[i] = true) : (l.filter p).getD ((l.take i).filter p).length 0 = l[i] ∧ ((l.take i).filter p).length < (l.filter p).length := by
  have e : l.filter p = (l.take i).filter p ++ l[i] :: (l.drop (i + 1)).filter p := by
    conv => lhs; rw [← List.take_append_drop i l, List.filter_append, List.drop_eq_getElem_cons hi, List.filter_cons_of_pos hp]
  rw [e]
  simp
theorem q_based {σ : Wd} {a : St} {hs : List St} {tp : List Nat} (hC : CR σ a hs tp) (hM : MR σ a hs tp) (hw : wf a) (x : Int32) : ∃ r σ2, X10_based σ x = some r ∧ X11_based σ x = some (r, σ2) ∧ QO σ σ2 a hs tp := by
  obtain ⟨τ, e1, l1, m1, s1, f1⟩ := lays_MR hM hw
  have hl := mems_len a.2.2.1
  have hbl := bas_len a.2.2.1
  refine ⟨atv (bas a.2.2.1) x, τ, ?_, ?_, s1, m1⟩
  · rw [X10_based, row_at hC.fam.bas hbl (by decide), sbind]
  · rw [X11_based, e1, sbind]
    have hp := mems_pos (wf_lt hw)
    rcases nn_ix x with hx | ⟨j, hj, rfl⟩
    · have : ∀ f, lp (X11_based_B8 τ) (f + 1) (x, 0) = some (-1, τ) := by
        intro f
        show X11_based_B8 τ (lp (X11_based_B8 τ) f) (x, 0) = _
        rw [X11_based_B8, if_neg (by rw [← nI_0]; exact lay_go l1 hp), if_pos hx]
      rw [show FU = 4095 + 1 from rfl, this, atv_out (Or.inl hx)]
    · refine lp_q (body := X11_based_B8 τ) (fun i s => s = (nI (j - (((mems a.2.2.1).take i).filter (basB a.2.2.1)).length), nI i) ∧ (((mems a.2.2.1).take i).filter (basB a.2.2.1)).length ≤ j) (mems a.2.2.1).length (fun r => r = some (atv (bas a.2.2.1) (nI j), τ)) ⟨by simp [nI_0], by simp⟩ (mems_4096 _) (fun k s hk hi => ?_) (fun s hi => ?_)
      · obtain ⟨rfl, hle⟩ := hi
        have hk8 := k128 hk
        have hm8 := mem_at_lt hk
        have hfm : famB a.2.2.1 (mems a.2.2.1)[k] = true := (List.mem_filter.mp (List.getElem_mem hk)).2
        have hb := based_ok l1 hm8
        rw [hfm, Bool.true_and] at hb
        have hfs := filter_take_succ (basB a.2.2.1) (mems a.2.2.1) k hk
        have hB : ∀ rec, X11_based_B8 τ rec (nI (j - (((mems a.2.2.1).take k).filter (basB a.2.2.1)).length), nI k) = (if (if basB a.2.2.1 (mems a.2.2.1)[k] = true then (1 : Int32) else 0) = 0 then rec (nI (j - (((mems a.2.2.1).take k).filter (basB a.2.2.1)).length), nI (k + 1)) else (if nI (j - (((mems a.2.2.1).take k).filter (basB a.2.2.1)).length) = 0 then some (nI (mems a.2.2.1)[k], τ) else rec (nI (j - (((mems a.2.2.1).take k).filter (basB a.2.2.1)).length) + (-1), nI (k + 1)))) := by
          intro rec
          rw [X11_based_B8, if_neg (lay_go l1 hk), if_neg (nneg (by omega)), ckA_n hk8 (by omega), ncl (by omega), lay_at l1 hk, hb, sbind, ckA_n hk8 (by omega), X11_based_J50, X11_based_J50, nI_1]
        by_cases e : basB a.2.2.1 (mems a.2.2.1)[k] = true
        · rw [if_pos e] at hfs
          by_cases e2 : j - (((mems a.2.2.1).take k).filter (basB a.2.2.1)).length = 0
          · right
            refine ⟨_, ?_, fun rec => by rw [hB, if_pos e, if_neg (by decide), if_pos (by rw [e2]; exact nI_0)]⟩
            have hj' : j = (((mems a.2.2.1).take k).filter (basB a.2.2.1)).length := by omega
            obtain ⟨g1, g2⟩ := filt_get hk e
            have hbl' : ((mems a.2.2.1).filter (basB a.2.2.1)).length ≤ 128 := hbl
            rw [hj', show bas a.2.2.1 = (mems a.2.2.1).filter (basB a.2.2.1) from rfl, atv_in g2 (by omega), g1]
          · left
            refine ⟨(nI (j - (((mems a.2.2.1).take k).filter (basB a.2.2.1)).length - 1), nI (k + 1)), ⟨?_, ?_⟩, fun rec => ?_⟩
            · rw [hfs, List.length_append, List.length_singleton, Nat.sub_sub]
            · rw [hfs, List.length_append, List.length_singleton]; omega
            · rw [hB, if_pos e, if_neg (by decide), if_neg (nI_ne0 (by omega) (by omega))]
              have : nI (j - (((mems a.2.2.1).take k).filter (basB a.2.2.1)).length) + (-1) = nI (j - (((mems a.2.2.1).take k).filter (basB a.2.2.1)).length - 1) := by
                rw [← nsub (b := 1) (by omega), Int32.sub_eq_add_neg]; rfl
              rw [this]
        · left
          rw [if_neg e, List.append_nil] at hfs
          refine ⟨(nI (j - (((mems a.2.2.1).take k).filter (basB a.2.2.1)).length), nI (k + 1)), ⟨by rw [hfs], by rw [hfs]; exact hle⟩, fun rec => by rw [hB, if_neg e, if_pos rfl]⟩
      · obtain ⟨rfl, hle⟩ := hi
        rw [List.take_length] at hle
        refine ⟨_, rfl, fun rec => ?_⟩
        rw [X11_based_B8, if_pos (lay_stop l1), atv_out (Or.inr (by rw [nle (by omega) (by omega)]; exact hle))]
