/-! count, back, feed -/
theorem idleC_ok {σ : Wd} {a : St} (hr : RowR σ 2 a.2.2.1) (hb : RowR σ 97 (bas a.2.2.1)) (hw : wf a) : X10_idleGenerators σ = some (nI (a.2.2.1.countP (fun g => !(famB a.2.2.1 g && basB a.2.2.1 g)))) := by
  have h12 := hw.2.2.1.1
  unfold X10_idleGenerators
  refine lp_cnt a.2.2.1 _ (fun n k => (nI n, nI k)) (fun n => some (nI n)) (by rw [nI_0]) (by omega) (fun k n hk hn rec => ?_) (fun n hn rec => ?_)
  · show X10_idleGenerators_B4 σ rec (nI n, nI k) = rec (nI _, nI (k + 1))
    rw [X10_idleGenerators_B4, hr.1, if_neg (by rw [nle (by omega) (by omega)]; omega), idle_ok hr hb hw hk, sbind, getD_lt hk, X10_idleGenerators_J29, X10_idleGenerators_J29, nI_1, nI_1]
    cases famB a.2.2.1 a.2.2.1[k] && basB a.2.2.1 a.2.2.1[k] <;> rfl
  · show X10_idleGenerators_B4 σ rec (nI n, nI a.2.2.1.length) = _
    rw [X10_idleGenerators_B4, hr.1, if_pos (by rw [nle (by omega) (by omega)]; omega)]
theorem idleM_ok {σ : Wd} {a : St} (h : LayR σ a.2.2.1) (hr : MRow (σ 121) a) (hw : wf a) : lp (X11_idle_B8 σ) FU (0, 0) = some (nI (a.2.2.1.countP (fun g => !(famB a.2.2.1 g && basB a.2.2.1 g))), σ) := by
  have h12 := hw.2.2.1.1
  have hmany : X11_many σ = nI a.2.2.1.length := hr.2.2.1
  refine lp_cnt a.2.2.1 _ (fun n k => (nI n, nI k)) (fun n => some (nI n, σ)) (by rw [nI_0]) (by omega) (fun k n hk hn rec => ?_) (fun n hn rec => ?_)
  · have hg := wf_lt hw _ (List.getElem_mem hk)
    show X11_idle_B8 σ rec (nI n, nI k) = rec (nI _, nI (k + 1))
    rw [X11_idle_B8, hmany, if_neg (by rw [nle (by omega) (by omega)]; omega), gen_ok hr hk, sbind, getD_lt hk, based_ok h hg, sbind, X11_idle_J31, X11_idle_J31, nI_1, nI_1]
    cases famB a.2.2.1 a.2.2.1[k] && basB a.2.2.1 a.2.2.1[k] <;> rfl
  · show X11_idle_B8 σ rec (nI n, nI a.2.2.1.length) = _
    rw [X11_idle_B8, hmany, if_pos (by rw [nle (by omega) (by omega)]; omega)]
theorem q_count {σ : Wd} {a : St} {hs : List St} {tp : List Nat} (hC : CR σ a hs tp) (hM : MR σ a hs tp) (hw : wf a) (x : Int32) : ∃ r σ2, X10_count σ x = some r ∧ X11_count σ x = some (r, σ2) ∧ QO σ σ2 a hs tp := by
  have h7 := hw.1.2
  have h2 := p2_le h7
  have hp := p2_pos a.1
  obtain ⟨o, -, -, o3, -, -⟩ := hC.hist
  have r2 : RowR σ 2 a.2.2.1 := hC.st.1
  have r4 : RowR σ 4 a.2.2.2 := hC.st.2.1
  have hmany : X11_many σ = nI a.2.2.1.length := hM.row.2.2.1
  have hlm : X11_listMany σ = nI a.2.2.2.length := hM.row.2.2.2.1
  have s1 : σ 1 3 = nI a.1 := hC.st.2.2.2
  have hout : (x < 0 ∨ nI 7 ≤ x) → ∃ r σ2, X10_count σ x = some r ∧ X11_count σ x = some (r, σ2) ∧ QO σ σ2 a hs tp := fun hx =>
    ⟨-1, σ, by rw [X10_count, if_neg (show ¬ x = 0 from out_ne (k := 0) (by decide) hx (by decide)), if_neg (show ¬ x = 1 from out_ne (k := 1) (by decide) hx (by decide)), if_neg (show ¬ x = 2 from out_ne (k := 2) (by decide) hx (by decide)), if_neg (show ¬ x = 3 from out_ne (k := 3) (by decide) hx (by decide)), if_neg (show ¬ x = 4 from out_ne (k := 4) (by decide) hx (by decide)), if_neg (show ¬ x = 5 from out_ne (k := 5) (by decide) hx (by decide)), if_neg (show ¬ x = 6 from out_ne (k := 6) (by decide) hx (by decide))], by rw [X11_count, if_neg (show ¬ x = 0 from out_ne (k := 0) (by decide) hx (by decide)), if_neg (show ¬ x = 1 from out_ne (k := 1) (by decide) hx (by decide)), if_neg (show ¬ x = 2 from out_ne (k := 2) (by decide) hx (by decide)), if_neg (show ¬ x = 3 from out_ne (k := 3) (by decide) hx (by decide)), if_neg (show ¬ x = 4 from out_ne (k := 4) (by decide) hx (by decide)), if_neg (show ¬ x = 5 from out_ne (k := 5) (by decide) hx (by decide)), if_neg (show ¬ x = 6 from out_ne (k := 6) (by decide) hx (by decide))], QO.no hM⟩
  rcases pk_ix x (n := 7) (by decide) with hx | hx | ⟨k, hk, rfl⟩
  · exact hout (Or.inl hx)
  · exact hout (Or.inr hx)
  clear hout
  rcases (by omega : k = 0 ∨ k = 1 ∨ k = 2 ∨ k = 3 ∨ k = 4 ∨ k = 5 ∨ k = 6) with rfl | rfl | rfl | rfl | rfl | rfl | rfl
  · exact ⟨_, σ, by rw [X10_count, if_pos (by decide), s1], by rw [X11_count, if_pos (by decide), hM.row.2.1], QO.no hM⟩
  · exact ⟨_, σ, by rw [X10_count, if_neg (by decide), if_pos (by decide), r2.1], by rw [X11_count, if_neg (by decide), if_pos (by decide), hmany], QO.no hM⟩
  · exact ⟨_, σ, by rw [X10_count, if_neg (by decide), if_neg (by decide), if_pos (by decide), r4.1], by rw [X11_count, if_neg (by decide), if_neg (by decide), if_pos (by decide), hlm], QO.no hM⟩
  · exact ⟨_, σ, by rw [X10_count, if_neg (by decide), if_neg (by decide), if_neg (by decide), if_pos (by decide), o3], by rw [X11_count, if_neg (by decide), if_neg (by decide), if_neg (by decide), if_pos (by decide), hM.hist.2.1], QO.no hM⟩
  · exact ⟨_, σ, by rw [X10_count, if_neg (by decide), if_neg (by decide), if_neg (by decide), if_neg (by decide), if_pos (by decide), hC.tape.1], by rw [X11_count, if_neg (by decide), if_neg (by decide), if_neg (by decide), if_neg (by decide), if_pos (by decide), hM.2.2.1.1], QO.no hM⟩
  · obtain ⟨τ, e1, l1, m1, t1, f1⟩ := lays_MR hM hw
    exact ⟨_, τ, by rw [X10_count, if_neg (by decide), if_neg (by decide), if_neg (by decide), if_neg (by decide), if_neg (by decide), if_pos (by decide), idleC_ok r2 hC.fam.bas hw, sbind], by rw [X11_count, if_neg (by decide), if_neg (by decide), if_neg (by decide), if_neg (by decide), if_neg (by decide), if_pos (by decide), X11_idle, e1, sbind, idleM_ok l1 m1.row hw, sbind], t1, m1⟩
  · exact ⟨_, σ, by rw [X10_count, if_neg (by decide), if_neg (by decide), if_neg (by decide), if_neg (by decide), if_neg (by decide), if_neg (by decide), if_pos (by decide), s1, f_all a.1 h7, massC_ok hC.st hw (by omega), sbind, massN_7 (by omega) h7], by rw [X11_count, if_neg (by decide), if_neg (by decide), if_neg (by decide), if_neg (by decide), if_neg (by decide), if_neg (by decide), if_pos (by decide), X11_allPoints, hM.row.2.1, f_all a.1 h7, massM_ok hM.row hw (by omega), sbind], QO.no hM⟩
theorem CR.tp {σ σ' : Wd} {a : St} {hs : List St} {tp tp' : List Nat} (h : CR σ a hs tp) (hq : ∀ q, q ≠ 87 → q ≠ 88 → q < 120 → σ' q = σ q) (hr : RowR σ' 87 tp') : CR σ' a hs tp' :=
  ⟨h.st.cg (fun q h => by simp only [stP, List.mem_cons, List.not_mem_nil, or_false] at h; exact hq q (by omega) (by omega) (by omega)), h.hist.cg (fun q h1 h2 => hq q (by omega) (by omega) (by omega)), hr, h.fam.cg (fun q h1 h2 => hq q (by omega) (by omega) (by omega))⟩
theorem MR.tp {σ σ' : Wd} {a : St} {hs : List St} {tp tp' : List Nat} (h : MR σ a hs tp) (hq : ∀ q, 121 ≤ q → q ≠ 138 → σ' q = σ q) (h4 : ∀ j, j ≠ 23 → σ' 120 j = σ 120 j) (h1 : σ' 120 23 = nI tp'.length) (h2 : ∀ i, i < tp'.length → σ' 138 i = nI (tp'.getD i 0)) : MR σ' a hs tp' :=
  ⟨by rw [hq 121 (by omega) (by omega)]; exact h.1, h.2.1.cg (h4 4 (by decide)) (hq 123 (by omega) (by omega)), ⟨h1, h2⟩, fun i hi => by rw [hq 139 (by omega) (by omega)]; exact h.2.2.2 i hi⟩
theorem o_back {σ : Wd} {a : St} {hs : List St} {tp : List Nat} (hC : CR σ a hs tp) (hM : MR σ a hs tp) (ht : tp.length ≤ 300) (x : Int32) : ∃ r σ1 σ2 k, X10_back σ x = (r, σ1) ∧ X11_back σ1 x = (r, σ2) ∧ k ≤ tp.length ∧ CR σ2 a hs (tp.take k) ∧ MR σ2 a hs (tp.take k) ∧ ∀ q, q < 120 → q ≠ 87 → σ2 q = σ q := by
  have h23 := hM.2.2.1.1
  have h87 := hC.tape.1
  have hno : (x < 0 ∨ nI (tp.length + 1) ≤ x) → ∃ r σ1 σ2 k, X10_back σ x = (r, σ1) ∧ X11_back σ1 x = (r, σ2) ∧ k ≤ tp.length ∧ CR σ2 a hs (tp.take k) ∧ MR σ2 a hs (tp.take k) ∧ ∀ q, q < 120 → q ≠ 87 → σ2 q = σ q := fun hx => by
    refine ⟨-1, σ, σ, tp.length, ?_, ?_, Nat.le_refl _, by rw [List.take_length]; exact hC, by rw [List.take_length]; exact hM, fun _ _ _ => rfl⟩
    · rw [X10_back, h87]
      by_cases h0 : x < 0
      · rw [if_pos h0]
      · rw [if_neg h0, if_neg]
        rcases hx with h | h
        · exact absurd h h0
        · have := i32_le_lt (by omega) h (by omega)
          rw [Int32.lt_iff_toInt_lt] at this
          rw [Int32.le_iff_toInt_le]; omega
    · rw [X11_back, h23, show nI tp.length = nI (tp.length + 1) - 1 from nI_dn.symm, in_no (by omega) hx, if_pos rfl]
  rcases pk_ix x (n := tp.length + 1) (by omega) with hx | hx | ⟨j, hj, rfl⟩
  · exact hno (Or.inl hx)
  · exact hno (Or.inr hx)
  clear hno
  obtain ⟨σ1, hσ1⟩ : ∃ σ1, σ1 = up σ 87 1 (nI (tp.length - j)) := ⟨_, rfl⟩
  obtain ⟨σ2, hσ2⟩ : ∃ σ2, σ2 = up σ1 120 23 (nI (tp.length - j)) := ⟨_, rfl⟩
  have h23' : σ1 120 23 = nI tp.length := by rw [hσ1, up_ne _ _ _ (by decide)]; exact h23
  have hlen : (tp.take (tp.length - j)).length = tp.length - j := by rw [List.length_take]; omega
  have hget : ∀ i, i < tp.length - j → (tp.take (tp.length - j)).getD i 0 = tp.getD i 0 := fun i hi => by
    rw [getD_lt (by omega), getD_lt (by omega), List.getElem_take]
  refine ⟨nI (tp.length - j), σ1, σ2, tp.length - j, ?_, ?_, by omega, ?_, ?_, fun q h1 h2 => ?_⟩
  · rw [X10_back, if_neg (nneg (by omega)), h87, if_pos (by rw [nle (by omega) (by omega)]; omega), nsub (by omega), ← hσ1]
    have : σ1 87 1 = nI (tp.length - j) := by rw [hσ1, up_at]; exact if_pos rfl
    rw [this]
  · rw [X11_back, h23', show X11_in (nI j) 0 (nI tp.length) = 1 from in_yes (lo := 0) (by omega) (by omega) (by omega), if_neg (by decide), nsub (by omega), ← hσ2]
    have : σ2 120 23 = nI (tp.length - j) := by rw [hσ2, up_at]; exact if_pos rfl
    rw [this]
  · refine hC.tp (fun q h1 h2 h3 => by rw [hσ2, up_ne _ _ _ (by omega), hσ1, up_ne _ _ _ h1]) ⟨?_, fun i hi => ?_⟩
    · rw [hlen, hσ2, up_ne _ _ _ (by decide), hσ1, up_at]; exact if_pos rfl
    · rw [hlen] at hi
      rw [hget i hi, hσ2, up_ne _ _ _ (by decide), hσ1, up_ne _ _ _ (by decide)]
      exact hC.tape.2 i (by omega)
  · refine hM.tp (fun q h1 h2 => by rw [hσ2, up_ne _ _ _ (by omega), hσ1, up_ne _ _ _ (by omega)]) (fun i hi => ?_) ?_ (fun i hi => ?_)
    · rw [hσ2, up_at]; unfold upd; rw [if_neg hi, hσ1, up_ne _ _ _ (by decide)]
    · rw [hlen, hσ2, up_at]; exact if_pos rfl
    · rw [hlen] at hi
      rw [hget i hi, hσ2, up_ne _ _ _ (by decide), hσ1, up_ne _ _ _ (by decide)]
      exact hM.2.2.1.2 i (by omega)
  · rw [hσ2, up_ne _ _ _ (by omega), hσ1, up_ne _ _ _ h2]
/-! bytes -/
def byt (x : Int32) (j : Nat) : Nat := (x.toBitVec.toNat / 2 ^ (24 - 8 * j)) % 256
theorem byt_lt (x : Int32) (j : Nat) : byt x j < 256 := Nat.mod_lt _ (by decide)
theorem bv1 (v : BitVec 32) (s : Nat) : ((v >>> s) &&& 255#32) = BitVec.ofNat 32 ((v.toNat / 2 ^ s) % 256) := by
  apply BitVec.eq_of_toNat_eq
  rw [BitVec.toNat_and, BitVec.toNat_ushiftRight, BitVec.toNat_ofNat, BitVec.toNat_ofNat, Nat.shiftRight_eq_div_pow]
  have h : (255 % 2 ^ 32) = 2 ^ 8 - 1 := by decide
  rw [h, Nat.and_two_pow_sub_one_eq_mod]
  have : v.toNat / 2 ^ s % 2 ^ 8 < 2 ^ 8 := Nat.mod_lt _ (by decide)
  rw [Nat.mod_eq_of_lt (a := v.toNat / 2 ^ s % 256) (by omega)]
theorem bv2 (v : BitVec 32) (s : Nat) (hs : s ≤ 24) : (v.sshiftRight s &&& 255#32) = ((v >>> s) &&& 255#32) := by
  apply BitVec.eq_of_getLsbD_eq
  intro i hi
  rw [BitVec.getLsbD_and, BitVec.getLsbD_and, BitVec.getLsbD_sshiftRight, BitVec.getLsbD_ushiftRight]
  by_cases h8 : i < 8
  · have : s + i < 32 := by omega
    simp [this, show ¬ 32 ≤ i by omega]
  · have : (255#32).getLsbD i = false := by
      have := (by decide : ∀ i, i < 32 → ¬ i < 8 → (255#32).getLsbD i = false) i hi h8
      exact this
    rw [this, Bool.and_false, Bool.and_false]
theorem byt_c (x : Int32) : ∀ j, j < 4 → (ushr x (nI (24 - 8 * j)) &&& 255) = nI (byt x j) := by
  intro j hj
  apply Int32.toBitVec_inj.mp
  have e : (nI (byt x j)).toBitVec = BitVec.ofNat 32 (byt x j) := by unfold nI; rfl
  rw [e, byt, ← bv1 _ _]
  rcases (by omega : j = 0 ∨ j = 1 ∨ j = 2 ∨ j = 3) with rfl | rfl | rfl | rfl
  all_goals simp [ushr, nI]
theorem byt_m (x : Int32) : ∀ j, j < 4 → ((x >>> ((24 - (8 * nI j)) &&& 31)) &&& 255) = nI (byt x j) := by
  intro j hj
  apply Int32.toBitVec_inj.mp
  have e : (nI (byt x j)).toBitVec = BitVec.ofNat 32 (byt x j) := by unfold nI; rfl
  rw [e, byt, ← bv1 _ _, ← bv2 _ _ (by omega), Int32.toBitVec_and, Int32.toBitVec_shiftRight]
  have h : ∀ j, j < 4 → (((24 - (8 * nI j)) &&& 31 : Int32).toBitVec.smod 32).toNat = 24 - 8 * j := by decide
  have h' : ∀ (v w : BitVec 32), v.sshiftRight' w = v.sshiftRight w.toNat := fun _ _ => rfl
  rw [h', h j hj]
  rfl
def B4 (x : Int32) : List Nat := [byt x 0, byt x 1, byt x 2, byt x 3]
theorem lp_s {S C : Type} {body : (S → Option C) → S → Option C} (f : Nat) (s : S) : lp body (f + 1) s = body (lp body f) s := rfl
theorem app4_ok {σ : Wd} {r : Nat} {tp : List Nat} (h : RowR σ r tp) (hl : tp.length + 4 ≤ kLn (r + 1)) (hk : kLn (r + 1) ≤ 512) (x : Int32) : ∃ σ', X4_appendBytes σ r x = some σ' ∧ RowR σ' r (tp ++ B4 x) ∧ Fr σ σ' [r, r + 1] := by
  obtain ⟨σ1, e1, r1, f1⟩ := row_append h (by omega) hk (byt x 0)
  obtain ⟨σ2, e2, r2, f2⟩ := row_append r1 (by simp; omega) hk (byt x 1)
  obtain ⟨σ3, e3, r3, f3⟩ := row_append r2 (by simp; omega) hk (byt x 2)
  obtain ⟨σ4, e4, r4, f4⟩ := row_append r3 (by simp; omega) hk (byt x 3)
  refine ⟨σ4, ?_, by simpa [B4] using r4, (((f1.tr f2).tr f3).tr f4).mono (by simp)⟩
  have b0 := byt_c x 0 (by decide)
  have b1 := byt_c x 1 (by decide)
  have b2 := byt_c x 2 (by decide)
  have b3 := byt_c x 3 (by decide)
  unfold X4_appendBytes
  rw [show FU = 4091 + 1 + 1 + 1 + 1 + 1 from rfl, lp_s, X4_appendBytes_B3, if_neg (by decide), show (24 : Int32) = nI (24 - 8 * 0) from rfl, b0, e1, sbind, lp_s]
  rw [show nI (24 - 8 * 0) + (-8) = nI (24 - 8 * 1) by decide, X4_appendBytes_B3, if_neg (by decide), b1, e2, sbind, lp_s]
  rw [show nI (24 - 8 * 1) + (-8) = nI (24 - 8 * 2) by decide, X4_appendBytes_B3, if_neg (by decide), b2, e3, sbind, lp_s]
  rw [show nI (24 - 8 * 2) + (-8) = nI (24 - 8 * 3) by decide, X4_appendBytes_B3, if_neg (by decide), b3, e4, sbind, lp_s]
  rw [show nI (24 - 8 * 3) + (-8) = (-8 : Int32) by decide, X4_appendBytes_B3, if_pos (by decide)]
def sel5 (x1 x2 x3 x4 x5 : Int32) (k : Nat) : Int32 := if k < 4 then x1 else if k < 8 then x2 else if k < 12 then x3 else if k < 16 then x4 else x5
def B20 (x1 x2 x3 x4 x5 : Int32) : List Nat := B4 x1 ++ B4 x2 ++ B4 x3 ++ B4 x4 ++ B4 x5
theorem B20_len (x1 x2 x3 x4 x5 : Int32) : (B20 x1 x2 x3 x4 x5).length = 20 := rfl
theorem B20_get (x1 x2 x3 x4 x5 : Int32) {k : Nat} (hk : k < 20) : (B20 x1 x2 x3 x4 x5).getD k 0 = byt (sel5 x1 x2 x3 x4 x5 k) (k % 4) := by
  rcases (by omega : k = 0 ∨ k = 1 ∨ k = 2 ∨ k = 3 ∨ k = 4 ∨ k = 5 ∨ k = 6 ∨ k = 7 ∨ k = 8 ∨ k = 9 ∨ k = 10 ∨ k = 11 ∨ k = 12 ∨ k = 13 ∨ k = 14 ∨ k = 15 ∨ k = 16 ∨ k = 17 ∨ k = 18 ∨ k = 19) with rfl | rfl | rfl | rfl | rfl | rfl | rfl | rfl | rfl | rfl | rfl | rfl | rfl | rfl | rfl | rfl | rfl | rfl | rfl | rfl
  all_goals rfl
theorem feed_st (x1 x2 x3 x4 x5 : Int32) {k : Nat} (hk : k < 20) (rec : Int32 × Wd → Option (Int32 × Wd)) (σ : Wd) : X11_feed_B18 x5 x4 x3 x2 x1 rec (nI k, σ) = X11_feed_J73 rec (nI k) (sel5 x1 x2 x3 x4 x5 k) σ := by
  have c : ∀ n, n < 100 → ((OfNat.ofNat n : Int32) ≤ nI k ↔ n ≤ k) := fun n hn => by rw [lit_nI, nle (by omega) (by omega)]
  have c20 := c 20 (by decide)
  have c4 := c 4 (by decide)
  have c8 := c 8 (by decide)
  have c12 := c 12 (by decide)
  have c16 := c 16 (by decide)
  unfold sel5
  rw [X11_feed_B18, if_neg (fun h => by have := c20.mp h; omega)]
  by_cases e4 : k < 4
  · rw [if_pos e4, if_neg (fun h => by have := c4.mp h; omega)]
  · rw [if_neg e4, if_pos (c4.mpr (by omega))]
    by_cases e8 : k < 8
    · rw [if_pos e8, if_neg (fun h => by have := c8.mp h; omega)]
    · rw [if_neg e8, if_pos (c8.mpr (by omega))]
      by_cases e12 : k < 12
      · rw [if_pos e12, if_neg (fun h => by have := c12.mp h; omega)]
      · rw [if_neg e12, if_pos (c12.mpr (by omega))]
        by_cases e16 : k < 16
        · rw [if_pos e16, if_neg (fun h => by have := c16.mp h; omega)]
        · rw [if_neg e16, if_pos (c16.mpr (by omega))]
theorem B20_lt (x1 x2 x3 x4 x5 : Int32) : ∀ x ∈ B20 x1 x2 x3 x4 x5, x < 256 := by
  intro x hx
  obtain ⟨i, hi, rfl⟩ := List.getElem_of_mem hx
  rw [B20_len] at hi
  rw [← getD_lt (by rw [B20_len]; exact hi), B20_get _ _ _ _ _ hi]
  exact byt_lt _ _
theorem getD_app2 (xs ys : List Nat) (i : Nat) : (xs ++ ys).getD i 0 = if i < xs.length then xs.getD i 0 else ys.getD (i - xs.length) 0 := by
  rw [List.getD_eq_getElem?_getD]
  by_cases e : i < xs.length
  · rw [if_pos e, List.getElem?_append_left e, List.getD_eq_getElem?_getD]
  · rw [if_neg e, List.getElem?_append_right (by omega), List.getD_eq_getElem?_getD]
theorem o_feed {σ : Wd} {a : St} {hs : List St} {tp : List Nat} (hC : CR σ a hs tp) (hM : MR σ a hs tp) (ht : tp.length ≤ 300) (hb : ∀ x ∈ tp, x < 256) (x1 x2 x3 x4 x5 : Int32) : ∃ r σ1 σ2 tp', X10_feed σ x1 x2 x3 x4 x5 = some (r, σ1) ∧ X11_feed σ1 x1 x2 x3 x4 x5 = some (r, σ2) ∧ CR σ2 a hs tp' ∧ MR σ2 a hs tp' ∧ tp'.length ≤ 300 ∧ (∀ x ∈ tp', x < 256) ∧ ∀ q, q < 120 → q ≠ 87 → q ≠ 88 → σ2 q = σ q := by
  have h23 := hM.2.2.1.1
  have h87 := hC.tape.1
  have hcmp : nI tp.length + 20 ≤ 300 ↔ tp.length + 20 ≤ 300 := by
    rw [show (20 : Int32) = nI 20 from rfl, show (300 : Int32) = nI 300 from rfl, nI_add, nle (by omega) (by omega)]
  by_cases e : tp.length + 20 ≤ 300
  · have hk : kLn (87 + 1) = 300 := rfl
    obtain ⟨s1, e1, r1, f1⟩ := app4_ok (r := 87) hC.tape (by rw [hk]; omega) (by decide) x1
    obtain ⟨s2, e2, r2, f2⟩ := app4_ok (r := 87) r1 (by rw [hk]; simp [B4]; omega) (by decide) x2
    obtain ⟨s3, e3, r3, f3⟩ := app4_ok (r := 87) r2 (by rw [hk]; simp [B4]; omega) (by decide) x3
    obtain ⟨s4, e4, r4, f4⟩ := app4_ok (r := 87) r3 (by rw [hk]; simp [B4]; omega) (by decide) x4
    obtain ⟨s5, e5, r5, f5⟩ := app4_ok (r := 87) r4 (by rw [hk]; simp [B4]; omega) (by decide) x5
    have fr : Fr σ s5 [87, 88] := ((((f1.tr f2).tr f3).tr f4).tr f5).mono (by simp)
    have hr : RowR s5 87 (tp ++ B20 x1 x2 x3 x4 x5) := by simpa [B20, List.append_assoc] using r5
    have hlen : (tp ++ B20 x1 x2 x3 x4 x5).length = tp.length + 20 := by rw [List.length_append, B20_len]
    have h51 : s5 87 1 = nI (tp.length + 20) := by rw [hr.1, hlen]
    have h523 : s5 120 23 = nI tp.length := by rw [fr 120 (by simp)]; exact h23
    have hmod : ∃ ρ, X11_feed s5 x1 x2 x3 x4 x5 = some (nI (tp.length + 20), ρ) ∧ ρ 120 23 = nI (tp.length + 20) ∧ (∀ i, i < tp.length + 20 → ρ 138 i = nI ((tp ++ B20 x1 x2 x3 x4 x5).getD i 0)) ∧ (∀ j, j ≠ 23 → ρ 120 j = s5 120 j) ∧ ∀ q, q ≠ 120 → q ≠ 138 → ρ q = s5 q := by
      rw [X11_feed, h523, if_pos (hcmp.mpr e)]
      refine lp_c (body := X11_feed_B18 x5 x4 x3 x2 x1) (0, s5) (fun k s => s.1 = nI k ∧ s.2 120 23 = nI (tp.length + k) ∧ (∀ i, i < tp.length + k → s.2 138 i = nI ((tp ++ B20 x1 x2 x3 x4 x5).getD i 0)) ∧ (∀ j, j ≠ 23 → s.2 120 j = s5 120 j) ∧ ∀ q, q ≠ 120 → q ≠ 138 → s.2 q = s5 q) 20 (fun s => some (nI (tp.length + 20), s.2)) ⟨nI_0.symm, h523, fun i hi => ?_, fun _ _ => rfl, fun _ _ _ => rfl⟩ (by omega) (fun k s hk hi => ?_) (fun s hi rec => ?_) (fun s' hI he => ?_)
      · show s5 138 i = _
        rw [fr 138 (by simp), hM.2.2.1.2 i (by omega), getD_app2, if_pos (by omega)]
      · obtain ⟨x, τ⟩ := s
        obtain ⟨g1, g2, g3, g4, g5⟩ := hi
        simp only at g1 g2 g3 g4 g5
        subst g1
        obtain ⟨v, hv⟩ : ∃ v, v = nI ((tp ++ B20 x1 x2 x3 x4 x5).getD (tp.length + k) 0) := ⟨_, rfl⟩
        have hval : ((sel5 x1 x2 x3 x4 x5 k >>> ((24 - (8 * (nI k % 4))) &&& 31)) &&& 255) = v := by
          rw [hv, show (4 : Int32) = nI 4 from rfl, nmod (by omega) (by decide), byt_m _ _ (Nat.mod_lt _ (by decide)), getD_app2, if_neg (by omega), show tp.length + k - tp.length = k by omega, B20_get _ _ _ _ _ hk]
        have h2 : up τ 138 (tp.length + k) v 120 23 = nI (tp.length + k) := by rw [up_ne _ _ _ (by decide)]; exact g2
        refine ⟨(nI (k + 1), up (up τ 138 (tp.length + k) v) 120 23 (nI (tp.length + k + 1))), ⟨rfl, ?_, fun i hi => ?_, fun j hj => ?_, fun q q1 q2 => ?_⟩, fun rec => ?_⟩
        · show up (up τ 138 (tp.length + k) v) 120 23 (nI (tp.length + k + 1)) 120 23 = _
          rw [up_at]; exact if_pos rfl
        · show up (up τ 138 (tp.length + k) v) 120 23 (nI (tp.length + k + 1)) 138 i = _
          rw [up_ne _ _ _ (by decide), up_at]; unfold upd
          by_cases ei : i = tp.length + k
          · rw [if_pos ei, ei, hv]
          · rw [if_neg ei]; exact g3 i (by omega)
        · show up (up τ 138 (tp.length + k) v) 120 23 (nI (tp.length + k + 1)) 120 j = _
          rw [up_at]; unfold upd; rw [if_neg hj, up_ne _ _ _ (by decide)]; exact g4 j hj
        · show up (up τ 138 (tp.length + k) v) 120 23 (nI (tp.length + k + 1)) q = _
          rw [up_ne _ _ _ q1, up_ne _ _ _ q2]; exact g5 q q1 q2
        · rw [feed_st _ _ _ _ _ hk, X11_feed_J73, hval, g2, ckA_n (by omega) (by omega), ncl (by omega), h2, nI_1, nI_1]
      · obtain ⟨x, τ⟩ := s
        have g1 : x = nI 20 := hi.1
        have g2 : τ 120 23 = nI (tp.length + 20) := hi.2.1
        subst g1
        show X11_feed_B18 x5 x4 x3 x2 x1 rec (nI 20, τ) = _
        rw [X11_feed_B18, if_pos (by decide), g2]
      · exact ⟨s'.2, he, hI.2.1, hI.2.2.1, hI.2.2.2.1, hI.2.2.2.2⟩
    obtain ⟨ρ, d1, d2, d3, d4, d5⟩ := hmod
    refine ⟨nI (tp.length + 20), s5, ρ, tp ++ B20 x1 x2 x3 x4 x5, ?_, d1, hC.tp (fun q q1 q2 q3 => ?_) (hr.cg (d5 87 (by decide) (by decide)) (d5 88 (by decide) (by decide))), hM.tp (fun q q1 q2 => ?_) (fun j hj => ?_) (by rw [hlen]; exact d2) (by rw [hlen]; exact d3), by omega, fun x hx => ?_, fun q q1 q2 q3 => ?_⟩
    · rw [X10_feed, h87, if_pos (hcmp.mpr e), e1, sbind, e2, sbind, e3, sbind, e4, sbind, e5, sbind, h51]
    · rw [d5 q (by omega) (by omega), fr q (by simp; omega)]
    · rw [d5 q (by omega) q2, fr q (by simp; omega)]
    · rw [d4 j hj, fr 120 (by simp)]
    · rcases List.mem_append.mp hx with h | h
      · exact hb x h
      · exact B20_lt _ _ _ _ _ x h
    · rw [d5 q (by omega) (by omega), fr q (by simp; omega)]
  · exact ⟨-1, σ, σ, tp, by rw [X10_feed, h87, if_neg (fun h => e (hcmp.mp h))], by rw [X11_feed, h23, if_neg (fun h => e (hcmp.mp h))], hC, hM, ht, hb, fun _ _ _ _ => rfl⟩
