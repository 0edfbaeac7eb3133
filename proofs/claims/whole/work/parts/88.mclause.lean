/-! a clause, as the reference reads it -/
theorem ttok_lt (tp : List Nat) (g : Bool) (b : Nat) : ttok tp g b < 5 := by
  unfold ttok
  by_cases e : b < tp.length
  · rw [if_pos e]
    by_cases e1 : ltr (tp.getD b 0) = true
    · rw [if_pos e1]; cases g <;> decide
    · rw [if_neg e1]
      by_cases e2 : tp.getD b 0 = 59
      · rw [if_pos e2]; decide
      · rw [if_neg e2]
        by_cases e3 : (decide (48 ≤ tp.getD b 0) && decide (tp.getD b 0 ≤ 57)) = true
        · rw [if_pos e3]; cases g <;> decide
        · rw [if_neg e3]; decide
  · rw [if_neg e]; decide
theorem ttok_1 {tp : List Nat} {g : Bool} {b : Nat} : ttok tp g b = 1 ↔ (b < tp.length ∧ ltr (tp.getD b 0) = true) ∧ g = false := by
  unfold ttok
  by_cases e : b < tp.length
  · rw [if_pos e]
    by_cases e1 : ltr (tp.getD b 0) = true
    · rw [if_pos e1]
      cases g
      · exact ⟨fun _ => ⟨⟨e, e1⟩, rfl⟩, fun _ => rfl⟩
      · exact ⟨fun h => absurd h (by decide), fun h => absurd h.2 (by decide)⟩
    · rw [if_neg e1]
      by_cases e2 : tp.getD b 0 = 59
      · rw [if_pos e2]; exact ⟨fun h => absurd h (by decide), fun h => absurd h.1.2 e1⟩
      · rw [if_neg e2]
        refine ⟨fun h => ?_, fun h => absurd h.1.2 e1⟩
        exfalso
        by_cases e3 : (decide (48 ≤ tp.getD b 0) && decide (tp.getD b 0 ≤ 57)) = true
        · rw [if_pos e3] at h; cases g <;> exact absurd h (by decide)
        · rw [if_neg e3] at h; exact absurd h (by decide)
  · rw [if_neg e]; exact ⟨fun h => absurd h (by decide), fun h => absurd h.1.1 e⟩
theorem ltr_59 {c : Nat} (h : c = 59) : ltr c = false := by rw [h]; rfl
theorem ttok_3 {tp : List Nat} {g : Bool} {b : Nat} : ttok tp g b = 3 ↔ endAt tp b = true := by
  unfold ttok endAt
  by_cases e : b < tp.length
  · rw [if_pos e, decide_eq_true e, Bool.true_and, beq_iff_eq]
    by_cases e2 : tp.getD b 0 = 59
    · rw [ltr_59 e2, if_neg (by decide), if_pos e2]; exact ⟨fun _ => e2, fun _ => rfl⟩
    · rw [if_neg e2]
      refine ⟨fun h => ?_, fun h => absurd h e2⟩
      exfalso
      by_cases e1 : ltr (tp.getD b 0) = true
      · rw [if_pos e1] at h; cases g <;> exact absurd h (by decide)
      · rw [if_neg e1] at h
        by_cases e3 : (decide (48 ≤ tp.getD b 0) && decide (tp.getD b 0 ≤ 57)) = true
        · rw [if_pos e3] at h; cases g <;> exact absurd h (by decide)
        · rw [if_neg e3] at h; exact absurd h (by decide)
  · rw [if_neg e, decide_eq_false e, Bool.false_and]; exact ⟨fun h => absurd h (by decide), fun h => absurd h (by decide)⟩
theorem ttok_2 {tp : List Nat} {g : Bool} {b : Nat} : ttok tp g b = 2 ↔ digAt tp 0 9 b = true ∧ g = false := by
  unfold ttok digAt
  by_cases e : b < tp.length
  · rw [if_pos e, decide_eq_true e, Bool.true_and]
    by_cases e1 : ltr (tp.getD b 0) = true
    · rw [if_pos e1]
      simp only [ltr, Bool.and_eq_true, decide_eq_true_eq] at e1
      refine ⟨fun h => by cases g <;> exact absurd h (by decide), fun h => ?_⟩
      have := h.1
      simp only [Bool.and_eq_true, decide_eq_true_eq] at this
      omega
    · rw [if_neg e1]
      by_cases e2 : tp.getD b 0 = 59
      · rw [if_pos e2]
        refine ⟨fun h => absurd h (by decide), fun h => ?_⟩
        have := h.1
        simp only [Bool.and_eq_true, decide_eq_true_eq] at this
        omega
      · rw [if_neg e2]
        by_cases e3 : (decide (48 ≤ tp.getD b 0) && decide (tp.getD b 0 ≤ 57)) = true
        · rw [if_pos e3]
          cases g
          · exact ⟨fun _ => ⟨e3, rfl⟩, fun _ => rfl⟩
          · exact ⟨fun h => absurd h (by decide), fun h => absurd h.2 (by decide)⟩
        · rw [if_neg e3]
          exact ⟨fun h => absurd h (by decide), fun h => absurd h.1 e3⟩
  · rw [if_neg e, decide_eq_false e, Bool.false_and]; exact ⟨fun h => absurd h (by decide), fun h => absurd h.1 (by decide)⟩
def MO (π : Wd) (tp : List Nat) (o : Sum Nat (Nat × St)) (ρ : Wd) : Prop := (∃ f, o = Sum.inl f ∧ ρ 120 29 = 1 ∧ ρ 120 27 = nI f ∧ TF π ρ) ∨ ∃ p a, o = Sum.inr (p, a) ∧ TK tp false (skp tp p) ρ ∧ ρ 120 29 = 0 ∧ MRow (ρ 122) a ∧ TF π ρ
theorem j69_wrong {ρ : Wd} (h : ρ 120 29 = 1) : X11_readsOne_J69 ρ = some ρ := by rw [X11_readsOne_J69, h, if_neg (by decide)]
theorem end_m {π ρ : Wd} {tp : List Nat} (hl : tp.length ≤ 300) (hb : ∀ x ∈ tp, x < 256) {a : St} {g : Bool} {x : Nat} (hx : x ≤ 310) (hp : TM π tp) (hf : TF π ρ) (hk : TK tp g (skp tp x) ρ) (h29 : ρ 120 29 = 0) (hr : MRow (ρ 122) a) : ∃ ρ', X11_readsOne_J69 ρ = some ρ' ∧ MO π tp (endO tp a x) ρ' := by
  have hs := skp_le hl hx
  rw [X11_readsOne_J69, h29, if_pos rfl, hk.2.1, endO]
  have htl := ttok_lt tp g (skp tp x)
  by_cases e : ttok tp g (skp tp x) = 3
  · have e' := ttok_3.mp e
    rw [if_pos (by rw [e]; rfl), if_pos e']
    have hsp : tspot tp (skp tp x) = skp tp x + 1 := by
      simp only [endAt, Bool.and_eq_true, decide_eq_true_eq, beq_iff_eq] at e'
      rw [tspot, if_pos e'.1, ltr_59 e'.2, if_neg (by decide)]
    obtain ⟨ρ', q1, q2, q3, q4, q5⟩ := goes_ok hl hb (hf.tm hp) (i := skp tp x + 1) (was := 3) (by omega) (by decide) (by rw [hk.1, hsp]) (by rw [hk.2.1, e])
    have hg : glu 3 (skp tp x + 1) (skp tp (skp tp x + 1)) = false := by unfold glu; simp
    rw [hg] at q2
    exact ⟨ρ', by rw [q1, sbind], Or.inr ⟨_, a, rfl, q2, by rw [q3, h29], by rw [q4]; exact hr, hf.tr q5⟩⟩
  · have e' : ¬ endAt tp (skp tp x) = true := fun h => e (ttok_3.mpr h)
    rw [if_neg (by rw [show (3 : Int32) = nI 3 from rfl, neq (by omega) (by omega)]; exact e), if_neg e']
    exact ⟨_, rfl, Or.inl ⟨_, rfl, by rw [up120, if_pos rfl], by rw [up120, if_neg (by decide)]; exact hk.2.2.1, hf.tr (tf_up (by omega) _)⟩⟩
theorem wrong_m {π ρ : Wd} {tp : List Nat} {f : Nat} (hf : TF π ρ) (h29 : ρ 120 29 = 1) (h27 : ρ 120 27 = nI f) : ∃ ρ', X11_readsOne_J69 ρ = some ρ' ∧ MO π tp (Sum.inl f) ρ' := ⟨ρ, j69_wrong h29, Or.inl ⟨f, rfl, h29, h27, hf⟩⟩
theorem takesW_ok {ρ : Wd} {tp : List Nat} (hl : tp.length ≤ 300) (hb : ∀ x ∈ tp, x < 256) (hw0 : WL ρ) (ht : TM ρ tp) {b : Nat} (hbl : b < tp.length) (hk : TK tp false b ρ) (h29 : ρ 120 29 = 0) {w : Nat} (hw : w < 3) : X11_takesWord ρ (nI w) = if isW tp w b (lnd tp b) = true then ((X11_goesOn ρ).bind fun σ8 => some (1, σ8)) else some (0, ρ) := by
  obtain ⟨wl, -⟩ := W_len w hw
  obtain ⟨⟨w1, w2⟩, w3⟩ := W_ml w hw
  have hb0 : W0_ w ≤ 14 := (by decide : ∀ w, w < 3 → W0_ w ≤ 14) w hw
  have hwpos : 0 < (Wd_ w).length := (by decide : ∀ w, w < 3 → 0 < (Wd_ w).length) w hw
  have hge := run_ge ltr tp b
  have hle := lnd_T (tp := tp) (p := b) (by omega)
  have htl := ttok_lt tp false b
  rw [X11_takesWord, h29, if_pos rfl, hk.2.1]
  by_cases e : ttok tp false b = 1
  · obtain ⟨⟨-, e1⟩, -⟩ := ttok_1.mp e
    have hsp : ρ 120 25 = nI (lnd tp b) := by rw [hk.1, tspot, if_pos hbl, if_pos e1]
    have h27 := hk.2.2.1
    rw [if_pos (by rw [e]; rfl), wordFrom_ok hw0 hw, sbind]
    have hkx : ∀ k, k ≤ (Wd_ w).length → X11_takesWord_T66 (nI (W0_ w)) ρ (nI k) = if b + k = lnd tp b then (if wordL.getD (W0_ w + k) 0 = 0 then ((X11_goesOn ρ).bind fun σ8 => some (1, σ8)) else some (0, ρ)) else some (0, ρ) := by
      intro k hk'
      have hz := wordL_lt (W0_ w + k) (by omega)
      rw [X11_takesWord_T66, X11_takesWord_J66, h27, hsp, nI_add, nI_add, ckA_n (by omega) (by omega), ncl (by omega), hw0 _ (by omega)]
      by_cases c1 : b + k = lnd tp b
      · rw [if_pos (by rw [c1]), if_pos c1]
        by_cases c2 : wordL.getD (W0_ w + k) 0 = 0
        · rw [if_pos (by rw [c2]; exact nI_0), if_pos c2]
        · rw [if_neg (nI_ne0 (by omega) (by omega)), if_neg c2]
      · rw [if_neg (by rw [neq (by omega) (by omega)]; exact c1), if_neg c1]
    have hB : ∀ k, k ≤ (Wd_ w).length → ∀ rec, X11_takesWord_B25 ρ (nI (W0_ w)) (X11_takesWord_T66 (nI (W0_ w)) ρ) rec (nI k) = if lnd tp b ≤ b + k then X11_takesWord_T66 (nI (W0_ w)) ρ (nI k) else if wordL.getD (W0_ w + k) 0 = tp.getD (b + k) 0 then rec (nI (k + 1)) else X11_takesWord_T66 (nI (W0_ w)) ρ (nI k) := by
      intro k hk' rec
      have hz := wordL_lt (W0_ w + k) (by omega)
      rw [X11_takesWord_B25, hsp, h27, nI_add, nI_add, nI_1]
      by_cases c1 : lnd tp b ≤ b + k
      · rw [if_pos (by rw [nle (by omega) (by omega)]; exact c1), if_pos c1]
      · have hbk : b + k < tp.length := by omega
        have := byte_at hb hbk
        rw [if_neg (by rw [nle (by omega) (by omega)]; exact c1), if_neg c1, ckA_n (by omega) (by omega), ckA_n (by omega) (by omega), ncl (by omega), ncl (by omega), hw0 _ (by omega), ht.2 _ hbk]
        by_cases c2 : wordL.getD (W0_ w + k) 0 = tp.getD (b + k) 0
        · rw [if_pos (by rw [c2]), if_pos c2]
        · rw [if_neg (by rw [neq (by omega) (by omega)]; exact c2), if_neg c2]
    refine lp_q (body := X11_takesWord_B25 ρ (nI (W0_ w)) (X11_takesWord_T66 (nI (W0_ w)) ρ)) (fun k s => s = nI k ∧ b + k ≤ lnd tp b ∧ ∀ j, j < k → tp.getD (b + j) 0 = (Wd_ w).getD j 0) (Wd_ w).length (fun r => r = if isW tp w b (lnd tp b) = true then ((X11_goesOn ρ).bind fun σ8 => some (1, σ8)) else some (0, ρ)) ⟨nI_0.symm, by unfold lnd; omega, fun j hj => by omega⟩ (by omega) (fun k s hk' hi => ?_) (fun s hi => ?_)
    · obtain ⟨rfl, i1, i2⟩ := hi
      obtain ⟨v1, v2, v3⟩ := w3 k hk'
      by_cases c1 : lnd tp b ≤ b + k
      · right
        refine ⟨_, ?_, fun rec => by rw [hB k (by omega), if_pos c1]⟩
        rw [hkx k (by omega), if_pos (by omega), v1, if_neg v2, isW, decide_eq_false (by omega), Bool.false_and]; rfl
      · by_cases c2 : tp.getD (b + k) 0 = (Wd_ w).getD k 0
        · left
          refine ⟨nI (k + 1), ⟨rfl, by omega, fun j hj => ?_⟩, fun rec => by rw [hB k (by omega), if_neg c1, v1, if_pos c2.symm]⟩
          by_cases ej : j = k
          · rw [ej]; exact c2
          · exact i2 j (by omega)
        · right
          refine ⟨_, ?_, fun rec => by rw [hB k (by omega), if_neg c1, v1, if_neg (fun h => c2 h.symm)]⟩
          have hno : isW tp w b (lnd tp b) = false := by
            have ha : (List.range (Wd_ w).length).all (fun i => tp.getD (b + i) 0 == (Wd_ w).getD i 0) = false := by
              rw [List.all_eq_false]
              exact ⟨k, List.mem_range.mpr hk', by simpa using c2⟩
            rw [isW, ha, Bool.and_false]
          rw [hkx k (by omega), if_neg (by omega), hno]; rfl
    · obtain ⟨rfl, i1, i2⟩ := hi
      by_cases c1 : lnd tp b ≤ b + (Wd_ w).length
      · have hyes : isW tp w b (lnd tp b) = true := by
          rw [isW, decide_eq_true (by omega), Bool.true_and, List.all_eq_true]
          intro j hj
          rw [beq_iff_eq]; exact i2 j (List.mem_range.mp hj)
        refine ⟨_, ?_, fun rec => by rw [hB _ (Nat.le_refl _), if_pos c1]⟩
        rw [hkx _ (Nat.le_refl _), if_pos (by omega), if_pos w2, hyes, if_pos rfl]
      · obtain ⟨l1, l2, l3⟩ := ltr_in (tp := tp) (s := b) (j := b + (Wd_ w).length) (by omega) (by omega)
        refine ⟨_, ?_, fun rec => by rw [hB _ (Nat.le_refl _), if_neg c1, w2, if_neg (by omega)]⟩
        rw [hkx _ (Nat.le_refl _), if_neg (by omega), isW, decide_eq_false (by omega), Bool.false_and]; rfl
  · have hnl : ¬ ltr (tp.getD b 0) = true := fun h => e (ttok_1.mpr ⟨⟨hbl, h⟩, rfl⟩)
    have hlb : lnd tp b = b := run_st (fun h => hnl h.2)
    rw [if_neg (by rw [show (1 : Int32) = nI 1 from rfl, neq (by omega) (by omega)]; exact e), isW, decide_eq_false (by rw [hlb]; omega), Bool.false_and]; rfl
theorem blk_skp {tp : List Nat} {e : Nat} : blkAt tp e = true ↔ skp tp e ≠ e := by
  unfold blkAt skp
  rw [Bool.and_eq_true, decide_eq_true_eq]
  constructor
  · intro h
    rw [run_go h.1 h.2]
    have := run_ge blk tp (e + 1)
    omega
  · intro h
    apply Classical.byContradiction
    intro hn
    exact h (run_st hn)
theorem glu_blk {tp : List Nat} {was e : Nat} (hw : was = 1 ∨ was = 2) : glu was e (skp tp e) = !blkAt tp e := by
  unfold glu
  have h2 : (decide (was = 1) || decide (was = 2)) = true := by rcases hw with rfl | rfl <;> rfl
  rw [h2, Bool.and_true]
  cases h : blkAt tp e
  · have : skp tp e = e := by
      apply Classical.byContradiction
      intro hn
      have := blk_skp.mpr hn
      rw [h] at this; exact absurd this (by decide)
    rw [decide_eq_true this]; rfl
  · rw [decide_eq_false (blk_skp.mp h)]; rfl
theorem num_m {ρ : Wd} {tp : List Nat} (hb : ∀ x ∈ tp, x < 256) {g : Bool} {q : Nat} (hk : TK tp g q ρ) (h29 : ρ 120 29 = 0) {lo hi : Nat} (hh : hi ≤ 9) (hlo : lo ≤ 1) : X11_needsNumber ρ (nI lo) (nI hi) = if (digAt tp lo hi q && !g) = true then ((X11_goesOn ρ).bind fun σ5 => some (nI (tp.getD q 0 - 48), σ5)) else some (nI lo, up ρ 120 29 1) := by
  have htl := ttok_lt tp g q
  rw [X11_needsNumber, h29, if_pos rfl, hk.2.1]
  by_cases e : ttok tp g q = 2
  · obtain ⟨d1, d2⟩ := ttok_2.mp e
    have d1' := d1
    simp only [digAt, Bool.and_eq_true, decide_eq_true_eq] at d1'
    have hc := byte_at hb d1'.1
    have hnl : ltr (tp.getD q 0) = false := by
      cases hh : ltr (tp.getD q 0)
      · rfl
      · simp only [ltr, Bool.and_eq_true, decide_eq_true_eq] at hh; omega
    have h28 : ρ 120 28 = nI (tp.getD q 0 - 48) := by
      rw [hk.2.2.2 ⟨d1'.1, hnl⟩, ((dig_c (Or.inr ⟨rfl, rfl⟩) _ hc).2.2.1 (by omega))]
    rw [if_pos (by rw [e]; rfl), h28, X11_in, d2, digAt, decide_eq_true d1'.1, Bool.true_and, Bool.not_false, Bool.and_true]
    by_cases c1 : tp.getD q 0 - 48 < lo
    · rw [if_pos (show nI (tp.getD q 0 - 48) < nI lo by rw [nlt (by omega) (by omega)]; exact c1), if_pos rfl, if_neg (by simp only [Bool.and_eq_true, decide_eq_true_eq]; omega)]
    · rw [if_neg (show ¬ nI (tp.getD q 0 - 48) < nI lo by rw [nlt (by omega) (by omega)]; exact c1)]
      by_cases c2 : hi < tp.getD q 0 - 48
      · rw [if_pos (show nI hi < nI (tp.getD q 0 - 48) by rw [nlt (by omega) (by omega)]; exact c2), if_pos rfl, if_neg (by simp only [Bool.and_eq_true, decide_eq_true_eq]; omega)]
      · rw [if_neg (show ¬ nI hi < nI (tp.getD q 0 - 48) by rw [nlt (by omega) (by omega)]; exact c2), if_neg (by decide), if_pos (by simp only [Bool.and_eq_true, decide_eq_true_eq]; omega)]
  · rw [if_neg (by rw [show (2 : Int32) = nI 2 from rfl, neq (by omega) (by omega)]; exact e), if_neg]
    intro hh'
    rw [Bool.and_eq_true, Bool.not_eq_true'] at hh'
    apply e
    refine ttok_2.mpr ⟨?_, hh'.2⟩
    have := hh'.1
    simp only [digAt, Bool.and_eq_true, decide_eq_true_eq] at this ⊢
    omega
