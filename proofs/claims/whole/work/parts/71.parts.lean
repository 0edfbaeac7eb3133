/-! parts -/
def rnd1 (x b : Nat) : Nat := if b &&& x = 0 then x else x ||| b
def rnd (gs : List Nat) (x : Nat) : Nat := (bas gs).foldl rnd1 x
def rndK (gs : List Nat) : Nat → Nat → Nat
  | 0, x => x
  | k + 1, x => rnd gs (rndK gs k x)
theorem rnd1_lt {x b : Nat} (hx : x < 128) (hb : b < 128) : rnd1 x b < 128 := by
  unfold rnd1
  by_cases e : b &&& x = 0
  · rw [if_pos e]; exact hx
  · rw [if_neg e]; exact or_lt hx hb
theorem rnd1_sub (x b : Nat) : x &&& rnd1 x b = x := by
  unfold rnd1
  by_cases e : b &&& x = 0
  · rw [if_pos e, Nat.and_self]
  · rw [if_neg e]; exact sub_bit.mpr (fun i hi => by rw [Nat.testBit_or, hi]; rfl)
theorem sub_tr {a b c : Nat} (h1 : a &&& b = a) (h2 : b &&& c = b) : a &&& c = a := sub_bit.mpr (fun i hi => sub_bit.mp h2 i (sub_bit.mp h1 i hi))
theorem rfold_ok (l : List Nat) (hl : ∀ b ∈ l, b < 128) : ∀ x, x < 128 → l.foldl rnd1 x < 128 ∧ x &&& l.foldl rnd1 x = x := by
  induction l with
  | nil => intro x hx; exact ⟨hx, Nat.and_self _⟩
  | cons b r ih =>
    intro x hx
    rw [List.foldl_cons]
    have h1 := rnd1_lt hx (hl b (by simp))
    obtain ⟨h2, h3⟩ := ih (fun c hc => hl c (by simp [hc])) _ h1
    exact ⟨h2, sub_tr (rnd1_sub x b) h3⟩
theorem rnd_ok (gs : List Nat) {x : Nat} (hx : x < 128) : rnd gs x < 128 ∧ x &&& rnd gs x = x := rfold_ok (bas gs) (fun b hb => bas_lt hb) x hx
theorem rndK_ok (gs : List Nat) {x : Nat} (hx : x < 128) : ∀ k, rndK gs k x < 128 ∧ x &&& rndK gs k x = x
  | 0 => ⟨hx, Nat.and_self _⟩
  | k + 1 => by
    have ih := rndK_ok gs hx k
    have h := rnd_ok gs ih.1
    exact ⟨h.1, sub_tr ih.2 h.2⟩
theorem rndK_stay {gs : List Nat} {x k : Nat} (h : rnd gs (rndK gs k x) = rndK gs k x) : ∀ d, rndK gs (k + d) x = rndK gs k x
  | 0 => rfl
  | d + 1 => by rw [← Nat.add_assoc, rndK, rndK_stay h d, h]
theorem rndK_grow {gs : List Nat} {x : Nat} (hx : x < 128) (h0 : 0 < x) : ∀ k, (∃ j, j ≤ k ∧ rnd gs (rndK gs j x) = rndK gs j x) ∨ k < pc (rndK gs k x)
  | 0 => by
    right
    exact (by decide +kernel : ∀ x, x < 128 → 0 < x → 0 < pc x) x hx h0
  | k + 1 => by
    rcases rndK_grow hx h0 k with ⟨j, h1, h2⟩ | h
    · exact Or.inl ⟨j, by omega, h2⟩
    · have ok := rndK_ok gs hx k
      have ok1 := rnd_ok gs ok.1
      by_cases e : rnd gs (rndK gs k x) = rndK gs k x
      · exact Or.inl ⟨k, by omega, e⟩
      · right
        have h1 := f_pc_sub _ ok.1 _ ok1.1 ok1.2
        have h2 : ¬ pc (rnd gs (rndK gs k x)) ≤ pc (rndK gs k x) := fun hh => e (f_sub_pc _ ok.1 _ ok1.1 ok1.2 hh).symm
        show k + 1 < pc (rnd gs (rndK gs k x))
        omega
theorem rnd7_fix {gs : List Nat} {x : Nat} (hx : x < 128) (h0 : 0 < x) : rnd gs (rndK gs 7 x) = rndK gs 7 x := by
  rcases rndK_grow (gs := gs) hx h0 7 with ⟨j, h1, h2⟩ | h
  · have := rndK_stay h2 (7 - j)
    rw [show j + (7 - j) = 7 by omega] at this
    rw [this]; exact h2
  · have := f_pc8 _ (rndK_ok gs hx 7).1
    omega
theorem f_and0 {a b : Nat} (ha : a < 128) (hb : b < 128) : (nI a &&& nI b = 0) ↔ (a &&& b = 0) := by
  rw [f_and a ha b hb]
  exact neq (b := 0) (by have := and_lt8 (b := b) ha; omega) (by decide)
theorem partC_ok {σ : Wd} {n : Nat} {gs : List Nat} (h : FamR σ n gs) {x : Nat} (hx : x < 128) : X0_partOf σ (nI x) = some (nI (rndK gs 7 x)) := by
  have hbl := bas_len gs
  unfold X0_partOf
  refine lp_tr (fun k => (nI (rndK gs k x), nI k)) 7 _ (by rw [nI_0]; rfl) (by omega) (fun k hk rec => ?_) (fun rec => ?_)
  · show X0_partOf_B4 σ rec (nI (rndK gs k x), nI k) = rec (nI (rndK gs (k + 1) x), nI (k + 1))
    rw [X0_partOf_B4, if_neg (by rw [L7, nle (by omega) (by omega)]; omega)]
    rw [lp_fold (body := X0_partOf_B13 σ (X0_partOf_T57 rec (nI k))) (bas gs) rnd1 (fun y j => (nI y, nI j)) (rndK gs k x) (fun y => rec (nI y, nI (k + 1))) (fun _ y => y < 128) (rndK_ok gs hx k).1 (fun j y hj hy => rnd1_lt hy (bas_lt (List.getElem_mem hj))) (by rw [nI_0]) (by omega) (fun j y hj hy rec' => ?_) (fun y hy rec' => ?_)]
    · rfl
    · have hb := bas_lt (List.getElem_mem hj)
      show X0_partOf_B13 σ _ rec' (nI y, nI j) = rec' (nI (rnd1 y (bas gs)[j]), nI (j + 1))
      rw [X0_partOf_B13, h.bas.1, if_neg (by rw [nle (by omega) (by omega)]; omega), row_at_in h.bas hbl (by decide) hj, sbind, sbind, getD_lt hj, X0_partOf_J51, X0_partOf_J51, nI_1, rnd1]
      by_cases e : (bas gs)[j] &&& y = 0
      · rw [if_pos ((f_and0 hb hy).mpr e), if_pos e]
      · rw [if_neg (fun h => e ((f_and0 hb hy).mp h)), if_neg e, f_or _ hy _ hb]
    · show X0_partOf_B13 σ _ rec' (nI y, nI (bas gs).length) = _
      rw [X0_partOf_B13, h.bas.1, if_pos (by rw [nle (by omega) (by omega)]; omega), X0_partOf_T57, nI_1]
  · show X0_partOf_B4 σ rec (nI (rndK gs 7 x), nI 7) = _
    rw [X0_partOf_B4, if_pos (by rw [L7, nle (by omega) (by omega)]; omega)]
theorem rnd_mems (gs : List Nat) (x : Nat) : (mems gs).foldl (fun y m => if basB gs m then rnd1 y m else y) x = rnd gs x := by
  unfold rnd bas
  rw [List.foldl_filter]
theorem roundM_ok {σ : Wd} {gs : List Nat} (h : LayR σ gs) {x : Nat} (hx : x < 128) (kx : Int32 → Option (Int32 × Wd)) : lp (X11_parts_B34 σ kx) FU (nI x, 0) = kx (nI (rnd gs x)) := by
  rw [← rnd_mems]
  refine lp_fold (mems gs) (fun y m => if basB gs m then rnd1 y m else y) (fun y j => (nI y, nI j)) x (fun y => kx (nI y)) (fun _ y => y < 128) hx (fun j y hj hy => ?_) (by rw [nI_0]) (mems_4096 gs) (fun j y hj hy rec' => ?_) (fun y hy rec' => ?_)
  · by_cases e : basB gs (mems gs)[j] = true
    · rw [if_pos e]; exact rnd1_lt hy (mem_at_lt hj)
    · rw [if_neg e]; exact hy
  · have hm := mem_at_lt hj
    have hj8 := k128 hj
    have hfm : famB gs (mems gs)[j] = true := (List.mem_filter.mp (List.getElem_mem hj)).2
    have hb := based_ok h hm
    rw [hfm, Bool.true_and] at hb
    show X11_parts_B34 σ kx rec' (nI y, nI j) = rec' (nI (if basB gs (mems gs)[j] then rnd1 y (mems gs)[j] else y), nI (j + 1))
    rw [X11_parts_B34, if_neg (lay_go h hj), ckA_n hj8 (by omega), ncl (by omega), lay_at h hj, ckA_n hj8 (by omega), hb, sbind, ckA_n hj8 (by omega), X11_parts_J79, nI_1, f_or _ hy _ hm, rnd1]
    dsimp only [lett]
    rw [X11_parts_J79, nI_1]
    by_cases e : (mems gs)[j] &&& y = 0
    · rw [if_pos ((f_and0 hm hy).mpr e), if_pos e]
      by_cases e2 : basB gs (mems gs)[j] = true
      · rw [if_pos e2]
      · rw [if_neg e2]
    · rw [if_neg (fun h => e ((f_and0 hm hy).mp h)), if_neg e]
      by_cases e2 : basB gs (mems gs)[j] = true
      · rw [if_pos e2, if_pos e2, if_neg (by decide)]
      · rw [if_neg e2, if_neg e2, if_pos rfl]
  · show X11_parts_B34 σ kx rec' (nI y, nI (mems gs).length) = _
    rw [X11_parts_B34, if_pos (lay_stop h)]
theorem partM2_ok {σ : Wd} {gs : List Nat} (h : LayR σ gs) {x : Nat} (hx : x < 128) (h0 : 0 < x) (kx : Int32 → Option (Int32 × Wd)) : lp (X11_parts_B23 σ kx) FU (nI x, 1) = kx (nI (rndK gs 7 x)) := by
  refine lp_qr (body := X11_parts_B23 σ kx) (fun k s => (s = (nI (rndK gs k x), 1) ∧ k ≤ 8) ∨ (s = (nI (rndK gs 7 x), 0))) 9 (fun r => r = kx (nI (rndK gs 7 x))) (Or.inl ⟨rfl, by omega⟩) (by omega) (fun k s rec hk hi => ?_) (fun s rec hi => ?_)
  · rcases hi with ⟨rfl, hk8⟩ | rfl
    · left
      have ok := rndK_ok gs hx k
      have ok1 := rnd_ok gs ok.1
      rw [X11_parts_B23, if_neg (by decide), roundM_ok h ok.1, X11_parts_T85]
      by_cases e : rnd gs (rndK gs k x) = rndK gs k x
      · have h7 : rndK gs 7 x = rndK gs k x := by
          rcases Nat.lt_or_ge k 8 with hh | hh
          · have := rndK_stay e (7 - k)
            rwa [show k + (7 - k) = 7 by omega] at this
          · have := rndK_stay (rnd7_fix (gs := gs) hx h0) (k - 7)
            rw [show 7 + (k - 7) = k by omega] at this
            exact this.symm
        exact ⟨(nI (rndK gs 7 x), 0), Or.inr rfl, by rw [if_pos (by rw [e]), X11_parts_J98, e, h7]⟩
      · have hk7 : k < 7 := by
          rcases Nat.lt_or_ge k 7 with hh | hh
          · exact hh
          · exfalso
            have := rndK_stay (rnd7_fix (gs := gs) hx h0) (k - 7)
            rw [show 7 + (k - 7) = k by omega] at this
            apply e
            rw [this]; exact rnd7_fix hx h0
        exact ⟨(nI (rndK gs (k + 1) x), 1), Or.inl ⟨rfl, by omega⟩, by rw [if_neg (by rw [neq (by omega) (by omega)]; exact e), X11_parts_J98]; rfl⟩
    · right
      rw [X11_parts_B23, if_pos rfl]
  · rcases hi with ⟨rfl, hk8⟩ | rfl
    · omega
    · rw [X11_parts_B23, if_pos rfl]
def psp (gs : List Nat) : Nat → Nat → Nat → Nat → Nat
  | 0, _, _, c => c
  | d + 1, p, l, c => if l.testBit p then psp gs d (p + 1) (l &&& (127 ^^^ rndK gs 7 (2 ^ p))) (c + 1) else psp gs d (p + 1) l c
theorem low_bit : ((List.range 7).all fun p => (List.range 128).all fun l => !(l.testBit p && (List.range p).all (fun q => !l.testBit q)) || decide (nI l &&& (-(nI l)) = nI (2 ^ p))) = true := by decide +kernel
theorem low_bit' {p l : Nat} (hp : p < 7) (hl : l < 128) (h1 : l.testBit p = true) (h2 : ∀ q, q < p → l.testBit q = false) : nI l &&& (-(nI l)) = nI (2 ^ p) := by
  have h := List.all_eq_true.mp (List.all_eq_true.mp low_bit p (List.mem_range.mpr hp)) l (List.mem_range.mpr hl)
  have h3 : (List.range p).all (fun q => !l.testBit q) = true := by
    rw [List.all_eq_true]
    intro q hq
    rw [h2 q (List.mem_range.mp hq)]; rfl
  rw [h1, h3] at h
  simpa using h
theorem zero_bits {l n : Nat} (hl : l < 2 ^ n) (h : ∀ q, q < n → l.testBit q = false) : l = 0 := by
  apply nat_ext
  intro i
  rw [Nat.zero_testBit]
  by_cases e : i < n
  · rw [h i e]
  · rw [Nat.testBit_lt_two_pow (Nat.lt_of_lt_of_le hl (Nat.pow_le_pow_right (by decide) (by omega)))]
theorem out_bit {l y q : Nat} : (l &&& (127 ^^^ y)).testBit q = true → l.testBit q = true ∧ (q < 7 → y.testBit q = false) := by
  intro h
  rw [Nat.testBit_and, Nat.testBit_xor, Bool.and_eq_true] at h
  refine ⟨h.1, fun hq => ?_⟩
  have h127 : (127 : Nat).testBit q = true := (by decide : ∀ q, q < 7 → (127 : Nat).testBit q = true) q hq
  rw [h127] at h
  cases hy : y.testBit q
  · rfl
  · rw [hy] at h; simp at h
theorem psC {σ : Wd} {n : Nat} {gs : List Nat} (hn : n ≤ 7) (h : FamR σ n gs) : ∀ (d p l c f : Nat), p + d = n → d < f → l < 128 → lp (X0_countParts_B9 σ) f (nI l, nI c, nI p) = some (nI (psp gs d p l c))
  | 0, p, l, c, f, hp, hf, hl => by
    obtain ⟨g, rfl⟩ : ∃ g, f = g + 1 := ⟨f - 1, by omega⟩
    show X0_countParts_B9 σ (lp (X0_countParts_B9 σ) g) (nI l, nI c, nI p) = _
    rw [X0_countParts_B9, h.pts, if_pos (by rw [nle (by omega) (by omega)]; omega)]; rfl
  | d + 1, p, l, c, f, hp, hf, hl => by
    obtain ⟨g, rfl⟩ : ∃ g, f = g + 1 := ⟨f - 1, by omega⟩
    have h2 := f_pow_lt (p := p) (by omega)
    have ok := rndK_ok gs h2 7
    show X0_countParts_B9 σ (lp (X0_countParts_B9 σ) g) (nI l, nI c, nI p) = _
    rw [X0_countParts_B9, h.pts, if_neg (by rw [nle (by omega) (by omega)]; omega), f_bit l hl p (by omega), f_shl p (by omega), partC_ok h h2, sbind, f_andn l hl _ ok.1, X0_countParts_J41, X0_countParts_J41, nI_1, nI_1, psp]
    by_cases e : l.testBit p = true
    · rw [if_pos e, if_pos (by decide), if_pos e]
      exact psC hn h d (p + 1) _ _ g (by omega) (by omega) (and_lt8 hl)
    · rw [if_neg e, if_neg (by decide), if_neg e]
      exact psC hn h d (p + 1) _ _ g (by omega) (by omega) hl
theorem psM {σ : Wd} {n : Nat} {gs : List Nat} (hn : n ≤ 7) (h : LayR σ gs) : ∀ (d p l c f : Nat), p + d = n → d < f → l < 2 ^ n → (∀ q, q < p → l.testBit q = false) → lp (X11_parts_B11 σ) f (nI l, nI c) = some (nI (psp gs d p l c), σ)
  | 0, p, l, c, f, hp, hf, hl, hz => by
    obtain ⟨g, rfl⟩ : ∃ g, f = g + 1 := ⟨f - 1, by omega⟩
    have : l = 0 := zero_bits hl (fun q hq => hz q (by omega))
    subst this
    show X11_parts_B11 σ (lp (X11_parts_B11 σ) g) (nI 0, nI c) = _
    rw [X11_parts_B11, if_pos nI_0]; rfl
  | d + 1, p, l, c, f, hp, hf, hl, hz => by
    obtain ⟨g, rfl⟩ : ∃ g, f = g + 1 := ⟨f - 1, by omega⟩
    have h8 := p2_le hn
    have h2 := f_pow_lt (p := p) (by omega)
    have ok := rndK_ok gs h2 7
    rw [psp]
    by_cases e : l.testBit p = true
    · rw [if_pos e]
      have hne : l ≠ 0 := fun h => by rw [h, Nat.zero_testBit] at e; exact absurd e (by decide)
      show X11_parts_B11 σ (lp (X11_parts_B11 σ) g) (nI l, nI c) = _
      rw [X11_parts_B11, if_neg (nI_ne0 (by omega) (by omega)), low_bit' (by omega) (by omega) e hz, partM2_ok h h2 (p2_pos p), X11_parts_T101, f_andn l (by omega) _ ok.1, nI_1]
      refine psM hn h d (p + 1) _ _ g (by omega) (by omega) (Nat.lt_of_le_of_lt Nat.and_le_left hl) (fun q hq => ?_)
      cases hh : (l &&& (127 ^^^ rndK gs 7 (2 ^ p))).testBit q
      · rfl
      · obtain ⟨b1, b2⟩ := out_bit hh
        exfalso
        by_cases eq : q = p
        · subst eq
          have b3 := b2 (by omega)
          have := sub_bit.mp ok.2 q (by simp [Nat.testBit_two_pow])
          rw [b3] at this; exact absurd this (by decide)
        · rw [hz q (by omega)] at b1; exact absurd b1 (by decide)
    · rw [if_neg e]
      refine psM hn h d (p + 1) _ _ (g + 1) (by omega) (by omega) hl (fun q hq => ?_)
      by_cases eq : q = p
      · subst eq; simpa using e
      · exact hz q (by omega)
theorem q_parts {σ : Wd} {a : St} {hs : List St} {tp : List Nat} (hC : CR σ a hs tp) (hM : MR σ a hs tp) (hw : wf a) : ∃ r σ2, X10_parts σ = some r ∧ X11_parts σ = some (r, σ2) ∧ QO σ σ2 a hs tp := by
  have hg := wf_lt hw
  have h7 := hw.1.2
  obtain ⟨τ, e1, l1, m1, s1, f1⟩ := lays_MR hM hw
  have ht := topv_lt hg
  have ht2 := mems_p2 hw (topv_mem hg)
  exact ⟨nI (psp a.2.2.1 a.1 0 (topv a.2.2.1) 0), τ, by rw [X10_parts, X0_countParts, top_c hg hC.fam.mem, sbind, ← nI_0, psC h7 hC.fam a.1 0 _ 0 FU (by omega) (by show a.1 < 4096; omega) ht, sbind], by rw [X11_parts, e1, sbind, top_m hg l1, sbind, ← nI_0, psM h7 l1 a.1 0 _ 0 FU (by omega) (by show a.1 < 4096; omega) ht2 (fun q hq => by omega)], s1, m1⟩
