/-! spell -/
def Wd_ (w : Nat) : List Nat := [[112, 111, 105, 110, 116, 115], [119, 101, 105, 103, 104, 116], [115, 101, 116]].getD w []
def W0_ (w : Nat) : Nat := [0, 7, 14].getD w 0
theorem W_len : ∀ w, w < 3 → (Wd_ w).length ≤ 6 ∧ kSN.getD w 0 = (Wd_ w).length := by decide
theorem W_sb : ∀ w, w < 3 → ∀ i, i < (Wd_ w).length → (kSB.getD w []).getD i 0 = nI ((Wd_ w).getD i 0) := by decide
theorem W_ml : ∀ w, w < 3 → (W0_ w + (Wd_ w).length < 18 ∧ wordL.getD (W0_ w + (Wd_ w).length) 0 = 0) ∧ ∀ i, i < (Wd_ w).length → (wordL.getD (W0_ w + i) 0 = (Wd_ w).getD i 0 ∧ (Wd_ w).getD i 0 ≠ 0 ∧ (Wd_ w).getD i 0 < 128) := by decide
def wleft (w k : Nat) : Nat := w - (wordL.take k).countP (· == 0)
theorem W_left : ∀ w, w < 3 → (wleft w (W0_ w) = 0 ∧ wleft w 0 = w) ∧ ∀ k, k < W0_ w → (k < 18 ∧ 0 < wleft w k ∧ wleft w k < 3 ∧ wleft w (k + 1) = if wordL.getD k 0 = 0 then wleft w k - 1 else wleft w k) := by decide
theorem wordL_lt : ∀ k, k < 18 → wordL.getD k 0 < 128 := by decide
def OutM (ρ : Wd) (L : List Nat) : Prop := ρ 120 21 = nI L.length ∧ ∀ i, i < L.length → ρ 137 i = nI (L.getD i 0)
def MF (σ ρ : Wd) : Prop := (∀ j, j ≠ 21 → ρ 120 j = σ 120 j) ∧ ∀ q, q ≠ 120 → q ≠ 137 → ρ q = σ q
theorem MF.rf (σ : Wd) : MF σ σ := ⟨fun _ _ => rfl, fun _ _ _ => rfl⟩
theorem MF.tr {σ ρ ρ' : Wd} (h : MF σ ρ) (h' : MF ρ ρ') : MF σ ρ' := ⟨fun j hj => by rw [h'.1 j hj, h.1 j hj], fun q q1 q2 => by rw [h'.2 q q1 q2, h.2 q q1 q2]⟩
theorem writes_ok {ρ : Wd} {L : List Nat} (h : OutM ρ L) (hl : L.length < 400) (c : Nat) : ∃ ρ', X11_writes ρ (nI c) = some ρ' ∧ OutM ρ' (L ++ [c]) ∧ MF ρ ρ' := by
  have h2 : up ρ 137 L.length (nI c) 120 21 = nI L.length := by rw [up_ne _ _ _ (by decide)]; exact h.1
  refine ⟨up (up ρ 137 L.length (nI c)) 120 21 (nI (L.length + 1)), ?_, ⟨?_, fun i hi => ?_⟩, ⟨fun j hj => ?_, fun q q1 q2 => ?_⟩⟩
  · rw [X11_writes, h.1, ckA_n hl (by omega), ncl (by omega), h2, nI_1]
  · rw [List.length_append, List.length_singleton, up_at]; exact if_pos rfl
  · simp only [List.length_append, List.length_singleton] at hi
    rw [up_ne _ _ _ (by decide), up_at, getD_app _ _ _ hi]; unfold upd
    by_cases e : i = L.length
    · rw [if_pos e, if_pos e]
    · rw [if_neg e, if_neg e]; exact h.2 i (by omega)
  · rw [up_at]; unfold upd; rw [if_neg hj, up_ne _ _ _ (by decide)]
  · rw [up_ne _ _ _ q1, up_ne _ _ _ q2]
def WL (ρ : Wd) : Prop := ∀ i, i < 18 → ρ 139 i = nI (wordL.getD i 0)
theorem wordFrom_ok {ρ : Wd} (h : WL ρ) {w : Nat} (hw : w < 3) : X11_wordFrom ρ (nI w) = some (nI (W0_ w)) := by
  obtain ⟨⟨l1, l2⟩, l3⟩ := W_left w hw
  have hb : W0_ w ≤ 14 := (by decide : ∀ w, w < 3 → W0_ w ≤ 14) w hw
  unfold X11_wordFrom
  refine lp_tr (fun k => (nI k, nI (wleft w k))) (W0_ w) _ (by rw [l2, nI_0]) (by omega) (fun k hk rec => ?_) (fun rec => ?_)
  · obtain ⟨k1, k2, k3, k4⟩ := l3 k hk
    have hz := wordL_lt k k1
    show X11_wordFrom_B4 ρ rec (nI k, nI (wleft w k)) = rec (nI (k + 1), nI (wleft w (k + 1)))
    rw [X11_wordFrom_B4, if_neg (by rw [← nI_0, nle (by omega) (by omega)]; omega), ckA_n k1 (by omega), ncl (by omega), h k k1, k4, X11_wordFrom_J20, X11_wordFrom_J20, nI_1, nI_prd k2]
    by_cases e : wordL.getD k 0 = 0
    · rw [if_pos (by rw [e]; exact nI_0), if_pos e]
    · rw [if_neg (nI_ne0 (by omega) (by omega)), if_neg e]
  · show X11_wordFrom_B4 ρ rec (nI (W0_ w), nI (wleft w (W0_ w))) = _
    rw [X11_wordFrom_B4, l1, if_pos (by decide)]
theorem take_get {l : List Nat} {k : Nat} (h : k < l.length) : l.take (k + 1) = l.take k ++ [l.getD k 0] := by
  rw [List.take_succ_eq_append_getElem h, getD_lt h]
theorem wordM_ok {ρ : Wd} {L : List Nat} (hw0 : WL ρ) (h : OutM ρ L) (hl : L.length + 8 ≤ 400) {w : Nat} (hw : w < 3) : ∃ ρ', X11_writesWord ρ (nI w) = some ρ' ∧ OutM ρ' (L ++ Wd_ w ++ [32]) ∧ MF ρ ρ' := by
  obtain ⟨wl, -⟩ := W_len w hw
  obtain ⟨⟨w1, w2⟩, w3⟩ := W_ml w hw
  have hb : W0_ w ≤ 14 := (by decide : ∀ w, w < 3 → W0_ w ≤ 14) w hw
  rw [X11_writesWord, wordFrom_ok hw0 hw, sbind]
  refine lp_q (body := X11_writesWord_B6) (fun i s => s.1 = nI (W0_ w + i) ∧ OutM s.2 (L ++ (Wd_ w).take i) ∧ MF ρ s.2) (Wd_ w).length (fun r => ∃ ρ', r = some ρ' ∧ OutM ρ' (L ++ Wd_ w ++ [32]) ∧ MF ρ ρ') ⟨rfl, by rw [List.take_zero, List.append_nil]; exact h, MF.rf _⟩ (by omega) (fun i s hi hinv => ?_) (fun s hinv => ?_)
  · obtain ⟨x, τ⟩ := s
    obtain ⟨g1, g2, g3⟩ := hinv
    simp only at g1 g2 g3
    subst g1
    obtain ⟨v1, v2, v3⟩ := w3 i hi
    have hlen : (L ++ (Wd_ w).take i).length ≤ L.length + i := by rw [List.length_append, List.length_take]; omega
    obtain ⟨τ', t1, t2, t3⟩ := writes_ok g2 (by omega) ((Wd_ w).getD i 0)
    left
    refine ⟨(nI (W0_ w + (i + 1)), τ'), ⟨rfl, ?_, g3.tr t3⟩, fun rec => ?_⟩
    · rw [take_get hi, ← List.append_assoc]; exact t2
    · have hv : τ 139 (W0_ w + i) = nI ((Wd_ w).getD i 0) := by rw [g3.2 139 (by decide) (by decide), hw0 _ (by omega), v1]
      rw [X11_writesWord_B6, ckA_n (by omega) (by omega), ncl (by omega), hv, if_neg (nI_ne0 (by omega) (by omega)), ckA_n (by omega) (by omega), t1, sbind, nI_1]; rfl
  · obtain ⟨x, τ⟩ := s
    obtain ⟨g1, g2, g3⟩ := hinv
    simp only at g1 g2 g3
    subst g1
    rw [List.take_length] at g2
    have hlen : (L ++ Wd_ w).length ≤ L.length + 6 := by rw [List.length_append]; omega
    obtain ⟨τ', t1, t2, t3⟩ := writes_ok g2 (by omega) 32
    refine ⟨some τ', ⟨τ', rfl, t2, g3.tr t3⟩, fun rec => ?_⟩
    have hv : τ 139 (W0_ w + (Wd_ w).length) = nI 0 := by rw [g3.2 139 (by decide) (by decide), hw0 _ w1, w2]
    rw [X11_writesWord_B6, ckA_n w1 (by omega), ncl (by omega), hv, if_pos nI_0, show (32 : Int32) = nI 32 from rfl, t1, sbind]
theorem wordC_ok {τ : Wd} {L : List Nat} (h : RowR τ 91 L) (hl : L.length + 8 ≤ 300) {w : Nat} (hw : w < 3) : ∃ τ', X5_putWord τ w = some τ' ∧ RowR τ' 91 (L ++ Wd_ w ++ [32]) ∧ Fr τ τ' [91, 92] := by
  obtain ⟨wl, wn⟩ := W_len w hw
  have hk : kLn (91 + 1) = 300 := rfl
  unfold X5_putWord
  refine lp_q (body := X5_putWord_B2 w) (fun i s => s.1 = nI i ∧ RowR s.2 91 (L ++ (Wd_ w).take i) ∧ Fr τ s.2 [91, 92]) (Wd_ w).length (fun r => ∃ τ', r = some τ' ∧ RowR τ' 91 (L ++ Wd_ w ++ [32]) ∧ Fr τ τ' [91, 92]) ⟨nI_0.symm, by rw [List.take_zero, List.append_nil]; exact h, Fr.rf _ _⟩ (by omega) (fun i s hi hinv => ?_) (fun s hinv => ?_)
  · obtain ⟨x, ρ⟩ := s
    obtain ⟨g1, g2, g3⟩ := hinv
    simp only at g1 g2 g3
    subst g1
    have hlen : (L ++ (Wd_ w).take i).length ≤ L.length + i := by rw [List.length_append, List.length_take]; omega
    obtain ⟨ρ', t1, t2, t3⟩ := row_append (r := 91) g2 (by rw [hk]; omega) (by decide) ((Wd_ w).getD i 0)
    left
    refine ⟨(nI (i + 1), ρ'), ⟨rfl, ?_, (g3.tr t3).mono (by simp)⟩, fun rec => ?_⟩
    · rw [take_get hi, ← List.append_assoc]; exact t2
    · rw [X5_putWord_B2, wn, if_neg (by rw [nle (by omega) (by omega)]; omega), ckA_n hi (by omega), ncl (by omega), W_sb w hw i hi, t1, sbind, nI_1]
  · obtain ⟨x, ρ⟩ := s
    obtain ⟨g1, g2, g3⟩ := hinv
    simp only at g1 g2 g3
    subst g1
    rw [List.take_length] at g2
    have hlen : (L ++ Wd_ w).length ≤ L.length + 6 := by rw [List.length_append]; omega
    obtain ⟨ρ', t1, t2, t3⟩ := row_append (r := 91) g2 (by rw [hk]; omega) (by decide) 32
    refine ⟨some ρ', ⟨ρ', rfl, t2, (g3.tr t3).mono (by simp)⟩, fun rec => ?_⟩
    rw [X5_putWord_B2, wn, if_pos (by rw [nle (by omega) (by omega)]; omega), show (32 : Int32) = nI 32 from rfl, t1, sbind]
theorem digC2_ok {τ : Wd} {L : List Nat} (h : RowR τ 91 L) (hl : L.length + 2 ≤ 300) (d : Nat) : ∃ τ', X5_putDigit τ (nI d) = some τ' ∧ RowR τ' 91 (L ++ [48 + d, 59]) ∧ Fr τ τ' [91, 92] := by
  have hk : kLn (91 + 1) = 300 := rfl
  obtain ⟨τ1, t1, t2, t3⟩ := row_append (r := 91) h (by rw [hk]; omega) (by decide) (48 + d)
  obtain ⟨τ2, u1, u2, u3⟩ := row_append (r := 91) t2 (by rw [hk]; simp; omega) (by decide) 59
  exact ⟨τ2, by rw [X5_putDigit, show (48 : Int32) = nI 48 from rfl, nI_add, t1, sbind, show (59 : Int32) = nI 59 from rfl, u1, sbind], by simpa using u2, (t3.tr u3).mono (by simp)⟩
def lets (k g : Nat) : List Nat := ((List.range k).filter (fun p => g.testBit p)).map (97 + ·)
theorem lets_succ (k g : Nat) : lets (k + 1) g = lets k g ++ if g.testBit k = true then [97 + k] else [] := by
  unfold lets
  rw [List.range_succ, List.filter_append, List.map_append]
  by_cases e : g.testBit k = true
  · rw [if_pos e, List.filter_cons_of_pos e]; rfl
  · rw [if_neg e, List.filter_cons_of_neg e]; rfl
theorem lets_len (k g : Nat) : (lets k g).length ≤ k := by
  unfold lets
  rw [List.length_map]
  have := List.length_filter_le (fun p => g.testBit p) (List.range k)
  rwa [List.length_range] at this
theorem lets_7 {n g : Nat} (hg : g < 2 ^ n) (hn : n ≤ 7) : lets 7 g = lets n g := by
  have key : ∀ d, lets (n + d) g = lets n g := by
    intro d
    induction d with
    | zero => rfl
    | succ d ih =>
      rw [← Nat.add_assoc, lets_succ, ih, if_neg, List.append_nil]
      rw [Nat.testBit_lt_two_pow (Nat.lt_of_lt_of_le hg (Nat.pow_le_pow_right (by decide) (by omega)))]
      decide
  have := key (7 - n)
  rwa [show n + (7 - n) = 7 by omega] at this
theorem letC_ok {τ : Wd} {L : List Nat} (h : RowR τ 91 L) (hl : L.length + 8 ≤ 300) {g : Nat} (hg : g < 128) : ∃ τ', X5_putLetters τ (nI g) = some τ' ∧ RowR τ' 91 (L ++ lets 7 g ++ [59]) ∧ Fr τ τ' [91, 92] := by
  have hk : kLn (91 + 1) = 300 := rfl
  unfold X5_putLetters
  refine lp_q (body := X5_putLetters_B2 (nI g)) (fun i s => s.1 = nI i ∧ RowR s.2 91 (L ++ lets i g) ∧ Fr τ s.2 [91, 92]) 7 (fun r => ∃ τ', r = some τ' ∧ RowR τ' 91 (L ++ lets 7 g ++ [59]) ∧ Fr τ τ' [91, 92]) ⟨nI_0.symm, by simpa [lets] using h, Fr.rf _ _⟩ (by omega) (fun i s hi hinv => ?_) (fun s hinv => ?_)
  · obtain ⟨x, ρ⟩ := s
    obtain ⟨g1, g2, g3⟩ := hinv
    simp only at g1 g2 g3
    subst g1
    have hlen := lets_len i g
    left
    by_cases e : g.testBit i = true
    · obtain ⟨ρ', t1, t2, t3⟩ := row_append (r := 91) g2 (by rw [hk, List.length_append]; omega) (by decide) (97 + i)
      refine ⟨(nI (i + 1), ρ'), ⟨rfl, ?_, (g3.tr t3).mono (by simp)⟩, fun rec => ?_⟩
      · rw [lets_succ, if_pos e, ← List.append_assoc]; exact t2
      · rw [X5_putLetters_B2, if_neg (by rw [L7, nle (by omega) (by omega)]; omega), f_bit g hg i hi, if_pos e, if_pos (by decide), show (97 : Int32) = nI 97 from rfl, nI_add, t1, sbind, X5_putLetters_J28, nI_1]
    · refine ⟨(nI (i + 1), ρ), ⟨rfl, ?_, g3⟩, fun rec => ?_⟩
      · rw [lets_succ, if_neg e, List.append_nil]; exact g2
      · rw [X5_putLetters_B2, if_neg (by rw [L7, nle (by omega) (by omega)]; omega), f_bit g hg i hi, if_neg e, if_neg (by decide), X5_putLetters_J28, nI_1]
  · obtain ⟨x, ρ⟩ := s
    obtain ⟨g1, g2, g3⟩ := hinv
    simp only at g1 g2 g3
    subst g1
    have hlen := lets_len 7 g
    obtain ⟨ρ', t1, t2, t3⟩ := row_append (r := 91) g2 (by rw [hk, List.length_append]; omega) (by decide) 59
    refine ⟨some ρ', ⟨ρ', rfl, t2, (g3.tr t3).mono (by simp)⟩, fun rec => ?_⟩
    rw [X5_putLetters_B2, if_pos (by rw [L7, nle (by omega) (by omega)]; omega), show (59 : Int32) = nI 59 from rfl, t1, sbind]
/-! the text as a list -/
def wtL (a : St) (p : Nat) : List Nat := if wv a p = 1 then [] else Wd_ 1 ++ [32] ++ [97 + p] ++ [32] ++ [48 + wv a p, 59]
def stL (a : St) (g : Nat) : List Nat := Wd_ 2 ++ [32] ++ lets a.1 g ++ [59]
def P1 (a : St) (k : Nat) : List Nat := Wd_ 0 ++ [32] ++ [48 + a.1, 59] ++ (List.range k).flatMap (wtL a)
def P2 (a : St) (k : Nat) : List Nat := P1 a a.1 ++ (a.2.2.1.take k).flatMap (stL a)
theorem P1_succ (a : St) (k : Nat) : P1 a (k + 1) = P1 a k ++ wtL a k := by
  unfold P1; rw [List.range_succ, List.flatMap_append]; simp
theorem P2_succ {a : St} {k : Nat} (hk : k < a.2.2.1.length) : P2 a (k + 1) = P2 a k ++ stL a (a.2.2.1.getD k 0) := by
  unfold P2; rw [take_get hk, List.flatMap_append]; simp
theorem wtL_len (a : St) (p : Nat) : (wtL a p).length ≤ 11 := by
  unfold wtL
  by_cases e : wv a p = 1
  · rw [if_pos e]; exact Nat.zero_le _
  · rw [if_neg e]; simp [Wd_]
theorem stL_len (a : St) (g : Nat) : (stL a g).length ≤ 5 + a.1 := by
  have := lets_len a.1 g
  unfold stL; simp [Wd_]; omega
theorem P1_len (a : St) : ∀ k, (P1 a k).length ≤ 9 + 11 * k
  | 0 => by simp [P1, Wd_]
  | k + 1 => by
    have := P1_len a k
    have := wtL_len a k
    rw [P1_succ, List.length_append]; omega
theorem P2_len {a : St} (hw : wf a) : ∀ k, k ≤ a.2.2.1.length → (P2 a k).length ≤ 86 + 12 * k
  | 0, _ => by
    have := P1_len a a.1
    have := hw.1.2
    unfold P2; simp; omega
  | k + 1, h => by
    have := P2_len hw k (by omega)
    have := stL_len a (a.2.2.1.getD k 0)
    have := hw.1.2
    rw [P2_succ (by omega), List.length_append]; omega
def spl (a : St) : List Nat := P2 a a.2.2.1.length
theorem spl_len {a : St} (hw : wf a) : (spl a).length ≤ 230 := by
  have := P2_len hw a.2.2.1.length (Nat.le_refl _)
  have := hw.2.2.1.1
  unfold spl; omega
theorem spellC_ok {σ : Wd} {a : St} (h : StR σ 1 a) (hw : wf a) : ∃ τ, X5_write σ 1 = some τ ∧ RowR τ 91 (spl a) ∧ Fr σ τ [91, 92] := by
  have h7 := hw.1.2
  have h12 := hw.2.2.1.1
  have hk : kLn (91 + 1) = 300 := rfl
  have hcl := row_clear (σ := σ) (r := 91)
  obtain ⟨τ1, a1, a2, a3⟩ := wordC_ok (L := []) hcl.1 (by simp) (w := 0) (by decide)
  have fr1 : Fr σ τ1 [91, 92] := (hcl.2.tr a3).mono (by simp)
  have h13 : τ1 1 3 = nI a.1 := by rw [fr1 1 (by simp)]; exact h.2.2.2
  obtain ⟨τ2, b1, b2, b3⟩ := digC2_ok a2 (by simp [Wd_]) a.1
  have fr2 : Fr σ τ2 [91, 92] := (fr1.tr b3).mono (by simp)
  have hP0 : RowR τ2 91 (P1 a 0) := by simpa [P1] using b2
  have hst : ∀ τ, Fr σ τ [91, 92] → StR τ 1 a := fun τ f => h.cg (fun q hq => f q (by simp only [stP, List.mem_cons, List.not_mem_nil, or_false] at hq; simp; omega))
  have hw1 : ∃ τ3, lp (X5_write_B23 1 (X5_write_T81 1)) FU (0, τ2) = X5_write_T81 1 τ3 ∧ RowR τ3 91 (P1 a a.1) ∧ Fr σ τ3 [91, 92] := by
    refine lp_c (body := X5_write_B23 1 (X5_write_T81 1)) (0, τ2) (fun k s => s.1 = nI k ∧ RowR s.2 91 (P1 a k) ∧ Fr σ s.2 [91, 92]) a.1 (fun s => X5_write_T81 1 s.2) ⟨nI_0.symm, hP0, fr2⟩ (by omega) (fun k s hk' hi => ?_) (fun s hi rec => ?_) (fun s' hI he => ?_)
    · obtain ⟨x, τ⟩ := s
      obtain ⟨g1, g2, g3⟩ := hi
      simp only at g1 g2 g3
      subst g1
      have sτ := hst τ g3
      have hP := P1_len a k
      have hwle := wv_le hw k
      have hwv : X7_weightOf τ 1 (nI k) = some (nI (wv a k)) := st_weightOf rfl sτ (by omega)
      by_cases e : wv a k = 1
      · refine ⟨(nI (k + 1), τ), ⟨rfl, ?_, g3⟩, fun rec => ?_⟩
        · rw [P1_succ, wtL, if_pos e, List.append_nil]; exact g2
        · rw [X5_write_B23, sτ.2.2.2, if_neg (by rw [nle (by omega) (by omega)]; omega), hwv, sbind, if_pos (by rw [e]; rfl), X5_write_J75, nI_1]
      · obtain ⟨u1, c1, c2, c3⟩ := wordC_ok g2 (by omega) (w := 1) (by decide)
        obtain ⟨u2, d1, d2, d3⟩ := row_append (r := 91) c2 (by rw [hk]; simp [Wd_]; omega) (by decide) (97 + k)
        obtain ⟨u3, e1, e2, e3⟩ := row_append (r := 91) d2 (by rw [hk]; simp [Wd_]; omega) (by decide) 32
        have fru : Fr σ u3 [91, 92] := (((g3.tr c3).tr d3).tr e3).mono (by simp)
        obtain ⟨u4, f1, f2, f3⟩ := digC2_ok e2 (by simp [Wd_]; omega) (wv a k)
        have hwv3 : X7_weightOf u3 1 (nI k) = some (nI (wv a k)) := st_weightOf rfl (hst u3 fru) (by omega)
        refine ⟨(nI (k + 1), u4), ⟨rfl, ?_, (fru.tr f3).mono (by simp)⟩, fun rec => ?_⟩
        · rw [P1_succ, wtL, if_neg e]
          simpa [List.append_assoc] using f2
        · rw [X5_write_B23, sτ.2.2.2, if_neg (by rw [nle (by omega) (by omega)]; omega), hwv, sbind, if_neg (by rw [show (1 : Int32) = nI 1 from rfl, neq (by omega) (by omega)]; exact e), c1, sbind, show (97 : Int32) = nI 97 from rfl, nI_add, d1, sbind, show (32 : Int32) = nI 32 from rfl, e1, sbind, hwv3, sbind, f1, sbind, X5_write_J75, nI_1]
    · obtain ⟨x, τ⟩ := s
      obtain ⟨g1, g2, g3⟩ := hi
      simp only at g1 g2 g3
      subst g1
      have sτ := hst τ g3
      show X5_write_B23 1 _ rec (nI a.1, τ) = _
      rw [X5_write_B23, sτ.2.2.2, if_pos (by rw [nle (by omega) (by omega)]; omega)]
    · exact ⟨s'.2, he, hI.2.1, hI.2.2⟩
  obtain ⟨τ3, w1, w2, w3⟩ := hw1
  have hw2 : ∃ τ4, lp (X5_write_B83 1) FU (0, τ3) = some τ4 ∧ RowR τ4 91 (spl a) ∧ Fr σ τ4 [91, 92] := by
    refine lp_c (body := X5_write_B83 1) (0, τ3) (fun k s => s.1 = nI k ∧ RowR s.2 91 (P2 a k) ∧ Fr σ s.2 [91, 92]) a.2.2.1.length (fun s => some s.2) ⟨nI_0.symm, by simpa [P2] using w2, w3⟩ (by omega) (fun k s hk' hi => ?_) (fun s hi rec => ?_) (fun s' hI he => ?_)
    · obtain ⟨x, τ⟩ := s
      obtain ⟨g1, g2, g3⟩ := hi
      simp only at g1 g2 g3
      subst g1
      have sτ := hst τ g3
      have hP := P2_len hw k (by omega)
      have hg2 := hw.2.2.1.2.1 (a.2.2.1.getD k 0) (by rw [getD_lt hk']; exact List.getElem_mem hk')
      have hg8 : a.2.2.1.getD k 0 < 128 := by have := p2_le h7; omega
      obtain ⟨u1, c1, c2, c3⟩ := wordC_ok g2 (by omega) (w := 2) (by decide)
      have fru : Fr σ u1 [91, 92] := (g3.tr c3).mono (by simp)
      obtain ⟨u2, d1, d2, d3⟩ := letC_ok c2 (by simp [Wd_]; omega) hg8
      refine ⟨(nI (k + 1), u2), ⟨rfl, ?_, (fru.tr d3).mono (by simp)⟩, fun rec => ?_⟩
      · rw [P2_succ hk', stL, ← lets_7 hg2.2 h7]
        simpa [List.append_assoc] using d2
      · have r2 : RowR τ (1 + 1) a.2.2.1 := sτ.1
        have r2' : RowR u1 (1 + 1) a.2.2.1 := (hst u1 fru).1
        rw [X5_write_B83, r2.1, if_neg (by rw [nle (by omega) (by omega)]; omega), c1, sbind, row_at_in r2' (by exact h12) (by decide) hk', sbind, d1, sbind, nI_1]
    · obtain ⟨x, τ⟩ := s
      obtain ⟨g1, g2, g3⟩ := hi
      simp only at g1 g2 g3
      subst g1
      have r2 : RowR τ (1 + 1) a.2.2.1 := (hst τ g3).1
      show X5_write_B83 1 rec (nI a.2.2.1.length, τ) = _
      rw [X5_write_B83, r2.1, if_pos (by rw [nle (by omega) (by omega)]; omega)]
    · exact ⟨s'.2, he, hI.2.1, hI.2.2⟩
  obtain ⟨τ4, v1, v2, v3⟩ := hw2
  exact ⟨τ4, by rw [X5_write, a1, sbind, h13, b1, sbind, w1, X5_write_T81, v1], v2, v3⟩
theorem spellM_ok {σ : Wd} {a : St} {hs : List St} {tp : List Nat} (hM : MR σ a hs tp) (hw : wf a) {x : Int32} (hx : -1 ≤ x) : ∃ ρ, X11_spell σ x = X11_spell_T174 x ρ ∧ OutM ρ (spl a) ∧ MF σ ρ := by
  have h7 := hw.1.2
  have h12 := hw.2.2.1.1
  obtain ⟨ρ0, hρ0⟩ : ∃ ρ0, ρ0 = up σ 120 21 0 := ⟨_, rfl⟩
  have m0 : MF σ ρ0 := ⟨fun j hj => by rw [hρ0, up_at]; exact if_neg hj, fun q q1 q2 => by rw [hρ0, up_ne _ _ _ q1]⟩
  have o0 : OutM ρ0 [] := ⟨by rw [hρ0, up_at]; exact if_pos rfl, fun i hi => absurd hi (by simp)⟩
  have hWL : ∀ ρ, MF σ ρ → WL ρ := fun ρ m i hi => by rw [m.2 139 (by decide) (by decide)]; exact hM.2.2.2 i hi
  have hRow : ∀ ρ, MF σ ρ → MRow (ρ 121) a := fun ρ m => by rw [m.2 121 (by decide) (by decide)]; exact hM.row
  obtain ⟨ρ1, a1, a2, a3⟩ := wordM_ok (hWL _ m0) o0 (by simp) (w := 0) (by decide)
  have m1 := m0.tr a3
  obtain ⟨ρ2, b1, b2, b3⟩ := writes_ok a2 (by simp [Wd_]) (48 + a.1)
  have m2 := m1.tr b3
  obtain ⟨ρ3, c1, c2, c3⟩ := writes_ok b2 (by simp [Wd_]) 59
  have m3 := m2.tr c3
  have hP0 : OutM ρ3 (P1 a 0) := by simpa [P1, List.append_assoc] using c2
  have hw1 : ∃ ρ4, lp (X11_spell_B38 (X11_spell_T109 x)) FU (0, ρ3) = X11_spell_T109 x ρ4 ∧ OutM ρ4 (P1 a a.1) ∧ MF σ ρ4 := by
    refine lp_c (body := X11_spell_B38 (X11_spell_T109 x)) (0, ρ3) (fun k s => s.1 = nI k ∧ OutM s.2 (P1 a k) ∧ MF σ s.2) a.1 (fun s => X11_spell_T109 x s.2) ⟨nI_0.symm, hP0, m3⟩ (by omega) (fun k s hk' hi => ?_) (fun s hi rec => ?_) (fun s' hI he => ?_)
    · obtain ⟨z, τ⟩ := s
      obtain ⟨g1, g2, g3⟩ := hi
      simp only at g1 g2 g3
      subst g1
      have rτ := hRow τ g3
      have hP := P1_len a k
      have hwle := wv_le hw k
      have hwv : τ 121 (3 + k) = nI (wv a k) := rτ.2.2.2.2.1 k (by omega)
      by_cases e : wv a k = 1
      · refine ⟨(nI (k + 1), τ), ⟨rfl, ?_, g3⟩, fun rec => ?_⟩
        · rw [P1_succ, wtL, if_pos e, List.append_nil]; exact g2
        · rw [X11_spell_B38, rτ.2.1, if_neg (by rw [nle (by omega) (by omega)]; omega), show (3 : Int32) = nI 3 from rfl, nI_add, ckA_n (by omega) (by omega), ncl (by omega), hwv, if_pos (by rw [e]; rfl), X11_spell_J103, nI_1]
      · obtain ⟨u1, c1, c2, c3⟩ := wordM_ok (hWL τ g3) g2 (by omega) (w := 1) (by decide)
        obtain ⟨u2, d1, d2, d3⟩ := writes_ok c2 (by simp [Wd_]; omega) (97 + k)
        obtain ⟨u3, e1, e2, e3⟩ := writes_ok d2 (by simp [Wd_]; omega) 32
        have mu : MF σ u3 := ((g3.tr c3).tr d3).tr e3
        obtain ⟨u4, f1, f2, f3⟩ := writes_ok e2 (by simp [Wd_]; omega) (48 + wv a k)
        obtain ⟨u5, i1, i2, i3⟩ := writes_ok f2 (by simp [Wd_]; omega) 59
        have hwv3 : u3 121 (3 + k) = nI (wv a k) := (hRow u3 mu).2.2.2.2.1 k (by omega)
        refine ⟨(nI (k + 1), u5), ⟨rfl, ?_, (mu.tr f3).tr i3⟩, fun rec => ?_⟩
        · rw [P1_succ, wtL, if_neg e]
          simpa [List.append_assoc] using i2
        · rw [X11_spell_B38, rτ.2.1, if_neg (by rw [nle (by omega) (by omega)]; omega), show (3 : Int32) = nI 3 from rfl, nI_add, ckA_n (by omega) (by omega), ncl (by omega), hwv, if_neg (by rw [show (1 : Int32) = nI 1 from rfl, neq (by omega) (by omega)]; exact e), show (1 : Int32) = nI 1 from rfl, c1, sbind, show (97 : Int32) = nI 97 from rfl, nI_add, d1, sbind, show (32 : Int32) = nI 32 from rfl, e1, sbind, ckA_n (by omega) (by omega), hwv3, show (48 : Int32) = nI 48 from rfl, nI_add, f1, sbind, show (59 : Int32) = nI 59 from rfl, i1, sbind, X11_spell_J103, nI_1]
    · obtain ⟨z, τ⟩ := s
      obtain ⟨g1, g2, g3⟩ := hi
      simp only at g1 g2 g3
      subst g1
      have rτ := hRow τ g3
      show X11_spell_B38 _ rec (nI a.1, τ) = _
      rw [X11_spell_B38, rτ.2.1, if_pos (by rw [nle (by omega) (by omega)]; omega)]
    · exact ⟨s'.2, he, hI.2.1, hI.2.2⟩
  obtain ⟨ρ4, w1, w2, w3⟩ := hw1
  have hw2 : ∃ ρ5, lp (X11_spell_B111 (X11_spell_T174 x)) FU (0, ρ4) = X11_spell_T174 x ρ5 ∧ OutM ρ5 (spl a) ∧ MF σ ρ5 := by
    refine lp_cr (body := X11_spell_B111 (X11_spell_T174 x)) (0, ρ4) (fun k s => s.1 = nI k ∧ OutM s.2 (P2 a k) ∧ MF σ s.2) a.2.2.1.length (fun s => X11_spell_T174 x s.2) ⟨nI_0.symm, by simpa [P2] using w2, w3⟩ (by omega) (fun k s rec hk' hi => ?_) (fun s rec hi => ?_) (fun s' hI he => ?_)
    · obtain ⟨z, τ⟩ := s
      obtain ⟨g1, g2, g3⟩ := hi
      simp only at g1 g2 g3
      subst g1
      have rτ := hRow τ g3
      have hmany : X11_many τ = nI a.2.2.1.length := rτ.2.2.1
      have hP := P2_len hw k (by omega)
      have hg2 := hw.2.2.1.2.1 (a.2.2.1.getD k 0) (by rw [getD_lt hk']; exact List.getElem_mem hk')
      have hg8 : a.2.2.1.getD k 0 < 128 := by have := p2_le h7; omega
      obtain ⟨u1, c1, c2, c3⟩ := wordM_ok (hWL τ g3) g2 (by omega) (w := 2) (by decide)
      have mu := g3.tr c3
      have hlet : ∃ u2, lp (X11_spell_B126 (nI k) (X11_spell_T162 rec (nI k))) FU (0, u1) = X11_spell_T162 rec (nI k) u2 ∧ OutM u2 (P2 a k ++ Wd_ 2 ++ [32] ++ lets a.1 (a.2.2.1.getD k 0)) ∧ MF σ u2 := by
        refine lp_c (body := X11_spell_B126 (nI k) (X11_spell_T162 rec (nI k))) (0, u1) (fun i s => s.1 = nI i ∧ OutM s.2 (P2 a k ++ Wd_ 2 ++ [32] ++ lets i (a.2.2.1.getD k 0)) ∧ MF σ s.2) a.1 (fun s => X11_spell_T162 rec (nI k) s.2) ⟨nI_0.symm, by simpa [lets] using c2, mu⟩ (by omega) (fun i s hi' hinv => ?_) (fun s hinv rec' => ?_) (fun s' hI he => ?_)
        · obtain ⟨z, υ⟩ := s
          obtain ⟨g1, g2, g3⟩ := hinv
          simp only at g1 g2 g3
          subst g1
          have rυ := hRow υ g3
          have hlen := lets_len i (a.2.2.1.getD k 0)
          by_cases e : (a.2.2.1.getD k 0).testBit i = true
          · obtain ⟨υ', t1, t2, t3⟩ := writes_ok g2 (by rw [List.length_append, List.length_append, List.length_append, show (Wd_ 2).length = 3 from rfl, List.length_singleton]; omega) (97 + i)
            refine ⟨(nI (i + 1), υ'), ⟨rfl, ?_, g3.tr t3⟩, fun rec' => ?_⟩
            · rw [lets_succ, if_pos e, ← List.append_assoc]; exact t2
            · rw [X11_spell_B126, rυ.2.1, if_neg (by rw [nle (by omega) (by omega)]; omega), gen_ok rυ hk', sbind, f_has _ hg8 i (by omega), if_pos e, if_neg (by decide), show (97 : Int32) = nI 97 from rfl, nI_add, t1, sbind, X11_spell_J156, nI_1]
          · refine ⟨(nI (i + 1), υ), ⟨rfl, ?_, g3⟩, fun rec' => ?_⟩
            · rw [lets_succ, if_neg e, List.append_nil]; exact g2
            · rw [X11_spell_B126, rυ.2.1, if_neg (by rw [nle (by omega) (by omega)]; omega), gen_ok rυ hk', sbind, f_has _ hg8 i (by omega), if_neg e, if_pos rfl, X11_spell_J156, nI_1]
        · obtain ⟨z, υ⟩ := s
          obtain ⟨g1, g2, g3⟩ := hinv
          simp only at g1 g2 g3
          subst g1
          have rυ := hRow υ g3
          show X11_spell_B126 (nI k) _ rec' (nI a.1, υ) = _
          rw [X11_spell_B126, rυ.2.1, if_pos (by rw [nle (by omega) (by omega)]; omega)]
        · exact ⟨s'.2, he, hI.2.1, hI.2.2⟩
      obtain ⟨u2, d1, d2, d3⟩ := hlet
      have hlen := lets_len a.1 (a.2.2.1.getD k 0)
      obtain ⟨u3, e1, e2, e3⟩ := writes_ok d2 (by rw [List.length_append, List.length_append, List.length_append, show (Wd_ 2).length = 3 from rfl, List.length_singleton]; omega) 59
      refine ⟨(nI (k + 1), u3), ⟨rfl, ?_, d3.tr e3⟩, ?_⟩
      · rw [P2_succ hk', stL]
        simpa [List.append_assoc] using e2
      · rw [X11_spell_B111, hmany, if_neg (by rw [nle (by omega) (by omega)]; omega), show (2 : Int32) = nI 2 from rfl, c1, sbind, d1, X11_spell_T162, show (59 : Int32) = nI 59 from rfl, e1, sbind, nI_1]
    · obtain ⟨z, τ⟩ := s
      obtain ⟨g1, g2, g3⟩ := hi
      simp only at g1 g2 g3
      subst g1
      have hmany : X11_many τ = nI a.2.2.1.length := (hRow τ g3).2.2.1
      show X11_spell_B111 _ rec (nI a.2.2.1.length, τ) = _
      rw [X11_spell_B111, hmany, if_pos (by rw [nle (by omega) (by omega)]; omega)]
    · exact ⟨s'.2, he, hI.2.1, hI.2.2⟩
  obtain ⟨ρ5, v1, v2, v3⟩ := hw2
  refine ⟨ρ5, ?_, v2, v3⟩
  rw [X11_spell, if_pos hx, ← hρ0, show (0 : Int32) = nI 0 from rfl, a1, sbind, (hRow ρ1 m1).2.1, show (48 : Int32) = nI 48 from rfl, nI_add, b1, sbind, show (59 : Int32) = nI 59 from rfl, c1, sbind, show (nI 0 : Int32) = 0 from rfl, w1, X11_spell_T109, v1]
theorem q_spell {σ : Wd} {a : St} {hs : List St} {tp : List Nat} (hC : CR σ a hs tp) (hM : MR σ a hs tp) (hw : wf a) (x : Int32) : ∃ r σ1 σ2, X10_spell σ x = some (r, σ1) ∧ X11_spell σ1 x = some (r, σ2) ∧ Fr σ σ1 [91, 92] ∧ QO σ1 σ2 a hs tp := by
  by_cases hx : -1 ≤ x
  · obtain ⟨σ1, c1, c2, c3⟩ := spellC_ok hC.st hw
    have hM1 : MR σ1 a hs tp := hM.hi (fun q hq => c3 q (by simp; omega))
    obtain ⟨ρ, d1, d2, d3⟩ := spellM_ok hM1 hw hx
    have hl := spl_len hw
    have qo : QO σ1 ρ a hs tp := ⟨fun q hq => d3.2 q (by omega) (by omega), hM1.cg (d3.2 _ (by decide) (by decide)) (d3.2 _ (by decide) (by decide)) (d3.2 _ (by decide) (by decide)) (d3.2 _ (by decide) (by decide)) (d3.1 _ (by decide)) (d3.1 _ (by decide))⟩
    have hcls : X10_spell σ x = (if x = (-1) then some (nI (spl a).length, σ1) else (if nI (spl a).length ≤ x then some ((-2), σ1) else ((X4_at σ1 91 x).bind fun t5 => some (t5, σ1)))) := by
      rw [X10_spell, if_pos hx, c1, sbind, c2.1]
    have hmod : X11_spell σ1 x = (if x = (-1) then some (nI (spl a).length, ρ) else (if nI (spl a).length ≤ x then some ((-2), ρ) else (ckA x 400 <| some (ρ 137 x.toNatClampNeg, ρ)))) := by
      rw [d1, X11_spell_T174, d2.1]
    by_cases e1 : x = -1
    · exact ⟨_, σ1, ρ, by rw [hcls, if_pos e1], by rw [hmod, if_pos e1], c3, qo⟩
    · rcases nn_ix x with hn | ⟨j, hj, rfl⟩
      · exfalso
        rw [Int32.lt_iff_toInt_lt] at hn
        rw [Int32.le_iff_toInt_le] at hx
        have h0 : (0 : Int32).toInt = 0 := by decide
        have h1 : (-1 : Int32).toInt = -1 := by decide
        exact e1 (Int32.toInt_inj.mp (by omega))
      · by_cases e2 : (spl a).length ≤ j
        · exact ⟨-2, σ1, ρ, by rw [hcls, if_neg e1, if_pos (by rw [nle (by omega) hj]; exact e2)], by rw [hmod, if_neg e1, if_pos (by rw [nle (by omega) hj]; exact e2)], c3, qo⟩
        · exact ⟨nI ((spl a).getD j 0), σ1, ρ, by rw [hcls, if_neg e1, if_neg (by rw [nle (by omega) hj]; exact e2), row_at_in c2 (by rw [show kLn (91 + 1) = 300 from rfl]; omega) (by decide) (by omega), sbind], by rw [hmod, if_neg e1, if_neg (by rw [nle (by omega) hj]; exact e2), ckA_n (by omega) (by omega), ncl (by omega), d2.2 j (by omega)], c3, qo⟩
  · exact ⟨-1, σ, σ, by rw [X10_spell, if_neg hx], by rw [X11_spell, if_neg hx], Fr.rf _ _, QO.no hM⟩
