/-! fewest -/
def FR (τ : Wd) (f : Nat → Nat) : Prop := ∀ t, t < 128 → τ 135 t = nI (f t)
def Snd (gs : List Nat) (f : Nat → Nat) : Prop := ∀ t, t < 128 → f t = 128 ∨ (f t ≤ 127 ∧ Rch gs (f t) t)
theorem Snd.le {gs : List Nat} {f : Nat → Nat} (h : Snd gs f) {t : Nat} (ht : t < 128) : f t ≤ 128 := by
  rcases h t ht with h | h <;> omega
def SW (gs : List Nat) (F0 f : Nat → Nat) (b : Int32) : Prop := Snd gs f ∧ (∀ t, t < 128 → f t ≤ F0 t) ∧ ((b = 0 ∧ ∀ t, t < 128 → f t = F0 t) ∨ (b = 1 ∧ ∃ t, t < 128 ∧ f t < F0 t))
theorem few_in {σ : Wd} {a : St} (hw : wf a) (hr : MRow (σ 121) a) {F0 f : Nat → Nat} {b : Int32} {s : Nat} (hs : s < 128) (hf : FR σ f) (hS : SW a.2.2.1 F0 f b) (kx : Int32 → Wd → Option (Int32 × Wd)) : ∃ b' τ f', lp (X11_fewest_B62 (nI s) kx) FU (b, 0, σ) = kx b' τ ∧ FR τ f' ∧ SW a.2.2.1 F0 f' b' ∧ (∀ t, t < 128 → f' t ≤ f t) ∧ (∀ i, i < a.2.2.1.length → f' (s ||| a.2.2.1.getD i 0) ≤ F0 s + 1) ∧ Fr σ τ [135] := by
  have h12 := hw.2.2.1.1
  have hg := wf_lt hw
  refine lp_c (body := X11_fewest_B62 (nI s) kx) (b, 0, σ) (fun j st => st.2.1 = nI j ∧ Fr σ st.2.2 [135] ∧ ∃ f', FR st.2.2 f' ∧ SW a.2.2.1 F0 f' st.1 ∧ (∀ t, t < 128 → f' t ≤ f t) ∧ (∀ i, i < j → f' (s ||| a.2.2.1.getD i 0) ≤ F0 s + 1)) a.2.2.1.length (fun st => kx st.1 st.2.2) ⟨nI_0.symm, Fr.rf _ _, f, hf, hS, fun _ _ => Nat.le_refl _, fun i hi => by omega⟩ (by omega) (fun j st hj hi => ?_) (fun st hi rec => ?_) (fun s' hI he => ?_)
  · obtain ⟨b1, x, τ⟩ := st
    obtain ⟨g1, g2, f1, g3, g4, g5, g6⟩ := hi
    simp only at g1 g2 g3 g4 g5 g6
    subst g1
    have hrτ : MRow (τ 121) a := by rw [g2 121 (by simp)]; exact hr
    have hmany : X11_many τ = nI a.2.2.1.length := hrτ.2.2.1
    have hgj : a.2.2.1.getD j 0 ∈ a.2.2.1 := by rw [getD_lt hj]; exact List.getElem_mem hj
    have hg8 := hg _ hgj
    obtain ⟨u, hu⟩ : ∃ u, u = s ||| a.2.2.1.getD j 0 := ⟨_, rfl⟩
    have hu8 : u < 128 := hu ▸ or_lt hs hg8
    have l1 := g4.1.le hs
    have l2 := g4.1.le hu8
    have hB : ∀ rec, X11_fewest_B62 (nI s) kx rec (b1, nI j, τ) = if f1 s + 1 < f1 u then rec (1, nI (j + 1), up τ 135 u (nI (f1 s + 1))) else rec (b1, nI (j + 1), τ) := by
      intro rec
      rw [X11_fewest_B62, hmany, if_neg (by rw [nle (by omega) (by omega)]; omega), ckA_n hs (by omega), gen_ok hrτ hj, sbind, sbind, f_or s hs _ hg8, ← hu, ckA_n hu8 (by omega), ncl (by omega), ncl (by omega), g3 s hs, g3 u hu8, nI_1, ckA_n hs (by omega), ckA_n hu8 (by omega), X11_fewest_J121, X11_fewest_J121, nI_1]
      by_cases e : f1 s + 1 < f1 u
      · rw [if_pos (by rw [nlt (by omega) (by omega)]; exact e), if_pos e]
      · rw [if_neg (by rw [nlt (by omega) (by omega)]; exact e), if_neg e]
    by_cases e : f1 s + 1 < f1 u
    · obtain ⟨f2, hf2⟩ : ∃ f2 : Nat → Nat, ∀ t, f2 t = if t = u then f1 s + 1 else f1 t := ⟨fun t => if t = u then f1 s + 1 else f1 t, fun _ => rfl⟩
      have hle : ∀ t, t < 128 → f2 t ≤ f1 t := fun t ht => by
        rw [hf2]
        by_cases et : t = u
        · rw [if_pos et, et]; omega
        · rw [if_neg et]; exact Nat.le_refl _
      refine ⟨(1, nI (j + 1), up τ 135 u (nI (f1 s + 1))), ⟨rfl, (g2.tr (Fr.up (ps := [135]) (by simp))).mono (by simp), f2, fun t ht => ?_, ⟨fun t ht => ?_, fun t ht => Nat.le_trans (hle t ht) (g4.2.1 t ht), Or.inr ⟨rfl, u, hu8, ?_⟩⟩, fun t ht => Nat.le_trans (hle t ht) (g5 t ht), fun i hi => ?_⟩, fun rec => by rw [hB, if_pos e]⟩
      · show up τ 135 u (nI (f1 s + 1)) 135 t = _
        rw [up_at, hf2]; unfold upd
        by_cases et : t = u
        · rw [if_pos et, if_pos et]
        · rw [if_neg et, if_neg et]; exact g3 t ht
      · rw [hf2]
        by_cases et : t = u
        · rw [if_pos et]
          right
          refine ⟨by omega, ?_⟩
          rcases g4.1 s hs with h | ⟨h1, h2⟩
          · omega
          · rw [et, hu]; exact rch_snoc h2 hgj
        · rw [if_neg et]; exact g4.1 t ht
      · rw [hf2, if_pos rfl]
        have := g4.2.1 u hu8
        omega
      · by_cases ei : i = j
        · rw [ei, ← hu, hf2, if_pos rfl]
          have := g4.2.1 s hs
          omega
        · have hi' : i < a.2.2.1.length := by omega
          have : s ||| a.2.2.1.getD i 0 < 128 := or_lt hs (by rw [getD_lt hi']; exact hg _ (List.getElem_mem hi'))
          exact Nat.le_trans (hle _ this) (g6 i (by omega))
    · refine ⟨(b1, nI (j + 1), τ), ⟨rfl, g2, f1, g3, g4, g5, fun i hi => ?_⟩, fun rec => by rw [hB, if_neg e]⟩
      by_cases ei : i = j
      · rw [ei, ← hu]
        have := g4.2.1 s hs
        omega
      · exact g6 i (by omega)
  · obtain ⟨b1, x, τ⟩ := st
    obtain ⟨g1, g2, f1, g3, g4, g5, g6⟩ := hi
    simp only at g1 g2 g3 g4 g5 g6
    subst g1
    have hrτ : MRow (τ 121) a := by rw [g2 121 (by simp)]; exact hr
    have hmany : X11_many τ = nI a.2.2.1.length := hrτ.2.2.1
    show X11_fewest_B62 (nI s) kx rec (b1, nI a.2.2.1.length, τ) = _
    rw [X11_fewest_B62, hmany, if_pos (by rw [nle (by omega) (by omega)]; omega)]
  · obtain ⟨g1, g2, f1, g3, g4, g5, g6⟩ := hI
    exact ⟨s'.1, s'.2.2, f1, he, g3, g4, g5, g6, g2⟩
theorem few_sweep {σ : Wd} {a : St} (hw : wf a) (hr : MRow (σ 121) a) {F0 : Nat → Nat} (hf : FR σ F0) (hS : Snd a.2.2.1 F0) (kx : Int32 → Wd → Option (Int32 × Wd)) : ∃ b' τ f', lp (X11_fewest_B52 kx) FU (0, 0, σ) = kx b' τ ∧ FR τ f' ∧ SW a.2.2.1 F0 f' b' ∧ (∀ s, s < 128 → ∀ i, i < a.2.2.1.length → f' (s ||| a.2.2.1.getD i 0) ≤ F0 s + 1) ∧ Fr σ τ [135] := by
  have h12 := hw.2.2.1.1
  have hg := wf_lt hw
  refine lp_cr (body := X11_fewest_B52 kx) (0, 0, σ) (fun k st => st.2.1 = nI k ∧ Fr σ st.2.2 [135] ∧ ∃ f', FR st.2.2 f' ∧ SW a.2.2.1 F0 f' st.1 ∧ (∀ s, s < k → ∀ i, i < a.2.2.1.length → f' (s ||| a.2.2.1.getD i 0) ≤ F0 s + 1)) 128 (fun st => kx st.1 st.2.2) ⟨nI_0.symm, Fr.rf _ _, F0, hf, ⟨hS, fun _ _ => Nat.le_refl _, Or.inl ⟨rfl, fun _ _ => rfl⟩⟩, fun s hs => by omega⟩ (by omega) (fun k st rec hk hi => ?_) (fun st rec hi => ?_) (fun s' hI he => ?_)
  · obtain ⟨b1, x, τ⟩ := st
    obtain ⟨g1, g2, f1, g3, g4, g5⟩ := hi
    simp only at g1 g2 g3 g4 g5
    subst g1
    obtain ⟨b', τ', f', q1, q2, q3, q4, q5, q6⟩ := few_in (σ := τ) hw (by rw [g2 121 (by simp)]; exact hr) hk g3 g4 (X11_fewest_T127 rec (nI k))
    refine ⟨(b', nI (k + 1), τ'), ⟨rfl, (g2.tr q6).mono (by simp), f', q2, q3, fun s hs i hi => ?_⟩, ?_⟩
    · by_cases es : s = k
      · rw [es]; exact q5 i hi
      · have : s ||| a.2.2.1.getD i 0 < 128 := or_lt (by omega) (by rw [getD_lt hi]; exact hg _ (List.getElem_mem hi))
        exact Nat.le_trans (q4 _ this) (g5 s (by omega) i hi)
    · rw [X11_fewest_B52, if_neg (le128 hk), q1, X11_fewest_T127, nI_1]
  · obtain ⟨b1, x, τ⟩ := st
    obtain ⟨g1, g2, f1, g3, g4, g5⟩ := hi
    simp only at g1 g2 g3 g4 g5
    subst g1
    show X11_fewest_B52 kx rec (b1, nI 128, τ) = _
    rw [X11_fewest_B52, if_pos ge128]
  · obtain ⟨g1, g2, f1, g3, g4, g5⟩ := hI
    exact ⟨s'.1, s'.2.2, f1, he, g3, g4, g5, g2⟩
theorem few_min {gs : List Nat} {f g : Nat → Nat} (hg : ∀ x ∈ gs, x < 128) (h : ∀ s, s < 128 → ∀ i, i < gs.length → f (s ||| gs.getD i 0) ≤ g s + 1) {S : List Nat} {x : Nat} (hx : x ∈ gs) (hS : ∀ y ∈ S, y ∈ gs) : f (un (x :: S)) ≤ g (un S) + 1 := by
  obtain ⟨i, hi, rfl⟩ := List.getElem_of_mem hx
  rw [un_cons, Nat.or_comm]
  have := h (un S) (un_lt (fun y hy => hg y (hS y hy))) i hi
  rwa [getD_lt hi] at this
theorem few_loop {σ : Wd} {a : St} (hw : wf a) (hr : MRow (σ 121) a) {F : Nat → Int32} (hF : FwR a.2.2.1 20 F) {F0 : Nat → Nat} (hf : FR σ F0) (hS : Snd a.2.2.1 F0) (h0 : F0 0 = 0) (kx : Wd → Option (Int32 × Wd)) : ∃ τ f, lp (X11_fewest_B44 kx) FU (1, σ) = kx τ ∧ FR τ f ∧ Snd a.2.2.1 f ∧ (∀ S : List Nat, (∀ x ∈ S, x ∈ a.2.2.1) → f (un S) ≤ S.length) ∧ Fr σ τ [135] := by
  have hg := wf_lt hw
  have key := lp_qr (body := X11_fewest_B44 kx) (fun k st => Fr σ st.2 [135] ∧ ∃ f, FR st.2 f ∧ Snd a.2.2.1 f ∧ f 0 = 0 ∧ (∀ S : List Nat, (∀ x ∈ S, x ∈ a.2.2.1) → S.length ≤ k → f (un S) ≤ S.length) ∧ ((st.1 = 0 ∧ ∀ S : List Nat, (∀ x ∈ S, x ∈ a.2.2.1) → f (un S) ≤ S.length) ∨ (st.1 = 1 ∧ k ≤ 20))) 21 (fun r => ∃ τ f, r = kx τ ∧ FR τ f ∧ Snd a.2.2.1 f ∧ (∀ S : List Nat, (∀ x ∈ S, x ∈ a.2.2.1) → f (un S) ≤ S.length) ∧ Fr σ τ [135]) (s := (1, σ)) ⟨Fr.rf _ _, F0, hf, hS, h0, fun S _ hl => ?_, Or.inr ⟨rfl, by omega⟩⟩ (by omega) (fun k st rec hk hi => ?_) (fun st rec hi => ?_)
  · exact key
  · have : S = [] := List.length_eq_zero_iff.mp (by omega)
    subst this
    show F0 (un []) ≤ 0
    rw [show un [] = 0 from rfl, h0]; exact Nat.le_refl _
  · obtain ⟨b1, τ⟩ := st
    obtain ⟨g1, f1, g2, g3, g4, g5, g6⟩ := hi
    simp only at g1 g2 g6
    rcases g6 with ⟨rfl, g6⟩ | ⟨rfl, g6⟩
    · right
      exact ⟨τ, f1, by rw [X11_fewest_B44, if_pos rfl], g2, g3, g6, g1⟩
    · left
      obtain ⟨b', τ', f', q1, q2, q3, q4, q5⟩ := few_sweep (σ := τ) hw (by rw [g1 121 (by simp)]; exact hr) g2 g3 (X11_fewest_T133 rec)
      refine ⟨(b', τ'), ⟨(g1.tr q5).mono (by simp), f', q2, q3.1, ?_, ?_, ?_⟩, ?_⟩
      · have := q3.2.1 0 (by omega); omega
      · intro S hSS hl
        cases S with
        | nil =>
          have := q3.2.1 0 (by omega)
          show f' 0 ≤ 0
          omega
        | cons x r =>
          have h1 := few_min (S := r) hg q4 (hSS x (by simp)) (fun y hy => hSS y (by simp [hy]))
          simp only [List.length_cons] at hl
          have h2 := g5 r (fun y hy => hSS y (by simp [hy])) (by omega)
          simp only [List.length_cons]
          omega
      · rcases q3.2.2 with ⟨rfl, heq⟩ | ⟨rfl, t, ht, hlt⟩
        · left
          refine ⟨rfl, fun S => ?_⟩
          induction S with
          | nil =>
            intro _
            have := q3.2.1 0 (by omega)
            show f' 0 ≤ 0
            omega
          | cons x r ih =>
            intro hSS
            have hr' : ∀ y ∈ r, y ∈ a.2.2.1 := fun y hy => hSS y (by simp [hy])
            have h1 := few_min hg q4 (hSS x (by simp)) hr'
            have h2 := ih hr'
            rw [heq _ (un_lt (fun y hy => hg y (hr' y hy)))] at h2
            simp only [List.length_cons]
            omega
        · right
          refine ⟨rfl, ?_⟩
          show k + 1 ≤ 20
          rcases Nat.lt_or_ge k 20 with hh | hh
          · omega
          · exfalso
            have hle := q3.1.le ht
            have hle2 := g3.le ht
            rcases q3.1 t ht with h | ⟨-, S, s1, s2, s3⟩
            · omega
            · obtain ⟨c, c1, c2, c3⟩ := hF.2 S s1
              rcases hF.1 t ht with h | ⟨c', d1, d2, S', e1, e2, e3⟩
              · rw [s3] at c1
                rw [c1] at h
                have := nneg (a := c) (by omega)
                rw [h] at this
                exact this (by decide)
              · rw [s3] at c1
                rw [c1] at d1
                have : c = c' := (neq (by omega) (by omega)).mp d1
                have h5 := g5 S' e1 (by omega)
                rw [e3, e2] at h5
                omega
      · rw [X11_fewest_B44, if_neg (by decide), q1, X11_fewest_T133]
  · obtain ⟨b1, τ⟩ := st
    obtain ⟨g1, f1, g2, g3, g4, g5, g6⟩ := hi
    simp only at g1 g2 g6
    rcases g6 with ⟨rfl, g6⟩ | ⟨rfl, g6⟩
    · exact ⟨τ, f1, by rw [X11_fewest_B44, if_pos rfl], g2, g3, g6, g1⟩
    · omega
theorem q_fewest {σ : Wd} {a : St} {hs : List St} {tp : List Nat} (hC : CR σ a hs tp) (hM : MR σ a hs tp) (hw : wf a) (x : Int32) : ∃ r σ2, X10_fewest σ x = some r ∧ X11_fewest σ x = some (r, σ2) ∧ QO σ σ2 a hs tp := by
  have h2 := p2_le hw.1.2
  rcases pk_ix x (n := 2 ^ a.1) (by omega) with hx | hx | ⟨t, ht, rfl⟩
  · exact ⟨-1, σ, by rw [X10_fewest, c_setN hC.st hw (Or.inl hx)]; rfl, by rw [X11_fewest, m_setN hM.row hw (Or.inl hx)]; rfl, QO.no hM⟩
  · exact ⟨-1, σ, by rw [X10_fewest, c_setN hC.st hw (Or.inr hx)]; rfl, by rw [X11_fewest, m_setN hM.row hw (Or.inr hx)]; rfl, QO.no hM⟩
  have ht8 : t < 128 := by omega
  obtain ⟨F0, hF0⟩ : ∃ F0 : Nat → Nat, ∀ t, F0 t = if t = 0 then 0 else 128 := ⟨fun t => if t = 0 then 0 else 128, fun _ => rfl⟩
  have hini : ∃ σ1, lp (X11_fewest_B12 (X11_fewest_T42 (nI t))) FU (0, σ) = X11_fewest_T42 (nI t) σ1 ∧ FR σ1 F0 ∧ Fr σ σ1 [135] := by
    refine lp_c (body := X11_fewest_B12 (X11_fewest_T42 (nI t))) (0, σ) (fun k st => st.1 = nI k ∧ (∀ u, u < k → st.2 135 u = nI (F0 u)) ∧ Fr σ st.2 [135]) 128 (fun st => X11_fewest_T42 (nI t) st.2) ⟨nI_0.symm, fun u hu => by omega, Fr.rf _ _⟩ (by omega) (fun k st hk hi => ?_) (fun st hi rec => ?_) (fun s' hI he => ?_)
    · obtain ⟨x, τ⟩ := st
      obtain ⟨g1, g2, g3⟩ := hi
      simp only at g1 g2 g3
      subst g1
      refine ⟨(nI (k + 1), up τ 135 k (nI (F0 k))), ⟨rfl, fun u hu => ?_, (g3.tr (Fr.up (ps := [135]) (by simp))).mono (by simp)⟩, fun rec => ?_⟩
      · show up τ 135 k (nI (F0 k)) 135 u = _
        rw [up_at]; unfold upd
        by_cases e : u = k
        · rw [if_pos e, e]
        · rw [if_neg e]; exact g2 u (by omega)
      · rw [X11_fewest_B12, if_neg (le128 hk), ckA_n hk (by omega), ckA_n hk (by omega), ncl (by omega), X11_fewest_J36, X11_fewest_J36, nI_1, hF0]
        by_cases e : k = 0
        · rw [if_pos (by rw [e]; exact nI_0), if_pos e]; rfl
        · rw [if_neg (nI_ne0 (by omega) (by omega)), if_neg e]; rfl
    · obtain ⟨x, τ⟩ := st
      have g1 : x = nI 128 := hi.1
      subst g1
      show X11_fewest_B12 _ rec (nI 128, τ) = _
      rw [X11_fewest_B12, if_pos ge128]
    · exact ⟨s'.2, he, hI.2.1, hI.2.2⟩
  obtain ⟨σ1, i1, i2, i3⟩ := hini
  have hS0 : Snd a.2.2.1 F0 := fun u hu => by
    rw [hF0]
    by_cases e : u = 0
    · rw [if_pos e, e]; exact Or.inr ⟨by omega, [], by simp, rfl, rfl⟩
    · rw [if_neg e]; exact Or.inl rfl
  obtain ⟨τ, f, l1, l2, l3, l4, l5⟩ := few_loop (σ := σ1) hw (by rw [i3 121 (by simp)]; exact hM.row) hC.fam.few i2 hS0 (by rw [hF0]; rfl) (X11_fewest_T136 (nI t))
  have hfr : Fr σ τ [135] := (i3.tr l5).mono (by simp)
  have hmod : X11_fewest σ (nI t) = if nI (f t) = 128 then some (-2, τ) else some (nI (f t), τ) := by
    rw [X11_fewest, m_set hM.row hw ht, if_neg (by decide), i1, X11_fewest_T42, l1, X11_fewest_T136, ckA_n ht8 (by omega), ckA_n ht8 (by omega), ncl (by omega), l2 t ht8]
  have hcls : X10_fewest σ (nI t) = some (σ 100 t) := by
    rw [X10_fewest, c_set hC.st hw ht, if_neg (by decide), X0_fewestFor, if_neg (nneg (by omega)), if_neg (le128 ht8), ckA_n ht8 (by omega), ncl (by omega), sbind]
  have hqo : QO σ τ a hs tp := QO.fr (Same.rf σ) hM hfr (by simp)
  have hfle := l3.le ht8
  refine ⟨σ 100 t, τ, hcls, ?_, hqo⟩
  rw [hmod]
  rcases hC.fam.few.1 t ht8 with h | ⟨c, c1, c2, S, s1, s2, s3⟩
  · rcases l3 t ht8 with h' | ⟨h', S, s1, s2, s3⟩
    · rw [h, h', if_pos (by decide)]
    · exfalso
      obtain ⟨c, c1, c2, c3⟩ := hC.fam.few.2 S s1
      rw [s3, h] at c1
      have := nneg (a := c) (by omega)
      rw [← c1] at this
      exact this (by decide)
  · have h1 := l4 S s1
    rw [s3, s2] at h1
    rcases l3 t ht8 with h' | ⟨h', S', s1', s2', s3'⟩
    · omega
    · obtain ⟨c', d1, d2, d3⟩ := hC.fam.few.2 S' s1'
      rw [s3', c1] at d1
      have : c = c' := (neq (by omega) (by omega)).mp d1
      rw [if_neg (by rw [show (128 : Int32) = nI 128 from rfl, neq (by omega) (by omega)]; omega), c1]
      have : f t = c := by omega
      rw [this]
