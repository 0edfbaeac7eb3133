/-! family, count -/
def KO (gs : List Nat) (σ σ1 : Wd) : Prop := (∀ q, ((1 ≤ q ∧ q ≤ 6) ∨ (13 ≤ q ∧ q ≤ 88) ∨ (93 ≤ q ∧ q ≤ 102) ∨ 120 ≤ q) → σ1 q = σ q) ∧ (OrdC gs σ → OrdC gs σ1) ∧ (SprC gs σ → SprC gs σ1)
theorem KO.rf (gs : List Nat) (σ : Wd) : KO gs σ σ := ⟨fun _ _ => rfl, id, id⟩
theorem KO.fr {gs : List Nat} {σ σ1 : Wd} {ps : List Nat} (h : Fr σ σ1 ps) (hp : ∀ q ∈ ps, (89 ≤ q ∧ q ≤ 92) ∨ (108 ≤ q ∧ q ≤ 119)) : KO gs σ σ1 := by
  have g : ∀ q, (q < 89 ∨ (93 ≤ q ∧ q ≤ 107) ∨ 120 ≤ q) → σ1 q = σ q := fun q hq => h q (fun hm => by have := hp q hm; omega)
  refine ⟨fun q hq => g q (by omega), fun ho => ho.cg (g _ (by omega)) (g _ (by omega)) (g _ (by omega)) (g _ (by omega)), fun hs => ?_⟩
  unfold SprC at *
  rw [g 107 (by omega)]; exact hs
theorem KO.ord {gs : List Nat} {σ σ1 : Wd} (h : Fr σ σ1 [103, 104, 105, 106]) (ho : OrdC gs σ1) : KO gs σ σ1 := by
  have g : ∀ q, (q < 103 ∨ 106 < q) → σ1 q = σ q := fun q hq => h q (by simp; omega)
  refine ⟨fun q hq => g q (by omega), fun _ => ho, fun hs => ?_⟩
  unfold SprC at *
  rw [g 107 (by omega)]; exact hs
theorem KO.spr {gs : List Nat} {σ σ1 : Wd} (h : Fr σ σ1 [107, 108, 109, 110, 111]) (hs : SprC gs σ1) : KO gs σ σ1 := by
  have g : ∀ q, (q < 107 ∨ 111 < q) → σ1 q = σ q := fun q hq => h q (by simp; omega)
  exact ⟨fun q hq => g q (by omega), fun ho => ho.cg (g _ (by omega)) (g _ (by omega)) (g _ (by omega)) (g _ (by omega)), fun _ => hs⟩
theorem basedMany_ok {σ : Wd} {gs : List Nat} (h : LayR σ gs) : X11_basedMany σ = some (nI (bas gs).length) := by
  unfold X11_basedMany bas
  rw [← List.countP_eq_length_filter]
  refine lp_cnt (mems gs) (basB gs) (fun n k => (nI n, nI k)) (fun n => some (nI n)) (by rw [nI_0]) (mems_4096 gs) (fun k n hk hn rec => ?_) (fun n hn rec => ?_)
  · have hm := mem_at_lt hk
    have hk8 := k128 hk
    have hfm : famB gs (mems gs)[k] = true := (List.mem_filter.mp (List.getElem_mem hk)).2
    have hb := based_ok h hm
    rw [hfm, Bool.true_and] at hb
    show X11_basedMany_B4 σ rec (nI n, nI k) = rec (nI _, nI (k + 1))
    rw [X11_basedMany_B4, if_neg (lay_go h hk), ckA_n hk8 (by omega), ncl (by omega), lay_at h hk, hb, sbind, X11_basedMany_J28, X11_basedMany_J28, nI_1, nI_1]
    by_cases e : basB gs (mems gs)[k] = true
    · rw [if_pos e, if_neg (by decide), if_pos e]
    · rw [if_neg e, if_pos rfl, if_neg e]
  · show X11_basedMany_B4 σ rec (nI n, nI (mems gs).length) = _
    rw [X11_basedMany_B4, if_pos (lay_stop h)]
theorem fam_0 {σ : Wd} {a : St} {hs : List St} {tp : List Nat} (hC : CR σ a hs tp) (hM : MR σ a hs tp) (hw : wf a) (hO : OrdC a.2.2.1 σ) (hSp : SprC a.2.2.1 σ) : ∃ r σ1 σ2, X10_family σ (nI 0) = some (r, σ1) ∧ X11_family σ1 (nI 0) = some (r, σ2) ∧ KO a.2.2.1 σ σ1 ∧ QO σ1 σ2 a hs tp := by
  have hg := wf_lt hw
  have h7 := hw.1.2
  have hm := hC.fam.mem
  have hp := mems_pos hg
  have hl := mems_len a.2.2.1
  obtain ⟨τ, e1, l1, m1, s1, f1⟩ := lays_MR hM hw
  exact ⟨_, σ, τ, by rw [X10_family, if_pos (by decide), hm.1], by rw [X11_family, e1, sbind, if_pos (by decide), l1.2.1], KO.rf _ _, s1, m1⟩
theorem fam_1 {σ : Wd} {a : St} {hs : List St} {tp : List Nat} (hC : CR σ a hs tp) (hM : MR σ a hs tp) (hw : wf a) (hO : OrdC a.2.2.1 σ) (hSp : SprC a.2.2.1 σ) : ∃ r σ1 σ2, X10_family σ (nI 1) = some (r, σ1) ∧ X11_family σ1 (nI 1) = some (r, σ2) ∧ KO a.2.2.1 σ σ1 ∧ QO σ1 σ2 a hs tp := by
  have hg := wf_lt hw
  have h7 := hw.1.2
  have hm := hC.fam.mem
  have hp := mems_pos hg
  have hl := mems_len a.2.2.1
  obtain ⟨τ, e1, l1, m1, s1, f1⟩ := lays_MR hM hw
  exact ⟨_, σ, τ, by rw [X10_family, if_neg (by decide), if_pos (by decide), top_c hg hm, sbind], by rw [X11_family, e1, sbind, if_neg (by decide), if_pos (by decide), top_m hg l1, sbind], KO.rf _ _, s1, m1⟩
theorem fam_2 {σ : Wd} {a : St} {hs : List St} {tp : List Nat} (hC : CR σ a hs tp) (hM : MR σ a hs tp) (hw : wf a) (hO : OrdC a.2.2.1 σ) (hSp : SprC a.2.2.1 σ) : ∃ r σ1 σ2, X10_family σ (nI 2) = some (r, σ1) ∧ X11_family σ1 (nI 2) = some (r, σ2) ∧ KO a.2.2.1 σ σ1 ∧ QO σ1 σ2 a hs tp := by
  have hg := wf_lt hw
  have h7 := hw.1.2
  have hm := hC.fam.mem
  have hp := mems_pos hg
  have hl := mems_len a.2.2.1
  obtain ⟨τ, e1, l1, m1, s1, f1⟩ := lays_MR hM hw
  exact ⟨_, σ, τ, by rw [X10_family, if_neg (by decide), if_neg (by decide), if_pos (by decide), hC.fam.bas.1], by rw [X11_family, e1, sbind, if_neg (by decide), if_neg (by decide), if_pos (by decide), basedMany_ok l1, sbind], KO.rf _ _, s1, m1⟩
theorem fam_3 {σ : Wd} {a : St} {hs : List St} {tp : List Nat} (hC : CR σ a hs tp) (hM : MR σ a hs tp) (hw : wf a) (hO : OrdC a.2.2.1 σ) (hSp : SprC a.2.2.1 σ) : ∃ r σ1 σ2, X10_family σ (nI 3) = some (r, σ1) ∧ X11_family σ1 (nI 3) = some (r, σ2) ∧ KO a.2.2.1 σ σ1 ∧ QO σ1 σ2 a hs tp := by
  have hg := wf_lt hw
  have h7 := hw.1.2
  have hm := hC.fam.mem
  have hp := mems_pos hg
  have hl := mems_len a.2.2.1
  obtain ⟨τ, e1, l1, m1, s1, f1⟩ := lays_MR hM hw
  exact ⟨_, σ, τ, by rw [X10_family, if_neg (by decide), if_neg (by decide), if_neg (by decide), if_pos (by decide), frqC_ok hC.fam h7, sbind], by rw [X11_family, e1, sbind, if_neg (by decide), if_neg (by decide), if_neg (by decide), if_pos (by decide), freqSet_lay l1 h7 m1.row.2.1, sbind], KO.rf _ _, s1, m1⟩
theorem fam_4 {σ : Wd} {a : St} {hs : List St} {tp : List Nat} (hC : CR σ a hs tp) (hM : MR σ a hs tp) (hw : wf a) (hO : OrdC a.2.2.1 σ) (hSp : SprC a.2.2.1 σ) : ∃ r σ1 σ2, X10_family σ (nI 4) = some (r, σ1) ∧ X11_family σ1 (nI 4) = some (r, σ2) ∧ KO a.2.2.1 σ σ1 ∧ QO σ1 σ2 a hs tp := by
  have hg := wf_lt hw
  have h7 := hw.1.2
  have hm := hC.fam.mem
  have hp := mems_pos hg
  have hl := mems_len a.2.2.1
  obtain ⟨τ, e1, l1, m1, s1, f1⟩ := lays_MR hM hw
  exact ⟨_, σ, τ, by rw [X10_family, if_neg (by decide), if_neg (by decide), if_neg (by decide), if_neg (by decide), if_pos (by decide), rankC_ok hC.fam h7, sbind], by rw [X11_family, e1, sbind, if_neg (by decide), if_neg (by decide), if_neg (by decide), if_neg (by decide), if_pos (by decide), rankM_ok l1 m1.row.2.1 h7, sbind], KO.rf _ _, s1, m1⟩
theorem fam_5 {σ : Wd} {a : St} {hs : List St} {tp : List Nat} (hC : CR σ a hs tp) (hM : MR σ a hs tp) (hw : wf a) (hO : OrdC a.2.2.1 σ) (hSp : SprC a.2.2.1 σ) : ∃ r σ1 σ2, X10_family σ (nI 5) = some (r, σ1) ∧ X11_family σ1 (nI 5) = some (r, σ2) ∧ KO a.2.2.1 σ σ1 ∧ QO σ1 σ2 a hs tp := by
  have hg := wf_lt hw
  have h7 := hw.1.2
  have hm := hC.fam.mem
  have hp := mems_pos hg
  have hl := mems_len a.2.2.1
  · obtain ⟨v, σ1, c1, c2, c3, c4⟩ := heightC_ok hg hC.fam hO
    have hM1 : MR σ1 a hs tp := hM.hi (fun q hq => c4 q (by simp; omega))
    obtain ⟨τ, e1, l1, m1, s1, f1⟩ := lays_MR hM1 hw
    obtain ⟨w, ρ, d1, d2, d3, d4⟩ := heightM_ok hg l1
    have hvw := up_dn hg c2 d3
    exact ⟨nI v, σ1, ρ, by rw [X10_family, if_neg (by decide), if_neg (by decide), if_neg (by decide), if_neg (by decide), if_neg (by decide), if_pos (by decide), c1, sbind], by rw [X11_family, e1, sbind, if_neg (by decide), if_neg (by decide), if_neg (by decide), if_neg (by decide), if_neg (by decide), if_pos (by decide), d1, sbind, d2, hvw], KO.ord c4 (Or.inr c3), QO.fr s1 m1 d4 (by simp)⟩
theorem fam_6 {σ : Wd} {a : St} {hs : List St} {tp : List Nat} (hC : CR σ a hs tp) (hM : MR σ a hs tp) (hw : wf a) (hO : OrdC a.2.2.1 σ) (hSp : SprC a.2.2.1 σ) : ∃ r σ1 σ2, X10_family σ (nI 6) = some (r, σ1) ∧ X11_family σ1 (nI 6) = some (r, σ2) ∧ KO a.2.2.1 σ σ1 ∧ QO σ1 σ2 a hs tp := by
  have hg := wf_lt hw
  have h7 := hw.1.2
  have hm := hC.fam.mem
  have hp := mems_pos hg
  have hl := mems_len a.2.2.1
  · obtain ⟨π, -, lπ, -, -, -⟩ := lays_MR hM hw
    obtain ⟨v, σ1, c1, c2, c3, c4⟩ := most_ok hg hm lπ hSp
    have hM1 : MR σ1 a hs tp := hM.hi (fun q hq => c4 q (by simp; omega))
    obtain ⟨τ, e1, l1, m1, s1, f1⟩ := lays_MR hM1 hw
    obtain ⟨ρ, d1, d2⟩ := c2 τ l1
    exact ⟨v, σ1, ρ, by rw [X10_family, if_neg (by decide), if_neg (by decide), if_neg (by decide), if_neg (by decide), if_neg (by decide), if_neg (by decide), if_pos (by decide), c1, sbind], by rw [X11_family, e1, sbind, if_neg (by decide), if_neg (by decide), if_neg (by decide), if_neg (by decide), if_neg (by decide), if_neg (by decide), if_pos (by decide), d1, sbind], KO.spr c4 (Or.inr (by rw [c3]; exact c2)), QO.fr s1 m1 d2 (by simp)⟩
theorem fam_7 {σ : Wd} {a : St} {hs : List St} {tp : List Nat} (hC : CR σ a hs tp) (hM : MR σ a hs tp) (hw : wf a) (hO : OrdC a.2.2.1 σ) (hSp : SprC a.2.2.1 σ) : ∃ r σ1 σ2, X10_family σ (nI 7) = some (r, σ1) ∧ X11_family σ1 (nI 7) = some (r, σ2) ∧ KO a.2.2.1 σ σ1 ∧ QO σ1 σ2 a hs tp := by
  have hg := wf_lt hw
  have h7 := hw.1.2
  have hm := hC.fam.mem
  have hp := mems_pos hg
  have hl := mems_len a.2.2.1
  · obtain ⟨σ1, c1, c2, c3⟩ := pairsC_ok hg hC.fam hO
    have hM1 : MR σ1 a hs tp := hM.hi (fun q hq => c3 q (by simp; omega))
    obtain ⟨τ, e1, l1, m1, s1, f1⟩ := lays_MR hM1 hw
    exact ⟨_, σ1, τ, by rw [X10_family, if_neg (by decide), if_neg (by decide), if_neg (by decide), if_neg (by decide), if_neg (by decide), if_neg (by decide), if_neg (by decide), if_pos (by decide), c1, sbind], by rw [X11_family, e1, sbind, if_neg (by decide), if_neg (by decide), if_neg (by decide), if_neg (by decide), if_neg (by decide), if_neg (by decide), if_neg (by decide), if_pos (by decide), pairsM_ok l1, sbind], KO.ord c3 (Or.inr c2), s1, m1⟩
theorem fam_8 {σ : Wd} {a : St} {hs : List St} {tp : List Nat} (hC : CR σ a hs tp) (hM : MR σ a hs tp) (hw : wf a) (hO : OrdC a.2.2.1 σ) (hSp : SprC a.2.2.1 σ) : ∃ r σ1 σ2, X10_family σ (nI 8) = some (r, σ1) ∧ X11_family σ1 (nI 8) = some (r, σ2) ∧ KO a.2.2.1 σ σ1 ∧ QO σ1 σ2 a hs tp := by
  have hg := wf_lt hw
  have h7 := hw.1.2
  have hm := hC.fam.mem
  have hp := mems_pos hg
  have hl := mems_len a.2.2.1
  · obtain ⟨σ1, c1, c2⟩ := depthC_ok h7 hC.fam
    have hM1 : MR σ1 a hs tp := hM.hi (fun q hq => c2 q (by simp; omega))
    obtain ⟨τ, e1, l1, m1, s1, f1⟩ := lays_MR hM1 hw
    obtain ⟨ρ, d1, d2⟩ := depthM_ok h7 l1 m1.row.2.1
    exact ⟨_, σ1, ρ, by rw [X10_family, if_neg (by decide), if_neg (by decide), if_neg (by decide), if_neg (by decide), if_neg (by decide), if_neg (by decide), if_neg (by decide), if_neg (by decide), if_pos (by decide), c1, sbind], by rw [X11_family, e1, sbind, if_neg (by decide), if_neg (by decide), if_neg (by decide), if_neg (by decide), if_neg (by decide), if_neg (by decide), if_neg (by decide), if_neg (by decide), if_pos (by decide), d1, sbind], KO.fr c2 (by simp), QO.fr s1 m1 d2 (by simp)⟩
theorem fam_9 {σ : Wd} {a : St} {hs : List St} {tp : List Nat} (hC : CR σ a hs tp) (hM : MR σ a hs tp) (hw : wf a) (hO : OrdC a.2.2.1 σ) (hSp : SprC a.2.2.1 σ) : ∃ r σ1 σ2, X10_family σ (nI 9) = some (r, σ1) ∧ X11_family σ1 (nI 9) = some (r, σ2) ∧ KO a.2.2.1 σ σ1 ∧ QO σ1 σ2 a hs tp := by
  have hg := wf_lt hw
  have h7 := hw.1.2
  have hm := hC.fam.mem
  have hp := mems_pos hg
  have hl := mems_len a.2.2.1
  obtain ⟨τ, e1, l1, m1, s1, f1⟩ := lays_MR hM hw
  · refine ⟨bI (prfB (wv a) a.2.2.1 a.1), σ, τ, ?_, ?_, KO.rf _ _, s1, m1⟩
    · rw [X10_family, if_neg (by decide), if_neg (by decide), if_neg (by decide), if_neg (by decide), if_neg (by decide), if_neg (by decide), if_neg (by decide), if_neg (by decide), if_neg (by decide), if_pos (by decide), prfC_ok (w := wv a) hg hC.fam h7 rfl (fun p hp => hC.st.2.2.1 p (by omega)) (fun p _ => wv_le hw p), sbind]
      cases prfB (wv a) a.2.2.1 a.1 <;> rfl
    · rw [X11_family, e1, sbind, if_neg (by decide), if_neg (by decide), if_neg (by decide), if_neg (by decide), if_neg (by decide), if_neg (by decide), if_neg (by decide), if_neg (by decide), if_neg (by decide), if_pos (by decide), top_m hg l1, sbind, massM_ok m1.row hw (topv_lt hg), sbind, allM_ok l1 m1.row hw, sbind, sbind, massM_ok m1.row hw (topv_lt hg), sbind, l1.2.1]
      have hpf := prf_fin (w := wv a) (gs := a.2.2.1) (n := a.1) (fun p _ => wv_le hw p) h7
      by_cases e : nI (massN (wv a) (topv a.2.2.1) a.1) ≤ 0
      · rw [if_pos e] at hpf ⊢
        have := Option.some.inj hpf
        unfold bI; rw [← this]
      · rw [if_neg e] at hpf ⊢
        by_cases e' : 2 * nI (wsum (wv a) (cv a.2.2.1) a.1) < nI (massN (wv a) (topv a.2.2.1) a.1) * nI (mems a.2.2.1).length
        · rw [if_pos e'] at hpf ⊢
          have := Option.some.inj hpf
          unfold bI; rw [← this]
        · rw [if_neg e'] at hpf ⊢
          have := Option.some.inj hpf
          unfold bI; rw [← this]
theorem fam_10 {σ : Wd} {a : St} {hs : List St} {tp : List Nat} (hC : CR σ a hs tp) (hM : MR σ a hs tp) (hw : wf a) (hO : OrdC a.2.2.1 σ) (hSp : SprC a.2.2.1 σ) : ∃ r σ1 σ2, X10_family σ (nI 10) = some (r, σ1) ∧ X11_family σ1 (nI 10) = some (r, σ2) ∧ KO a.2.2.1 σ σ1 ∧ QO σ1 σ2 a hs tp := by
  have hg := wf_lt hw
  have h7 := hw.1.2
  have hm := hC.fam.mem
  have hp := mems_pos hg
  have hl := mems_len a.2.2.1
  obtain ⟨τ, e1, l1, m1, s1, f1⟩ := lays_MR hM hw
  exact ⟨_, σ, τ, by rw [X10_family, if_neg (by decide), if_neg (by decide), if_neg (by decide), if_neg (by decide), if_neg (by decide), if_neg (by decide), if_neg (by decide), if_neg (by decide), if_neg (by decide), if_neg (by decide), if_pos (by decide), allC_ok (w := wv a) hC.fam h7 rfl (fun p hp => hC.st.2.2.1 p (by omega)), sbind], by rw [X11_family, e1, sbind, if_neg (by decide), if_neg (by decide), if_neg (by decide), if_neg (by decide), if_neg (by decide), if_neg (by decide), if_neg (by decide), if_neg (by decide), if_neg (by decide), if_neg (by decide), if_pos (by decide), allM_ok l1 m1.row hw, sbind], KO.rf _ _, s1, m1⟩
theorem fam_11 {σ : Wd} {a : St} {hs : List St} {tp : List Nat} (hC : CR σ a hs tp) (hM : MR σ a hs tp) (hw : wf a) (hO : OrdC a.2.2.1 σ) (hSp : SprC a.2.2.1 σ) : ∃ r σ1 σ2, X10_family σ (nI 11) = some (r, σ1) ∧ X11_family σ1 (nI 11) = some (r, σ2) ∧ KO a.2.2.1 σ σ1 ∧ QO σ1 σ2 a hs tp := by
  have hg := wf_lt hw
  have h7 := hw.1.2
  have hm := hC.fam.mem
  have hp := mems_pos hg
  have hl := mems_len a.2.2.1
  · obtain ⟨σ1, c1, c2, c3⟩ := coversC_ok hg hC.fam hO (k := 0) hp true
    rw [nI_0, show bI true = (1 : Int32) from rfl, if_pos rfl, mg_0 hg] at c1
    have hM1 : MR σ1 a hs tp := hM.hi (fun q hq => c3 q (by simp; omega))
    obtain ⟨τ, e1, l1, m1, s1, f1⟩ := lays_MR hM1 hw
    have hd := degM_ok l1 (t := 0) (by decide) true
    rw [nI_0, show bI true = (1 : Int32) from rfl, if_pos rfl] at hd
    exact ⟨_, σ1, τ, by rw [X10_family, if_neg (by decide), if_neg (by decide), if_neg (by decide), if_neg (by decide), if_neg (by decide), if_neg (by decide), if_neg (by decide), if_neg (by decide), if_neg (by decide), if_neg (by decide), if_neg (by decide), if_pos (by decide), c1, sbind], by rw [X11_family, e1, sbind, if_neg (by decide), if_neg (by decide), if_neg (by decide), if_neg (by decide), if_neg (by decide), if_neg (by decide), if_neg (by decide), if_neg (by decide), if_neg (by decide), if_neg (by decide), if_neg (by decide), if_pos (by decide), hd, sbind], KO.ord c3 (Or.inr c2), s1, m1⟩
theorem fam_12 {σ : Wd} {a : St} {hs : List St} {tp : List Nat} (hC : CR σ a hs tp) (hM : MR σ a hs tp) (hw : wf a) (hO : OrdC a.2.2.1 σ) (hSp : SprC a.2.2.1 σ) : ∃ r σ1 σ2, X10_family σ (nI 12) = some (r, σ1) ∧ X11_family σ1 (nI 12) = some (r, σ2) ∧ KO a.2.2.1 σ σ1 ∧ QO σ1 σ2 a hs tp := by
  have hg := wf_lt hw
  have h7 := hw.1.2
  have hm := hC.fam.mem
  have hp := mems_pos hg
  have hl := mems_len a.2.2.1
  · obtain ⟨σ1, c1, c2, c3⟩ := coversC_ok hg hC.fam hO (k := (mems a.2.2.1).length - 1) (by omega) false
    rw [show bI false = (0 : Int32) from rfl, if_neg (by decide)] at c1
    have hM1 : MR σ1 a hs tp := hM.hi (fun q hq => c3 q (by simp; omega))
    obtain ⟨τ, e1, l1, m1, s1, f1⟩ := lays_MR hM1 hw
    have hd := degM_ok l1 (topv_lt hg) false
    rw [show bI false = (0 : Int32) from rfl, if_neg (by decide)] at hd
    exact ⟨_, σ1, τ, by rw [X10_family, if_neg (by decide), if_neg (by decide), if_neg (by decide), if_neg (by decide), if_neg (by decide), if_neg (by decide), if_neg (by decide), if_neg (by decide), if_neg (by decide), if_neg (by decide), if_neg (by decide), if_neg (by decide), if_pos (by decide), hm.1, show (1 : Int32) = nI 1 from rfl, nsub (by omega), c1, sbind], by rw [X11_family, e1, sbind, if_neg (by decide), if_neg (by decide), if_neg (by decide), if_neg (by decide), if_neg (by decide), if_neg (by decide), if_neg (by decide), if_neg (by decide), if_neg (by decide), if_neg (by decide), if_neg (by decide), if_neg (by decide), if_pos (by decide), top_m hg l1, sbind, hd, sbind]; rfl, KO.ord c3 (Or.inr c2), s1, m1⟩
theorem q_family {σ : Wd} {a : St} {hs : List St} {tp : List Nat} (hC : CR σ a hs tp) (hM : MR σ a hs tp) (hw : wf a) (hO : OrdC a.2.2.1 σ) (hSp : SprC a.2.2.1 σ) (x : Int32) : ∃ r σ1 σ2, X10_family σ x = some (r, σ1) ∧ X11_family σ1 x = some (r, σ2) ∧ KO a.2.2.1 σ σ1 ∧ QO σ1 σ2 a hs tp := by
  have hout : (x < 0 ∨ nI 13 ≤ x) → ∃ r σ1 σ2, X10_family σ x = some (r, σ1) ∧ X11_family σ1 x = some (r, σ2) ∧ KO a.2.2.1 σ σ1 ∧ QO σ1 σ2 a hs tp := fun hx => by
    obtain ⟨τ, e1, l1, m1, s1, f1⟩ := lays_MR hM hw
    exact ⟨-1, σ, τ, by rw [X10_family, if_neg (show ¬ x = 0 from out_ne (k := 0) (by decide) hx (by decide)), if_neg (show ¬ x = 1 from out_ne (k := 1) (by decide) hx (by decide)), if_neg (show ¬ x = 2 from out_ne (k := 2) (by decide) hx (by decide)), if_neg (show ¬ x = 3 from out_ne (k := 3) (by decide) hx (by decide)), if_neg (show ¬ x = 4 from out_ne (k := 4) (by decide) hx (by decide)), if_neg (show ¬ x = 5 from out_ne (k := 5) (by decide) hx (by decide)), if_neg (show ¬ x = 6 from out_ne (k := 6) (by decide) hx (by decide)), if_neg (show ¬ x = 7 from out_ne (k := 7) (by decide) hx (by decide)), if_neg (show ¬ x = 8 from out_ne (k := 8) (by decide) hx (by decide)), if_neg (show ¬ x = 9 from out_ne (k := 9) (by decide) hx (by decide)), if_neg (show ¬ x = 10 from out_ne (k := 10) (by decide) hx (by decide)), if_neg (show ¬ x = 11 from out_ne (k := 11) (by decide) hx (by decide)), if_neg (show ¬ x = 12 from out_ne (k := 12) (by decide) hx (by decide))], by rw [X11_family, e1, sbind, if_neg (show ¬ x = 0 from out_ne (k := 0) (by decide) hx (by decide)), if_neg (show ¬ x = 1 from out_ne (k := 1) (by decide) hx (by decide)), if_neg (show ¬ x = 2 from out_ne (k := 2) (by decide) hx (by decide)), if_neg (show ¬ x = 3 from out_ne (k := 3) (by decide) hx (by decide)), if_neg (show ¬ x = 4 from out_ne (k := 4) (by decide) hx (by decide)), if_neg (show ¬ x = 5 from out_ne (k := 5) (by decide) hx (by decide)), if_neg (show ¬ x = 6 from out_ne (k := 6) (by decide) hx (by decide)), if_neg (show ¬ x = 7 from out_ne (k := 7) (by decide) hx (by decide)), if_neg (show ¬ x = 8 from out_ne (k := 8) (by decide) hx (by decide)), if_neg (show ¬ x = 9 from out_ne (k := 9) (by decide) hx (by decide)), if_neg (show ¬ x = 10 from out_ne (k := 10) (by decide) hx (by decide)), if_neg (show ¬ x = 11 from out_ne (k := 11) (by decide) hx (by decide)), if_neg (show ¬ x = 12 from out_ne (k := 12) (by decide) hx (by decide))], KO.rf _ _, s1, m1⟩
  rcases pk_ix x (n := 13) (by decide) with hx | hx | ⟨k, hk, rfl⟩
  · exact hout (Or.inl hx)
  · exact hout (Or.inr hx)
  clear hout
  rcases (by omega : k = 0 ∨ k = 1 ∨ k = 2 ∨ k = 3 ∨ k = 4 ∨ k = 5 ∨ k = 6 ∨ k = 7 ∨ k = 8 ∨ k = 9 ∨ k = 10 ∨ k = 11 ∨ k = 12) with rfl | rfl | rfl | rfl | rfl | rfl | rfl | rfl | rfl | rfl | rfl | rfl | rfl
  · exact fam_0 hC hM hw hO hSp
  · exact fam_1 hC hM hw hO hSp
  · exact fam_2 hC hM hw hO hSp
  · exact fam_3 hC hM hw hO hSp
  · exact fam_4 hC hM hw hO hSp
  · exact fam_5 hC hM hw hO hSp
  · exact fam_6 hC hM hw hO hSp
  · exact fam_7 hC hM hw hO hSp
  · exact fam_8 hC hM hw hO hSp
  · exact fam_9 hC hM hw hO hSp
  · exact fam_10 hC hM hw hO hSp
  · exact fam_11 hC hM hw hO hSp
  · exact fam_12 hC hM hw hO hSp
