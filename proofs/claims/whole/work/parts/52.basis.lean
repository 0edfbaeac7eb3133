/-! basis -/
theorem filter_take_succ {B : Type} (p : B → Bool) (xs : List B) (k : Nat) (h : k < xs.length) : (xs.take (k + 1)).filter p = (xs.take k).filter p ++ if p xs[k] then [xs[k]] else [] := by
  rw [List.take_succ_eq_append_getElem h, List.filter_append]
  congr 1
  by_cases e : p xs[k] = true
  · rw [if_pos e, List.filter_cons_of_pos e]; rfl
  · rw [if_neg e, List.filter_cons_of_neg e]; rfl
theorem nodup_sub_len {xs ys : List Nat} (hn : xs.Nodup) (hs : ∀ x ∈ xs, x ∈ ys) : xs.length ≤ ys.length := by
  induction xs generalizing ys with
  | nil => simp
  | cons x r ih =>
    rw [List.nodup_cons] at hn
    have hx := hs x (by simp)
    have := ih (ys := ys.erase x) hn.2 (fun z hz => (List.mem_erase_of_ne (a := z) (b := x) (fun e : z = x => hn.1 (e ▸ hz))).mpr (hs z (by simp [hz])))
    rw [List.length_erase_of_mem hx] at this
    have : 0 < ys.length := List.length_pos_of_mem hx
    simp only [List.length_cons]
    omega
theorem bas_nd (gs : List Nat) : (bas gs).Nodup := List.Pairwise.filter _ (mems_nd gs)
theorem bas_lt {gs : List Nat} {t : Nat} (h : t ∈ bas gs) : t < 128 := mems_lt (List.mem_filter.mp h).1
theorem bas_le {gs : List Nat} (hg : ∀ x ∈ gs, x < 128) : (bas gs).length ≤ gs.length := nodup_sub_len (bas_nd gs) (fun _ h => bas_gen hg h)
theorem wf_bas {a : St} (hw : wf a) : wf (a.1, a.2.1, bas a.2.2.1, a.2.2.2) :=
  ⟨hw.1, hw.2.1, ⟨Nat.le_trans (bas_le (wf_lt hw)) hw.2.2.1.1, fun g hg => hw.2.2.1.2.1 g (bas_gen (wf_lt hw) hg), bas_nd _⟩, hw.2.2.2⟩
theorem lays_MR {σ : Wd} {a : St} {hs : List St} {tp : List Nat} (h : MR σ a hs tp) (hw : wf a) : ∃ σ', X11_lays σ = some σ' ∧ LayR σ' a.2.2.1 ∧ MR σ' a hs tp ∧ Same σ σ' ∧ (∀ j, j ≠ 10 → σ' 120 j = σ 120 j) := by
  obtain ⟨σ', e, l, f, g⟩ := lays_ok h.row hw
  exact ⟨σ', e, l, h.cg (g 121 (by decide) (by decide) (by decide) (by decide)) (g 123 (by decide) (by decide) (by decide) (by decide)) (g 138 (by decide) (by decide) (by decide) (by decide)) (g 139 (by decide) (by decide) (by decide) (by decide)) (f 4 (by decide)) (f 23 (by decide)), fun q hq => g q (by omega) (by omega) (by omega) (by omega), f⟩
theorem o_basis {σ : Wd} {a : St} {hs : List St} {tp : List Nat} (hC : CR σ a hs tp) (hM : MR σ a hs tp) (hw : wf a) : ∃ r σ1 σ2, X10_basis σ = some (r, σ1) ∧ X11_basis σ1 = some (r, σ2) ∧ AO σ σ2 a hs tp := by
  have h12 := hw.2.2.1.1
  have hbl := bas_le (wf_lt hw)
  have hw' := wf_bas hw
  have hmod : ∀ τ, MR τ a hs tp → ∃ ρ, X11_basis τ = (X11_replaces ρ).bind (fun (t3, σ4) => some (t3, σ4)) ∧ MR ρ a hs tp ∧ Same τ ρ ∧ WouldR ρ (bas a.2.2.1) ∧ ρ 120 6 = nI (bas a.2.2.1).length := by
    intro τ hτ
    obtain ⟨τ1, e1, l1, m1, s1, f1⟩ := lays_MR hτ hw
    rw [X11_basis, e1, sbind]
    refine lp_c (body := X11_basis_B11) (0, up τ1 120 6 0) (fun k s => s.1 = nI k ∧ (∀ i, i < (((mems a.2.2.1).take k).filter (basB a.2.2.1)).length → s.2 124 i = nI ((((mems a.2.2.1).take k).filter (basB a.2.2.1)).getD i 0)) ∧ s.2 120 6 = nI (((mems a.2.2.1).take k).filter (basB a.2.2.1)).length ∧ (∀ j, j ≠ 6 → s.2 120 j = τ1 120 j) ∧ ∀ q, q ≠ 120 → q ≠ 124 → s.2 q = τ1 q) (mems a.2.2.1).length (fun s => (X11_replaces s.2).bind (fun (t3, σ4) => some (t3, σ4))) ⟨nI_0.symm, fun i hi => by simp at hi, ?_, fun j hj => ?_, fun q h1 h2 => up_ne _ _ _ h1⟩ (mems_4096 _) (fun k s hk hi => ?_) (fun s hi rec => ?_) (fun s' hI he => ?_)
    · show up τ1 120 6 0 120 6 = _
      rw [up_at]; exact if_pos rfl
    · show up τ1 120 6 0 120 j = _
      rw [up_at]; exact if_neg hj
    · obtain ⟨x, ρ⟩ := s
      obtain ⟨h1, h2, h3, h4, h5⟩ := hi
      simp only at h1 h2 h3 h4 h5
      subst h1
      obtain ⟨c, hc⟩ : ∃ c, c = (mems a.2.2.1)[k] := ⟨_, rfl⟩
      have hk8 := k128 hk
      have hc8 : c < 128 := hc ▸ mem_at_lt hk
      have lρ : LayR ρ a.2.2.1 := l1.cg (h5 125 (by decide) (by decide)) (h5 126 (by decide) (by decide)) (h5 127 (by decide) (by decide)) (h4 10 (by decide))
      have hfc : famB a.2.2.1 c = true := hc ▸ (List.mem_filter.mp (List.getElem_mem hk)).2
      have htk : ((mems a.2.2.1).take (k + 1)).filter (basB a.2.2.1) = ((mems a.2.2.1).take k).filter (basB a.2.2.1) ++ if basB a.2.2.1 c then [c] else [] := by
        rw [filter_take_succ _ _ _ hk, ← hc]
      obtain ⟨L, hL⟩ : ∃ L, L = ((mems a.2.2.1).take k).filter (basB a.2.2.1) := ⟨_, rfl⟩
      have hlen : L.length ≤ 12 := by
        have : L.length ≤ (bas a.2.2.1).length := by
          rw [hL]
          exact (List.Sublist.filter _ (List.take_sublist k (mems a.2.2.1))).length_le
        omega
      rw [← hL] at htk h2 h3
      have hb := based_ok lρ hc8
      rw [hfc, Bool.true_and] at hb
      by_cases e : basB a.2.2.1 c = true
      · rw [if_pos e] at htk hb
        refine ⟨(nI (k + 1), up (up ρ 124 L.length (nI c)) 120 6 (nI (L.length + 1))), ⟨rfl, fun i hi => ?_, ?_, fun j hj => ?_, fun q q1 q2 => ?_⟩, fun rec => ?_⟩
        · show up (up ρ 124 L.length (nI c)) 120 6 (nI (L.length + 1)) 124 i = _
          rw [htk] at hi ⊢
          simp only [List.length_append, List.length_singleton] at hi
          rw [up_ne _ _ _ (by decide), up_at, getD_app _ _ _ hi]; unfold upd
          by_cases ei : i = L.length
          · rw [if_pos ei, if_pos ei]
          · rw [if_neg ei, if_neg ei]; exact h2 i (by omega)
        · show up (up ρ 124 L.length (nI c)) 120 6 (nI (L.length + 1)) 120 6 = _
          rw [htk, List.length_append, List.length_singleton, up_at]; exact if_pos rfl
        · show up (up ρ 124 L.length (nI c)) 120 6 (nI (L.length + 1)) 120 j = _
          rw [up_at]; unfold upd; rw [if_neg hj, up_ne _ _ _ (by decide)]; exact h4 j hj
        · show up (up ρ 124 L.length (nI c)) 120 6 (nI (L.length + 1)) q = _
          rw [up_ne _ _ _ q1, up_ne _ _ _ q2]; exact h5 q q1 q2
        · have h6 : up ρ 124 L.length (nI c) 120 6 = nI L.length := by rw [up_ne _ _ _ (by decide)]; exact h3
          rw [X11_basis_B11, if_neg (lay_go lρ hk), ckA_n hk8 (by omega), ncl (by omega), lay_at lρ hk, ← hc, hb, sbind, if_neg (by decide), ckA_n hk8 (by omega), h3, ckA_n (by omega) (by omega), ncl (by omega), h6, nI_1, X11_basis_J60, nI_1]
      · rw [if_neg e, List.append_nil] at htk
        rw [if_neg e] at hb
        refine ⟨(nI (k + 1), ρ), ⟨rfl, by rw [htk]; exact h2, by rw [htk]; exact h3, h4, h5⟩, fun rec => ?_⟩
        rw [X11_basis_B11, if_neg (lay_go lρ hk), ckA_n hk8 (by omega), ncl (by omega), lay_at lρ hk, ← hc, hb, sbind, if_pos rfl, X11_basis_J60, nI_1]
    · obtain ⟨x, ρ⟩ := s
      have h1 : x = nI (mems a.2.2.1).length := hi.1
      have h3 : ρ 120 10 = τ1 120 10 := hi.2.2.2.1 10 (by decide)
      subst h1
      show X11_basis_B11 rec (nI (mems a.2.2.1).length, ρ) = _
      rw [X11_basis_B11, h3, if_pos (lay_stop l1)]
    · obtain ⟨-, i1, i2, i3, i4⟩ := hI
      rw [List.take_length] at i1 i2
      exact ⟨s'.2, he, m1.cg (i4 121 (by decide) (by decide)) (i4 123 (by decide) (by decide)) (i4 138 (by decide) (by decide)) (i4 139 (by decide) (by decide)) (i3 4 (by decide)) (i3 23 (by decide)), s1.tr (fun q hq => i4 q (by omega) (by omega)), i1, i2⟩
  have hcls : X10_basis σ = (X10_replaceGenerators σ 97).bind (fun (t2, σ3) => some (t2, σ3)) := rfl
  rcases replC_ok (q := 97) hC hw hC.fam.bas (Or.inl rfl) (bas_len _) (by decide) (fun x hx => bas_lt hx) (fun _ => hw') with ⟨c1, c2⟩ | ⟨c1, σ', c2, c3, c4, c5⟩
  · obtain ⟨ρ, r1, r2, r3, r4, r5⟩ := hmod σ hM
    rcases replaces_ok r2 hw r4 r5 (by omega) (fun x hx => bas_lt hx) with ⟨-, d2⟩ | ⟨d1, -⟩
    · exact ⟨-1, σ, ρ, by rw [hcls, c2]; rfl, by rw [r1, d2]; rfl, Or.inl ⟨r3.keep, r2⟩⟩
    · exfalso
      rcases c1 with h | h
      · omega
      · exact d1.2 h
  · have hM' : MR σ' a hs tp := hM.hi (fun q hq => c5 q (by omega))
    obtain ⟨ρ, r1, r2, r3, r4, r5⟩ := hmod σ' hM'
    rcases replaces_ok r2 hw r4 r5 (by omega) (fun x hx => bas_lt hx) with ⟨d1, -⟩ | ⟨-, τ, d2, d3, d4⟩
    · exfalso
      rcases d1 with h | h
      · omega
      · exact c1.2 h
    · exact ⟨nI (bas a.2.2.1).length, σ', τ, by rw [hcls, c2]; rfl, by rw [r1, d2]; rfl, ao_do hw' c3 c4 (r3.tr d4) d3⟩
