/-! the invariant, and all steps -/
def Inv (σ : Wd) : Prop := ∃ (a : St) (hs : List St) (tp : List Nat), wf a ∧ (∀ h ∈ hs, wf h) ∧ tp.length ≤ 300 ∧ (∀ x ∈ tp, x < 256) ∧ CR σ a hs tp ∧ OrdC a.2.2.1 σ ∧ SprC a.2.2.1 σ ∧ MR σ a hs tp
theorem CN.ord {σ : Wd} (h : CN σ) (gs : List Nat) : OrdC gs σ := Or.inl h.1
theorem CN.spr {σ : Wd} (h : CN σ) (gs : List Nat) : SprC gs σ := Or.inl h.2
theorem SprC.cg {gs : List Nat} {σ σ' : Wd} (h : SprC gs σ) (h1 : σ' 107 = σ 107) : SprC gs σ' := by
  unfold SprC at *
  rw [h1]; exact h
theorem push_wf {hs : List St} {a : St} (hh : ∀ h ∈ hs, wf h) (hw : wf a) : ∀ h ∈ pushH hs a, wf h := by
  intro h hm
  unfold pushH at hm
  by_cases e : hs.length < 12
  · rw [if_pos e] at hm
    rcases List.mem_append.mp hm with g | g
    · exact hh h g
    · simp at g; rw [g]; exact hw
  · rw [if_neg e] at hm
    rcases List.mem_append.mp hm with g | g
    · exact hh h (List.mem_of_mem_tail g)
    · simp at g; rw [g]; exact hw
theorem inv_ao {σ σ2 : Wd} {a : St} {hs : List St} {tp : List Nat} (hw : wf a) (hh : ∀ h ∈ hs, wf h) (hl : tp.length ≤ 300) (hb : ∀ x ∈ tp, x < 256) (hC : CR σ a hs tp) (hO : OrdC a.2.2.1 σ) (hS : SprC a.2.2.1 σ) (h : AO σ σ2 a hs tp) : Inv σ2 := by
  rcases h with ⟨h1, h2⟩ | ⟨a', h1, h2, h3, h4⟩
  · exact ⟨a, hs, tp, hw, hh, hl, hb, hC.keep h1, hO.cg (h1 103 (by omega)) (h1 104 (by omega)) (h1 105 (by omega)) (h1 106 (by omega)), hS.cg (h1 107 (by omega)), h2⟩
  · exact ⟨a', _, tp, h1, push_wf hh hw, hl, hb, h2, h3.ord _, h3.spr _, h4⟩
theorem inv_q {σ σ1 σ2 : Wd} {a : St} {hs : List St} {tp : List Nat} (hw : wf a) (hh : ∀ h ∈ hs, wf h) (hl : tp.length ≤ 300) (hb : ∀ x ∈ tp, x < 256) (hC : CR σ a hs tp) (hO : OrdC a.2.2.1 σ) (hS : SprC a.2.2.1 σ) (hk : KO a.2.2.1 σ σ1) (h : QO σ1 σ2 a hs tp) : Inv σ2 := by
  have hC1 : CR σ1 a hs tp := hC.cg (fun q hq => hk.1 q (by omega))
  have s := h.1
  exact ⟨a, hs, tp, hw, hh, hl, hb, hC1.same s, (hk.2.1 hO).cg (s 103 (by decide)) (s 104 (by decide)) (s 105 (by decide)) (s 106 (by decide)), (hk.2.2 hS).cg (s 107 (by decide)), h.2⟩
theorem bool_bI {x : Int32} (h : x = 0 ∨ x = 1) : ∃ b : Bool, bI b = x := by
  rcases h with rfl | rfl
  · exact ⟨false, rfl⟩
  · exact ⟨true, rfl⟩
theorem s_generate : S_generate Inv := by
  rintro σ a1 ⟨a, hs, tp, hw, hh, hl, hb, hC, hO, hS, hM⟩
  obtain ⟨r, σ1, σ2, e1, e2, e3⟩ := o_generate hC hM hw a1
  exact ⟨r, σ1, σ2, e1, e2, inv_ao hw hh hl hb hC hO hS e3⟩
theorem s_drop : S_drop Inv := by
  rintro σ a1 ⟨a, hs, tp, hw, hh, hl, hb, hC, hO, hS, hM⟩
  obtain ⟨r, σ1, σ2, e1, e2, e3⟩ := o_drop hC hM hw a1
  exact ⟨r, σ1, σ2, e1, e2, inv_ao hw hh hl hb hC hO hS e3⟩
theorem s_change : S_change Inv := by
  rintro σ a1 a2 ⟨a, hs, tp, hw, hh, hl, hb, hC, hO, hS, hM⟩
  obtain ⟨r, σ1, σ2, e1, e2, e3⟩ := o_change hC hM hw a1 a2
  exact ⟨r, σ1, σ2, e1, e2, inv_ao hw hh hl hb hC hO hS e3⟩
theorem s_weigh : S_weigh Inv := by
  rintro σ a1 a2 ⟨a, hs, tp, hw, hh, hl, hb, hC, hO, hS, hM⟩
  obtain ⟨r, σ1, σ2, e1, e2, e3⟩ := o_weigh hC hM hw a1 a2
  exact ⟨r, σ1, σ2, e1, e2, inv_ao hw hh hl hb hC hO hS e3⟩
theorem s_swap : S_swap Inv := by
  rintro σ a1 a2 ⟨a, hs, tp, hw, hh, hl, hb, hC, hO, hS, hM⟩
  obtain ⟨r, σ1, σ2, e1, e2, e3⟩ := o_swap hC hM hw a1 a2
  exact ⟨r, σ1, σ2, e1, e2, inv_ao hw hh hl hb hC hO hS e3⟩
theorem s_turn : S_turn Inv := by
  rintro σ ⟨a, hs, tp, hw, hh, hl, hb, hC, hO, hS, hM⟩
  obtain ⟨r, σ1, σ2, e1, e2, e3⟩ := o_turn hC hM hw
  exact ⟨r, σ1, σ2, e1, e2, inv_ao hw hh hl hb hC hO hS e3⟩
theorem s_without : S_without Inv := by
  rintro σ a1 ⟨a, hs, tp, hw, hh, hl, hb, hC, hO, hS, hM⟩
  obtain ⟨r, σ1, σ2, e1, e2, e3⟩ := o_without hC hM hw a1
  exact ⟨r, σ1, σ2, e1, e2, inv_ao hw hh hl hb hC hO hS e3⟩
theorem s_lean : S_lean Inv := by
  rintro σ ⟨a, hs, tp, hw, hh, hl, hb, hC, hO, hS, hM⟩
  obtain ⟨r, σ1, σ2, e1, e2, e3⟩ := o_lean hC hM hw
  exact ⟨r, σ1, σ2, e1, e2, inv_ao hw hh hl hb hC hO hS e3⟩
theorem s_basis : S_basis Inv := by
  rintro σ ⟨a, hs, tp, hw, hh, hl, hb, hC, hO, hS, hM⟩
  obtain ⟨r, σ1, σ2, e1, e2, e3⟩ := o_basis hC hM hw
  exact ⟨r, σ1, σ2, e1, e2, inv_ao hw hh hl hb hC hO hS e3⟩
theorem s_list : S_list Inv := by
  rintro σ a1 ⟨a, hs, tp, hw, hh, hl, hb, hC, hO, hS, hM⟩
  obtain ⟨r, σ1, σ2, e1, e2, e3⟩ := o_list hC hM hw a1
  exact ⟨r, σ1, σ2, e1, e2, inv_ao hw hh hl hb hC hO hS e3⟩
theorem s_strike : S_strike Inv := by
  rintro σ a1 ⟨a, hs, tp, hw, hh, hl, hb, hC, hO, hS, hM⟩
  obtain ⟨r, σ1, σ2, e1, e2, e3⟩ := o_strike hC hM hw a1
  exact ⟨r, σ1, σ2, e1, e2, inv_ao hw hh hl hb hC hO hS e3⟩
theorem s_adopt : S_adopt Inv := by
  rintro σ ⟨a, hs, tp, hw, hh, hl, hb, hC, hO, hS, hM⟩
  obtain ⟨r, σ1, σ2, e1, e2, e3⟩ := o_adopt hC hM hw
  exact ⟨r, σ1, σ2, e1, e2, inv_ao hw hh hl hb hC hO hS e3⟩
theorem s_generator : S_generator Inv := by
  rintro σ a1 a2 ⟨a, hs, tp, hw, hh, hl, hb, hC, hO, hS, hM⟩
  obtain ⟨r, σ2, e1, e2, e3⟩ := q_generator hC hM hw a1 a2
  exact ⟨r, σ, σ2, ⟨e1, rfl⟩, e2, inv_q hw hh hl hb hC hO hS (KO.rf _ _) e3⟩
theorem s_member : S_member Inv := by
  rintro σ a1 ⟨a, hs, tp, hw, hh, hl, hb, hC, hO, hS, hM⟩
  obtain ⟨r, σ2, e1, e2, e3⟩ := q_member hC hM hw a1
  exact ⟨r, σ, σ2, ⟨e1, rfl⟩, e2, inv_q hw hh hl hb hC hO hS (KO.rf _ _) e3⟩
theorem s_place : S_place Inv := by
  rintro σ a1 ⟨a, hs, tp, hw, hh, hl, hb, hC, hO, hS, hM⟩
  obtain ⟨r, σ2, e1, e2, e3⟩ := q_place hC hM hw a1
  exact ⟨r, σ, σ2, ⟨e1, rfl⟩, e2, inv_q hw hh hl hb hC hO hS (KO.rf _ _) e3⟩
theorem s_based : S_based Inv := by
  rintro σ a1 ⟨a, hs, tp, hw, hh, hl, hb, hC, hO, hS, hM⟩
  obtain ⟨r, σ2, e1, e2, e3⟩ := q_based hC hM hw a1
  exact ⟨r, σ, σ2, ⟨e1, rfl⟩, e2, inv_q hw hh hl hb hC hO hS (KO.rf _ _) e3⟩
theorem s_point : S_point Inv := by
  rintro σ a1 a2 ⟨a, hs, tp, hw, hh, hl, hb, hC, hO, hS, hM⟩
  obtain ⟨r, σ2, e1, e2, e3⟩ := q_point hC hM hw a1 a2
  exact ⟨r, σ, σ2, ⟨e1, rfl⟩, e2, inv_q hw hh hl hb hC hO hS (KO.rf _ _) e3⟩
theorem s_sized : S_sized Inv := by
  rintro σ a1 ⟨a, hs, tp, hw, hh, hl, hb, hC, hO, hS, hM⟩
  obtain ⟨r, σ2, e1, e2, e3⟩ := q_sized hC hM hw a1
  exact ⟨r, σ, σ2, ⟨e1, rfl⟩, e2, inv_q hw hh hl hb hC hO hS (KO.rf _ _) e3⟩
theorem s_inner : S_inner Inv := by
  rintro σ a1 ⟨a, hs, tp, hw, hh, hl, hb, hC, hO, hS, hM⟩
  obtain ⟨r, σ2, e1, e2, e3⟩ := q_inner hC hM hw a1
  exact ⟨r, σ, σ2, ⟨e1, rfl⟩, e2, inv_q hw hh hl hb hC hO hS (KO.rf _ _) e3⟩
theorem s_hull : S_hull Inv := by
  rintro σ a1 ⟨a, hs, tp, hw, hh, hl, hb, hC, hO, hS, hM⟩
  obtain ⟨r, σ2, e1, e2, e3⟩ := q_hull hC hM hw a1
  exact ⟨r, σ, σ2, ⟨e1, rfl⟩, e2, inv_q hw hh hl hb hC hO hS (KO.rf _ _) e3⟩
theorem s_covers : S_covers Inv := by
  rintro σ a1 a2 ⟨a, hs, tp, hw, hh, hl, hb, hC, hO, hS, hM⟩
  obtain ⟨r, σ2, e1, e2, e3⟩ := q_covers hC hM hw a1 a2
  exact ⟨r, σ, σ2, ⟨e1, rfl⟩, e2, inv_q hw hh hl hb hC hO hS (KO.rf _ _) e3⟩
theorem s_both : S_both Inv := by
  rintro σ a1 a2 a3 ⟨a, hs, tp, hw, hh, hl, hb, hC, hO, hS, hM⟩
  obtain ⟨r, σ2, e1, e2, e3⟩ := q_both hC hM hw a1 a2 a3
  exact ⟨r, σ, σ2, ⟨e1, rfl⟩, e2, inv_q hw hh hl hb hC hO hS (KO.rf _ _) e3⟩
theorem s_unshared : S_unshared Inv := by
  rintro σ ⟨a, hs, tp, hw, hh, hl, hb, hC, hO, hS, hM⟩
  obtain ⟨r, σ2, e1, e2, e3⟩ := q_unshared hC hM hw
  exact ⟨r, σ, σ2, ⟨e1, rfl⟩, e2, inv_q hw hh hl hb hC hO hS (KO.rf _ _) e3⟩
theorem s_common : S_common Inv := by
  rintro σ a1 a2 ⟨a, hs, tp, hw, hh, hl, hb, hC, hO, hS, hM⟩
  obtain ⟨r, σ2, e1, e2, e3⟩ := q_common hC hM hw a1 a2
  exact ⟨r, σ, σ2, ⟨e1, rfl⟩, e2, inv_q hw hh hl hb hC hO hS (KO.rf _ _) e3⟩
theorem s_ranked : S_ranked Inv := by
  rintro σ a1 ⟨a, hs, tp, hw, hh, hl, hb, hC, hO, hS, hM⟩
  obtain ⟨r, σ2, e1, e2, e3⟩ := q_ranked hC hM hw a1
  exact ⟨r, σ, σ2, ⟨e1, rfl⟩, e2, inv_q hw hh hl hb hC hO hS (KO.rf _ _) e3⟩
theorem s_crossing : S_crossing Inv := by
  rintro σ ⟨a, hs, tp, hw, hh, hl, hb, hC, hO, hS, hM⟩
  obtain ⟨r, σ2, e1, e2, e3⟩ := q_crossing hC hM hw
  exact ⟨r, σ, σ2, ⟨e1, rfl⟩, e2, inv_q hw hh hl hb hC hO hS (KO.rf _ _) e3⟩
theorem s_parts : S_parts Inv := by
  rintro σ ⟨a, hs, tp, hw, hh, hl, hb, hC, hO, hS, hM⟩
  obtain ⟨r, σ2, e1, e2, e3⟩ := q_parts hC hM hw
  exact ⟨r, σ, σ2, ⟨e1, rfl⟩, e2, inv_q hw hh hl hb hC hO hS (KO.rf _ _) e3⟩
theorem s_fewest : S_fewest Inv := by
  rintro σ a1 ⟨a, hs, tp, hw, hh, hl, hb, hC, hO, hS, hM⟩
  obtain ⟨r, σ2, e1, e2, e3⟩ := q_fewest hC hM hw a1
  exact ⟨r, σ, σ2, ⟨e1, rfl⟩, e2, inv_q hw hh hl hb hC hO hS (KO.rf _ _) e3⟩
theorem s_count : S_count Inv := by
  rintro σ a1 ⟨a, hs, tp, hw, hh, hl, hb, hC, hO, hS, hM⟩
  obtain ⟨r, σ2, e1, e2, e3⟩ := q_count hC hM hw a1
  exact ⟨r, σ, σ2, ⟨e1, rfl⟩, e2, inv_q hw hh hl hb hC hO hS (KO.rf _ _) e3⟩
theorem s_mean : S_mean Inv := by
  rintro σ a1 a2 ⟨a, hs, tp, hw, hh, hl, hb, hC, hO, hS, hM⟩ hbo
  obtain ⟨r, σ2, e1, e2, e3⟩ := q_mean hC hM hw a1 a2
  exact ⟨r, σ, σ2, ⟨e1, rfl⟩, e2, inv_q hw hh hl hb hC hO hS (KO.rf _ _) e3⟩
theorem s_nested : S_nested Inv := by
  rintro σ a1 a2 ⟨a, hs, tp, hw, hh, hl, hb, hC, hO, hS, hM⟩ hbo
  obtain ⟨r, σ2, e1, e2, e3⟩ := q_nested hC hM hw a1 a2
  exact ⟨r, σ, σ2, ⟨e1, rfl⟩, e2, inv_q hw hh hl hb hC hO hS (KO.rf _ _) e3⟩
theorem s_part : S_part Inv := by
  rintro σ a1 a2 a3 ⟨a, hs, tp, hw, hh, hl, hb, hC, hO, hS, hM⟩ hbo
  obtain ⟨b, rfl⟩ := bool_bI hbo
  obtain ⟨r, σ2, e1, e2, e3⟩ := q_part hC hM hw a1 b a3
  exact ⟨r, σ, σ2, ⟨e1, rfl⟩, e2, inv_q hw hh hl hb hC hO hS (KO.rf _ _) e3⟩
theorem s_mass : S_mass Inv := by
  rintro σ a1 ⟨a, hs, tp, hw, hh, hl, hb, hC, hO, hS, hM⟩
  obtain ⟨r, e1, e2⟩ := q_mass hC hM hw a1
  exact ⟨r, σ, σ, ⟨e1, rfl⟩, ⟨e2, rfl⟩, ⟨a, hs, tp, hw, hh, hl, hb, hC, hO, hS, hM⟩⟩
theorem s_listed : S_listed Inv := by
  rintro σ a1 ⟨a, hs, tp, hw, hh, hl, hb, hC, hO, hS, hM⟩
  obtain ⟨r, e1, e2⟩ := q_listed hC hM hw a1
  exact ⟨r, σ, σ, ⟨e1, rfl⟩, ⟨e2, rfl⟩, ⟨a, hs, tp, hw, hh, hl, hb, hC, hO, hS, hM⟩⟩
theorem s_refused : S_refused Inv := by
  rintro σ a1 ⟨a, hs, tp, hw, hh, hl, hb, hC, hO, hS, hM⟩
  obtain ⟨r, e1, e2⟩ := q_refused hC hM hw a1
  exact ⟨r, σ, σ, ⟨e1, rfl⟩, ⟨e2, rfl⟩, ⟨a, hs, tp, hw, hh, hl, hb, hC, hO, hS, hM⟩⟩
theorem s_trace : S_trace Inv := by
  rintro σ a1 a2 ⟨a, hs, tp, hw, hh, hl, hb, hC, hO, hS, hM⟩
  obtain ⟨r, σ1, σ2, e1, e2, e3, e4⟩ := q_trace hC hM hw a1 a2
  exact ⟨r, σ1, σ2, e1, e2, inv_q hw hh hl hb hC hO hS (KO.fr e3 (by simp)) e4⟩
theorem s_shattered : S_shattered Inv := by
  rintro σ a1 ⟨a, hs, tp, hw, hh, hl, hb, hC, hO, hS, hM⟩
  obtain ⟨r, σ1, σ2, e1, e2, e3, e4⟩ := q_shattered hC hM hw a1
  exact ⟨r, σ1, σ2, e1, e2, inv_q hw hh hl hb hC hO hS (KO.fr e3 (by simp)) e4⟩
theorem s_withSet : S_withSet Inv := by
  rintro σ a1 ⟨a, hs, tp, hw, hh, hl, hb, hC, hO, hS, hM⟩
  obtain ⟨r, σ1, σ2, e1, e2, e3, e4⟩ := q_withSet hC hM hw a1
  exact ⟨r, σ1, σ2, e1, e2, inv_q hw hh hl hb hC hO hS (KO.fr e3 (by simp)) e4⟩
theorem s_withoutGenerator : S_withoutGenerator Inv := by
  rintro σ a1 ⟨a, hs, tp, hw, hh, hl, hb, hC, hO, hS, hM⟩
  obtain ⟨r, σ1, σ2, e1, e2, e3, e4⟩ := q_withoutGenerator hC hM hw a1
  exact ⟨r, σ1, σ2, e1, e2, inv_q hw hh hl hb hC hO hS (KO.fr e3 (by simp)) e4⟩
theorem s_gentlest : S_gentlest Inv := by
  rintro σ ⟨a, hs, tp, hw, hh, hl, hb, hC, hO, hS, hM⟩
  obtain ⟨r, σ1, σ2, e1, e2, e3, e4⟩ := q_gentlest hC hM hw
  exact ⟨r, σ1, σ2, e1, e2, inv_q hw hh hl hb hC hO hS (KO.fr e3 (by simp)) e4⟩
theorem s_spoiler : S_spoiler Inv := by
  rintro σ ⟨a, hs, tp, hw, hh, hl, hb, hC, hO, hS, hM⟩
  obtain ⟨r, σ1, σ2, e1, e2, e3, e4⟩ := q_spoiler hC hM hw
  exact ⟨r, σ1, σ2, e1, e2, inv_q hw hh hl hb hC hO hS (KO.fr e3 (by simp)) e4⟩
theorem s_proof : S_proof Inv := by
  rintro σ ⟨a, hs, tp, hw, hh, hl, hb, hC, hO, hS, hM⟩
  obtain ⟨r, σ1, σ2, e1, e2, e3, e4⟩ := q_proof hC hM hw
  exact ⟨r, σ1, σ2, e1, e2, inv_q hw hh hl hb hC hO hS (KO.fr e3 (by simp)) e4⟩
theorem s_needs : S_needs Inv := by
  rintro σ ⟨a, hs, tp, hw, hh, hl, hb, hC, hO, hS, hM⟩
  obtain ⟨r, σ1, σ2, e1, e2, e3, e4⟩ := q_needs hC hM hw
  exact ⟨r, σ1, σ2, e1, e2, inv_q hw hh hl hb hC hO hS (KO.fr e3 (by simp)) e4⟩
theorem s_spell : S_spell Inv := by
  rintro σ a1 ⟨a, hs, tp, hw, hh, hl, hb, hC, hO, hS, hM⟩
  obtain ⟨r, σ1, σ2, e1, e2, e3, e4⟩ := q_spell hC hM hw a1
  exact ⟨r, σ1, σ2, e1, e2, inv_q hw hh hl hb hC hO hS (KO.fr e3 (by simp)) e4⟩
theorem s_single : S_single Inv := by
  rintro σ ⟨a, hs, tp, hw, hh, hl, hb, hC, hO, hS, hM⟩
  obtain ⟨r, σ1, σ2, e1, e2, e3, e4, e5⟩ := q_single hC hM hw hO
  exact ⟨r, σ1, σ2, e1, e2, inv_q hw hh hl hb hC hO hS (KO.ord e3 e4) e5⟩
theorem s_chain : S_chain Inv := by
  rintro σ a1 ⟨a, hs, tp, hw, hh, hl, hb, hC, hO, hS, hM⟩
  obtain ⟨r, σ1, σ2, e1, e2, e3, e4, e5⟩ := q_chain hC hM hw hO a1
  exact ⟨r, σ1, σ2, e1, e2, inv_q hw hh hl hb hC hO hS (KO.ord e3 e4) e5⟩
theorem s_degree : S_degree Inv := by
  rintro σ a1 a2 ⟨a, hs, tp, hw, hh, hl, hb, hC, hO, hS, hM⟩ hbo
  obtain ⟨b, rfl⟩ := bool_bI hbo
  obtain ⟨r, σ1, σ2, e1, e2, e3, e4, e5⟩ := q_degree hC hM hw hO a1 b
  exact ⟨r, σ1, σ2, e1, e2, inv_q hw hh hl hb hC hO hS (KO.ord e3 e4) e5⟩
theorem s_family : S_family Inv := by
  rintro σ a1 ⟨a, hs, tp, hw, hh, hl, hb, hC, hO, hS, hM⟩
  obtain ⟨r, σ1, σ2, e1, e2, e3, e4⟩ := q_family hC hM hw hO hS a1
  exact ⟨r, σ1, σ2, e1, e2, inv_q hw hh hl hb hC hO hS e3 e4⟩
theorem s_undo : S_undo Inv := by
  rintro σ ⟨a, hs, tp, hw, hh, hl, hb, hC, hO, hS, hM⟩
  obtain ⟨r, σ1, σ2, e1, e2, e3⟩ := o_undo hC hM hh
  refine ⟨r, σ1, σ2, e1, e2, ?_⟩
  rcases e3 with ⟨s, m⟩ | ⟨a', hs', w, sub, c, n, m⟩
  · exact ⟨a, hs, tp, hw, hh, hl, hb, hC.same s, hO.cg (s 103 (by decide)) (s 104 (by decide)) (s 105 (by decide)) (s 106 (by decide)), hS.cg (s 107 (by decide)), m⟩
  · exact ⟨a', hs', tp, w, fun h hm => hh h (sub h hm), hl, hb, c, n.ord _, n.spr _, m⟩
theorem s_feed : S_feed Inv := by
  rintro σ a1 a2 a3 a4 a5 ⟨a, hs, tp, hw, hh, hl, hb, hC, hO, hS, hM⟩
  obtain ⟨r, σ1, σ2, tp', e1, e2, c, m, l, b, f⟩ := o_feed hC hM hl hb a1 a2 a3 a4 a5
  exact ⟨r, σ1, σ2, e1, e2, a, hs, tp', hw, hh, l, b, c, hO.cg (f 103 (by decide) (by decide) (by decide)) (f 104 (by decide) (by decide) (by decide)) (f 105 (by decide) (by decide) (by decide)) (f 106 (by decide) (by decide) (by decide)), hS.cg (f 107 (by decide) (by decide) (by decide)), m⟩
theorem s_back : S_back Inv := by
  rintro σ a1 ⟨a, hs, tp, hw, hh, hl, hb, hC, hO, hS, hM⟩
  obtain ⟨r, σ1, σ2, k, e1, e2, hk, c, m, f⟩ := o_back hC hM hl a1
  exact ⟨r, σ1, σ2, e1, e2, a, hs, tp.take k, hw, hh, by rw [List.length_take]; omega, fun x hx => hb x (List.mem_of_mem_take hx), c, hO.cg (f 103 (by decide) (by decide)) (f 104 (by decide) (by decide)) (f 105 (by decide) (by decide)) (f 106 (by decide) (by decide)), hS.cg (f 107 (by decide) (by decide)), m⟩
theorem s_text : S_text Inv := by
  rintro σ ⟨a, hs, tp, hw, hh, hl, hb, hC, hO, hS, hM⟩
  obtain ⟨r, σ1, σ2, e1, e2, e3⟩ := o_text hC hM hw hl hb
  refine ⟨r, σ1, σ2, e1, e2, ?_⟩
  rcases e3 with ⟨c, m, f⟩ | ⟨a', w, c, n, m⟩
  · exact ⟨a, hs, [], hw, hh, by simp, by simp, c, hO.cg (f 103 (by decide) (by decide)) (f 104 (by decide) (by decide)) (f 105 (by decide) (by decide)) (f 106 (by decide) (by decide)), hS.cg (f 107 (by decide) (by decide)), m⟩
  · exact ⟨a', [], [], w, by simp, by simp, by simp, c, n.ord _, n.spr _, m⟩
theorem s_all : SAll Inv := ⟨s_feed, s_back, s_text, s_generate, s_drop, s_change, s_weigh, s_swap, s_turn, s_without, s_lean, s_basis, s_list, s_strike, s_adopt, s_undo, s_generator, s_member, s_place, s_based, s_point, s_family, s_sized, s_mean, s_mass, s_inner, s_hull, s_trace, s_part, s_covers, s_degree, s_single, s_both, s_unshared, s_chain, s_common, s_ranked, s_nested, s_crossing, s_parts, s_shattered, s_fewest, s_withSet, s_withoutGenerator, s_gentlest, s_spoiler, s_proof, s_listed, s_refused, s_needs, s_spell, s_count⟩
