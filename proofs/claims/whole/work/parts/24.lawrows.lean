def S_feed (Inv : Wd → Prop) : Prop := ∀ (σ : Wd) (a1 : Int32) (a2 : Int32) (a3 : Int32) (a4 : Int32) (a5 : Int32), Inv σ → ∃ (r : Int32) (σ1 σ2 : Wd), (X10_feed σ a1 a2 a3 a4 a5 = some (r, σ1)) ∧ (X11_feed σ1 a1 a2 a3 a4 a5 = some (r, σ2)) ∧ Inv σ2
def S_back (Inv : Wd → Prop) : Prop := ∀ (σ : Wd) (a1 : Int32), Inv σ → ∃ (r : Int32) (σ1 σ2 : Wd), (X10_back σ a1 = (r, σ1)) ∧ (X11_back σ1 a1 = (r, σ2)) ∧ Inv σ2
def S_text (Inv : Wd → Prop) : Prop := ∀ (σ : Wd), Inv σ → ∃ (r : Int32) (σ1 σ2 : Wd), (X10_text σ = some (r, σ1)) ∧ (X11_text σ1 = some (r, σ2)) ∧ Inv σ2
def S_generate (Inv : Wd → Prop) : Prop := ∀ (σ : Wd) (a1 : Int32), Inv σ → ∃ (r : Int32) (σ1 σ2 : Wd), (X10_generate σ a1 = some (r, σ1)) ∧ (X11_generate σ1 a1 = some (r, σ2)) ∧ Inv σ2
def S_drop (Inv : Wd → Prop) : Prop := ∀ (σ : Wd) (a1 : Int32), Inv σ → ∃ (r : Int32) (σ1 σ2 : Wd), (X10_drop σ a1 = some (r, σ1)) ∧ (X11_drop σ1 a1 = some (r, σ2)) ∧ Inv σ2
def S_change (Inv : Wd → Prop) : Prop := ∀ (σ : Wd) (a1 : Int32) (a2 : Int32), Inv σ → ∃ (r : Int32) (σ1 σ2 : Wd), (X10_change σ a1 a2 = some (r, σ1)) ∧ (X11_change σ1 a1 a2 = some (r, σ2)) ∧ Inv σ2
def S_weigh (Inv : Wd → Prop) : Prop := ∀ (σ : Wd) (a1 : Int32) (a2 : Int32), Inv σ → ∃ (r : Int32) (σ1 σ2 : Wd), (X10_weigh σ a1 a2 = some (r, σ1)) ∧ (X11_weigh σ1 a1 a2 = some (r, σ2)) ∧ Inv σ2
def S_swap (Inv : Wd → Prop) : Prop := ∀ (σ : Wd) (a1 : Int32) (a2 : Int32), Inv σ → ∃ (r : Int32) (σ1 σ2 : Wd), (X10_swap σ a1 a2 = some (r, σ1)) ∧ (X11_swap σ1 a1 a2 = some (r, σ2)) ∧ Inv σ2
def S_turn (Inv : Wd → Prop) : Prop := ∀ (σ : Wd), Inv σ → ∃ (r : Int32) (σ1 σ2 : Wd), (X10_turn σ = some (r, σ1)) ∧ (X11_turn σ1 = some (r, σ2)) ∧ Inv σ2
def S_without (Inv : Wd → Prop) : Prop := ∀ (σ : Wd) (a1 : Int32), Inv σ → ∃ (r : Int32) (σ1 σ2 : Wd), (X10_without σ a1 = some (r, σ1)) ∧ (X11_without σ1 a1 = some (r, σ2)) ∧ Inv σ2
def S_lean (Inv : Wd → Prop) : Prop := ∀ (σ : Wd), Inv σ → ∃ (r : Int32) (σ1 σ2 : Wd), (X10_lean σ = some (r, σ1)) ∧ (X11_lean σ1 = some (r, σ2)) ∧ Inv σ2
def S_basis (Inv : Wd → Prop) : Prop := ∀ (σ : Wd), Inv σ → ∃ (r : Int32) (σ1 σ2 : Wd), (X10_basis σ = some (r, σ1)) ∧ (X11_basis σ1 = some (r, σ2)) ∧ Inv σ2
def S_list (Inv : Wd → Prop) : Prop := ∀ (σ : Wd) (a1 : Int32), Inv σ → ∃ (r : Int32) (σ1 σ2 : Wd), (X10_list σ a1 = some (r, σ1)) ∧ (X11_list σ1 a1 = some (r, σ2)) ∧ Inv σ2
def S_strike (Inv : Wd → Prop) : Prop := ∀ (σ : Wd) (a1 : Int32), Inv σ → ∃ (r : Int32) (σ1 σ2 : Wd), (X10_strike σ a1 = some (r, σ1)) ∧ (X11_strike σ1 a1 = some (r, σ2)) ∧ Inv σ2
def S_adopt (Inv : Wd → Prop) : Prop := ∀ (σ : Wd), Inv σ → ∃ (r : Int32) (σ1 σ2 : Wd), (X10_adopt σ = some (r, σ1)) ∧ (X11_adopt σ1 = some (r, σ2)) ∧ Inv σ2
def S_undo (Inv : Wd → Prop) : Prop := ∀ (σ : Wd), Inv σ → ∃ (r : Int32) (σ1 σ2 : Wd), (X10_undo σ = some (r, σ1)) ∧ (X11_undo σ1 = some (r, σ2)) ∧ Inv σ2
def S_generator (Inv : Wd → Prop) : Prop := ∀ (σ : Wd) (a1 : Int32) (a2 : Int32), Inv σ → ∃ (r : Int32) (σ1 σ2 : Wd), (X10_generator σ a1 a2 = some r ∧ σ1 = σ) ∧ (X11_generator σ1 a1 a2 = some (r, σ2)) ∧ Inv σ2
def S_member (Inv : Wd → Prop) : Prop := ∀ (σ : Wd) (a1 : Int32), Inv σ → ∃ (r : Int32) (σ1 σ2 : Wd), (X10_member σ a1 = some r ∧ σ1 = σ) ∧ (X11_member σ1 a1 = some (r, σ2)) ∧ Inv σ2
def S_place (Inv : Wd → Prop) : Prop := ∀ (σ : Wd) (a1 : Int32), Inv σ → ∃ (r : Int32) (σ1 σ2 : Wd), (X10_place σ a1 = some r ∧ σ1 = σ) ∧ (X11_place σ1 a1 = some (r, σ2)) ∧ Inv σ2
def S_based (Inv : Wd → Prop) : Prop := ∀ (σ : Wd) (a1 : Int32), Inv σ → ∃ (r : Int32) (σ1 σ2 : Wd), (X10_based σ a1 = some r ∧ σ1 = σ) ∧ (X11_based σ1 a1 = some (r, σ2)) ∧ Inv σ2
def S_point (Inv : Wd → Prop) : Prop := ∀ (σ : Wd) (a1 : Int32) (a2 : Int32), Inv σ → ∃ (r : Int32) (σ1 σ2 : Wd), (X10_point σ a1 a2 = some r ∧ σ1 = σ) ∧ (X11_point σ1 a1 a2 = some (r, σ2)) ∧ Inv σ2
def S_family (Inv : Wd → Prop) : Prop := ∀ (σ : Wd) (a1 : Int32), Inv σ → ∃ (r : Int32) (σ1 σ2 : Wd), (X10_family σ a1 = some (r, σ1)) ∧ (X11_family σ1 a1 = some (r, σ2)) ∧ Inv σ2
def S_sized (Inv : Wd → Prop) : Prop := ∀ (σ : Wd) (a1 : Int32), Inv σ → ∃ (r : Int32) (σ1 σ2 : Wd), (X10_sized σ a1 = some r ∧ σ1 = σ) ∧ (X11_sized σ1 a1 = some (r, σ2)) ∧ Inv σ2
def S_mean (Inv : Wd → Prop) : Prop := ∀ (σ : Wd) (a1 : Int32) (a2 : Int32), Inv σ → (a2 = 0 ∨ a2 = 1) → ∃ (r : Int32) (σ1 σ2 : Wd), (X10_mean σ a1 a2 = some r ∧ σ1 = σ) ∧ (X11_mean σ1 a1 a2 = some (r, σ2)) ∧ Inv σ2
def S_mass (Inv : Wd → Prop) : Prop := ∀ (σ : Wd) (a1 : Int32), Inv σ → ∃ (r : Int32) (σ1 σ2 : Wd), (X10_mass σ a1 = some r ∧ σ1 = σ) ∧ (X11_mass σ1 a1 = some r ∧ σ2 = σ1) ∧ Inv σ2
def S_inner (Inv : Wd → Prop) : Prop := ∀ (σ : Wd) (a1 : Int32), Inv σ → ∃ (r : Int32) (σ1 σ2 : Wd), (X10_inner σ a1 = some r ∧ σ1 = σ) ∧ (X11_inner σ1 a1 = some (r, σ2)) ∧ Inv σ2
def S_hull (Inv : Wd → Prop) : Prop := ∀ (σ : Wd) (a1 : Int32), Inv σ → ∃ (r : Int32) (σ1 σ2 : Wd), (X10_hull σ a1 = some r ∧ σ1 = σ) ∧ (X11_hull σ1 a1 = some (r, σ2)) ∧ Inv σ2
def S_trace (Inv : Wd → Prop) : Prop := ∀ (σ : Wd) (a1 : Int32) (a2 : Int32), Inv σ → ∃ (r : Int32) (σ1 σ2 : Wd), (X10_trace σ a1 a2 = some (r, σ1)) ∧ (X11_trace σ1 a1 a2 = some (r, σ2)) ∧ Inv σ2
def S_part (Inv : Wd → Prop) : Prop := ∀ (σ : Wd) (a1 : Int32) (a2 : Int32) (a3 : Int32), Inv σ → (a2 = 0 ∨ a2 = 1) → ∃ (r : Int32) (σ1 σ2 : Wd), (X10_part σ a1 a2 a3 = some r ∧ σ1 = σ) ∧ (X11_part σ1 a1 a2 a3 = some (r, σ2)) ∧ Inv σ2
def S_covers (Inv : Wd → Prop) : Prop := ∀ (σ : Wd) (a1 : Int32) (a2 : Int32), Inv σ → ∃ (r : Int32) (σ1 σ2 : Wd), (X10_covers σ a1 a2 = some r ∧ σ1 = σ) ∧ (X11_covers σ1 a1 a2 = some (r, σ2)) ∧ Inv σ2
def S_degree (Inv : Wd → Prop) : Prop := ∀ (σ : Wd) (a1 : Int32) (a2 : Int32), Inv σ → (a2 = 0 ∨ a2 = 1) → ∃ (r : Int32) (σ1 σ2 : Wd), (X10_degree σ a1 a2 = some (r, σ1)) ∧ (X11_degree σ1 a1 a2 = some (r, σ2)) ∧ Inv σ2
def S_single (Inv : Wd → Prop) : Prop := ∀ (σ : Wd), Inv σ → ∃ (r : Int32) (σ1 σ2 : Wd), (X10_single σ = some (r, σ1)) ∧ (X11_single σ1 = some (r, σ2)) ∧ Inv σ2
def S_both (Inv : Wd → Prop) : Prop := ∀ (σ : Wd) (a1 : Int32) (a2 : Int32) (a3 : Int32), Inv σ → ∃ (r : Int32) (σ1 σ2 : Wd), (X10_both σ a1 a2 a3 = some r ∧ σ1 = σ) ∧ (X11_both σ1 a1 a2 a3 = some (r, σ2)) ∧ Inv σ2
def S_unshared (Inv : Wd → Prop) : Prop := ∀ (σ : Wd), Inv σ → ∃ (r : Int32) (σ1 σ2 : Wd), (X10_unshared σ = some r ∧ σ1 = σ) ∧ (X11_unshared σ1 = some (r, σ2)) ∧ Inv σ2
def S_chain (Inv : Wd → Prop) : Prop := ∀ (σ : Wd) (a1 : Int32), Inv σ → ∃ (r : Int32) (σ1 σ2 : Wd), (X10_chain σ a1 = some (r, σ1)) ∧ (X11_chain σ1 a1 = some (r, σ2)) ∧ Inv σ2
def S_common (Inv : Wd → Prop) : Prop := ∀ (σ : Wd) (a1 : Int32) (a2 : Int32), Inv σ → ∃ (r : Int32) (σ1 σ2 : Wd), (X10_common σ a1 a2 = some r ∧ σ1 = σ) ∧ (X11_common σ1 a1 a2 = some (r, σ2)) ∧ Inv σ2
def S_ranked (Inv : Wd → Prop) : Prop := ∀ (σ : Wd) (a1 : Int32), Inv σ → ∃ (r : Int32) (σ1 σ2 : Wd), (X10_ranked σ a1 = some r ∧ σ1 = σ) ∧ (X11_ranked σ1 a1 = some (r, σ2)) ∧ Inv σ2
def S_nested (Inv : Wd → Prop) : Prop := ∀ (σ : Wd) (a1 : Int32) (a2 : Int32), Inv σ → (a2 = 0 ∨ a2 = 1) → ∃ (r : Int32) (σ1 σ2 : Wd), (X10_nested σ a1 a2 = some r ∧ σ1 = σ) ∧ (X11_nested σ1 a1 a2 = some (r, σ2)) ∧ Inv σ2
def S_crossing (Inv : Wd → Prop) : Prop := ∀ (σ : Wd), Inv σ → ∃ (r : Int32) (σ1 σ2 : Wd), (X10_crossing σ = some r ∧ σ1 = σ) ∧ (X11_crossing σ1 = some (r, σ2)) ∧ Inv σ2
def S_parts (Inv : Wd → Prop) : Prop := ∀ (σ : Wd), Inv σ → ∃ (r : Int32) (σ1 σ2 : Wd), (X10_parts σ = some r ∧ σ1 = σ) ∧ (X11_parts σ1 = some (r, σ2)) ∧ Inv σ2
def S_shattered (Inv : Wd → Prop) : Prop := ∀ (σ : Wd) (a1 : Int32), Inv σ → ∃ (r : Int32) (σ1 σ2 : Wd), (X10_shattered σ a1 = some (r, σ1)) ∧ (X11_shattered σ1 a1 = some (r, σ2)) ∧ Inv σ2
def S_fewest (Inv : Wd → Prop) : Prop := ∀ (σ : Wd) (a1 : Int32), Inv σ → ∃ (r : Int32) (σ1 σ2 : Wd), (X10_fewest σ a1 = some r ∧ σ1 = σ) ∧ (X11_fewest σ1 a1 = some (r, σ2)) ∧ Inv σ2
def S_withSet (Inv : Wd → Prop) : Prop := ∀ (σ : Wd) (a1 : Int32), Inv σ → ∃ (r : Int32) (σ1 σ2 : Wd), (X10_withSet σ a1 = some (r, σ1)) ∧ (X11_withSet σ1 a1 = some (r, σ2)) ∧ Inv σ2
def S_withoutGenerator (Inv : Wd → Prop) : Prop := ∀ (σ : Wd) (a1 : Int32), Inv σ → ∃ (r : Int32) (σ1 σ2 : Wd), (X10_withoutGenerator σ a1 = some (r, σ1)) ∧ (X11_withoutGenerator σ1 a1 = some (r, σ2)) ∧ Inv σ2
def S_gentlest (Inv : Wd → Prop) : Prop := ∀ (σ : Wd), Inv σ → ∃ (r : Int32) (σ1 σ2 : Wd), (X10_gentlest σ = some (r, σ1)) ∧ (X11_gentlest σ1 = some (r, σ2)) ∧ Inv σ2
def S_spoiler (Inv : Wd → Prop) : Prop := ∀ (σ : Wd), Inv σ → ∃ (r : Int32) (σ1 σ2 : Wd), (X10_spoiler σ = some (r, σ1)) ∧ (X11_spoiler σ1 = some (r, σ2)) ∧ Inv σ2
def S_proof (Inv : Wd → Prop) : Prop := ∀ (σ : Wd), Inv σ → ∃ (r : Int32) (σ1 σ2 : Wd), (X10_proof σ = some (r, σ1)) ∧ (X11_proof σ1 = some (r, σ2)) ∧ Inv σ2
def S_listed (Inv : Wd → Prop) : Prop := ∀ (σ : Wd) (a1 : Int32), Inv σ → ∃ (r : Int32) (σ1 σ2 : Wd), (X10_listed σ a1 = some r ∧ σ1 = σ) ∧ (X11_listed σ1 a1 = some r ∧ σ2 = σ1) ∧ Inv σ2
def S_refused (Inv : Wd → Prop) : Prop := ∀ (σ : Wd) (a1 : Int32), Inv σ → ∃ (r : Int32) (σ1 σ2 : Wd), (X10_refused σ a1 = some r ∧ σ1 = σ) ∧ (X11_refused σ1 a1 = some r ∧ σ2 = σ1) ∧ Inv σ2
def S_needs (Inv : Wd → Prop) : Prop := ∀ (σ : Wd), Inv σ → ∃ (r : Int32) (σ1 σ2 : Wd), (X10_needs σ = some (r, σ1)) ∧ (X11_needs σ1 = some (r, σ2)) ∧ Inv σ2
def S_spell (Inv : Wd → Prop) : Prop := ∀ (σ : Wd) (a1 : Int32), Inv σ → ∃ (r : Int32) (σ1 σ2 : Wd), (X10_spell σ a1 = some (r, σ1)) ∧ (X11_spell σ1 a1 = some (r, σ2)) ∧ Inv σ2
def S_count (Inv : Wd → Prop) : Prop := ∀ (σ : Wd) (a1 : Int32), Inv σ → ∃ (r : Int32) (σ1 σ2 : Wd), (X10_count σ a1 = some r ∧ σ1 = σ) ∧ (X11_count σ1 a1 = some (r, σ2)) ∧ Inv σ2
def SAll (Inv : Wd → Prop) : Prop := S_feed Inv ∧ S_back Inv ∧ S_text Inv ∧ S_generate Inv ∧ S_drop Inv ∧ S_change Inv ∧ S_weigh Inv ∧ S_swap Inv ∧ S_turn Inv ∧ S_without Inv ∧ S_lean Inv ∧ S_basis Inv ∧ S_list Inv ∧ S_strike Inv ∧ S_adopt Inv ∧ S_undo Inv ∧ S_generator Inv ∧ S_member Inv ∧ S_place Inv ∧ S_based Inv ∧ S_point Inv ∧ S_family Inv ∧ S_sized Inv ∧ S_mean Inv ∧ S_mass Inv ∧ S_inner Inv ∧ S_hull Inv ∧ S_trace Inv ∧ S_part Inv ∧ S_covers Inv ∧ S_degree Inv ∧ S_single Inv ∧ S_both Inv ∧ S_unshared Inv ∧ S_chain Inv ∧ S_common Inv ∧ S_ranked Inv ∧ S_nested Inv ∧ S_crossing Inv ∧ S_parts Inv ∧ S_shattered Inv ∧ S_fewest Inv ∧ S_withSet Inv ∧ S_withoutGenerator Inv ∧ S_gentlest Inv ∧ S_spoiler Inv ∧ S_proof Inv ∧ S_listed Inv ∧ S_refused Inv ∧ S_needs Inv ∧ S_spell Inv ∧ S_count Inv
theorem l_RL_13 : kVL RL 13 yX10_feed mX10_feed 5 10 := ⟨kMemL [438, 439, 440, 72, 441] (by decide +kernel) (by decide +kernel), by decide +kernel, ⟨_, rfl, rfl⟩, by decide⟩
theorem l_RL_17 : kVL RL 17 yX11_feed mX11_feed 5 11 := ⟨kMemL [1660, 1661, 1662, 86, 1663] (by decide +kernel) (by decide +kernel), by decide +kernel, ⟨_, rfl, rfl⟩, by decide⟩
theorem l_RL_18 : kVL RL 18 yX10_back mX10_back 1 10 := ⟨kMemL [447, 448, 449, 72, 450] (by decide +kernel) (by decide +kernel), by decide +kernel, ⟨_, rfl, rfl⟩, by decide⟩
theorem l_RL_22 : kVL RL 22 yX11_back mX11_back 1 11 := ⟨kMemL [1664, 1665, 1666, 86, 1667] (by decide +kernel) (by decide +kernel), by decide +kernel, ⟨_, rfl, rfl⟩, by decide⟩
theorem l_RL_23 : kVL RL 23 yX10_text mX10_text 0 10 := ⟨kMemL [451, 452, 453, 72, 454] (by decide +kernel) (by decide +kernel), by decide +kernel, ⟨_, rfl, rfl⟩, by decide⟩
theorem l_RL_27 : kVL RL 27 yX11_text mX11_text 0 11 := ⟨kMemL [1668, 1669, 1670, 86, 1671] (by decide +kernel) (by decide +kernel), by decide +kernel, ⟨_, rfl, rfl⟩, by decide⟩
theorem l_RL_28 : kVL RL 28 yX10_generate mX10_generate 1 10 := ⟨kMemL [599, 600, 601, 72, 602] (by decide +kernel) (by decide +kernel), by decide +kernel, ⟨_, rfl, rfl⟩, by decide⟩
theorem l_RL_31 : kVL RL 31 yX11_generate mX11_generate 1 11 := ⟨kMemL [1251, 1252, 1253, 86, 1254] (by decide +kernel) (by decide +kernel), by decide +kernel, ⟨_, rfl, rfl⟩, by decide⟩
theorem l_RL_32 : kVL RL 32 yX10_drop mX10_drop 1 10 := ⟨kMemL [625, 626, 627, 72, 628] (by decide +kernel) (by decide +kernel), by decide +kernel, ⟨_, rfl, rfl⟩, by decide⟩
theorem l_RL_36 : kVL RL 36 yX11_drop mX11_drop 1 11 := ⟨kMemL [1281, 1282, 1283, 86, 1284] (by decide +kernel) (by decide +kernel), by decide +kernel, ⟨_, rfl, rfl⟩, by decide⟩
theorem l_RL_37 : kVL RL 37 yX10_change mX10_change 2 10 := ⟨kMemL [641, 642, 643, 72, 644] (by decide +kernel) (by decide +kernel), by decide +kernel, ⟨_, rfl, rfl⟩, by decide⟩
theorem l_RL_41 : kVL RL 41 yX11_change mX11_change 2 11 := ⟨kMemL [1293, 1294, 1295, 86, 1296] (by decide +kernel) (by decide +kernel), by decide +kernel, ⟨_, rfl, rfl⟩, by decide⟩
theorem l_RL_42 : kVL RL 42 yX10_weigh mX10_weigh 2 10 := ⟨kMemL [647, 648, 649, 72, 650] (by decide +kernel) (by decide +kernel), by decide +kernel, ⟨_, rfl, rfl⟩, by decide⟩
theorem l_RL_45 : kVL RL 45 yX11_weigh mX11_weigh 2 11 := ⟨kMemL [1301, 1302, 1303, 86, 1304] (by decide +kernel) (by decide +kernel), by decide +kernel, ⟨_, rfl, rfl⟩, by decide⟩
theorem l_RL_46 : kVL RL 46 yX10_swap mX10_swap 2 10 := ⟨kMemL [657, 658, 659, 72, 660] (by decide +kernel) (by decide +kernel), by decide +kernel, ⟨_, rfl, rfl⟩, by decide⟩
theorem l_RL_49 : kVL RL 49 yX11_swap mX11_swap 2 11 := ⟨kMemL [1309, 1310, 1311, 86, 1312] (by decide +kernel) (by decide +kernel), by decide +kernel, ⟨_, rfl, rfl⟩, by decide⟩
theorem l_RL_50 : kVL RL 50 yX10_turn mX10_turn 0 10 := ⟨kMemL [668, 669, 670, 72, 671] (by decide +kernel) (by decide +kernel), by decide +kernel, ⟨_, rfl, rfl⟩, by decide⟩
theorem l_RL_53 : kVL RL 53 yX11_turn mX11_turn 0 11 := ⟨kMemL [1328, 1329, 1330, 86, 1331] (by decide +kernel) (by decide +kernel), by decide +kernel, ⟨_, rfl, rfl⟩, by decide⟩
theorem l_RL_54 : kVL RL 54 yX10_without mX10_without 1 10 := ⟨kMemL [675, 676, 677, 72, 678] (by decide +kernel) (by decide +kernel), by decide +kernel, ⟨_, rfl, rfl⟩, by decide⟩
theorem l_RL_57 : kVL RL 57 yX11_without mX11_without 1 11 := ⟨kMemL [1332, 1333, 1334, 86, 1335] (by decide +kernel) (by decide +kernel), by decide +kernel, ⟨_, rfl, rfl⟩, by decide⟩
theorem l_RL_58 : kVL RL 58 yX10_lean mX10_lean 0 10 := ⟨kMemL [683, 684, 685, 72, 686] (by decide +kernel) (by decide +kernel), by decide +kernel, ⟨_, rfl, rfl⟩, by decide⟩
theorem l_RL_61 : kVL RL 61 yX11_lean mX11_lean 0 11 := ⟨kMemL [1336, 1337, 1338, 86, 1339] (by decide +kernel) (by decide +kernel), by decide +kernel, ⟨_, rfl, rfl⟩, by decide⟩
theorem l_RL_62 : kVL RL 62 yX10_basis mX10_basis 0 10 := ⟨kMemL [691, 692, 693, 72, 694] (by decide +kernel) (by decide +kernel), by decide +kernel, ⟨_, rfl, rfl⟩, by decide⟩
theorem l_RL_65 : kVL RL 65 yX11_basis mX11_basis 0 11 := ⟨kMemL [1362, 1363, 1364, 86, 1365] (by decide +kernel) (by decide +kernel), by decide +kernel, ⟨_, rfl, rfl⟩, by decide⟩
theorem l_RL_66 : kVL RL 66 yX10_list mX10_list 1 10 := ⟨kMemL [704, 705, 706, 72, 707] (by decide +kernel) (by decide +kernel), by decide +kernel, ⟨_, rfl, rfl⟩, by decide⟩
theorem l_RL_69 : kVL RL 69 yX11_list mX11_list 1 11 := ⟨kMemL [1370, 1371, 1372, 86, 1373] (by decide +kernel) (by decide +kernel), by decide +kernel, ⟨_, rfl, rfl⟩, by decide⟩
theorem l_RL_70 : kVL RL 70 yX10_strike mX10_strike 1 10 := ⟨kMemL [708, 709, 710, 72, 711] (by decide +kernel) (by decide +kernel), by decide +kernel, ⟨_, rfl, rfl⟩, by decide⟩
theorem l_RL_73 : kVL RL 73 yX11_strike mX11_strike 1 11 := ⟨kMemL [1382, 1383, 1384, 86, 1385] (by decide +kernel) (by decide +kernel), by decide +kernel, ⟨_, rfl, rfl⟩, by decide⟩
theorem l_RL_74 : kVL RL 74 yX10_adopt mX10_adopt 0 10 := ⟨kMemL [712, 713, 714, 72, 715] (by decide +kernel) (by decide +kernel), by decide +kernel, ⟨_, rfl, rfl⟩, by decide⟩
theorem l_RL_77 : kVL RL 77 yX11_adopt mX11_adopt 0 11 := ⟨kMemL [1386, 1387, 1388, 86, 1389] (by decide +kernel) (by decide +kernel), by decide +kernel, ⟨_, rfl, rfl⟩, by decide⟩
theorem l_RL_78 : kVL RL 78 yX10_undo mX10_undo 0 10 := ⟨kMemL [716, 717, 718, 72, 719] (by decide +kernel) (by decide +kernel), by decide +kernel, ⟨_, rfl, rfl⟩, by decide⟩
theorem l_RL_81 : kVL RL 81 yX11_undo mX11_undo 0 11 := ⟨kMemL [1390, 1391, 1392, 86, 1393] (by decide +kernel) (by decide +kernel), by decide +kernel, ⟨_, rfl, rfl⟩, by decide⟩
theorem l_RL_82 : kVL RL 82 yX10_generator mX10_generator 2 10 := ⟨kMemL [724, 725, 726, 72, 727] (by decide +kernel) (by decide +kernel), by decide +kernel, ⟨_, rfl, rfl⟩, by decide⟩
theorem l_RL_85 : kVL RL 85 yX11_generator mX11_generator 2 11 := ⟨kMemL [1394, 1395, 1396, 86, 1397] (by decide +kernel) (by decide +kernel), by decide +kernel, ⟨_, rfl, rfl⟩, by decide⟩
theorem l_RL_86 : kVL RL 86 yX10_member mX10_member 1 10 := ⟨kMemL [732, 733, 734, 72, 735] (by decide +kernel) (by decide +kernel), by decide +kernel, ⟨_, rfl, rfl⟩, by decide⟩
theorem l_RL_89 : kVL RL 89 yX11_member mX11_member 1 11 := ⟨kMemL [1398, 1399, 1400, 86, 1401] (by decide +kernel) (by decide +kernel), by decide +kernel, ⟨_, rfl, rfl⟩, by decide⟩
theorem l_RL_90 : kVL RL 90 yX10_place mX10_place 1 10 := ⟨kMemL [736, 737, 738, 72, 739] (by decide +kernel) (by decide +kernel), by decide +kernel, ⟨_, rfl, rfl⟩, by decide⟩
theorem l_RL_93 : kVL RL 93 yX11_place mX11_place 1 11 := ⟨kMemL [1406, 1407, 1408, 86, 1409] (by decide +kernel) (by decide +kernel), by decide +kernel, ⟨_, rfl, rfl⟩, by decide⟩
theorem l_RL_94 : kVL RL 94 yX10_based mX10_based 1 10 := ⟨kMemL [740, 741, 742, 72, 743] (by decide +kernel) (by decide +kernel), by decide +kernel, ⟨_, rfl, rfl⟩, by decide⟩
theorem l_RL_97 : kVL RL 97 yX11_based mX11_based 1 11 := ⟨kMemL [1410, 1411, 1412, 86, 1413] (by decide +kernel) (by decide +kernel), by decide +kernel, ⟨_, rfl, rfl⟩, by decide⟩
theorem l_RL_98 : kVL RL 98 yX10_point mX10_point 2 10 := ⟨kMemL [744, 745, 746, 72, 747] (by decide +kernel) (by decide +kernel), by decide +kernel, ⟨_, rfl, rfl⟩, by decide⟩
theorem l_RL_101 : kVL RL 101 yX11_point mX11_point 2 11 := ⟨kMemL [1414, 1415, 1416, 86, 1417] (by decide +kernel) (by decide +kernel), by decide +kernel, ⟨_, rfl, rfl⟩, by decide⟩
theorem l_RL_102 : kVL RL 102 yX10_family mX10_family 1 10 := ⟨kMemL [765, 766, 767, 72, 768] (by decide +kernel) (by decide +kernel), by decide +kernel, ⟨_, rfl, rfl⟩, by decide⟩
theorem l_RL_105 : kVL RL 105 yX11_family mX11_family 1 11 := ⟨kMemL [1444, 1445, 1446, 86, 1447] (by decide +kernel) (by decide +kernel), by decide +kernel, ⟨_, rfl, rfl⟩, by decide⟩
theorem l_RL_106 : kVL RL 106 yX10_sized mX10_sized 1 10 := ⟨kMemL [867, 868, 869, 72, 870] (by decide +kernel) (by decide +kernel), by decide +kernel, ⟨_, rfl, rfl⟩, by decide⟩
theorem l_RL_109 : kVL RL 109 yX11_sized mX11_sized 1 11 := ⟨kMemL [1504, 1505, 1506, 86, 1507] (by decide +kernel) (by decide +kernel), by decide +kernel, ⟨_, rfl, rfl⟩, by decide⟩
theorem l_RL_110 : kVL RL 110 yX10_mean mX10_mean 2 10 := ⟨kMemL [872, 873, 874, 72, 875] (by decide +kernel) (by decide +kernel), by decide +kernel, ⟨_, rfl, rfl⟩, by decide⟩
theorem l_RL_114 : kVL RL 114 yX11_mean mX11_mean 2 11 := ⟨kMemL [1512, 1513, 1514, 86, 1515] (by decide +kernel) (by decide +kernel), by decide +kernel, ⟨_, rfl, rfl⟩, by decide⟩
theorem l_RL_115 : kVL RL 115 yX10_mass mX10_mass 1 10 := ⟨kMemL [883, 884, 885, 72, 886] (by decide +kernel) (by decide +kernel), by decide +kernel, ⟨_, rfl, rfl⟩, by decide⟩
theorem l_RL_118 : kVL RL 118 yX11_mass mX11_mass 1 11 := ⟨kMemL [1516, 1517, 1518, 86, 1519] (by decide +kernel) (by decide +kernel), by decide +kernel, ⟨_, rfl, rfl⟩, by decide⟩
theorem l_RL_119 : kVL RL 119 yX10_inner mX10_inner 1 10 := ⟨kMemL [891, 892, 893, 72, 894] (by decide +kernel) (by decide +kernel), by decide +kernel, ⟨_, rfl, rfl⟩, by decide⟩
theorem l_RL_122 : kVL RL 122 yX11_inner mX11_inner 1 11 := ⟨kMemL [1520, 1521, 1522, 86, 1523] (by decide +kernel) (by decide +kernel), by decide +kernel, ⟨_, rfl, rfl⟩, by decide⟩
theorem l_RL_123 : kVL RL 123 yX10_hull mX10_hull 1 10 := ⟨kMemL [899, 900, 901, 72, 902] (by decide +kernel) (by decide +kernel), by decide +kernel, ⟨_, rfl, rfl⟩, by decide⟩
theorem l_RL_126 : kVL RL 126 yX11_hull mX11_hull 1 11 := ⟨kMemL [1524, 1525, 1526, 86, 1527] (by decide +kernel) (by decide +kernel), by decide +kernel, ⟨_, rfl, rfl⟩, by decide⟩
theorem l_RL_127 : kVL RL 127 yX10_trace mX10_trace 2 10 := ⟨kMemL [908, 909, 910, 72, 911] (by decide +kernel) (by decide +kernel), by decide +kernel, ⟨_, rfl, rfl⟩, by decide⟩
theorem l_RL_130 : kVL RL 130 yX11_trace mX11_trace 2 11 := ⟨kMemL [1528, 1529, 1530, 86, 1531] (by decide +kernel) (by decide +kernel), by decide +kernel, ⟨_, rfl, rfl⟩, by decide⟩
theorem l_RL_131 : kVL RL 131 yX10_part mX10_part 3 10 := ⟨kMemL [922, 923, 924, 72, 925] (by decide +kernel) (by decide +kernel), by decide +kernel, ⟨_, rfl, rfl⟩, by decide⟩
theorem l_RL_135 : kVL RL 135 yX11_part mX11_part 3 11 := ⟨kMemL [1532, 1533, 1534, 86, 1535] (by decide +kernel) (by decide +kernel), by decide +kernel, ⟨_, rfl, rfl⟩, by decide⟩
theorem l_RL_136 : kVL RL 136 yX10_covers mX10_covers 2 10 := ⟨kMemL [947, 948, 949, 72, 950] (by decide +kernel) (by decide +kernel), by decide +kernel, ⟨_, rfl, rfl⟩, by decide⟩
theorem l_RL_139 : kVL RL 139 yX11_covers mX11_covers 2 11 := ⟨kMemL [1540, 1541, 1542, 86, 1543] (by decide +kernel) (by decide +kernel), by decide +kernel, ⟨_, rfl, rfl⟩, by decide⟩
theorem l_RL_140 : kVL RL 140 yX10_degree mX10_degree 2 10 := ⟨kMemL [956, 957, 958, 72, 959] (by decide +kernel) (by decide +kernel), by decide +kernel, ⟨_, rfl, rfl⟩, by decide⟩
theorem l_RL_143 : kVL RL 143 yX11_degree mX11_degree 2 11 := ⟨kMemL [1544, 1545, 1546, 86, 1547] (by decide +kernel) (by decide +kernel), by decide +kernel, ⟨_, rfl, rfl⟩, by decide⟩
theorem l_RL_144 : kVL RL 144 yX10_single mX10_single 0 10 := ⟨kMemL [960, 961, 962, 72, 963] (by decide +kernel) (by decide +kernel), by decide +kernel, ⟨_, rfl, rfl⟩, by decide⟩
theorem l_RL_147 : kVL RL 147 yX11_single mX11_single 0 11 := ⟨kMemL [1548, 1549, 1550, 86, 1551] (by decide +kernel) (by decide +kernel), by decide +kernel, ⟨_, rfl, rfl⟩, by decide⟩
theorem l_RL_148 : kVL RL 148 yX10_both mX10_both 3 10 := ⟨kMemL [968, 969, 970, 72, 971] (by decide +kernel) (by decide +kernel), by decide +kernel, ⟨_, rfl, rfl⟩, by decide⟩
theorem l_RL_152 : kVL RL 152 yX11_both mX11_both 3 11 := ⟨kMemL [1552, 1553, 1554, 86, 1555] (by decide +kernel) (by decide +kernel), by decide +kernel, ⟨_, rfl, rfl⟩, by decide⟩
theorem l_RL_153 : kVL RL 153 yX10_unshared mX10_unshared 0 10 := ⟨kMemL [972, 973, 974, 72, 975] (by decide +kernel) (by decide +kernel), by decide +kernel, ⟨_, rfl, rfl⟩, by decide⟩
theorem l_RL_156 : kVL RL 156 yX11_unshared mX11_unshared 0 11 := ⟨kMemL [1556, 1557, 1558, 86, 1559] (by decide +kernel) (by decide +kernel), by decide +kernel, ⟨_, rfl, rfl⟩, by decide⟩
theorem l_RL_157 : kVL RL 157 yX10_chain mX10_chain 1 10 := ⟨kMemL [981, 982, 983, 72, 984] (by decide +kernel) (by decide +kernel), by decide +kernel, ⟨_, rfl, rfl⟩, by decide⟩
theorem l_RL_160 : kVL RL 160 yX11_chain mX11_chain 1 11 := ⟨kMemL [1560, 1561, 1562, 86, 1563] (by decide +kernel) (by decide +kernel), by decide +kernel, ⟨_, rfl, rfl⟩, by decide⟩
theorem l_RL_161 : kVL RL 161 yX10_common mX10_common 2 10 := ⟨kMemL [993, 994, 995, 72, 996] (by decide +kernel) (by decide +kernel), by decide +kernel, ⟨_, rfl, rfl⟩, by decide⟩
theorem l_RL_164 : kVL RL 164 yX11_common mX11_common 2 11 := ⟨kMemL [1564, 1565, 1566, 86, 1567] (by decide +kernel) (by decide +kernel), by decide +kernel, ⟨_, rfl, rfl⟩, by decide⟩
theorem l_RL_165 : kVL RL 165 yX10_ranked mX10_ranked 1 10 := ⟨kMemL [998, 999, 1000, 72, 1001] (by decide +kernel) (by decide +kernel), by decide +kernel, ⟨_, rfl, rfl⟩, by decide⟩
theorem l_RL_168 : kVL RL 168 yX11_ranked mX11_ranked 1 11 := ⟨kMemL [1568, 1569, 1570, 86, 1571] (by decide +kernel) (by decide +kernel), by decide +kernel, ⟨_, rfl, rfl⟩, by decide⟩
theorem l_RL_169 : kVL RL 169 yX10_nested mX10_nested 2 10 := ⟨kMemL [1002, 1003, 1004, 72, 1005] (by decide +kernel) (by decide +kernel), by decide +kernel, ⟨_, rfl, rfl⟩, by decide⟩
theorem l_RL_172 : kVL RL 172 yX11_nested mX11_nested 2 11 := ⟨kMemL [1572, 1573, 1574, 86, 1575] (by decide +kernel) (by decide +kernel), by decide +kernel, ⟨_, rfl, rfl⟩, by decide⟩
theorem l_RL_173 : kVL RL 173 yX10_crossing mX10_crossing 0 10 := ⟨kMemL [1010, 1011, 1012, 72, 1013] (by decide +kernel) (by decide +kernel), by decide +kernel, ⟨_, rfl, rfl⟩, by decide⟩
theorem l_RL_176 : kVL RL 176 yX11_crossing mX11_crossing 0 11 := ⟨kMemL [1576, 1577, 1578, 86, 1579] (by decide +kernel) (by decide +kernel), by decide +kernel, ⟨_, rfl, rfl⟩, by decide⟩
theorem l_RL_177 : kVL RL 177 yX10_parts mX10_parts 0 10 := ⟨kMemL [1018, 1019, 1020, 72, 1021] (by decide +kernel) (by decide +kernel), by decide +kernel, ⟨_, rfl, rfl⟩, by decide⟩
theorem l_RL_180 : kVL RL 180 yX11_parts mX11_parts 0 11 := ⟨kMemL [1580, 1581, 1582, 86, 1583] (by decide +kernel) (by decide +kernel), by decide +kernel, ⟨_, rfl, rfl⟩, by decide⟩
theorem l_RL_181 : kVL RL 181 yX10_shattered mX10_shattered 1 10 := ⟨kMemL [1030, 1031, 1032, 72, 1033] (by decide +kernel) (by decide +kernel), by decide +kernel, ⟨_, rfl, rfl⟩, by decide⟩
theorem l_RL_184 : kVL RL 184 yX11_shattered mX11_shattered 1 11 := ⟨kMemL [1584, 1585, 1586, 86, 1587] (by decide +kernel) (by decide +kernel), by decide +kernel, ⟨_, rfl, rfl⟩, by decide⟩
theorem l_RL_185 : kVL RL 185 yX10_fewest mX10_fewest 1 10 := ⟨kMemL [1035, 1036, 1037, 72, 1038] (by decide +kernel) (by decide +kernel), by decide +kernel, ⟨_, rfl, rfl⟩, by decide⟩
theorem l_RL_188 : kVL RL 188 yX11_fewest mX11_fewest 1 11 := ⟨kMemL [1588, 1589, 1590, 86, 1591] (by decide +kernel) (by decide +kernel), by decide +kernel, ⟨_, rfl, rfl⟩, by decide⟩
theorem l_RL_189 : kVL RL 189 yX10_withSet mX10_withSet 1 10 := ⟨kMemL [1040, 1041, 1042, 72, 1043] (by decide +kernel) (by decide +kernel), by decide +kernel, ⟨_, rfl, rfl⟩, by decide⟩
theorem l_RL_192 : kVL RL 192 yX11_withSet mX11_withSet 1 11 := ⟨kMemL [1592, 1593, 1594, 86, 1595] (by decide +kernel) (by decide +kernel), by decide +kernel, ⟨_, rfl, rfl⟩, by decide⟩
theorem l_RL_193 : kVL RL 193 yX10_withoutGenerator mX10_withoutGenerator 1 10 := ⟨kMemL [1055, 1056, 1057, 72, 1058] (by decide +kernel) (by decide +kernel), by decide +kernel, ⟨_, rfl, rfl⟩, by decide⟩
theorem l_RL_196 : kVL RL 196 yX11_withoutGenerator mX11_withoutGenerator 1 11 := ⟨kMemL [1600, 1601, 1602, 86, 1603] (by decide +kernel) (by decide +kernel), by decide +kernel, ⟨_, rfl, rfl⟩, by decide⟩
theorem l_RL_197 : kVL RL 197 yX10_gentlest mX10_gentlest 0 10 := ⟨kMemL [1063, 1064, 1065, 72, 1066] (by decide +kernel) (by decide +kernel), by decide +kernel, ⟨_, rfl, rfl⟩, by decide⟩
theorem l_RL_200 : kVL RL 200 yX11_gentlest mX11_gentlest 0 11 := ⟨kMemL [1604, 1605, 1606, 86, 1607] (by decide +kernel) (by decide +kernel), by decide +kernel, ⟨_, rfl, rfl⟩, by decide⟩
theorem l_RL_201 : kVL RL 201 yX10_spoiler mX10_spoiler 0 10 := ⟨kMemL [1075, 1076, 1077, 72, 1078] (by decide +kernel) (by decide +kernel), by decide +kernel, ⟨_, rfl, rfl⟩, by decide⟩
theorem l_RL_204 : kVL RL 204 yX11_spoiler mX11_spoiler 0 11 := ⟨kMemL [1608, 1609, 1610, 86, 1611] (by decide +kernel) (by decide +kernel), by decide +kernel, ⟨_, rfl, rfl⟩, by decide⟩
theorem l_RL_205 : kVL RL 205 yX10_proof mX10_proof 0 10 := ⟨kMemL [1088, 1089, 1090, 72, 1091] (by decide +kernel) (by decide +kernel), by decide +kernel, ⟨_, rfl, rfl⟩, by decide⟩
theorem l_RL_208 : kVL RL 208 yX11_proof mX11_proof 0 11 := ⟨kMemL [1612, 1613, 1614, 86, 1615] (by decide +kernel) (by decide +kernel), by decide +kernel, ⟨_, rfl, rfl⟩, by decide⟩
theorem l_RL_209 : kVL RL 209 yX10_listed mX10_listed 1 10 := ⟨kMemL [1102, 1103, 1104, 72, 1105] (by decide +kernel) (by decide +kernel), by decide +kernel, ⟨_, rfl, rfl⟩, by decide⟩
theorem l_RL_212 : kVL RL 212 yX11_listed mX11_listed 1 11 := ⟨kMemL [1624, 1625, 1626, 86, 1627] (by decide +kernel) (by decide +kernel), by decide +kernel, ⟨_, rfl, rfl⟩, by decide⟩
theorem l_RL_213 : kVL RL 213 yX10_refused mX10_refused 1 10 := ⟨kMemL [1106, 1107, 1108, 72, 1109] (by decide +kernel) (by decide +kernel), by decide +kernel, ⟨_, rfl, rfl⟩, by decide⟩
theorem l_RL_216 : kVL RL 216 yX11_refused mX11_refused 1 11 := ⟨kMemL [1628, 1629, 1630, 86, 1631] (by decide +kernel) (by decide +kernel), by decide +kernel, ⟨_, rfl, rfl⟩, by decide⟩
theorem l_RL_217 : kVL RL 217 yX10_needs mX10_needs 0 10 := ⟨kMemL [1110, 1111, 1112, 72, 1113] (by decide +kernel) (by decide +kernel), by decide +kernel, ⟨_, rfl, rfl⟩, by decide⟩
theorem l_RL_220 : kVL RL 220 yX11_needs mX11_needs 0 11 := ⟨kMemL [1632, 1633, 1634, 86, 1635] (by decide +kernel) (by decide +kernel), by decide +kernel, ⟨_, rfl, rfl⟩, by decide⟩
theorem l_RL_221 : kVL RL 221 yX10_spell mX10_spell 1 10 := ⟨kMemL [1114, 1115, 1116, 72, 1117] (by decide +kernel) (by decide +kernel), by decide +kernel, ⟨_, rfl, rfl⟩, by decide⟩
theorem l_RL_224 : kVL RL 224 yX11_spell mX11_spell 1 11 := ⟨kMemL [1636, 1637, 1638, 86, 1639] (by decide +kernel) (by decide +kernel), by decide +kernel, ⟨_, rfl, rfl⟩, by decide⟩
theorem l_RL_225 : kVL RL 225 yX10_count mX10_count 1 10 := ⟨kMemL [1143, 1144, 1145, 72, 1146] (by decide +kernel) (by decide +kernel), by decide +kernel, ⟨_, rfl, rfl⟩, by decide⟩
theorem l_RL_228 : kVL RL 228 yX11_count mX11_count 1 11 := ⟨kMemL [1652, 1653, 1654, 86, 1655] (by decide +kernel) (by decide +kernel), by decide +kernel, ⟨_, rfl, rfl⟩, by decide⟩
def mL_law : MI := (RL, cL_law, 4, ret)
/-- what the world behind the law knows of the script -/
def kXS (E : JE) (b L : Nat) (xs : Nat → Int32) : Prop := kAd E 2000 = b ∧ b < E.1 ∧ ∀ U, E.2.2.2.2.2.2.1 U → va_X b L xs U U.heap
section KLAW
variable {E : JE} {M : MI} {rm : Room} {nm : String} {n0 cl sl pc pc' : Nat} {ls : List (Option JV)} {st : List JV} {σ : Wd} {Z : List Frame → Array Value → State → State → Prop} {b L : Nat} {xs : Nat → Int32}
theorem kg_sld {i : Int32} (hX : kXS E b L xs) (hin : vp_in i L) (hd : decode M.2.1 pc = .ok (.iaload, 1)) (hp : pc + 1 = pc') (kk : KG E M rm nm n0 pc' ls (.inl (xs i.toNatClampNeg) :: st) σ cl sl Z) : KG E M rm nm n0 pc ls (.inl i :: .inr 2000 :: st) σ cl sl Z := by
  subst hp
  intro p l e s m args below meth c H locs la C hN hG hP hS hla
  obtain ⟨h1, h2, h3⟩ := hX
  have k2 := kk p l e s m args below meth c H locs la C hN hG hP hS hla
  rw [List.map_cons, List.map_cons, kTr, kTr, h1]
  exact va_sld C.1 C.2.1 (h3 s C.2.2.2.2.2.2.2.2.2.2) (Nat.lt_of_lt_of_le h2 C.2.2.2.2.2.2.2.2.1.1) (Nat.not_le.mpr h2) hS hin hd k2
theorem kg_slen (hX : kXS E b L xs) (hd : decode M.2.1 pc = .ok (.arraylength, 1)) (hp : pc + 1 = pc') (kk : KG E M rm nm n0 pc' ls (.inl (nI L) :: st) σ cl sl Z) : KG E M rm nm n0 pc ls (.inr 2000 :: st) σ cl sl Z := by
  subst hp
  intro p l e s m args below meth c H locs la C hN hG hP hS hla
  obtain ⟨h1, h2, h3⟩ := hX
  have k2 := kk p l e s m args below meth c H locs la C hN hG hP hS hla
  rw [List.map_cons, kTr, h1]
  exact va_slen C.1 C.2.1 (h3 s C.2.2.2.2.2.2.2.2.2.2) (Nat.lt_of_lt_of_le h2 C.2.2.2.2.2.2.2.2.1.1) (Nat.not_le.mpr h2) hS hd k2
theorem kgVi {index ci r : Nat} {y : MethodName} {My : MI} {rmy : Room} {as : List JV} {stk : List JV} {x : Int32} {σ1 : Wd} (hw : kVL M.1 index y My as.length ci) (hM : kMt E y My rmy (.inr r :: as) σ (kQi x σ1)) (hk : kKd r = ci) (hn : r < E.2.2.2.2.1) (hstk : as.reverse ++ .inr r :: st = stk) (hroom : (rmy.cells = 0 ∧ rmy.slots = 0) ∧ rmy.frames + 1 ≤ rm.frames ∧ 8 + (My.2.2.1 + 11) + rmy.locals ≤ rm.locals) (hcl : cl ≤ rm.cells ∧ sl ≤ rm.slots) (hlen : st.length ≤ 8) (hd : decode M.2.1 pc = .ok (.invokevirtual index, 3)) (hp : pc + 3 = pc') (kk : KG E M rm nm n0 pc' ls (.inl x :: st) σ1 cl sl Z) : KG E M rm nm n0 pc ls stk σ cl sl Z :=
  kg_callV hw hM hk hn hstk hroom hcl hlen hd hp (fun v σ' h => by obtain ⟨rfl, rfl⟩ := h; exact kk)
theorem kgVz {index ci r : Nat} {y : MethodName} {My : MI} {rmy : Room} {as : List JV} {stk : List JV} {x : Int32} {σ1 : Wd} (hw : kVL M.1 index y My as.length ci) (hM : kMt E y My rmy (.inr r :: as) σ (kQz x σ1)) (hk : kKd r = ci) (hn : r < E.2.2.2.2.1) (hstk : as.reverse ++ .inr r :: st = stk) (hroom : (rmy.cells = 0 ∧ rmy.slots = 0) ∧ rmy.frames + 1 ≤ rm.frames ∧ 8 + (My.2.2.1 + 11) + rmy.locals ≤ rm.locals) (hcl : cl ≤ rm.cells ∧ sl ≤ rm.slots) (hlen : st.length ≤ 8) (hd : decode M.2.1 pc = .ok (.invokevirtual index, 3)) (hp : pc + 3 = pc') (kk : KG E M rm nm n0 pc' ls (.inl x :: st) σ1 cl sl Z) : KG E M rm nm n0 pc ls stk σ cl sl Z :=
  kg_callV hw hM hk hn hstk hroom hcl hlen hd hp (fun v σ' h => by obtain ⟨rfl, rfl, -⟩ := h; exact kk)
end KLAW
theorem law_in {i L : Nat} (k : Nat) (hk : k < 6) (h : i + 6 ≤ L) (hL : L ≤ 3072) : vp_in (nI i + nI k) L := by
  rw [nI_add]
  exact vp_in_nI (by omega) (by omega)
theorem law_in0 {i L : Nat} (h : i + 6 ≤ L) (hL : L ≤ 3072) : vp_in (nI i) L := vp_in_nI (by omega) (by omega)
theorem law_tk {i L : Nat} (h : ¬ (nI L - 6 < nI i)) (hi : i ≤ 3078) (hL : L ≤ 3072) : i + 6 ≤ L := by
  rw [Int32.lt_iff_toInt_lt] at h
  have e1 : (nI L - 6).toInt = (L : Int) - 6 := by
    rw [Int32.toInt_sub, nI_toInt (by omega)]
    have : (6 : Int32).toInt = 6 := by decide +kernel
    rw [this, Int.bmod_eq_of_le] <;> omega
  rw [e1, nI_toInt (by omega)] at h
  omega
