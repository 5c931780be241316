theorem pu_nlt {a b : Int32} : ¬ a < b ↔ b ≤ a := by rw [Int32.lt_iff_toInt_lt, Int32.le_iff_toInt_le]; omega
theorem pu_nle {a b : Int32} : ¬ a ≤ b ↔ b < a := by rw [Int32.lt_iff_toInt_lt, Int32.le_iff_toInt_le]; omega
theorem h10 : ¬ (1 : Int32) = 0 := by decide
theorem h00 : (0 : Int32) = 0 := rfl
theorem sp_RD0 (acc amt : Nat → Int32) : sp_RD acc amt 0 [] := ⟨rfl, by simp, fun j g h => by simp at h, fun g h => by cases h⟩
theorem sp_RD.push {acc amt : Nat → Int32} {cnt : Int32} {dr : List sp_Leg} (h : sp_RD acc amt cnt dr) (hl : dr.length < 4) {a m : Int32} (ha : sp_acc a) (hm : sp_amt m) : sp_RD (upd acc dr.length a) (upd amt dr.length m) (nI (dr.length + 1)) (dr ++ [(a, m)]) := by
  refine ⟨by rw [List.length_append]; rfl, by rw [List.length_append, List.length_singleton]; omega, fun j g hj => ?_, fun g hg => ?_⟩
  · by_cases h5 : j = dr.length
    · rw [h5, List.getElem?_append_right (by omega), Nat.sub_self] at hj
      simp only [List.getElem?_cons_zero, Option.some.injEq] at hj
      rw [h5, pu_us, pu_us, ← hj]; exact ⟨rfl, rfl⟩
    · have hi : j < (dr ++ [(a, m)]).length := (List.getElem?_eq_some_iff.mp hj).1
      rw [List.length_append, List.length_singleton] at hi
      rw [List.getElem?_append_left (by omega)] at hj
      rw [pu_un h5, pu_un h5]; exact h.2.2.1 j g hj
  · rcases List.mem_append.mp hg with hg | hg
    · exact h.2.2.2 g hg
    · rw [List.mem_singleton] at hg; rw [hg]; exact ⟨ha, hm⟩
theorem sp_RM.nil {mk ml ma mm ms me : Nat → Int32} {mc : Int32} {es : List sp_Ent} (h : sp_RM mk ml ma mm ms me mc es) : sp_RM mk ml ma mm ms me 0 [] := ⟨fun e he => (by cases he), by simp [sp_szs], rfl, fun i e he => (by simp at he), fun i hi => by
  have h0 : i = 0 := by simpa using hi
  have h1 := h.2.2.2.2 0 (by omega)
  rw [h0, h1]; rfl⟩
theorem sp_find_spec (key : Int32) : ∀ (l : List sp_Ent) (i : Nat), sp_find key i l = -1 ∨ ∃ q e, l[q]? = some e ∧ sp_find key i l = nI (i + q) := by
  intro l
  induction l with
  | nil => intro i; exact Or.inl rfl
  | cons e r ih =>
    intro i
    rw [sp_find]
    by_cases h : e.1 = key
    · rw [if_pos h]; exact Or.inr ⟨0, e, rfl, rfl⟩
    · rw [if_neg h]
      rcases ih (i + 1) with h1 | ⟨q, x, h1, h2⟩
      · exact Or.inl h1
      · exact Or.inr ⟨q + 1, x, by simpa using h1, by rw [h2, Nat.add_assoc, Nat.add_comm 1]⟩
def sp_Rel (x1_running : Int32) (g1_limits : Nat → Int32) (x1_draft_count : Int32) (g1_draft_accounts : Nat → Int32) (g1_draft_amounts : Nat → Int32) (x1_log_count : Int32) (x1_log_end : Int32) (x1_log_syncedCount : Int32) (x1_log_syncedEnd : Int32) (g1_log_cells : Nat → Int32) (g1_log_starts : Nat → Int32) (g1_log_leaves : Nat → Int32) (x1_disk_done : Int32) (x1_disk_failing : Int32) (g1_disk_cells : Nat → Int32) (x1_proof_count : Int32) (g1_proof_ints : Nat → Int32) (x2_count : Int32) (x2_synced : Int32) (x2_syncedEnd : Int32) (x2_draft : Int32) (x2_off : Int32) (x2_failing : Int32) (x2_written : Int32) (x2_padded : Int32) (g2_keys : Nat → Int32) (g2_legs : Nat → Int32) (g2_account : Nat → Int32) (g2_amount : Nat → Int32) (g2_seals : Nat → Int32) (g2_ends : Nat → Int32) (g2_draftAccount : Nat → Int32) (g2_draftAmount : Nat → Int32) (g2_limits : Nat → Int32) (g2_disk : Nat → Int32) (g2_pad : Nat → Int32) (g2_stack : Nat → Int32) (g2_firsts : Nat → Int32) (g2_others : Nat → Int32) : Prop :=
  ∃ (dr : List sp_Leg) (es : List sp_Ent) (syn fl : Nat) (pd : List Int32), sp_RD g1_draft_accounts g1_draft_amounts x1_draft_count dr ∧ sp_RD g2_draftAccount g2_draftAmount x2_draft dr ∧ (∀ k, k < 8 → g2_limits k = g1_limits k) ∧ sp_RL g1_log_cells g1_log_starts g1_log_leaves x1_log_count x1_log_end x1_log_syncedCount x1_log_syncedEnd es syn ∧ x2_synced = nI syn ∧ x1_disk_failing = nI fl ∧ x2_failing = nI fl ∧ fl ≤ 40 ∧ x2_written = x1_disk_done ∧ (∀ k, k < 512 → g2_disk k = g1_disk_cells k) ∧ sp_RP g1_proof_ints x1_proof_count pd ∧ sp_RP g2_pad x2_padded pd ∧ sp_RM g2_keys g2_legs g2_account g2_amount g2_seals g2_ends x2_count es ∧ ((x1_running = 1 ∧ x2_off = 0 ∧ x2_syncedEnd = nI (sp_szs (es.take syn))) ∨ (x1_running = 0 ∧ x2_off = 1 ∧ es = [] ∧ dr = []))

set_option maxRecDepth 100000 in
theorem op_limit {x1_running : Int32} {g1_limits : Nat → Int32} {x1_draft_count : Int32} {g1_draft_accounts : Nat → Int32} {g1_draft_amounts : Nat → Int32} {x1_log_count : Int32} {x1_log_end : Int32} {x1_log_syncedCount : Int32} {x1_log_syncedEnd : Int32} {g1_log_cells : Nat → Int32} {g1_log_starts : Nat → Int32} {g1_log_leaves : Nat → Int32} {x1_disk_done : Int32} {x1_disk_failing : Int32} {g1_disk_cells : Nat → Int32} {x1_proof_count : Int32} {g1_proof_ints : Nat → Int32} {x2_count : Int32} {x2_synced : Int32} {x2_syncedEnd : Int32} {x2_draft : Int32} {x2_off : Int32} {x2_failing : Int32} {x2_written : Int32} {x2_padded : Int32} {g2_keys : Nat → Int32} {g2_legs : Nat → Int32} {g2_account : Nat → Int32} {g2_amount : Nat → Int32} {g2_seals : Nat → Int32} {g2_ends : Nat → Int32} {g2_draftAccount : Nat → Int32} {g2_draftAmount : Nat → Int32} {g2_limits : Nat → Int32} {g2_disk : Nat → Int32} {g2_pad : Nat → Int32} {g2_stack : Nat → Int32} {g2_firsts : Nat → Int32} {g2_others : Nat → Int32} (hR : sp_Rel x1_running g1_limits x1_draft_count g1_draft_accounts g1_draft_amounts x1_log_count x1_log_end x1_log_syncedCount x1_log_syncedEnd g1_log_cells g1_log_starts g1_log_leaves x1_disk_done x1_disk_failing g1_disk_cells x1_proof_count g1_proof_ints x2_count x2_synced x2_syncedEnd x2_draft x2_off x2_failing x2_written x2_padded g2_keys g2_legs g2_account g2_amount g2_seals g2_ends g2_draftAccount g2_draftAmount g2_limits g2_disk g2_pad g2_stack g2_firsts g2_others) (k1 : Int32) (k2 : Int32) : ∃ (r : Int32) (cg1_limits : Nat → Int32) (mg2_limits : Nat → Int32), fSl_limit g1_limits k1 k2 = some (r, cg1_limits) ∧ fMo_limit g2_limits k1 k2 = some (r, mg2_limits) ∧ sp_Rel x1_running cg1_limits x1_draft_count g1_draft_accounts g1_draft_amounts x1_log_count x1_log_end x1_log_syncedCount x1_log_syncedEnd g1_log_cells g1_log_starts g1_log_leaves x1_disk_done x1_disk_failing g1_disk_cells x1_proof_count g1_proof_ints x2_count x2_synced x2_syncedEnd x2_draft x2_off x2_failing x2_written x2_padded g2_keys g2_legs g2_account g2_amount g2_seals g2_ends g2_draftAccount g2_draftAmount mg2_limits g2_disk g2_pad g2_stack g2_firsts g2_others := by
  obtain ⟨dr, es, syn, fl, pd, hD, hMD, hlim, hL, hsy, hdf, hmf, hf40, hw, hdk, hP, hMP, hM, hon⟩ := hR
  by_cases ha : sp_acc k1
  · obtain ⟨j, hj, rfl⟩ := sp_acc_nI ha
    by_cases h1 : k2 < 0
    · have e1 : fSl_limit g1_limits (nI j) k2 = some (0, g1_limits) := by unfold fSl_limit; rw [pu_acc _ ha, pu_bs, if_neg h10, if_pos h1]
      have e2 : fMo_limit g2_limits (nI j) k2 = some (0, g2_limits) := by unfold fMo_limit; rw [mo_acc _ ha, pu_bs, if_neg h10, if_pos h1]
      exact ⟨_, _, _, e1, e2, dr, es, syn, fl, pd, hD, hMD, hlim, hL, hsy, hdf, hmf, hf40, hw, hdk, hP, hMP, hM, hon⟩
    by_cases h2 : k2 ≤ 99999
    · have e1 : fSl_limit g1_limits (nI j) k2 = some (1, upd g1_limits j k2) := by unfold fSl_limit; rw [pu_acc _ ha, pu_bs, if_neg h10, if_neg h1, if_pos h2, pu_wr hj (by decide), pu_bs]
      have e2 : fMo_limit g2_limits (nI j) k2 = some (1, upd g2_limits j k2) := by unfold fMo_limit; rw [mo_acc _ ha, pu_bs, if_neg h10, if_neg h1, if_pos h2, pu_wr hj (by decide), pu_bs]
      refine ⟨_, _, _, e1, e2, dr, es, syn, fl, pd, hD, hMD, fun k hk => ?_, hL, hsy, hdf, hmf, hf40, hw, hdk, hP, hMP, hM, hon⟩
      unfold upd
      by_cases hq : k = j
      · rw [if_pos hq, if_pos hq]
      · rw [if_neg hq, if_neg hq]; exact hlim k hk
    · have e1 : fSl_limit g1_limits (nI j) k2 = some (0, g1_limits) := by unfold fSl_limit; rw [pu_acc _ ha, pu_bs, if_neg h10, if_neg h1, if_neg h2]
      have e2 : fMo_limit g2_limits (nI j) k2 = some (0, g2_limits) := by unfold fMo_limit; rw [mo_acc _ ha, pu_bs, if_neg h10, if_neg h1, if_neg h2]
      exact ⟨_, _, _, e1, e2, dr, es, syn, fl, pd, hD, hMD, hlim, hL, hsy, hdf, hmf, hf40, hw, hdk, hP, hMP, hM, hon⟩
  · have e1 : fSl_limit g1_limits k1 k2 = some (0, g1_limits) := by unfold fSl_limit; rw [pu_acc0 _ ha, pu_bs, if_pos h00]
    have e2 : fMo_limit g2_limits k1 k2 = some (0, g2_limits) := by unfold fMo_limit; rw [mo_acc0 _ ha, pu_bs, if_pos h00]
    exact ⟨_, _, _, e1, e2, dr, es, syn, fl, pd, hD, hMD, hlim, hL, hsy, hdf, hmf, hf40, hw, hdk, hP, hMP, hM, hon⟩
set_option maxRecDepth 100000 in
theorem op_leg {x1_running : Int32} {g1_limits : Nat → Int32} {x1_draft_count : Int32} {g1_draft_accounts : Nat → Int32} {g1_draft_amounts : Nat → Int32} {x1_log_count : Int32} {x1_log_end : Int32} {x1_log_syncedCount : Int32} {x1_log_syncedEnd : Int32} {g1_log_cells : Nat → Int32} {g1_log_starts : Nat → Int32} {g1_log_leaves : Nat → Int32} {x1_disk_done : Int32} {x1_disk_failing : Int32} {g1_disk_cells : Nat → Int32} {x1_proof_count : Int32} {g1_proof_ints : Nat → Int32} {x2_count : Int32} {x2_synced : Int32} {x2_syncedEnd : Int32} {x2_draft : Int32} {x2_off : Int32} {x2_failing : Int32} {x2_written : Int32} {x2_padded : Int32} {g2_keys : Nat → Int32} {g2_legs : Nat → Int32} {g2_account : Nat → Int32} {g2_amount : Nat → Int32} {g2_seals : Nat → Int32} {g2_ends : Nat → Int32} {g2_draftAccount : Nat → Int32} {g2_draftAmount : Nat → Int32} {g2_limits : Nat → Int32} {g2_disk : Nat → Int32} {g2_pad : Nat → Int32} {g2_stack : Nat → Int32} {g2_firsts : Nat → Int32} {g2_others : Nat → Int32} (hR : sp_Rel x1_running g1_limits x1_draft_count g1_draft_accounts g1_draft_amounts x1_log_count x1_log_end x1_log_syncedCount x1_log_syncedEnd g1_log_cells g1_log_starts g1_log_leaves x1_disk_done x1_disk_failing g1_disk_cells x1_proof_count g1_proof_ints x2_count x2_synced x2_syncedEnd x2_draft x2_off x2_failing x2_written x2_padded g2_keys g2_legs g2_account g2_amount g2_seals g2_ends g2_draftAccount g2_draftAmount g2_limits g2_disk g2_pad g2_stack g2_firsts g2_others) (k1 : Int32) (k2 : Int32) : ∃ (r : Int32) (cx1_draft_count : Int32) (cg1_draft_accounts : Nat → Int32) (cg1_draft_amounts : Nat → Int32) (mx2_draft : Int32) (mg2_draftAccount : Nat → Int32) (mg2_draftAmount : Nat → Int32), fSl_leg x1_running x1_draft_count g1_draft_accounts g1_draft_amounts k1 k2 = some (r, cx1_draft_count, cg1_draft_accounts, cg1_draft_amounts) ∧ fMo_leg x2_draft x2_off g2_draftAccount g2_draftAmount k1 k2 = some (r, mx2_draft, mg2_draftAccount, mg2_draftAmount) ∧ sp_Rel x1_running g1_limits cx1_draft_count cg1_draft_accounts cg1_draft_amounts x1_log_count x1_log_end x1_log_syncedCount x1_log_syncedEnd g1_log_cells g1_log_starts g1_log_leaves x1_disk_done x1_disk_failing g1_disk_cells x1_proof_count g1_proof_ints x2_count x2_synced x2_syncedEnd mx2_draft x2_off x2_failing x2_written x2_padded g2_keys g2_legs g2_account g2_amount g2_seals g2_ends mg2_draftAccount mg2_draftAmount g2_limits g2_disk g2_pad g2_stack g2_firsts g2_others := by
  obtain ⟨dr, es, syn, fl, pd, hD, hMD, hlim, hL, hsy, hdf, hmf, hf40, hw, hdk, hP, hMP, hM, hon⟩ := hR
  have h4 := hD.2.1
  rcases hon with ⟨hr, ho, hse⟩ | ⟨hr, ho, hes, hdr⟩
  · subst hr ho
    have mo0 : x2_draft = 4 ∨ ¬ sp_acc k1 ∨ ¬ sp_amt k2 → fMo_leg x2_draft 0 g2_draftAccount g2_draftAmount k1 k2 = some (0, x2_draft, g2_draftAccount, g2_draftAmount) := by
      intro hq
      unfold fMo_leg
      rw [if_pos h00]
      by_cases h1 : x2_draft = 4
      · rw [if_pos h1]
      rw [if_neg h1]
      by_cases h2 : sp_acc k1
      · rw [mo_acc _ h2, pu_bs, if_neg h10]
        by_cases h3 : k2 < (-9999 : Int32)
        · rw [if_pos h3]
        rw [if_neg h3]
        by_cases h5 : (9999 : Int32) < k2
        · rw [if_neg (pu_nle.mpr h5)]
        · rcases hq with hq | hq | hq
          · exact absurd hq h1
          · exact absurd h2 hq
          · exact absurd ⟨h3, h5⟩ hq
      · rw [mo_acc0 _ h2, pu_bs, if_pos h00]
    by_cases ha : sp_acc k1
    · by_cases hm : sp_amt k2
      · by_cases hl : dr.length < 4
        · have e1 : fSl_leg 1 x1_draft_count g1_draft_accounts g1_draft_amounts k1 k2 = some (1, nI (dr.length + 1), upd g1_draft_accounts dr.length k1, upd g1_draft_amounts dr.length k2) := by
            unfold fSl_leg
            rw [if_neg h10, pu_acc _ ha, pu_bs, if_neg h10, pu_amt _ hm, pu_bs, if_neg h10]
            unfold fDr_add
            rw [hD.1, if_pos (show nI dr.length < 4 from nI_lt (b := 4) hl (by decide)), pu_wr hl (by decide), pu_bs, pu_wr hl (by decide), pu_bs, nI_1, pu_bs]
            dsimp only
            rw [if_neg h10]
          have e2 : fMo_leg x2_draft 0 g2_draftAccount g2_draftAmount k1 k2 = some (1, nI (dr.length + 1), upd g2_draftAccount dr.length k1, upd g2_draftAmount dr.length k2) := by
            unfold fMo_leg
            rw [if_pos h00, hMD.1, if_neg (show ¬ nI dr.length = 4 by rw [pu_n4, nI_eq (by omega) (by decide)]; omega), mo_acc _ ha, pu_bs, if_neg h10, if_neg hm.1, if_pos (pu_nlt.mp hm.2), pu_wr hl (by decide), pu_bs, pu_wr hl (by decide), pu_bs, nI_1]
          exact ⟨_, _, _, _, _, _, _, e1, e2, dr ++ [(k1, k2)], es, syn, fl, pd, hD.push hl ha hm, hMD.push hl ha hm, hlim, hL, hsy, hdf, hmf, hf40, hw, hdk, hP, hMP, hM, Or.inl ⟨rfl, rfl, hse⟩⟩
        · have hl4 : dr.length = 4 := by omega
          have e1 : fSl_leg 1 x1_draft_count g1_draft_accounts g1_draft_amounts k1 k2 = some (0, x1_draft_count, g1_draft_accounts, g1_draft_amounts) := by
            unfold fSl_leg
            rw [if_neg h10, pu_acc _ ha, pu_bs, if_neg h10, pu_amt _ hm, pu_bs, if_neg h10]
            unfold fDr_add
            rw [if_neg (show ¬ x1_draft_count < 4 by rw [hD.1]; exact nI_nlt (b := 4) (by omega) (by omega)), pu_bs]
            dsimp only
            rw [if_pos h00]
          exact ⟨_, _, _, _, _, _, _, e1, mo0 (Or.inl (by rw [hMD.1, hl4]; rfl)), dr, es, syn, fl, pd, hD, hMD, hlim, hL, hsy, hdf, hmf, hf40, hw, hdk, hP, hMP, hM, Or.inl ⟨rfl, rfl, hse⟩⟩
      · have e1 : fSl_leg 1 x1_draft_count g1_draft_accounts g1_draft_amounts k1 k2 = some (0, x1_draft_count, g1_draft_accounts, g1_draft_amounts) := by
          unfold fSl_leg
          rw [if_neg h10, pu_acc _ ha, pu_bs, if_neg h10, pu_amt0 _ hm, pu_bs, if_pos h00]
        exact ⟨_, _, _, _, _, _, _, e1, mo0 (Or.inr (Or.inr hm)), dr, es, syn, fl, pd, hD, hMD, hlim, hL, hsy, hdf, hmf, hf40, hw, hdk, hP, hMP, hM, Or.inl ⟨rfl, rfl, hse⟩⟩
    · have e1 : fSl_leg 1 x1_draft_count g1_draft_accounts g1_draft_amounts k1 k2 = some (0, x1_draft_count, g1_draft_accounts, g1_draft_amounts) := by
        unfold fSl_leg
        rw [if_neg h10, pu_acc0 _ ha, pu_bs, if_pos h00]
      exact ⟨_, _, _, _, _, _, _, e1, mo0 (Or.inr (Or.inl ha)), dr, es, syn, fl, pd, hD, hMD, hlim, hL, hsy, hdf, hmf, hf40, hw, hdk, hP, hMP, hM, Or.inl ⟨rfl, rfl, hse⟩⟩
  · subst hr ho
    have e1 : fSl_leg 0 x1_draft_count g1_draft_accounts g1_draft_amounts k1 k2 = some (0, x1_draft_count, g1_draft_accounts, g1_draft_amounts) := by unfold fSl_leg; rw [if_pos h00]
    have e2 : fMo_leg x2_draft 1 g2_draftAccount g2_draftAmount k1 k2 = some (0, x2_draft, g2_draftAccount, g2_draftAmount) := by unfold fMo_leg; rw [if_neg h10]
    exact ⟨_, _, _, _, _, _, _, e1, e2, dr, es, syn, fl, pd, hD, hMD, hlim, hL, hsy, hdf, hmf, hf40, hw, hdk, hP, hMP, hM, Or.inr ⟨rfl, rfl, hes, hdr⟩⟩
set_option maxRecDepth 100000 in
theorem op_drop {x1_running : Int32} {g1_limits : Nat → Int32} {x1_draft_count : Int32} {g1_draft_accounts : Nat → Int32} {g1_draft_amounts : Nat → Int32} {x1_log_count : Int32} {x1_log_end : Int32} {x1_log_syncedCount : Int32} {x1_log_syncedEnd : Int32} {g1_log_cells : Nat → Int32} {g1_log_starts : Nat → Int32} {g1_log_leaves : Nat → Int32} {x1_disk_done : Int32} {x1_disk_failing : Int32} {g1_disk_cells : Nat → Int32} {x1_proof_count : Int32} {g1_proof_ints : Nat → Int32} {x2_count : Int32} {x2_synced : Int32} {x2_syncedEnd : Int32} {x2_draft : Int32} {x2_off : Int32} {x2_failing : Int32} {x2_written : Int32} {x2_padded : Int32} {g2_keys : Nat → Int32} {g2_legs : Nat → Int32} {g2_account : Nat → Int32} {g2_amount : Nat → Int32} {g2_seals : Nat → Int32} {g2_ends : Nat → Int32} {g2_draftAccount : Nat → Int32} {g2_draftAmount : Nat → Int32} {g2_limits : Nat → Int32} {g2_disk : Nat → Int32} {g2_pad : Nat → Int32} {g2_stack : Nat → Int32} {g2_firsts : Nat → Int32} {g2_others : Nat → Int32} (hR : sp_Rel x1_running g1_limits x1_draft_count g1_draft_accounts g1_draft_amounts x1_log_count x1_log_end x1_log_syncedCount x1_log_syncedEnd g1_log_cells g1_log_starts g1_log_leaves x1_disk_done x1_disk_failing g1_disk_cells x1_proof_count g1_proof_ints x2_count x2_synced x2_syncedEnd x2_draft x2_off x2_failing x2_written x2_padded g2_keys g2_legs g2_account g2_amount g2_seals g2_ends g2_draftAccount g2_draftAmount g2_limits g2_disk g2_pad g2_stack g2_firsts g2_others) : ∃ (cx1_draft_count : Int32) (mx2_draft : Int32), fSl_drop x1_draft_count = some cx1_draft_count ∧ fMo_drop x2_draft = some mx2_draft ∧ sp_Rel x1_running g1_limits cx1_draft_count g1_draft_accounts g1_draft_amounts x1_log_count x1_log_end x1_log_syncedCount x1_log_syncedEnd g1_log_cells g1_log_starts g1_log_leaves x1_disk_done x1_disk_failing g1_disk_cells x1_proof_count g1_proof_ints x2_count x2_synced x2_syncedEnd mx2_draft x2_off x2_failing x2_written x2_padded g2_keys g2_legs g2_account g2_amount g2_seals g2_ends g2_draftAccount g2_draftAmount g2_limits g2_disk g2_pad g2_stack g2_firsts g2_others := by
  obtain ⟨dr, es, syn, fl, pd, hD, hMD, hlim, hL, hsy, hdf, hmf, hf40, hw, hdk, hP, hMP, hM, hon⟩ := hR
  refine ⟨0, 0, rfl, rfl, [], es, syn, fl, pd, sp_RD0 _ _, sp_RD0 _ _, hlim, hL, hsy, hdf, hmf, hf40, hw, hdk, hP, hMP, hM, ?_⟩
  rcases hon with ⟨hr, ho, hse⟩ | ⟨hr, ho, hes, hdr⟩
  · exact Or.inl ⟨hr, ho, hse⟩
  · exact Or.inr ⟨hr, ho, hes, rfl⟩
set_option maxRecDepth 100000 in
theorem op_fail {x1_running : Int32} {g1_limits : Nat → Int32} {x1_draft_count : Int32} {g1_draft_accounts : Nat → Int32} {g1_draft_amounts : Nat → Int32} {x1_log_count : Int32} {x1_log_end : Int32} {x1_log_syncedCount : Int32} {x1_log_syncedEnd : Int32} {g1_log_cells : Nat → Int32} {g1_log_starts : Nat → Int32} {g1_log_leaves : Nat → Int32} {x1_disk_done : Int32} {x1_disk_failing : Int32} {g1_disk_cells : Nat → Int32} {x1_proof_count : Int32} {g1_proof_ints : Nat → Int32} {x2_count : Int32} {x2_synced : Int32} {x2_syncedEnd : Int32} {x2_draft : Int32} {x2_off : Int32} {x2_failing : Int32} {x2_written : Int32} {x2_padded : Int32} {g2_keys : Nat → Int32} {g2_legs : Nat → Int32} {g2_account : Nat → Int32} {g2_amount : Nat → Int32} {g2_seals : Nat → Int32} {g2_ends : Nat → Int32} {g2_draftAccount : Nat → Int32} {g2_draftAmount : Nat → Int32} {g2_limits : Nat → Int32} {g2_disk : Nat → Int32} {g2_pad : Nat → Int32} {g2_stack : Nat → Int32} {g2_firsts : Nat → Int32} {g2_others : Nat → Int32} (hR : sp_Rel x1_running g1_limits x1_draft_count g1_draft_accounts g1_draft_amounts x1_log_count x1_log_end x1_log_syncedCount x1_log_syncedEnd g1_log_cells g1_log_starts g1_log_leaves x1_disk_done x1_disk_failing g1_disk_cells x1_proof_count g1_proof_ints x2_count x2_synced x2_syncedEnd x2_draft x2_off x2_failing x2_written x2_padded g2_keys g2_legs g2_account g2_amount g2_seals g2_ends g2_draftAccount g2_draftAmount g2_limits g2_disk g2_pad g2_stack g2_firsts g2_others) (k1 : Int32) : ∃ (r : Int32) (cx1_disk_failing : Int32) (mx2_failing : Int32), fSl_fail x1_disk_failing k1 = some (r, cx1_disk_failing) ∧ fMo_fail x2_failing k1 = some (r, mx2_failing) ∧ sp_Rel x1_running g1_limits x1_draft_count g1_draft_accounts g1_draft_amounts x1_log_count x1_log_end x1_log_syncedCount x1_log_syncedEnd g1_log_cells g1_log_starts g1_log_leaves x1_disk_done cx1_disk_failing g1_disk_cells x1_proof_count g1_proof_ints x2_count x2_synced x2_syncedEnd x2_draft x2_off mx2_failing x2_written x2_padded g2_keys g2_legs g2_account g2_amount g2_seals g2_ends g2_draftAccount g2_draftAmount g2_limits g2_disk g2_pad g2_stack g2_firsts g2_others := by
  obtain ⟨dr, es, syn, fl, pd, hD, hMD, hlim, hL, hsy, hdf, hmf, hf40, hw, hdk, hP, hMP, hM, hon⟩ := hR
  by_cases h1 : k1 < 0
  · have e1 : fSl_fail x1_disk_failing k1 = some (0, x1_disk_failing) := by unfold fSl_fail; rw [if_pos h1]
    have e2 : fMo_fail x2_failing k1 = some (0, x2_failing) := by unfold fMo_fail; rw [if_pos h1]
    exact ⟨_, _, _, e1, e2, dr, es, syn, fl, pd, hD, hMD, hlim, hL, hsy, hdf, hmf, hf40, hw, hdk, hP, hMP, hM, hon⟩
  by_cases h2 : k1 ≤ 40
  · have e1 : fSl_fail x1_disk_failing k1 = some (1, k1) := by unfold fSl_fail; rw [if_neg h1, if_pos h2]; rfl
    have e2 : fMo_fail x2_failing k1 = some (1, k1) := by unfold fMo_fail; rw [if_neg h1, if_pos h2]
    obtain ⟨j, hj, rfl⟩ := nI_of h1
    have hj2 : j ≤ 40 := by rw [pu_n40, nI_leI hj (by decide)] at h2; exact h2
    exact ⟨_, _, _, e1, e2, dr, es, syn, j, pd, hD, hMD, hlim, hL, hsy, rfl, rfl, hj2, hw, hdk, hP, hMP, hM, hon⟩
  · have e1 : fSl_fail x1_disk_failing k1 = some (0, x1_disk_failing) := by unfold fSl_fail; rw [if_neg h1, if_neg h2]
    have e2 : fMo_fail x2_failing k1 = some (0, x2_failing) := by unfold fMo_fail; rw [if_neg h1, if_neg h2]
    exact ⟨_, _, _, e1, e2, dr, es, syn, fl, pd, hD, hMD, hlim, hL, hsy, hdf, hmf, hf40, hw, hdk, hP, hMP, hM, hon⟩
set_option maxRecDepth 100000 in
theorem op_on {x1_running : Int32} {g1_limits : Nat → Int32} {x1_draft_count : Int32} {g1_draft_accounts : Nat → Int32} {g1_draft_amounts : Nat → Int32} {x1_log_count : Int32} {x1_log_end : Int32} {x1_log_syncedCount : Int32} {x1_log_syncedEnd : Int32} {g1_log_cells : Nat → Int32} {g1_log_starts : Nat → Int32} {g1_log_leaves : Nat → Int32} {x1_disk_done : Int32} {x1_disk_failing : Int32} {g1_disk_cells : Nat → Int32} {x1_proof_count : Int32} {g1_proof_ints : Nat → Int32} {x2_count : Int32} {x2_synced : Int32} {x2_syncedEnd : Int32} {x2_draft : Int32} {x2_off : Int32} {x2_failing : Int32} {x2_written : Int32} {x2_padded : Int32} {g2_keys : Nat → Int32} {g2_legs : Nat → Int32} {g2_account : Nat → Int32} {g2_amount : Nat → Int32} {g2_seals : Nat → Int32} {g2_ends : Nat → Int32} {g2_draftAccount : Nat → Int32} {g2_draftAmount : Nat → Int32} {g2_limits : Nat → Int32} {g2_disk : Nat → Int32} {g2_pad : Nat → Int32} {g2_stack : Nat → Int32} {g2_firsts : Nat → Int32} {g2_others : Nat → Int32} (hR : sp_Rel x1_running g1_limits x1_draft_count g1_draft_accounts g1_draft_amounts x1_log_count x1_log_end x1_log_syncedCount x1_log_syncedEnd g1_log_cells g1_log_starts g1_log_leaves x1_disk_done x1_disk_failing g1_disk_cells x1_proof_count g1_proof_ints x2_count x2_synced x2_syncedEnd x2_draft x2_off x2_failing x2_written x2_padded g2_keys g2_legs g2_account g2_amount g2_seals g2_ends g2_draftAccount g2_draftAmount g2_limits g2_disk g2_pad g2_stack g2_firsts g2_others) : ∃ (r : Int32), fSl_on x1_running = some r ∧ fMo_on x2_off = some r ∧ sp_Rel x1_running g1_limits x1_draft_count g1_draft_accounts g1_draft_amounts x1_log_count x1_log_end x1_log_syncedCount x1_log_syncedEnd g1_log_cells g1_log_starts g1_log_leaves x1_disk_done x1_disk_failing g1_disk_cells x1_proof_count g1_proof_ints x2_count x2_synced x2_syncedEnd x2_draft x2_off x2_failing x2_written x2_padded g2_keys g2_legs g2_account g2_amount g2_seals g2_ends g2_draftAccount g2_draftAmount g2_limits g2_disk g2_pad g2_stack g2_firsts g2_others := by
  obtain ⟨dr, es, syn, fl, pd, hD, hMD, hlim, hL, hsy, hdf, hmf, hf40, hw, hdk, hP, hMP, hM, hon⟩ := hR
  rcases hon with ⟨hr, ho, hse⟩ | ⟨hr, ho, hes, hdr⟩
  · subst hr ho
    exact ⟨1, rfl, rfl, dr, es, syn, fl, pd, hD, hMD, hlim, hL, hsy, hdf, hmf, hf40, hw, hdk, hP, hMP, hM, Or.inl ⟨rfl, rfl, hse⟩⟩
  · subst hr ho
    exact ⟨0, rfl, rfl, dr, es, syn, fl, pd, hD, hMD, hlim, hL, hsy, hdf, hmf, hf40, hw, hdk, hP, hMP, hM, Or.inr ⟨rfl, rfl, hes, hdr⟩⟩
set_option maxRecDepth 100000 in
theorem op_entries {x1_running : Int32} {g1_limits : Nat → Int32} {x1_draft_count : Int32} {g1_draft_accounts : Nat → Int32} {g1_draft_amounts : Nat → Int32} {x1_log_count : Int32} {x1_log_end : Int32} {x1_log_syncedCount : Int32} {x1_log_syncedEnd : Int32} {g1_log_cells : Nat → Int32} {g1_log_starts : Nat → Int32} {g1_log_leaves : Nat → Int32} {x1_disk_done : Int32} {x1_disk_failing : Int32} {g1_disk_cells : Nat → Int32} {x1_proof_count : Int32} {g1_proof_ints : Nat → Int32} {x2_count : Int32} {x2_synced : Int32} {x2_syncedEnd : Int32} {x2_draft : Int32} {x2_off : Int32} {x2_failing : Int32} {x2_written : Int32} {x2_padded : Int32} {g2_keys : Nat → Int32} {g2_legs : Nat → Int32} {g2_account : Nat → Int32} {g2_amount : Nat → Int32} {g2_seals : Nat → Int32} {g2_ends : Nat → Int32} {g2_draftAccount : Nat → Int32} {g2_draftAmount : Nat → Int32} {g2_limits : Nat → Int32} {g2_disk : Nat → Int32} {g2_pad : Nat → Int32} {g2_stack : Nat → Int32} {g2_firsts : Nat → Int32} {g2_others : Nat → Int32} (hR : sp_Rel x1_running g1_limits x1_draft_count g1_draft_accounts g1_draft_amounts x1_log_count x1_log_end x1_log_syncedCount x1_log_syncedEnd g1_log_cells g1_log_starts g1_log_leaves x1_disk_done x1_disk_failing g1_disk_cells x1_proof_count g1_proof_ints x2_count x2_synced x2_syncedEnd x2_draft x2_off x2_failing x2_written x2_padded g2_keys g2_legs g2_account g2_amount g2_seals g2_ends g2_draftAccount g2_draftAmount g2_limits g2_disk g2_pad g2_stack g2_firsts g2_others) : ∃ (r : Int32), fSl_entries x1_log_count = some r ∧ fMo_entries x2_count = some r ∧ sp_Rel x1_running g1_limits x1_draft_count g1_draft_accounts g1_draft_amounts x1_log_count x1_log_end x1_log_syncedCount x1_log_syncedEnd g1_log_cells g1_log_starts g1_log_leaves x1_disk_done x1_disk_failing g1_disk_cells x1_proof_count g1_proof_ints x2_count x2_synced x2_syncedEnd x2_draft x2_off x2_failing x2_written x2_padded g2_keys g2_legs g2_account g2_amount g2_seals g2_ends g2_draftAccount g2_draftAmount g2_limits g2_disk g2_pad g2_stack g2_firsts g2_others := by
  obtain ⟨dr, es, syn, fl, pd, hD, hMD, hlim, hL, hsy, hdf, hmf, hf40, hw, hdk, hP, hMP, hM, hon⟩ := hR
  have e2 : fMo_entries x2_count = some x1_log_count := by rw [hM.2.2.1, hL.2.2.2.1]; rfl
  exact ⟨x1_log_count, rfl, e2, dr, es, syn, fl, pd, hD, hMD, hlim, hL, hsy, hdf, hmf, hf40, hw, hdk, hP, hMP, hM, hon⟩
set_option maxRecDepth 100000 in
theorem op_synced {x1_running : Int32} {g1_limits : Nat → Int32} {x1_draft_count : Int32} {g1_draft_accounts : Nat → Int32} {g1_draft_amounts : Nat → Int32} {x1_log_count : Int32} {x1_log_end : Int32} {x1_log_syncedCount : Int32} {x1_log_syncedEnd : Int32} {g1_log_cells : Nat → Int32} {g1_log_starts : Nat → Int32} {g1_log_leaves : Nat → Int32} {x1_disk_done : Int32} {x1_disk_failing : Int32} {g1_disk_cells : Nat → Int32} {x1_proof_count : Int32} {g1_proof_ints : Nat → Int32} {x2_count : Int32} {x2_synced : Int32} {x2_syncedEnd : Int32} {x2_draft : Int32} {x2_off : Int32} {x2_failing : Int32} {x2_written : Int32} {x2_padded : Int32} {g2_keys : Nat → Int32} {g2_legs : Nat → Int32} {g2_account : Nat → Int32} {g2_amount : Nat → Int32} {g2_seals : Nat → Int32} {g2_ends : Nat → Int32} {g2_draftAccount : Nat → Int32} {g2_draftAmount : Nat → Int32} {g2_limits : Nat → Int32} {g2_disk : Nat → Int32} {g2_pad : Nat → Int32} {g2_stack : Nat → Int32} {g2_firsts : Nat → Int32} {g2_others : Nat → Int32} (hR : sp_Rel x1_running g1_limits x1_draft_count g1_draft_accounts g1_draft_amounts x1_log_count x1_log_end x1_log_syncedCount x1_log_syncedEnd g1_log_cells g1_log_starts g1_log_leaves x1_disk_done x1_disk_failing g1_disk_cells x1_proof_count g1_proof_ints x2_count x2_synced x2_syncedEnd x2_draft x2_off x2_failing x2_written x2_padded g2_keys g2_legs g2_account g2_amount g2_seals g2_ends g2_draftAccount g2_draftAmount g2_limits g2_disk g2_pad g2_stack g2_firsts g2_others) : ∃ (r : Int32), fSl_synced x1_log_syncedCount = some r ∧ fMo_synced x2_synced = some r ∧ sp_Rel x1_running g1_limits x1_draft_count g1_draft_accounts g1_draft_amounts x1_log_count x1_log_end x1_log_syncedCount x1_log_syncedEnd g1_log_cells g1_log_starts g1_log_leaves x1_disk_done x1_disk_failing g1_disk_cells x1_proof_count g1_proof_ints x2_count x2_synced x2_syncedEnd x2_draft x2_off x2_failing x2_written x2_padded g2_keys g2_legs g2_account g2_amount g2_seals g2_ends g2_draftAccount g2_draftAmount g2_limits g2_disk g2_pad g2_stack g2_firsts g2_others := by
  obtain ⟨dr, es, syn, fl, pd, hD, hMD, hlim, hL, hsy, hdf, hmf, hf40, hw, hdk, hP, hMP, hM, hon⟩ := hR
  have e2 : fMo_synced x2_synced = some x1_log_syncedCount := by rw [hsy, hL.2.2.2.2.2.1]; rfl
  exact ⟨x1_log_syncedCount, rfl, e2, dr, es, syn, fl, pd, hD, hMD, hlim, hL, hsy, hdf, hmf, hf40, hw, hdk, hP, hMP, hM, hon⟩
set_option maxRecDepth 100000 in
theorem op_writes {x1_running : Int32} {g1_limits : Nat → Int32} {x1_draft_count : Int32} {g1_draft_accounts : Nat → Int32} {g1_draft_amounts : Nat → Int32} {x1_log_count : Int32} {x1_log_end : Int32} {x1_log_syncedCount : Int32} {x1_log_syncedEnd : Int32} {g1_log_cells : Nat → Int32} {g1_log_starts : Nat → Int32} {g1_log_leaves : Nat → Int32} {x1_disk_done : Int32} {x1_disk_failing : Int32} {g1_disk_cells : Nat → Int32} {x1_proof_count : Int32} {g1_proof_ints : Nat → Int32} {x2_count : Int32} {x2_synced : Int32} {x2_syncedEnd : Int32} {x2_draft : Int32} {x2_off : Int32} {x2_failing : Int32} {x2_written : Int32} {x2_padded : Int32} {g2_keys : Nat → Int32} {g2_legs : Nat → Int32} {g2_account : Nat → Int32} {g2_amount : Nat → Int32} {g2_seals : Nat → Int32} {g2_ends : Nat → Int32} {g2_draftAccount : Nat → Int32} {g2_draftAmount : Nat → Int32} {g2_limits : Nat → Int32} {g2_disk : Nat → Int32} {g2_pad : Nat → Int32} {g2_stack : Nat → Int32} {g2_firsts : Nat → Int32} {g2_others : Nat → Int32} (hR : sp_Rel x1_running g1_limits x1_draft_count g1_draft_accounts g1_draft_amounts x1_log_count x1_log_end x1_log_syncedCount x1_log_syncedEnd g1_log_cells g1_log_starts g1_log_leaves x1_disk_done x1_disk_failing g1_disk_cells x1_proof_count g1_proof_ints x2_count x2_synced x2_syncedEnd x2_draft x2_off x2_failing x2_written x2_padded g2_keys g2_legs g2_account g2_amount g2_seals g2_ends g2_draftAccount g2_draftAmount g2_limits g2_disk g2_pad g2_stack g2_firsts g2_others) : ∃ (r : Int32), fSl_writes x1_disk_done = some r ∧ fMo_writes x2_written = some r ∧ sp_Rel x1_running g1_limits x1_draft_count g1_draft_accounts g1_draft_amounts x1_log_count x1_log_end x1_log_syncedCount x1_log_syncedEnd g1_log_cells g1_log_starts g1_log_leaves x1_disk_done x1_disk_failing g1_disk_cells x1_proof_count g1_proof_ints x2_count x2_synced x2_syncedEnd x2_draft x2_off x2_failing x2_written x2_padded g2_keys g2_legs g2_account g2_amount g2_seals g2_ends g2_draftAccount g2_draftAmount g2_limits g2_disk g2_pad g2_stack g2_firsts g2_others := by
  obtain ⟨dr, es, syn, fl, pd, hD, hMD, hlim, hL, hsy, hdf, hmf, hf40, hw, hdk, hP, hMP, hM, hon⟩ := hR
  have e2 : fMo_writes x2_written = some x1_disk_done := by rw [hw]; rfl
  exact ⟨x1_disk_done, rfl, e2, dr, es, syn, fl, pd, hD, hMD, hlim, hL, hsy, hdf, hmf, hf40, hw, hdk, hP, hMP, hM, hon⟩
set_option maxRecDepth 100000 in
theorem op_find {x1_running : Int32} {g1_limits : Nat → Int32} {x1_draft_count : Int32} {g1_draft_accounts : Nat → Int32} {g1_draft_amounts : Nat → Int32} {x1_log_count : Int32} {x1_log_end : Int32} {x1_log_syncedCount : Int32} {x1_log_syncedEnd : Int32} {g1_log_cells : Nat → Int32} {g1_log_starts : Nat → Int32} {g1_log_leaves : Nat → Int32} {x1_disk_done : Int32} {x1_disk_failing : Int32} {g1_disk_cells : Nat → Int32} {x1_proof_count : Int32} {g1_proof_ints : Nat → Int32} {x2_count : Int32} {x2_synced : Int32} {x2_syncedEnd : Int32} {x2_draft : Int32} {x2_off : Int32} {x2_failing : Int32} {x2_written : Int32} {x2_padded : Int32} {g2_keys : Nat → Int32} {g2_legs : Nat → Int32} {g2_account : Nat → Int32} {g2_amount : Nat → Int32} {g2_seals : Nat → Int32} {g2_ends : Nat → Int32} {g2_draftAccount : Nat → Int32} {g2_draftAmount : Nat → Int32} {g2_limits : Nat → Int32} {g2_disk : Nat → Int32} {g2_pad : Nat → Int32} {g2_stack : Nat → Int32} {g2_firsts : Nat → Int32} {g2_others : Nat → Int32} (hR : sp_Rel x1_running g1_limits x1_draft_count g1_draft_accounts g1_draft_amounts x1_log_count x1_log_end x1_log_syncedCount x1_log_syncedEnd g1_log_cells g1_log_starts g1_log_leaves x1_disk_done x1_disk_failing g1_disk_cells x1_proof_count g1_proof_ints x2_count x2_synced x2_syncedEnd x2_draft x2_off x2_failing x2_written x2_padded g2_keys g2_legs g2_account g2_amount g2_seals g2_ends g2_draftAccount g2_draftAmount g2_limits g2_disk g2_pad g2_stack g2_firsts g2_others) (k1 : Int32) : ∃ (r : Int32), fSl_find x1_log_count g1_log_cells g1_log_starts k1 = some r ∧ fMo_find x2_count g2_keys k1 = some r ∧ sp_Rel x1_running g1_limits x1_draft_count g1_draft_accounts g1_draft_amounts x1_log_count x1_log_end x1_log_syncedCount x1_log_syncedEnd g1_log_cells g1_log_starts g1_log_leaves x1_disk_done x1_disk_failing g1_disk_cells x1_proof_count g1_proof_ints x2_count x2_synced x2_syncedEnd x2_draft x2_off x2_failing x2_written x2_padded g2_keys g2_legs g2_account g2_amount g2_seals g2_ends g2_draftAccount g2_draftAmount g2_limits g2_disk g2_pad g2_stack g2_firsts g2_others := by
  obtain ⟨dr, es, syn, fl, pd, hD, hMD, hlim, hL, hsy, hdf, hmf, hf40, hw, hdk, hP, hMP, hM, hon⟩ := hR
  have e1 : fSl_find x1_log_count g1_log_cells g1_log_starts k1 = some (sp_find k1 0 es) := by unfold fSl_find; rw [pu_find hL, pu_bs]
  exact ⟨_, e1, mo_find hM k1, dr, es, syn, fl, pd, hD, hMD, hlim, hL, hsy, hdf, hmf, hf40, hw, hdk, hP, hMP, hM, hon⟩
set_option maxRecDepth 100000 in
theorem op_statement {x1_running : Int32} {g1_limits : Nat → Int32} {x1_draft_count : Int32} {g1_draft_accounts : Nat → Int32} {g1_draft_amounts : Nat → Int32} {x1_log_count : Int32} {x1_log_end : Int32} {x1_log_syncedCount : Int32} {x1_log_syncedEnd : Int32} {g1_log_cells : Nat → Int32} {g1_log_starts : Nat → Int32} {g1_log_leaves : Nat → Int32} {x1_disk_done : Int32} {x1_disk_failing : Int32} {g1_disk_cells : Nat → Int32} {x1_proof_count : Int32} {g1_proof_ints : Nat → Int32} {x2_count : Int32} {x2_synced : Int32} {x2_syncedEnd : Int32} {x2_draft : Int32} {x2_off : Int32} {x2_failing : Int32} {x2_written : Int32} {x2_padded : Int32} {g2_keys : Nat → Int32} {g2_legs : Nat → Int32} {g2_account : Nat → Int32} {g2_amount : Nat → Int32} {g2_seals : Nat → Int32} {g2_ends : Nat → Int32} {g2_draftAccount : Nat → Int32} {g2_draftAmount : Nat → Int32} {g2_limits : Nat → Int32} {g2_disk : Nat → Int32} {g2_pad : Nat → Int32} {g2_stack : Nat → Int32} {g2_firsts : Nat → Int32} {g2_others : Nat → Int32} (hR : sp_Rel x1_running g1_limits x1_draft_count g1_draft_accounts g1_draft_amounts x1_log_count x1_log_end x1_log_syncedCount x1_log_syncedEnd g1_log_cells g1_log_starts g1_log_leaves x1_disk_done x1_disk_failing g1_disk_cells x1_proof_count g1_proof_ints x2_count x2_synced x2_syncedEnd x2_draft x2_off x2_failing x2_written x2_padded g2_keys g2_legs g2_account g2_amount g2_seals g2_ends g2_draftAccount g2_draftAmount g2_limits g2_disk g2_pad g2_stack g2_firsts g2_others) (k1 : Int32) (k2 : Int32) (k3 : Int32) (k4 : Int32) : ∃ (r : Int32), fSl_statement x1_log_count g1_log_cells g1_log_starts k1 k2 k3 k4 = some r ∧ fMo_statement x2_count g2_legs g2_account g2_amount k1 k2 k3 k4 = some r ∧ sp_Rel x1_running g1_limits x1_draft_count g1_draft_accounts g1_draft_amounts x1_log_count x1_log_end x1_log_syncedCount x1_log_syncedEnd g1_log_cells g1_log_starts g1_log_leaves x1_disk_done x1_disk_failing g1_disk_cells x1_proof_count g1_proof_ints x2_count x2_synced x2_syncedEnd x2_draft x2_off x2_failing x2_written x2_padded g2_keys g2_legs g2_account g2_amount g2_seals g2_ends g2_draftAccount g2_draftAmount g2_limits g2_disk g2_pad g2_stack g2_firsts g2_others := by
  obtain ⟨dr, es, syn, fl, pd, hD, hMD, hlim, hL, hsy, hdf, hmf, hf40, hw, hdk, hP, hMP, hM, hon⟩ := hR
  by_cases ha : sp_acc k1
  · have e1 : fSl_statement x1_log_count g1_log_cells g1_log_starts k1 k2 k3 k4 = some (sp_tot k1 k4 0 (sp_row es k2 k3)) := by unfold fSl_statement; rw [pu_acc _ ha, pu_bs, if_neg h10, pu_total hL, pu_bs]
    exact ⟨_, e1, mo_stmt hM ha k2 k3, dr, es, syn, fl, pd, hD, hMD, hlim, hL, hsy, hdf, hmf, hf40, hw, hdk, hP, hMP, hM, hon⟩
  · have e1 : fSl_statement x1_log_count g1_log_cells g1_log_starts k1 k2 k3 k4 = some 0 := by unfold fSl_statement; rw [pu_acc0 _ ha, pu_bs, if_pos h00]
    exact ⟨_, e1, mo_stmt0 ha k2 k3, dr, es, syn, fl, pd, hD, hMD, hlim, hL, hsy, hdf, hmf, hf40, hw, hdk, hP, hMP, hM, hon⟩
set_option maxRecDepth 100000 in
theorem op_balance {x1_running : Int32} {g1_limits : Nat → Int32} {x1_draft_count : Int32} {g1_draft_accounts : Nat → Int32} {g1_draft_amounts : Nat → Int32} {x1_log_count : Int32} {x1_log_end : Int32} {x1_log_syncedCount : Int32} {x1_log_syncedEnd : Int32} {g1_log_cells : Nat → Int32} {g1_log_starts : Nat → Int32} {g1_log_leaves : Nat → Int32} {x1_disk_done : Int32} {x1_disk_failing : Int32} {g1_disk_cells : Nat → Int32} {x1_proof_count : Int32} {g1_proof_ints : Nat → Int32} {x2_count : Int32} {x2_synced : Int32} {x2_syncedEnd : Int32} {x2_draft : Int32} {x2_off : Int32} {x2_failing : Int32} {x2_written : Int32} {x2_padded : Int32} {g2_keys : Nat → Int32} {g2_legs : Nat → Int32} {g2_account : Nat → Int32} {g2_amount : Nat → Int32} {g2_seals : Nat → Int32} {g2_ends : Nat → Int32} {g2_draftAccount : Nat → Int32} {g2_draftAmount : Nat → Int32} {g2_limits : Nat → Int32} {g2_disk : Nat → Int32} {g2_pad : Nat → Int32} {g2_stack : Nat → Int32} {g2_firsts : Nat → Int32} {g2_others : Nat → Int32} (hR : sp_Rel x1_running g1_limits x1_draft_count g1_draft_accounts g1_draft_amounts x1_log_count x1_log_end x1_log_syncedCount x1_log_syncedEnd g1_log_cells g1_log_starts g1_log_leaves x1_disk_done x1_disk_failing g1_disk_cells x1_proof_count g1_proof_ints x2_count x2_synced x2_syncedEnd x2_draft x2_off x2_failing x2_written x2_padded g2_keys g2_legs g2_account g2_amount g2_seals g2_ends g2_draftAccount g2_draftAmount g2_limits g2_disk g2_pad g2_stack g2_firsts g2_others) (k1 : Int32) (k2 : Int32) : ∃ (r : Int32), fSl_balance x1_log_count g1_log_cells g1_log_starts k1 k2 = some r ∧ fMo_balance x2_count g2_legs g2_account g2_amount k1 k2 = some r ∧ sp_Rel x1_running g1_limits x1_draft_count g1_draft_accounts g1_draft_amounts x1_log_count x1_log_end x1_log_syncedCount x1_log_syncedEnd g1_log_cells g1_log_starts g1_log_leaves x1_disk_done x1_disk_failing g1_disk_cells x1_proof_count g1_proof_ints x2_count x2_synced x2_syncedEnd x2_draft x2_off x2_failing x2_written x2_padded g2_keys g2_legs g2_account g2_amount g2_seals g2_ends g2_draftAccount g2_draftAmount g2_limits g2_disk g2_pad g2_stack g2_firsts g2_others := by
  obtain ⟨dr, es, syn, fl, pd, hD, hMD, hlim, hL, hsy, hdf, hmf, hf40, hw, hdk, hP, hMP, hM, hon⟩ := hR
  have h73 := sp_len es hL.1
  have hz := hL.2.1
  have e2 : fMo_balance x2_count g2_legs g2_account g2_amount k1 k2 = if k2 ≤ nI es.length then (if k2 < 0 then some 0 else fMo_statement x2_count g2_legs g2_account g2_amount k1 0 k2 1) else some 0 := by
    unfold fMo_balance
    rw [hM.2.2.1]
    by_cases h1 : k2 ≤ nI es.length
    · rw [if_pos h1, if_pos h1, ← hM.2.2.1]
      by_cases h2 : k2 < 0
      · rw [if_pos h2]
        by_cases ha : sp_acc k1
        · rw [mo_stmt hM ha, pu_bs, sp_row_neg es (by omega) _ _ h2]; rfl
        · rw [mo_stmt0 ha, pu_bs]
      · rw [if_neg h2]
        cases fMo_statement x2_count g2_legs g2_account g2_amount k1 0 k2 1 with
        | none => rfl
        | some v => rfl
    · rw [if_neg h1, if_neg h1]
  have e1 : fSl_balance x1_log_count g1_log_cells g1_log_starts k1 k2 = (fSl_isAccount k1).bind fun v => if v = 0 then some 0 else if k2 < 0 then some 0 else if k2 ≤ nI es.length then some (sp_tot k1 1 0 (sp_row es 0 k2)) else some 0 := by
    unfold fSl_balance
    by_cases ha : sp_acc k1
    · rw [pu_acc _ ha, pu_bs, pu_bs, if_neg h10, if_neg h10, show fLg_size x1_log_count = some x1_log_count from rfl, pu_bs, pu_total hL, pu_bs, hL.2.2.2.1]
    · rw [pu_acc0 _ ha, pu_bs, pu_bs, if_pos h00, if_pos h00]
  by_cases ha : sp_acc k1
  · rw [pu_acc _ ha, pu_bs, if_neg h10] at e1
    by_cases h2 : k2 < 0
    · rw [if_pos h2] at e1
      have h1 : k2 ≤ nI es.length := by
        rw [Int32.lt_iff_toInt_lt] at h2
        have e0 : (0 : Int32).toInt = 0 := by decide
        rw [Int32.le_iff_toInt_le, nI_toInt (by omega)]; omega
      rw [if_pos h1, if_pos h2] at e2
      exact ⟨_, e1, e2, dr, es, syn, fl, pd, hD, hMD, hlim, hL, hsy, hdf, hmf, hf40, hw, hdk, hP, hMP, hM, hon⟩
    · rw [if_neg h2] at e1
      by_cases h1 : k2 ≤ nI es.length
      · rw [if_pos h1] at e1
        rw [if_pos h1, if_neg h2, mo_stmt hM ha] at e2
        exact ⟨_, e1, e2, dr, es, syn, fl, pd, hD, hMD, hlim, hL, hsy, hdf, hmf, hf40, hw, hdk, hP, hMP, hM, hon⟩
      · rw [if_neg h1] at e1 e2
        exact ⟨_, e1, e2, dr, es, syn, fl, pd, hD, hMD, hlim, hL, hsy, hdf, hmf, hf40, hw, hdk, hP, hMP, hM, hon⟩
  · rw [pu_acc0 _ ha, pu_bs, if_pos h00] at e1
    have e3 : fMo_balance x2_count g2_legs g2_account g2_amount k1 k2 = some 0 := by
      rw [e2]
      by_cases h1 : k2 ≤ nI es.length
      · rw [if_pos h1]
        by_cases h2 : k2 < 0
        · rw [if_pos h2]
        · rw [if_neg h2, mo_stmt0 ha]
      · rw [if_neg h1]
    exact ⟨_, e1, e3, dr, es, syn, fl, pd, hD, hMD, hlim, hL, hsy, hdf, hmf, hf40, hw, hdk, hP, hMP, hM, hon⟩
set_option maxRecDepth 100000 in
theorem op_leaf {x1_running : Int32} {g1_limits : Nat → Int32} {x1_draft_count : Int32} {g1_draft_accounts : Nat → Int32} {g1_draft_amounts : Nat → Int32} {x1_log_count : Int32} {x1_log_end : Int32} {x1_log_syncedCount : Int32} {x1_log_syncedEnd : Int32} {g1_log_cells : Nat → Int32} {g1_log_starts : Nat → Int32} {g1_log_leaves : Nat → Int32} {x1_disk_done : Int32} {x1_disk_failing : Int32} {g1_disk_cells : Nat → Int32} {x1_proof_count : Int32} {g1_proof_ints : Nat → Int32} {x2_count : Int32} {x2_synced : Int32} {x2_syncedEnd : Int32} {x2_draft : Int32} {x2_off : Int32} {x2_failing : Int32} {x2_written : Int32} {x2_padded : Int32} {g2_keys : Nat → Int32} {g2_legs : Nat → Int32} {g2_account : Nat → Int32} {g2_amount : Nat → Int32} {g2_seals : Nat → Int32} {g2_ends : Nat → Int32} {g2_draftAccount : Nat → Int32} {g2_draftAmount : Nat → Int32} {g2_limits : Nat → Int32} {g2_disk : Nat → Int32} {g2_pad : Nat → Int32} {g2_stack : Nat → Int32} {g2_firsts : Nat → Int32} {g2_others : Nat → Int32} (hR : sp_Rel x1_running g1_limits x1_draft_count g1_draft_accounts g1_draft_amounts x1_log_count x1_log_end x1_log_syncedCount x1_log_syncedEnd g1_log_cells g1_log_starts g1_log_leaves x1_disk_done x1_disk_failing g1_disk_cells x1_proof_count g1_proof_ints x2_count x2_synced x2_syncedEnd x2_draft x2_off x2_failing x2_written x2_padded g2_keys g2_legs g2_account g2_amount g2_seals g2_ends g2_draftAccount g2_draftAmount g2_limits g2_disk g2_pad g2_stack g2_firsts g2_others) (k1 : Int32) : ∃ (r : Int32), fSl_leaf x1_log_count g1_log_leaves k1 = some r ∧ fMo_leaf x2_count g2_keys g2_legs g2_account g2_amount k1 = some r ∧ sp_Rel x1_running g1_limits x1_draft_count g1_draft_accounts g1_draft_amounts x1_log_count x1_log_end x1_log_syncedCount x1_log_syncedEnd g1_log_cells g1_log_starts g1_log_leaves x1_disk_done x1_disk_failing g1_disk_cells x1_proof_count g1_proof_ints x2_count x2_synced x2_syncedEnd x2_draft x2_off x2_failing x2_written x2_padded g2_keys g2_legs g2_account g2_amount g2_seals g2_ends g2_draftAccount g2_draftAmount g2_limits g2_disk g2_pad g2_stack g2_firsts g2_others := by
  obtain ⟨dr, es, syn, fl, pd, hD, hMD, hlim, hL, hsy, hdf, hmf, hf40, hw, hdk, hP, hMP, hM, hon⟩ := hR
  have h73 := sp_len es hL.1
  have hz := hL.2.1
  by_cases h1 : k1 < 0
  · have e1 : fSl_leaf x1_log_count g1_log_leaves k1 = some 0 := by unfold fSl_leaf; rw [pu_leafOf0 hL k1 (Or.inl h1), pu_bs]
    have e2 : fMo_leaf x2_count g2_keys g2_legs g2_account g2_amount k1 = some 0 := by unfold fMo_leaf; rw [if_pos h1]
    exact ⟨_, e1, e2, dr, es, syn, fl, pd, hD, hMD, hlim, hL, hsy, hdf, hmf, hf40, hw, hdk, hP, hMP, hM, hon⟩
  · obtain ⟨j, hj, rfl⟩ := nI_of h1
    have e1 : fSl_leaf x1_log_count g1_log_leaves (nI j) = some (sp_lf es j) := by unfold fSl_leaf; rw [pu_leafOfN hL j hj, pu_bs]
    have e2 : fMo_leaf x2_count g2_keys g2_legs g2_account g2_amount (nI j) = some (sp_lf es j) := by
      unfold fMo_leaf sp_lf
      rw [if_neg h1, hM.2.2.1]
      by_cases h2 : j < es.length
      · obtain ⟨e, he, -⟩ := pu_dropc (l := es) (i := j) h2
        have hel := (hL.1 e (List.mem_of_getElem? he)).2.1
        rw [if_pos (nI_lt h2 (by omega)), mo_leafOf (hM.2.2.2.1 j e he).1 (by omega) hel, pu_bs, he]
      · rw [if_neg (nI_nlt (by omega) hj), List.getElem?_eq_none (by omega)]
    exact ⟨_, e1, e2, dr, es, syn, fl, pd, hD, hMD, hlim, hL, hsy, hdf, hmf, hf40, hw, hdk, hP, hMP, hM, hon⟩
set_option maxRecDepth 100000 in
theorem op_cell {x1_running : Int32} {g1_limits : Nat → Int32} {x1_draft_count : Int32} {g1_draft_accounts : Nat → Int32} {g1_draft_amounts : Nat → Int32} {x1_log_count : Int32} {x1_log_end : Int32} {x1_log_syncedCount : Int32} {x1_log_syncedEnd : Int32} {g1_log_cells : Nat → Int32} {g1_log_starts : Nat → Int32} {g1_log_leaves : Nat → Int32} {x1_disk_done : Int32} {x1_disk_failing : Int32} {g1_disk_cells : Nat → Int32} {x1_proof_count : Int32} {g1_proof_ints : Nat → Int32} {x2_count : Int32} {x2_synced : Int32} {x2_syncedEnd : Int32} {x2_draft : Int32} {x2_off : Int32} {x2_failing : Int32} {x2_written : Int32} {x2_padded : Int32} {g2_keys : Nat → Int32} {g2_legs : Nat → Int32} {g2_account : Nat → Int32} {g2_amount : Nat → Int32} {g2_seals : Nat → Int32} {g2_ends : Nat → Int32} {g2_draftAccount : Nat → Int32} {g2_draftAmount : Nat → Int32} {g2_limits : Nat → Int32} {g2_disk : Nat → Int32} {g2_pad : Nat → Int32} {g2_stack : Nat → Int32} {g2_firsts : Nat → Int32} {g2_others : Nat → Int32} (hR : sp_Rel x1_running g1_limits x1_draft_count g1_draft_accounts g1_draft_amounts x1_log_count x1_log_end x1_log_syncedCount x1_log_syncedEnd g1_log_cells g1_log_starts g1_log_leaves x1_disk_done x1_disk_failing g1_disk_cells x1_proof_count g1_proof_ints x2_count x2_synced x2_syncedEnd x2_draft x2_off x2_failing x2_written x2_padded g2_keys g2_legs g2_account g2_amount g2_seals g2_ends g2_draftAccount g2_draftAmount g2_limits g2_disk g2_pad g2_stack g2_firsts g2_others) (k1 : Int32) : ∃ (r : Int32), fSl_cell g1_disk_cells k1 = some r ∧ fMo_cell g2_disk k1 = some r ∧ sp_Rel x1_running g1_limits x1_draft_count g1_draft_accounts g1_draft_amounts x1_log_count x1_log_end x1_log_syncedCount x1_log_syncedEnd g1_log_cells g1_log_starts g1_log_leaves x1_disk_done x1_disk_failing g1_disk_cells x1_proof_count g1_proof_ints x2_count x2_synced x2_syncedEnd x2_draft x2_off x2_failing x2_written x2_padded g2_keys g2_legs g2_account g2_amount g2_seals g2_ends g2_draftAccount g2_draftAmount g2_limits g2_disk g2_pad g2_stack g2_firsts g2_others := by
  obtain ⟨dr, es, syn, fl, pd, hD, hMD, hlim, hL, hsy, hdf, hmf, hf40, hw, hdk, hP, hMP, hM, hon⟩ := hR
  by_cases h1 : k1 < 0
  · have e1 : fSl_cell g1_disk_cells k1 = some 0 := by unfold fSl_cell fDk_cellAt; rw [if_pos h1]; rfl
    have e2 : fMo_cell g2_disk k1 = some 0 := by unfold fMo_cell; rw [if_pos h1]
    exact ⟨_, e1, e2, dr, es, syn, fl, pd, hD, hMD, hlim, hL, hsy, hdf, hmf, hf40, hw, hdk, hP, hMP, hM, hon⟩
  · obtain ⟨j, hj, rfl⟩ := nI_of h1
    by_cases h2 : j < 512
    · have e1 : fSl_cell g1_disk_cells (nI j) = some (g1_disk_cells j) := by unfold fSl_cell; rw [pu_cellAt _ j h2, pu_bs]
      have e2 : fMo_cell g2_disk (nI j) = some (g1_disk_cells j) := by unfold fMo_cell; rw [if_neg h1, if_pos (show nI j ≤ 511 from nI_le (b := 511) (by omega) (by decide)), pu_rd h2 (by decide), pu_bs, hdk j h2]
      exact ⟨_, e1, e2, dr, es, syn, fl, pd, hD, hMD, hlim, hL, hsy, hdf, hmf, hf40, hw, hdk, hP, hMP, hM, hon⟩
    · have e1 : fSl_cell g1_disk_cells (nI j) = some 0 := by unfold fSl_cell fDk_cellAt; rw [if_neg h1, if_pos (show (512 : Int32) ≤ nI j from nI_le (a := 512) (by omega) hj)]; rfl
      have e2 : fMo_cell g2_disk (nI j) = some 0 := by unfold fMo_cell; rw [if_neg h1, if_neg (show ¬ nI j ≤ 511 from nI_ge (a := 511) (by omega) hj)]
      exact ⟨_, e1, e2, dr, es, syn, fl, pd, hD, hMD, hlim, hL, hsy, hdf, hmf, hf40, hw, hdk, hP, hMP, hM, hon⟩
set_option maxRecDepth 100000 in
theorem op_pad {x1_running : Int32} {g1_limits : Nat → Int32} {x1_draft_count : Int32} {g1_draft_accounts : Nat → Int32} {g1_draft_amounts : Nat → Int32} {x1_log_count : Int32} {x1_log_end : Int32} {x1_log_syncedCount : Int32} {x1_log_syncedEnd : Int32} {g1_log_cells : Nat → Int32} {g1_log_starts : Nat → Int32} {g1_log_leaves : Nat → Int32} {x1_disk_done : Int32} {x1_disk_failing : Int32} {g1_disk_cells : Nat → Int32} {x1_proof_count : Int32} {g1_proof_ints : Nat → Int32} {x2_count : Int32} {x2_synced : Int32} {x2_syncedEnd : Int32} {x2_draft : Int32} {x2_off : Int32} {x2_failing : Int32} {x2_written : Int32} {x2_padded : Int32} {g2_keys : Nat → Int32} {g2_legs : Nat → Int32} {g2_account : Nat → Int32} {g2_amount : Nat → Int32} {g2_seals : Nat → Int32} {g2_ends : Nat → Int32} {g2_draftAccount : Nat → Int32} {g2_draftAmount : Nat → Int32} {g2_limits : Nat → Int32} {g2_disk : Nat → Int32} {g2_pad : Nat → Int32} {g2_stack : Nat → Int32} {g2_firsts : Nat → Int32} {g2_others : Nat → Int32} (hR : sp_Rel x1_running g1_limits x1_draft_count g1_draft_accounts g1_draft_amounts x1_log_count x1_log_end x1_log_syncedCount x1_log_syncedEnd g1_log_cells g1_log_starts g1_log_leaves x1_disk_done x1_disk_failing g1_disk_cells x1_proof_count g1_proof_ints x2_count x2_synced x2_syncedEnd x2_draft x2_off x2_failing x2_written x2_padded g2_keys g2_legs g2_account g2_amount g2_seals g2_ends g2_draftAccount g2_draftAmount g2_limits g2_disk g2_pad g2_stack g2_firsts g2_others) (k1 : Int32) : ∃ (r : Int32), fSl_pad x1_proof_count g1_proof_ints k1 = some r ∧ fMo_pad x2_padded g2_pad k1 = some r ∧ sp_Rel x1_running g1_limits x1_draft_count g1_draft_accounts g1_draft_amounts x1_log_count x1_log_end x1_log_syncedCount x1_log_syncedEnd g1_log_cells g1_log_starts g1_log_leaves x1_disk_done x1_disk_failing g1_disk_cells x1_proof_count g1_proof_ints x2_count x2_synced x2_syncedEnd x2_draft x2_off x2_failing x2_written x2_padded g2_keys g2_legs g2_account g2_amount g2_seals g2_ends g2_draftAccount g2_draftAmount g2_limits g2_disk g2_pad g2_stack g2_firsts g2_others := by
  obtain ⟨dr, es, syn, fl, pd, hD, hMD, hlim, hL, hsy, hdf, hmf, hf40, hw, hdk, hP, hMP, hM, hon⟩ := hR
  have h16 := hP.2.1
  by_cases h1 : k1 < 0
  · have e1 : fSl_pad x1_proof_count g1_proof_ints k1 = some 0 := by unfold fSl_pad fPd_intAt; rw [if_pos h1]; rfl
    have e2 : fMo_pad x2_padded g2_pad k1 = some 0 := by unfold fMo_pad; rw [if_pos h1]
    exact ⟨_, e1, e2, dr, es, syn, fl, pd, hD, hMD, hlim, hL, hsy, hdf, hmf, hf40, hw, hdk, hP, hMP, hM, hon⟩
  · obtain ⟨j, hj, rfl⟩ := nI_of h1
    have e1 : fSl_pad x1_proof_count g1_proof_ints (nI j) = some (pd[j]?.getD 0) := by unfold fSl_pad; rw [pu_intAt hP j hj, pu_bs]
    have e2 : fMo_pad x2_padded g2_pad (nI j) = some (pd[j]?.getD 0) := by
      unfold fMo_pad
      rw [if_neg h1, hMP.1]
      by_cases h2 : j < pd.length
      · rw [if_pos (nI_lt h2 (by omega)), pu_rd (by omega) (by decide), pu_bs, List.getElem?_eq_getElem h2, hMP.2.2 j _ (List.getElem?_eq_getElem h2)]; rfl
      · rw [if_neg (nI_nlt (by omega) hj), List.getElem?_eq_none (by omega)]; rfl
    exact ⟨_, e1, e2, dr, es, syn, fl, pd, hD, hMD, hlim, hL, hsy, hdf, hmf, hf40, hw, hdk, hP, hMP, hM, hon⟩
set_option maxRecDepth 100000 in
theorem op_put {x1_running : Int32} {g1_limits : Nat → Int32} {x1_draft_count : Int32} {g1_draft_accounts : Nat → Int32} {g1_draft_amounts : Nat → Int32} {x1_log_count : Int32} {x1_log_end : Int32} {x1_log_syncedCount : Int32} {x1_log_syncedEnd : Int32} {g1_log_cells : Nat → Int32} {g1_log_starts : Nat → Int32} {g1_log_leaves : Nat → Int32} {x1_disk_done : Int32} {x1_disk_failing : Int32} {g1_disk_cells : Nat → Int32} {x1_proof_count : Int32} {g1_proof_ints : Nat → Int32} {x2_count : Int32} {x2_synced : Int32} {x2_syncedEnd : Int32} {x2_draft : Int32} {x2_off : Int32} {x2_failing : Int32} {x2_written : Int32} {x2_padded : Int32} {g2_keys : Nat → Int32} {g2_legs : Nat → Int32} {g2_account : Nat → Int32} {g2_amount : Nat → Int32} {g2_seals : Nat → Int32} {g2_ends : Nat → Int32} {g2_draftAccount : Nat → Int32} {g2_draftAmount : Nat → Int32} {g2_limits : Nat → Int32} {g2_disk : Nat → Int32} {g2_pad : Nat → Int32} {g2_stack : Nat → Int32} {g2_firsts : Nat → Int32} {g2_others : Nat → Int32} (hR : sp_Rel x1_running g1_limits x1_draft_count g1_draft_accounts g1_draft_amounts x1_log_count x1_log_end x1_log_syncedCount x1_log_syncedEnd g1_log_cells g1_log_starts g1_log_leaves x1_disk_done x1_disk_failing g1_disk_cells x1_proof_count g1_proof_ints x2_count x2_synced x2_syncedEnd x2_draft x2_off x2_failing x2_written x2_padded g2_keys g2_legs g2_account g2_amount g2_seals g2_ends g2_draftAccount g2_draftAmount g2_limits g2_disk g2_pad g2_stack g2_firsts g2_others) (k1 : Int32) : ∃ (r : Int32) (cx1_proof_count : Int32) (cg1_proof_ints : Nat → Int32) (mx2_padded : Int32) (mg2_pad : Nat → Int32), fSl_put x1_proof_count g1_proof_ints k1 = some (r, cx1_proof_count, cg1_proof_ints) ∧ fMo_put x2_padded g2_pad k1 = some (r, mx2_padded, mg2_pad) ∧ sp_Rel x1_running g1_limits x1_draft_count g1_draft_accounts g1_draft_amounts x1_log_count x1_log_end x1_log_syncedCount x1_log_syncedEnd g1_log_cells g1_log_starts g1_log_leaves x1_disk_done x1_disk_failing g1_disk_cells cx1_proof_count cg1_proof_ints x2_count x2_synced x2_syncedEnd x2_draft x2_off x2_failing x2_written mx2_padded g2_keys g2_legs g2_account g2_amount g2_seals g2_ends g2_draftAccount g2_draftAmount g2_limits g2_disk mg2_pad g2_stack g2_firsts g2_others := by
  obtain ⟨dr, es, syn, fl, pd, hD, hMD, hlim, hL, hsy, hdf, hmf, hf40, hw, hdk, hP, hMP, hM, hon⟩ := hR
  have h16 := hP.2.1
  by_cases hl : pd.length < 16
  · obtain ⟨a1, a2⟩ := pu_padd hP hl k1
    obtain ⟨b1, b2⟩ := mo_lay hMP hl k1
    have e1 : fSl_put x1_proof_count g1_proof_ints k1 = some (1, nI (pd.length + 1), upd g1_proof_ints pd.length k1) := by unfold fSl_put; rw [a1, pu_bs]; rfl
    have e2 : fMo_put x2_padded g2_pad k1 = some (1, nI (pd.length + 1), upd g2_pad pd.length k1) := by
      unfold fMo_put
      rw [if_neg (show ¬ x2_padded = 16 by rw [hMP.1, pu_n16, nI_eq (by omega) (by decide)]; omega), b1, pu_bs]
    exact ⟨_, _, _, _, _, e1, e2, dr, es, syn, fl, pd ++ [k1], hD, hMD, hlim, hL, hsy, hdf, hmf, hf40, hw, hdk, a2, b2, hM, hon⟩
  · have e1 : fSl_put x1_proof_count g1_proof_ints k1 = some (0, x1_proof_count, g1_proof_ints) := by unfold fSl_put; rw [pu_padd0 hP hl, pu_bs]; rfl
    have e2 : fMo_put x2_padded g2_pad k1 = some (0, x2_padded, g2_pad) := by
      unfold fMo_put
      rw [if_pos (show x2_padded = 16 by rw [hMP.1, show pd.length = 16 by omega]; rfl)]
    exact ⟨_, _, _, _, _, e1, e2, dr, es, syn, fl, pd, hD, hMD, hlim, hL, hsy, hdf, hmf, hf40, hw, hdk, hP, hMP, hM, hon⟩
set_option maxRecDepth 100000 in
theorem op_take {x1_running : Int32} {g1_limits : Nat → Int32} {x1_draft_count : Int32} {g1_draft_accounts : Nat → Int32} {g1_draft_amounts : Nat → Int32} {x1_log_count : Int32} {x1_log_end : Int32} {x1_log_syncedCount : Int32} {x1_log_syncedEnd : Int32} {g1_log_cells : Nat → Int32} {g1_log_starts : Nat → Int32} {g1_log_leaves : Nat → Int32} {x1_disk_done : Int32} {x1_disk_failing : Int32} {g1_disk_cells : Nat → Int32} {x1_proof_count : Int32} {g1_proof_ints : Nat → Int32} {x2_count : Int32} {x2_synced : Int32} {x2_syncedEnd : Int32} {x2_draft : Int32} {x2_off : Int32} {x2_failing : Int32} {x2_written : Int32} {x2_padded : Int32} {g2_keys : Nat → Int32} {g2_legs : Nat → Int32} {g2_account : Nat → Int32} {g2_amount : Nat → Int32} {g2_seals : Nat → Int32} {g2_ends : Nat → Int32} {g2_draftAccount : Nat → Int32} {g2_draftAmount : Nat → Int32} {g2_limits : Nat → Int32} {g2_disk : Nat → Int32} {g2_pad : Nat → Int32} {g2_stack : Nat → Int32} {g2_firsts : Nat → Int32} {g2_others : Nat → Int32} (hR : sp_Rel x1_running g1_limits x1_draft_count g1_draft_accounts g1_draft_amounts x1_log_count x1_log_end x1_log_syncedCount x1_log_syncedEnd g1_log_cells g1_log_starts g1_log_leaves x1_disk_done x1_disk_failing g1_disk_cells x1_proof_count g1_proof_ints x2_count x2_synced x2_syncedEnd x2_draft x2_off x2_failing x2_written x2_padded g2_keys g2_legs g2_account g2_amount g2_seals g2_ends g2_draftAccount g2_draftAmount g2_limits g2_disk g2_pad g2_stack g2_firsts g2_others) : ∃ (r : Int32) (cx1_proof_count : Int32) (mx2_padded : Int32), fSl_take x1_proof_count = some (r, cx1_proof_count) ∧ fMo_take x2_padded = some (r, mx2_padded) ∧ sp_Rel x1_running g1_limits x1_draft_count g1_draft_accounts g1_draft_amounts x1_log_count x1_log_end x1_log_syncedCount x1_log_syncedEnd g1_log_cells g1_log_starts g1_log_leaves x1_disk_done x1_disk_failing g1_disk_cells cx1_proof_count g1_proof_ints x2_count x2_synced x2_syncedEnd x2_draft x2_off x2_failing x2_written mx2_padded g2_keys g2_legs g2_account g2_amount g2_seals g2_ends g2_draftAccount g2_draftAmount g2_limits g2_disk g2_pad g2_stack g2_firsts g2_others := by
  obtain ⟨dr, es, syn, fl, pd, hD, hMD, hlim, hL, hsy, hdf, hmf, hf40, hw, hdk, hP, hMP, hM, hon⟩ := hR
  have h16 := hP.2.1
  rcases pu_snoc pd with rfl | ⟨a, x, rfl⟩
  · have e1 : fSl_take x1_proof_count = some (0, x1_proof_count) := by rw [hP.1]; rfl
    have e2 : fMo_take x2_padded = some (0, x2_padded) := by rw [hMP.1]; rfl
    exact ⟨_, _, _, e1, e2, dr, es, syn, fl, [], hD, hMD, hlim, hL, hsy, hdf, hmf, hf40, hw, hdk, hP, hMP, hM, hon⟩
  · have hl : (a ++ [x]).length = a.length + 1 := by rw [List.length_append]; rfl
    have e1 : fSl_take x1_proof_count = some (1, nI a.length) := by
      unfold fSl_take fPd_removeLast
      rw [hP.1, hl, if_pos (show 0 < nI (a.length + 1) from nI_lt (a := 0) (by omega) (by omega)), pu_bs, nI_pred]; rfl
    have e2 : fMo_take x2_padded = some (1, nI a.length) := by
      unfold fMo_take
      rw [hMP.1, hl, if_neg (nI_ne0 (by omega) (by omega)), nI_pred]
    have cut : ∀ {f : Nat → Int32} {c : Int32}, sp_RP f c (a ++ [x]) → sp_RP f (nI a.length) a := fun h => ⟨rfl, by omega, fun j y hj => h.2.2 j y (by rw [List.getElem?_append_left (List.getElem?_eq_some_iff.mp hj).1]; exact hj)⟩
    exact ⟨_, _, _, e1, e2, dr, es, syn, fl, a, hD, hMD, hlim, hL, hsy, hdf, hmf, hf40, hw, hdk, cut hP, cut hMP, hM, hon⟩
