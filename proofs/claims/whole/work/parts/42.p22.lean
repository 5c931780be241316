theorem pu_nm1 {q : Nat} (h : q < 2 ^ 31) : ¬ nI q = -1 := fun e => nI_pos h (by rw [e]; decide)

set_option maxRecDepth 100000 in
theorem op_sync {x1_running : Int32} {g1_limits : Nat → Int32} {x1_draft_count : Int32} {g1_draft_accounts : Nat → Int32} {g1_draft_amounts : Nat → Int32} {x1_log_count : Int32} {x1_log_end : Int32} {x1_log_syncedCount : Int32} {x1_log_syncedEnd : Int32} {g1_log_cells : Nat → Int32} {g1_log_starts : Nat → Int32} {g1_log_leaves : Nat → Int32} {x1_disk_done : Int32} {x1_disk_failing : Int32} {g1_disk_cells : Nat → Int32} {x1_proof_count : Int32} {g1_proof_ints : Nat → Int32} {x2_count : Int32} {x2_synced : Int32} {x2_syncedEnd : Int32} {x2_draft : Int32} {x2_off : Int32} {x2_failing : Int32} {x2_written : Int32} {x2_padded : Int32} {g2_keys : Nat → Int32} {g2_legs : Nat → Int32} {g2_account : Nat → Int32} {g2_amount : Nat → Int32} {g2_seals : Nat → Int32} {g2_ends : Nat → Int32} {g2_draftAccount : Nat → Int32} {g2_draftAmount : Nat → Int32} {g2_limits : Nat → Int32} {g2_disk : Nat → Int32} {g2_pad : Nat → Int32} {g2_stack : Nat → Int32} {g2_firsts : Nat → Int32} {g2_others : Nat → Int32} (hR : sp_Rel x1_running g1_limits x1_draft_count g1_draft_accounts g1_draft_amounts x1_log_count x1_log_end x1_log_syncedCount x1_log_syncedEnd g1_log_cells g1_log_starts g1_log_leaves x1_disk_done x1_disk_failing g1_disk_cells x1_proof_count g1_proof_ints x2_count x2_synced x2_syncedEnd x2_draft x2_off x2_failing x2_written x2_padded g2_keys g2_legs g2_account g2_amount g2_seals g2_ends g2_draftAccount g2_draftAmount g2_limits g2_disk g2_pad g2_stack g2_firsts g2_others) : ∃ (r : Int32) (cx1_running : Int32) (cx1_draft_count : Int32) (cx1_log_count : Int32) (cx1_log_end : Int32) (cx1_log_syncedCount : Int32) (cx1_log_syncedEnd : Int32) (cg1_log_cells : Nat → Int32) (cx1_disk_done : Int32) (cx1_disk_failing : Int32) (cg1_disk_cells : Nat → Int32) (mx2_count : Int32) (mx2_synced : Int32) (mx2_syncedEnd : Int32) (mx2_draft : Int32) (mx2_off : Int32) (mx2_failing : Int32) (mx2_written : Int32) (mg2_disk : Nat → Int32), fSl_sync x1_running x1_draft_count x1_log_count x1_log_end x1_log_syncedCount x1_log_syncedEnd g1_log_cells x1_disk_done x1_disk_failing g1_disk_cells = some (r, cx1_running, cx1_draft_count, cx1_log_count, cx1_log_end, cx1_log_syncedCount, cx1_log_syncedEnd, cg1_log_cells, cx1_disk_done, cx1_disk_failing, cg1_disk_cells) ∧ fMo_sync x2_count x2_synced x2_syncedEnd x2_draft x2_off x2_failing x2_written g2_keys g2_legs g2_account g2_amount g2_seals g2_ends g2_disk = some (r, mx2_count, mx2_synced, mx2_syncedEnd, mx2_draft, mx2_off, mx2_failing, mx2_written, mg2_disk) ∧ sp_Rel cx1_running g1_limits cx1_draft_count g1_draft_accounts g1_draft_amounts cx1_log_count cx1_log_end cx1_log_syncedCount cx1_log_syncedEnd cg1_log_cells g1_log_starts g1_log_leaves cx1_disk_done cx1_disk_failing cg1_disk_cells x1_proof_count g1_proof_ints mx2_count mx2_synced mx2_syncedEnd mx2_draft mx2_off mx2_failing mx2_written x2_padded g2_keys g2_legs g2_account g2_amount g2_seals g2_ends g2_draftAccount g2_draftAmount g2_limits mg2_disk g2_pad g2_stack g2_firsts g2_others := by
  obtain ⟨dr, es, syn, fl, pd, hD, hMD, hlim, hL, hsy, hdf, hmf, hf40, hw, hdk, hP, hMP, hM, hon⟩ := hR
  have hz := hL.2.1
  rcases hon with ⟨hr, ho, hse⟩ | ⟨hr, ho, hes, hdr⟩
  · subst hr ho hdf hmf hw hse hsy
    have hmono := sp_bk_mono (sp_szs_take es syn)
    have hlt := sp_bk_lt (sp_szs es)
    have hst := sp_szs_take es syn
    have b1 : fLg_syncedBlock x1_log_syncedEnd = some (nI (sp_bk (sp_szs (es.take syn)))) := by unfold fLg_syncedBlock; rw [hL.2.2.2.2.2.2.1, pu_blockOf _ (by omega)]; rfl
    have b2 : fLg_endBlock x1_log_end = some (nI (sp_bk (sp_szs es))) := by unfold fLg_endBlock; rw [hL.2.2.2.2.1, pu_blockOf _ hz]; rfl
    have c1 := pu_syncL hL.2.2.2.2.2.2.2.1 (sp_bk (sp_szs (es.take syn))) (sp_bk (sp_szs es)) hmono hlt 1 x1_draft_count x1_log_count x1_log_end x1_log_syncedCount x1_log_syncedEnd 600 (sp_bk (sp_szs (es.take syn))) g1_disk_cells x2_written fl (by omega) (by omega) hf40
    have m1 := mo_syncL hM (sp_bk (sp_szs (es.take syn))) (sp_bk (sp_szs es)) hmono hlt (nI syn) (nI (sp_szs (es.take syn))) x2_draft 0 600 (sp_bk (sp_szs (es.take syn))) g2_disk x2_written fl (by omega) (by omega) hf40
    rw [← mo_sync hM (sp_szs (es.take syn)) (by omega)] at m1
    have c2 : fSl_sync 1 x1_draft_count x1_log_count x1_log_end x1_log_syncedCount x1_log_syncedEnd g1_log_cells x2_written (nI fl) g1_disk_cells = fSl_sync_L28 (nI (sp_bk (sp_szs (es.take syn)))) (nI (sp_bk (sp_szs es))) 600 (nI (sp_bk (sp_szs (es.take syn)))) 1 x1_draft_count x1_log_count x1_log_end x1_log_syncedCount x1_log_syncedEnd g1_log_cells x2_written (nI fl) g1_disk_cells := by
      unfold fSl_sync
      rw [if_neg h10, b1, pu_bs, b2, pu_bs]
    rw [← c2] at c1
    obtain ⟨w1, w2⟩ := sp_wrs_congr es (sp_bk (sp_szs es) + 1 - sp_bk (sp_szs (es.take syn))) (sp_bk (sp_szs (es.take syn))) g2_disk g1_disk_cells x2_written fl hdk
    rw [w2] at m1
    cases hq : (sp_wrs es (sp_bk (sp_szs es) + 1 - sp_bk (sp_szs (es.take syn))) (sp_bk (sp_szs (es.take syn))) g1_disk_cells x2_written fl).2.2 with
    | some x =>
      rw [hq] at c1 m1
      have hx := sp_wrs_fl es _ _ _ _ _ _ hq
      exact ⟨_, _, _, _, _, _, _, _, _, _, _, _, _, _, _, _, _, _, _, c1, m1, dr, es, es.length, x, pd, hD, hMD, hlim, hL.sync, hM.2.2.1, rfl, rfl, by omega, rfl, w1, hP, hMP, hM, Or.inl ⟨rfl, rfl, by rw [List.take_length]⟩⟩
    | none =>
      rw [hq] at c1 m1
      exact ⟨_, _, _, _, _, _, _, _, _, _, _, _, _, _, _, _, _, _, _, c1, m1, [], [], 0, 0, pd, sp_RD0 _ _, sp_RD0 _ _, hlim, pu_RL0 _ _ _, rfl, rfl, rfl, by omega, rfl, w1, hP, hMP, hM.nil, Or.inr ⟨rfl, rfl, rfl, rfl⟩⟩
  · subst hr ho
    have e1 : fSl_sync 0 x1_draft_count x1_log_count x1_log_end x1_log_syncedCount x1_log_syncedEnd g1_log_cells x1_disk_done x1_disk_failing g1_disk_cells = some (-2, 0, x1_draft_count, x1_log_count, x1_log_end, x1_log_syncedCount, x1_log_syncedEnd, g1_log_cells, x1_disk_done, x1_disk_failing, g1_disk_cells) := by unfold fSl_sync; rw [if_pos h00]
    have e2 : fMo_sync x2_count x2_synced x2_syncedEnd x2_draft 1 x2_failing x2_written g2_keys g2_legs g2_account g2_amount g2_seals g2_ends g2_disk = some (-2, x2_count, x2_synced, x2_syncedEnd, x2_draft, 1, x2_failing, x2_written, g2_disk) := by unfold fMo_sync; rw [if_neg h10]
    exact ⟨_, _, _, _, _, _, _, _, _, _, _, _, _, _, _, _, _, _, _, e1, e2, dr, es, syn, fl, pd, hD, hMD, hlim, hL, hsy, hdf, hmf, hf40, hw, hdk, hP, hMP, hM, Or.inr ⟨rfl, rfl, hes, hdr⟩⟩
