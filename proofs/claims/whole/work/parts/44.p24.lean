
set_option maxRecDepth 100000 in
theorem op_commit {x1_running : Int32} {g1_limits : Nat → Int32} {x1_draft_count : Int32} {g1_draft_accounts : Nat → Int32} {g1_draft_amounts : Nat → Int32} {x1_log_count : Int32} {x1_log_end : Int32} {x1_log_syncedCount : Int32} {x1_log_syncedEnd : Int32} {g1_log_cells : Nat → Int32} {g1_log_starts : Nat → Int32} {g1_log_leaves : Nat → Int32} {x1_disk_done : Int32} {x1_disk_failing : Int32} {g1_disk_cells : Nat → Int32} {x1_proof_count : Int32} {g1_proof_ints : Nat → Int32} {x2_count : Int32} {x2_synced : Int32} {x2_syncedEnd : Int32} {x2_draft : Int32} {x2_off : Int32} {x2_failing : Int32} {x2_written : Int32} {x2_padded : Int32} {g2_keys : Nat → Int32} {g2_legs : Nat → Int32} {g2_account : Nat → Int32} {g2_amount : Nat → Int32} {g2_seals : Nat → Int32} {g2_ends : Nat → Int32} {g2_draftAccount : Nat → Int32} {g2_draftAmount : Nat → Int32} {g2_limits : Nat → Int32} {g2_disk : Nat → Int32} {g2_pad : Nat → Int32} {g2_stack : Nat → Int32} {g2_firsts : Nat → Int32} {g2_others : Nat → Int32} (hR : sp_Rel x1_running g1_limits x1_draft_count g1_draft_accounts g1_draft_amounts x1_log_count x1_log_end x1_log_syncedCount x1_log_syncedEnd g1_log_cells g1_log_starts g1_log_leaves x1_disk_done x1_disk_failing g1_disk_cells x1_proof_count g1_proof_ints x2_count x2_synced x2_syncedEnd x2_draft x2_off x2_failing x2_written x2_padded g2_keys g2_legs g2_account g2_amount g2_seals g2_ends g2_draftAccount g2_draftAmount g2_limits g2_disk g2_pad g2_stack g2_firsts g2_others) (k1 : Int32) : ∃ (r : Int32) (cx1_draft_count : Int32) (cx1_log_count : Int32) (cx1_log_end : Int32) (cg1_log_cells : Nat → Int32) (cg1_log_starts : Nat → Int32) (cg1_log_leaves : Nat → Int32) (mx2_count : Int32) (mx2_draft : Int32) (mg2_keys : Nat → Int32) (mg2_legs : Nat → Int32) (mg2_account : Nat → Int32) (mg2_amount : Nat → Int32) (mg2_seals : Nat → Int32) (mg2_ends : Nat → Int32), fSl_commit x1_running g1_limits x1_draft_count g1_draft_accounts g1_draft_amounts x1_log_count x1_log_end g1_log_cells g1_log_starts g1_log_leaves k1 = some (r, cx1_draft_count, cx1_log_count, cx1_log_end, cg1_log_cells, cg1_log_starts, cg1_log_leaves) ∧ fMo_commit x2_count x2_draft x2_off g2_keys g2_legs g2_account g2_amount g2_seals g2_ends g2_draftAccount g2_draftAmount g2_limits k1 = some (r, mx2_count, mx2_draft, mg2_keys, mg2_legs, mg2_account, mg2_amount, mg2_seals, mg2_ends) ∧ sp_Rel x1_running g1_limits cx1_draft_count g1_draft_accounts g1_draft_amounts cx1_log_count cx1_log_end x1_log_syncedCount x1_log_syncedEnd cg1_log_cells cg1_log_starts cg1_log_leaves x1_disk_done x1_disk_failing g1_disk_cells x1_proof_count g1_proof_ints mx2_count x2_synced x2_syncedEnd mx2_draft x2_off x2_failing x2_written x2_padded mg2_keys mg2_legs mg2_account mg2_amount mg2_seals mg2_ends g2_draftAccount g2_draftAmount g2_limits g2_disk g2_pad g2_stack g2_firsts g2_others := by
  obtain ⟨dr, es, syn, fl, pd, hD, hMD, hlim, hL, hsy, hdf, hmf, hf40, hw, hdk, hP, hMP, hM, hon⟩ := hR
  have h73 := sp_len es hL.1
  have hz := hL.2.1
  have h4 := hD.2.1
  rcases hon with ⟨hr, ho, hse⟩ | ⟨hr, ho, hes, hdr⟩
  · subst hr ho
    have hev := pu_even hD
    have htot := mo_total hMD
    have hcf := pu_find hL k1
    have hmf' := mo_find hM k1
    by_cases heven : 2 ≤ dr.length ∧ sp_sum 0 dr = 0
    · obtain ⟨ev1, ev2⟩ := heven
      rw [if_neg (by omega), if_pos ev2] at hev
      have hd2 : ¬ x2_draft < 2 := by rw [hMD.1]; exact nI_nlt (b := 2) (by omega) (by omega)
      rcases sp_find_spec k1 es 0 with hf | ⟨q, e, hq, hf⟩
      · rw [hf] at hcf hmf'
        have hpc := pu_poor (lim := g1_limits) hL hD
        have hpm := mo_poor (lim := g2_limits) hM hMD
        rw [sp_poor_congr hlim es dr dr (fun g hg => (hD.2.2.2 g hg).1)] at hpm
        have hen : hw_rd 77 g2_ends x2_count = some (nI (sp_szs es)) := by rw [hM.2.2.1, pu_rd (by omega) (by decide), hM.2.2.2.2 es.length (by omega), List.take_length]
        have hsum : (nI (sp_szs es) + 3) + 2 * x2_draft = nI (sp_szs es + (3 + 2 * dr.length)) := by rw [hMD.1, pu_n2, pu_n3, pk_mul, nI_add, nI_add, Nat.add_assoc]
        rcases sp_poor_01 g1_limits es dr dr with hp | hp
        · rw [hp] at hpc hpm
          by_cases hfit : sp_szs es + (3 + 2 * dr.length) ≤ 512
          · obtain ⟨ct', en', c', st', lv', a1, a2, a3⟩ := pu_append (key := k1) hL hD ev1 ev2 hfit
            have e1 : fSl_commit 1 g1_limits x1_draft_count g1_draft_accounts g1_draft_amounts x1_log_count x1_log_end g1_log_cells g1_log_starts g1_log_leaves k1 = some (nI es.length, 0, ct', en', c', st', lv') := by
              unfold fSl_commit fSl_commitNew
              rw [if_neg h10, hev, pu_bs, if_neg h10, hcf, pu_bs, if_pos rfl, hpc, pu_bs, if_pos h00, a1, pu_bs]
              dsimp only
              rw [if_neg h10, a2]
              show some (nI (es.length + 1) - 1, _) = _
              rw [nI_pred]
            have hct := hM.2.2.1
            have hE := hM.2.2.2.1
            have hens := hM.2.2.2.2 es.length (by omega)
            rw [List.take_length] at hens
            obtain ⟨acc', amt', b1, b2, b3⟩ := mo_commL (off := 0) (lim := g2_limits) (key := k1) (keys := upd g2_keys es.length k1) (legs := upd g2_legs es.length x2_draft) (seals := g2_seals) (ends := g2_ends) (es := es) hMD (by omega) pu_us (by rw [pu_us]; exact hMD.1) (fun i x hx => (hE i x hx).2) hens 600 0 g2_account g2_amount (by omega) (by omega) (fun i g hi _ => by omega)
            have e2 : fMo_commit x2_count x2_draft 0 g2_keys g2_legs g2_account g2_amount g2_seals g2_ends g2_draftAccount g2_draftAmount g2_limits k1 = some (nI es.length, nI (es.length + 1), 0, upd g2_keys es.length k1, upd g2_legs es.length x2_draft, acc', amt', upd g2_seals es.length (sp_mix (sp_seal 0 es) (sp_leaf (k1, dr))), upd g2_ends (es.length + 1) (nI (sp_szs es + sp_sz (k1, dr)))) := by
              unfold fMo_commit
              rw [if_pos h00, hmf', pu_bs, if_pos (show (-1 : Int32) < 0 by decide), if_neg hd2, htot, pu_bs, if_pos ev2, if_pos (show (-1 : Int32) < 0 by decide), hpm, pu_bs, if_pos h00, hen, pu_bs, hsum, if_pos (show nI (sp_szs es + (3 + 2 * dr.length)) ≤ 512 from nI_le (b := 512) hfit (by decide)), hct, pu_wr (by omega) (by decide), pu_bs, pu_wr (by omega) (by decide), pu_bs]
              exact b1
            rw [hct] at hM
            have hM' := mo_RMsnoc (keys' := upd g2_keys es.length k1) (legs' := upd g2_legs es.length x2_draft) (acc' := acc') (amt' := amt') (seals' := upd g2_seals es.length (sp_mix (sp_seal 0 es) (sp_leaf (k1, dr)))) (ends' := upd g2_ends (es.length + 1) (nI (sp_szs es + sp_sz (k1, dr)))) (e := (k1, dr)) hM ⟨ev1, h4, hD.2.2.2, ev2⟩ hfit (fun i hi => ⟨pu_un (by omega), pu_un (by omega), pu_un (by omega)⟩) b2 (fun i hi => pu_un (by omega)) pu_us b3 pu_us
            exact ⟨_, _, _, _, _, _, _, _, _, _, _, _, _, _, _, e1, e2, [], es ++ [(k1, dr)], syn, fl, pd, sp_RD0 _ _, sp_RD0 _ _, hlim, a3, hsy, hdf, hmf, hf40, hw, hdk, hP, hMP, hM', Or.inl ⟨rfl, rfl, by rw [hse, pu_takeS _ _ _ hL.2.2.1]⟩⟩
          · have a1 := pu_append0 (key := k1) hL hD hfit
            have e1 : fSl_commit 1 g1_limits x1_draft_count g1_draft_accounts g1_draft_amounts x1_log_count x1_log_end g1_log_cells g1_log_starts g1_log_leaves k1 = some (-6, x1_draft_count, x1_log_count, x1_log_end, g1_log_cells, g1_log_starts, g1_log_leaves) := by
              unfold fSl_commit fSl_commitNew
              rw [if_neg h10, hev, pu_bs, if_neg h10, hcf, pu_bs, if_pos rfl, hpc, pu_bs, if_pos h00, a1, pu_bs]
              rfl
            have e2 : fMo_commit x2_count x2_draft 0 g2_keys g2_legs g2_account g2_amount g2_seals g2_ends g2_draftAccount g2_draftAmount g2_limits k1 = some (-6, x2_count, x2_draft, g2_keys, g2_legs, g2_account, g2_amount, g2_seals, g2_ends) := by
              unfold fMo_commit
              rw [if_pos h00, hmf', pu_bs, if_pos (show (-1 : Int32) < 0 by decide), if_neg hd2, htot, pu_bs, if_pos ev2, if_pos (show (-1 : Int32) < 0 by decide), hpm, pu_bs, if_pos h00, hen, pu_bs, hsum, if_neg (show ¬ nI (sp_szs es + (3 + 2 * dr.length)) ≤ 512 from nI_ge (a := 512) (by omega) (by omega))]
            exact ⟨_, _, _, _, _, _, _, _, _, _, _, _, _, _, _, e1, e2, dr, es, syn, fl, pd, hD, hMD, hlim, hL, hsy, hdf, hmf, hf40, hw, hdk, hP, hMP, hM, Or.inl ⟨rfl, rfl, hse⟩⟩
        · rw [hp] at hpc hpm
          have e1 : fSl_commit 1 g1_limits x1_draft_count g1_draft_accounts g1_draft_amounts x1_log_count x1_log_end g1_log_cells g1_log_starts g1_log_leaves k1 = some (-5, x1_draft_count, x1_log_count, x1_log_end, g1_log_cells, g1_log_starts, g1_log_leaves) := by
            unfold fSl_commit fSl_commitNew
            rw [if_neg h10, hev, pu_bs, if_neg h10, hcf, pu_bs, if_pos rfl, hpc, pu_bs, if_neg h10]
            rfl
          have e2 : fMo_commit x2_count x2_draft 0 g2_keys g2_legs g2_account g2_amount g2_seals g2_ends g2_draftAccount g2_draftAmount g2_limits k1 = some (-5, x2_count, x2_draft, g2_keys, g2_legs, g2_account, g2_amount, g2_seals, g2_ends) := by
            unfold fMo_commit
            rw [if_pos h00, hmf', pu_bs, if_pos (show (-1 : Int32) < 0 by decide), if_neg hd2, htot, pu_bs, if_pos ev2, if_pos (show (-1 : Int32) < 0 by decide), hpm, pu_bs, if_neg h10]
          exact ⟨_, _, _, _, _, _, _, _, _, _, _, _, _, _, _, e1, e2, dr, es, syn, fl, pd, hD, hMD, hlim, hL, hsy, hdf, hmf, hf40, hw, hdk, hP, hMP, hM, Or.inl ⟨rfl, rfl, hse⟩⟩
      · rw [Nat.zero_add] at hf
        rw [hf] at hcf hmf'
        have hql : q < es.length := (List.getElem?_eq_some_iff.mp hq).1
        have hcl := pu_legs hL hD hq
        have hml := mo_same hM hMD hq
        by_cases hsame : e.2 = dr
        · rw [if_pos hsame] at hcl hml
          have e1 : fSl_commit 1 g1_limits x1_draft_count g1_draft_accounts g1_draft_amounts x1_log_count x1_log_end g1_log_cells g1_log_starts g1_log_leaves k1 = some (nI q, 0, x1_log_count, x1_log_end, g1_log_cells, g1_log_starts, g1_log_leaves) := by
            unfold fSl_commit
            rw [if_neg h10, hev, pu_bs, if_neg h10, hcf, pu_bs, if_neg (pu_nm1 (by omega)), hcl, pu_bs, if_neg h10]
            rfl
          have e2 : fMo_commit x2_count x2_draft 0 g2_keys g2_legs g2_account g2_amount g2_seals g2_ends g2_draftAccount g2_draftAmount g2_limits k1 = some (nI q, x2_count, 0, g2_keys, g2_legs, g2_account, g2_amount, g2_seals, g2_ends) := by
            unfold fMo_commit
            rw [if_pos h00, hmf', pu_bs, if_neg (nI_pos (by omega)), hml, pu_bs, if_neg h10]
          exact ⟨_, _, _, _, _, _, _, _, _, _, _, _, _, _, _, e1, e2, [], es, syn, fl, pd, sp_RD0 _ _, sp_RD0 _ _, hlim, hL, hsy, hdf, hmf, hf40, hw, hdk, hP, hMP, hM, Or.inl ⟨rfl, rfl, hse⟩⟩
        · rw [if_neg hsame] at hcl hml
          have e1 : fSl_commit 1 g1_limits x1_draft_count g1_draft_accounts g1_draft_amounts x1_log_count x1_log_end g1_log_cells g1_log_starts g1_log_leaves k1 = some (-4, x1_draft_count, x1_log_count, x1_log_end, g1_log_cells, g1_log_starts, g1_log_leaves) := by
            unfold fSl_commit
            rw [if_neg h10, hev, pu_bs, if_neg h10, hcf, pu_bs, if_neg (pu_nm1 (by omega)), hcl, pu_bs, if_pos h00]
          have e2 : fMo_commit x2_count x2_draft 0 g2_keys g2_legs g2_account g2_amount g2_seals g2_ends g2_draftAccount g2_draftAmount g2_limits k1 = some (-4, x2_count, x2_draft, g2_keys, g2_legs, g2_account, g2_amount, g2_seals, g2_ends) := by
            unfold fMo_commit
            rw [if_pos h00, hmf', pu_bs, if_neg (nI_pos (by omega)), hml, pu_bs, if_pos h00, if_neg hd2, htot, pu_bs, if_pos ev2, if_neg (nI_pos (by omega))]
          exact ⟨_, _, _, _, _, _, _, _, _, _, _, _, _, _, _, e1, e2, dr, es, syn, fl, pd, hD, hMD, hlim, hL, hsy, hdf, hmf, hf40, hw, hdk, hP, hMP, hM, Or.inl ⟨rfl, rfl, hse⟩⟩
    · have hev0 : fDr_isEven x1_draft_count g1_draft_amounts = some 0 := by
        rw [hev]
        by_cases a1 : dr.length < 2
        · rw [if_pos a1]
        · rw [if_neg a1, if_neg (fun a2 => heven ⟨by omega, a2⟩)]
      have e1 : fSl_commit 1 g1_limits x1_draft_count g1_draft_accounts g1_draft_amounts x1_log_count x1_log_end g1_log_cells g1_log_starts g1_log_leaves k1 = some (-3, x1_draft_count, x1_log_count, x1_log_end, g1_log_cells, g1_log_starts, g1_log_leaves) := by
        unfold fSl_commit
        rw [if_neg h10, hev0, pu_bs, if_pos h00]
      have e2 : fMo_commit x2_count x2_draft 0 g2_keys g2_legs g2_account g2_amount g2_seals g2_ends g2_draftAccount g2_draftAmount g2_limits k1 = some (-3, x2_count, x2_draft, g2_keys, g2_legs, g2_account, g2_amount, g2_seals, g2_ends) := by
        unfold fMo_commit
        rw [if_pos h00, hmf', pu_bs]
        have fin : x2_draft < 2 ∨ ¬ sp_sum 0 dr = 0 := by
          by_cases a1 : dr.length < 2
          · exact Or.inl (by rw [hMD.1]; exact nI_lt (b := 2) a1 (by decide))
          · exact Or.inr (fun a2 => heven ⟨by omega, a2⟩)
        rcases sp_find_spec k1 es 0 with hf | ⟨q, e, hq, hf⟩
        · rw [hf, if_pos (show (-1 : Int32) < 0 by decide)]
          by_cases a1 : x2_draft < 2
          · rw [if_pos a1]
          · rw [if_neg a1, htot, pu_bs, if_neg (fin.resolve_left a1)]
        · rw [Nat.zero_add] at hf
          have hql : q < es.length := (List.getElem?_eq_some_iff.mp hq).1
          have hok := hL.1 e (List.mem_of_getElem? hq)
          have hne : ¬ e.2 = dr := fun a => heven ⟨by rw [← a]; exact hok.1, by rw [← a]; exact hok.2.2.2⟩
          rw [hf, if_neg (nI_pos (by omega)), mo_same hM hMD hq, if_neg hne, pu_bs, if_pos h00]
          by_cases a1 : x2_draft < 2
          · rw [if_pos a1]
          · rw [if_neg a1, htot, pu_bs, if_neg (fin.resolve_left a1)]
      exact ⟨_, _, _, _, _, _, _, _, _, _, _, _, _, _, _, e1, e2, dr, es, syn, fl, pd, hD, hMD, hlim, hL, hsy, hdf, hmf, hf40, hw, hdk, hP, hMP, hM, Or.inl ⟨rfl, rfl, hse⟩⟩
  · subst hr ho
    have e1 : fSl_commit 0 g1_limits x1_draft_count g1_draft_accounts g1_draft_amounts x1_log_count x1_log_end g1_log_cells g1_log_starts g1_log_leaves k1 = some (-2, x1_draft_count, x1_log_count, x1_log_end, g1_log_cells, g1_log_starts, g1_log_leaves) := by unfold fSl_commit; rw [if_pos h00]
    have e2 : fMo_commit x2_count x2_draft 1 g2_keys g2_legs g2_account g2_amount g2_seals g2_ends g2_draftAccount g2_draftAmount g2_limits k1 = some (-2, x2_count, x2_draft, g2_keys, g2_legs, g2_account, g2_amount, g2_seals, g2_ends) := by unfold fMo_commit; rw [if_neg h10]
    exact ⟨_, _, _, _, _, _, _, _, _, _, _, _, _, _, _, e1, e2, dr, es, syn, fl, pd, hD, hMD, hlim, hL, hsy, hdf, hmf, hf40, hw, hdk, hP, hMP, hM, Or.inr ⟨rfl, rfl, hes, hdr⟩⟩
