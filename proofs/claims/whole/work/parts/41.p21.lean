theorem sp_RL.sync {c st lv : Nat → Int32} {ct en sc se : Int32} {es : List sp_Ent} {syn : Nat} (h : sp_RL c st lv ct en sc se es syn) : sp_RL c st lv ct en ct en es es.length := by
  obtain ⟨hok, hz, hsy, h1, h2, h3, h4, hc, hst, hlf⟩ := h
  exact ⟨hok, hz, Nat.le_refl _, h1, h2, h1, by rw [h2, List.take_length], hc, hst, hlf⟩
theorem mo_sync {keys legs acc amt seals ends : Nat → Int32} {ct : Int32} {es : List sp_Ent} (h : sp_RM keys legs acc amt seals ends ct es) (sn : Nat) (hsn : sn ≤ 512) (sy dc fl wn : Int32) (d : Nat → Int32) : fMo_sync ct sy (nI sn) dc 0 fl wn keys legs acc amt seals ends d = fMo_sync_L72 keys legs acc amt seals ends (nI (sp_bk (sp_szs es))) (nI (sp_bk sn)) 600 (nI (sp_bk sn)) ct sy (nI sn) dc 0 fl wn d := by
  have h73 := sp_len es h.1
  have hz := h.2.1
  have he : hw_rd 77 ends ct = some (nI (sp_szs es)) := by rw [h.2.2.1, pu_rd (by omega) (by decide), h.2.2.2.2 es.length (by omega), List.take_length]
  unfold fMo_sync sp_bk
  rw [if_pos h00, he, pu_bs, pu_bs, pu_n8, pk_div (by omega) (by decide) (by decide), pk_div (by omega) (by decide) (by decide)]
  by_cases h1 : sp_szs es / 8 ≤ 63
  · rw [if_pos (show nI (sp_szs es / 8) ≤ 63 from nI_le (b := 63) h1 (by decide)), Nat.min_eq_left h1]
    by_cases h2 : sn / 8 ≤ 63
    · rw [if_pos (show nI (sn / 8) ≤ 63 from nI_le (b := 63) h2 (by decide)), Nat.min_eq_left h2]
    · rw [if_neg (show ¬ nI (sn / 8) ≤ 63 from nI_ge (a := 63) (by omega) (by omega)), Nat.min_eq_right (by omega)]; rfl
  · rw [if_neg (show ¬ nI (sp_szs es / 8) ≤ 63 from nI_ge (a := 63) (by omega) (by omega)), Nat.min_eq_right (by omega)]
    by_cases h2 : sn / 8 ≤ 63
    · rw [if_pos (show nI (sn / 8) ≤ 63 from nI_le (b := 63) h2 (by decide)), Nat.min_eq_left h2]; rfl
    · rw [if_neg (show ¬ nI (sn / 8) ≤ 63 from nI_ge (a := 63) (by omega) (by omega)), Nat.min_eq_right (by omega)]; rfl
theorem sp_szs_take (es : List sp_Ent) (i : Nat) : sp_szs (es.take i) ≤ sp_szs es := by
  have := congrArg sp_szs (List.take_append_drop i es)
  rw [sp_szs_app] at this
  omega
theorem sp_recE_congr (E : List sp_Ent) (d d' : Nat → Int32) (w : Int32) (fl : Nat) (h : ∀ k, k < 512 → d' k = d k) : (sp_recE E d' w fl).1 = (sp_recE E d w fl).1 ∧ (sp_recE E d' w fl).2.1 = (sp_recE E d w fl).2.1 ∧ (sp_recE E d' w fl).2.2.1 = (sp_recE E d w fl).2.2.1 ∧ ∀ k, k < 512 → (sp_recE E d' w fl).2.2.2 k = (sp_recE E d w fl).2.2.2 k := by
  unfold sp_recE
  by_cases h1 : 512 ≤ sp_szs E
  · rw [if_pos h1, if_pos h1]; exact ⟨rfl, rfl, rfl, h⟩
  · rw [if_neg h1, if_neg h1]
    by_cases h2 : fl = 1
    · rw [if_pos h2, if_pos h2]; exact ⟨rfl, rfl, rfl, h⟩
    · rw [if_neg h2, if_neg h2]
      refine ⟨rfl, rfl, rfl, fun k hk => ?_⟩
      show sp_blk d' (sp_img E) (sp_szs E / 8) k = sp_blk d (sp_img E) (sp_szs E / 8) k
      unfold sp_blk
      by_cases h3 : 8 * (sp_szs E / 8) ≤ k ∧ k < 8 * (sp_szs E / 8) + 8
      · rw [if_pos h3, if_pos h3]
      · rw [if_neg h3, if_neg h3, h k hk]
theorem sp_recE_fl (E : List sp_Ent) (d : Nat → Int32) (w : Int32) (fl x : Nat) (h : (sp_recE E d w fl).2.1 = some x) : x ≤ fl := by
  unfold sp_recE at h
  by_cases h1 : 512 ≤ sp_szs E
  · rw [if_pos h1] at h; exact Nat.le_of_eq (Option.some.inj h).symm
  · rw [if_neg h1] at h
    by_cases h2 : fl = 1
    · rw [if_pos h2] at h; cases h
    · rw [if_neg h2] at h
      have := Option.some.inj h
      omega
theorem pu_ite01 {c d e : Prop} [Decidable c] [Decidable d] [Decidable e] : (if c then (if d then (if e then (1 : Int32) else 0) else 0) else 0) = 0 ∨ (if c then (if d then (if e then (1 : Int32) else 0) else 0) else 0) = 1 := by
  by_cases h1 : c
  · rw [if_pos h1]
    by_cases h2 : d
    · rw [if_pos h2]
      by_cases h3 : e
      · rw [if_pos h3]; exact Or.inr rfl
      · rw [if_neg h3]; exact Or.inl rfl
    · rw [if_neg h2]; exact Or.inl rfl
  · rw [if_neg h1]; exact Or.inl rfl

set_option maxRecDepth 100000 in
theorem op_head {x1_running : Int32} {g1_limits : Nat → Int32} {x1_draft_count : Int32} {g1_draft_accounts : Nat → Int32} {g1_draft_amounts : Nat → Int32} {x1_log_count : Int32} {x1_log_end : Int32} {x1_log_syncedCount : Int32} {x1_log_syncedEnd : Int32} {g1_log_cells : Nat → Int32} {g1_log_starts : Nat → Int32} {g1_log_leaves : Nat → Int32} {x1_disk_done : Int32} {x1_disk_failing : Int32} {g1_disk_cells : Nat → Int32} {x1_proof_count : Int32} {g1_proof_ints : Nat → Int32} {x2_count : Int32} {x2_synced : Int32} {x2_syncedEnd : Int32} {x2_draft : Int32} {x2_off : Int32} {x2_failing : Int32} {x2_written : Int32} {x2_padded : Int32} {g2_keys : Nat → Int32} {g2_legs : Nat → Int32} {g2_account : Nat → Int32} {g2_amount : Nat → Int32} {g2_seals : Nat → Int32} {g2_ends : Nat → Int32} {g2_draftAccount : Nat → Int32} {g2_draftAmount : Nat → Int32} {g2_limits : Nat → Int32} {g2_disk : Nat → Int32} {g2_pad : Nat → Int32} {g2_stack : Nat → Int32} {g2_firsts : Nat → Int32} {g2_others : Nat → Int32} (hR : sp_Rel x1_running g1_limits x1_draft_count g1_draft_accounts g1_draft_amounts x1_log_count x1_log_end x1_log_syncedCount x1_log_syncedEnd g1_log_cells g1_log_starts g1_log_leaves x1_disk_done x1_disk_failing g1_disk_cells x1_proof_count g1_proof_ints x2_count x2_synced x2_syncedEnd x2_draft x2_off x2_failing x2_written x2_padded g2_keys g2_legs g2_account g2_amount g2_seals g2_ends g2_draftAccount g2_draftAmount g2_limits g2_disk g2_pad g2_stack g2_firsts g2_others) (k1 : Int32) : ∃ (r : Int32) (mg2_stack : Nat → Int32), fSl_head x1_log_count x1_log_syncedCount g1_log_leaves k1 = some r ∧ fMo_head x2_synced g2_keys g2_legs g2_account g2_amount g2_stack k1 = some (r, mg2_stack) ∧ sp_Rel x1_running g1_limits x1_draft_count g1_draft_accounts g1_draft_amounts x1_log_count x1_log_end x1_log_syncedCount x1_log_syncedEnd g1_log_cells g1_log_starts g1_log_leaves x1_disk_done x1_disk_failing g1_disk_cells x1_proof_count g1_proof_ints x2_count x2_synced x2_syncedEnd x2_draft x2_off x2_failing x2_written x2_padded g2_keys g2_legs g2_account g2_amount g2_seals g2_ends g2_draftAccount g2_draftAmount g2_limits g2_disk g2_pad mg2_stack g2_firsts g2_others := by
  obtain ⟨dr, es, syn, fl, pd, hD, hMD, hlim, hL, hsy, hdf, hmf, hf40, hw, hdk, hP, hMP, hM, hon⟩ := hR
  have h73 := sp_len es hL.1
  have hz := hL.2.1
  have hsl := hL.2.2.1
  by_cases h1 : k1 < 0
  · have e1 : fSl_head x1_log_count x1_log_syncedCount g1_log_leaves k1 = some 0 := by unfold fSl_head; rw [if_pos h1]
    have e2 : fMo_head x2_synced g2_keys g2_legs g2_account g2_amount g2_stack k1 = some (0, g2_stack) := by unfold fMo_head; rw [if_pos h1]
    exact ⟨_, _, e1, e2, dr, es, syn, fl, pd, hD, hMD, hlim, hL, hsy, hdf, hmf, hf40, hw, hdk, hP, hMP, hM, hon⟩
  · obtain ⟨j, hj, rfl⟩ := nI_of h1
    by_cases h2 : j ≤ syn
    · have a1 : nI j ≤ x1_log_syncedCount := by rw [hL.2.2.2.2.2.1]; exact nI_le h2 (by omega)
      have a2 : nI j ≤ x2_synced := by rw [hsy]; exact nI_le h2 (by omega)
      by_cases h3 : j = 0
      · subst h3
        have e1 : fSl_head x1_log_count x1_log_syncedCount g1_log_leaves (nI 0) = some (sp_mix 2 0) := by
          unfold fSl_head
          rw [if_neg h1, show fLg_syncedSize x1_log_syncedCount = some x1_log_syncedCount from rfl, pu_bs, if_pos a1]
          unfold fTr_headOf
          rw [if_pos (show nI 0 = 0 from rfl), pu_mix, pu_bs, pu_bs]
        have e2 : fMo_head x2_synced g2_keys g2_legs g2_account g2_amount g2_stack (nI 0) = some (sp_mix 2 0, g2_stack) := by
          unfold fMo_head
          rw [if_neg h1, if_pos a2]
          unfold fMo_hash
          rw [if_pos (show nI 0 = 0 from rfl), mo_mix, pu_bs, pu_bs]
        exact ⟨_, _, e1, e2, dr, es, syn, fl, pd, hD, hMD, hlim, hL, hsy, hdf, hmf, hf40, hw, hdk, hP, hMP, hM, hon⟩
      · obtain ⟨st', m1⟩ := mo_hash hM g2_stack 10 0 j (by omega) (by omega) (by omega)
        have c1 := pu_hash hL 12 10 0 j (by omega) (by omega) (by omega) (by omega) (by omega)
        have e1 : fSl_head x1_log_count x1_log_syncedCount g1_log_leaves (nI j) = some (sp_h (sp_lf es) 10 0 j) := by
          unfold fSl_head
          rw [if_neg h1, show fLg_syncedSize x1_log_syncedCount = some x1_log_syncedCount from rfl, pu_bs, if_pos a1]
          unfold fTr_headOf
          rw [if_neg (nI_ne0 (by omega) (by omega)), pu_n0, pu_n10, c1, pu_bs, pu_bs]
        have e2 : fMo_head x2_synced g2_keys g2_legs g2_account g2_amount g2_stack (nI j) = some (sp_h (sp_lf es) 10 0 j, st') := by
          unfold fMo_head
          rw [if_neg h1, if_pos a2, pu_n0, m1, pu_bs]
        exact ⟨_, _, e1, e2, dr, es, syn, fl, pd, hD, hMD, hlim, hL, hsy, hdf, hmf, hf40, hw, hdk, hP, hMP, hM, hon⟩
    · have e1 : fSl_head x1_log_count x1_log_syncedCount g1_log_leaves (nI j) = some 0 := by
        unfold fSl_head
        rw [if_neg h1, show fLg_syncedSize x1_log_syncedCount = some x1_log_syncedCount from rfl, pu_bs, if_neg (show ¬ nI j ≤ x1_log_syncedCount by rw [hL.2.2.2.2.2.1]; exact nI_ge (by omega) hj)]
      have e2 : fMo_head x2_synced g2_keys g2_legs g2_account g2_amount g2_stack (nI j) = some (0, g2_stack) := by
        unfold fMo_head
        rw [if_neg h1, if_neg (show ¬ nI j ≤ x2_synced by rw [hsy]; exact nI_ge (by omega) hj)]
      exact ⟨_, _, e1, e2, dr, es, syn, fl, pd, hD, hMD, hlim, hL, hsy, hdf, hmf, hf40, hw, hdk, hP, hMP, hM, hon⟩
set_option maxRecDepth 100000 in
theorem op_prove {x1_running : Int32} {g1_limits : Nat → Int32} {x1_draft_count : Int32} {g1_draft_accounts : Nat → Int32} {g1_draft_amounts : Nat → Int32} {x1_log_count : Int32} {x1_log_end : Int32} {x1_log_syncedCount : Int32} {x1_log_syncedEnd : Int32} {g1_log_cells : Nat → Int32} {g1_log_starts : Nat → Int32} {g1_log_leaves : Nat → Int32} {x1_disk_done : Int32} {x1_disk_failing : Int32} {g1_disk_cells : Nat → Int32} {x1_proof_count : Int32} {g1_proof_ints : Nat → Int32} {x2_count : Int32} {x2_synced : Int32} {x2_syncedEnd : Int32} {x2_draft : Int32} {x2_off : Int32} {x2_failing : Int32} {x2_written : Int32} {x2_padded : Int32} {g2_keys : Nat → Int32} {g2_legs : Nat → Int32} {g2_account : Nat → Int32} {g2_amount : Nat → Int32} {g2_seals : Nat → Int32} {g2_ends : Nat → Int32} {g2_draftAccount : Nat → Int32} {g2_draftAmount : Nat → Int32} {g2_limits : Nat → Int32} {g2_disk : Nat → Int32} {g2_pad : Nat → Int32} {g2_stack : Nat → Int32} {g2_firsts : Nat → Int32} {g2_others : Nat → Int32} (hR : sp_Rel x1_running g1_limits x1_draft_count g1_draft_accounts g1_draft_amounts x1_log_count x1_log_end x1_log_syncedCount x1_log_syncedEnd g1_log_cells g1_log_starts g1_log_leaves x1_disk_done x1_disk_failing g1_disk_cells x1_proof_count g1_proof_ints x2_count x2_synced x2_syncedEnd x2_draft x2_off x2_failing x2_written x2_padded g2_keys g2_legs g2_account g2_amount g2_seals g2_ends g2_draftAccount g2_draftAmount g2_limits g2_disk g2_pad g2_stack g2_firsts g2_others) (k1 : Int32) (k2 : Int32) : ∃ (r : Int32) (cx1_proof_count : Int32) (cg1_proof_ints : Nat → Int32) (mx2_padded : Int32) (mg2_pad : Nat → Int32) (mg2_stack : Nat → Int32) (mg2_others : Nat → Int32), fSl_prove x1_log_count x1_log_syncedCount g1_log_leaves x1_proof_count g1_proof_ints k1 k2 = some (r, cx1_proof_count, cg1_proof_ints) ∧ fMo_prove x2_synced x2_padded g2_keys g2_legs g2_account g2_amount g2_pad g2_stack g2_others k1 k2 = some (r, mx2_padded, mg2_pad, mg2_stack, mg2_others) ∧ sp_Rel x1_running g1_limits x1_draft_count g1_draft_accounts g1_draft_amounts x1_log_count x1_log_end x1_log_syncedCount x1_log_syncedEnd g1_log_cells g1_log_starts g1_log_leaves x1_disk_done x1_disk_failing g1_disk_cells cx1_proof_count cg1_proof_ints x2_count x2_synced x2_syncedEnd x2_draft x2_off x2_failing x2_written mx2_padded g2_keys g2_legs g2_account g2_amount g2_seals g2_ends g2_draftAccount g2_draftAmount g2_limits g2_disk mg2_pad mg2_stack g2_firsts mg2_others := by
  obtain ⟨dr, es, syn, fl, pd, hD, hMD, hlim, hL, hsy, hdf, hmf, hf40, hw, hdk, hP, hMP, hM, hon⟩ := hR
  have h73 := sp_len es hL.1
  have hz := hL.2.1
  have hsl := hL.2.2.1
  have hsc := hL.2.2.2.2.2.1
  by_cases hgood : ¬ k1 < 0 ∧ k1 < k2 ∧ ¬ nI syn < k2
  · obtain ⟨g1, g2, g3⟩ := hgood
    obtain ⟨i, hi, rfl⟩ := nI_of g1
    have hk2 : ¬ k2 < 0 := by
      rw [Int32.lt_iff_toInt_lt, nI_toInt hi] at g2
      rw [Int32.lt_iff_toInt_lt]
      have e0 : (0 : Int32).toInt = 0 := by decide
      omega
    obtain ⟨n, hn, rfl⟩ := nI_of hk2
    have hin : i < n := (nI_ltI hi hn).mp g2
    have hns : n ≤ syn := by
      rw [nI_ltI (by omega) hn] at g3; omega
    obtain ⟨ints', cnt', c1, c2⟩ := pu_inc hL 12 10 i 0 n g1_proof_ints 0 [] (by omega) (by omega) (by omega) (by omega) (by omega) (by omega) (sp_RP0 _) (by simp)
    obtain ⟨pad', st', oth', m1, m2⟩ := mo_prvL (sy := x2_synced) hM 600 10 i 0 n [] g2_pad g2_stack g2_others x2_padded (by omega) (by omega) (by omega) (by omega) hin (by simp) (fun j x hx => by simp at hx)
    rw [List.nil_append] at c2
    rw [List.reverse_nil, List.append_nil] at m1 m2
    have e1 : fSl_prove x1_log_count x1_log_syncedCount g1_log_leaves x1_proof_count g1_proof_ints (nI i) (nI n) = some (nI (sp_inc (sp_lf es) 10 i 0 n).length, cnt', ints') := by
      unfold fSl_prove
      rw [show fLg_syncedSize x1_log_syncedCount = some x1_log_syncedCount from rfl, pu_bs, if_neg (by rw [hsc]; exact g3), if_neg g1, if_pos g2, show fPd_clear x1_proof_count = some 0 from rfl, pu_bs]
      unfold fTr_addInclusion
      rw [pu_n0, pu_n10, ← pu_n0]
      have c1' : fTr_inclusion x1_log_count g1_log_leaves 12 (nI i) 0 (nI n) (nI 10) 0 g1_proof_ints = some (cnt', ints') := c1
      rw [c1', pu_bs, pu_bs]
      dsimp only
      rw [show fPd_length cnt' = some cnt' from rfl, pu_bs, ← c2.1]
    have e2 : fMo_prove x2_synced x2_padded g2_keys g2_legs g2_account g2_amount g2_pad g2_stack g2_others (nI i) (nI n) = some (nI (sp_inc (sp_lf es) 10 i 0 n).length, nI (sp_inc (sp_lf es) 10 i 0 n).length, pad', st', oth') := by
      unfold fMo_prove
      rw [if_neg hk2, if_neg (by rw [hsy]; exact g3), if_neg g1, if_pos g2]
      exact m1
    exact ⟨_, _, _, _, _, _, _, e1, e2, dr, es, syn, fl, sp_inc (sp_lf es) 10 i 0 n, hD, hMD, hlim, hL, hsy, hdf, hmf, hf40, hw, hdk, c2, m2, hM, hon⟩
  · have e1 : fSl_prove x1_log_count x1_log_syncedCount g1_log_leaves x1_proof_count g1_proof_ints k1 k2 = some (-1, x1_proof_count, g1_proof_ints) := by
      unfold fSl_prove
      rw [show fLg_syncedSize x1_log_syncedCount = some x1_log_syncedCount from rfl, pu_bs, hsc]
      by_cases a1 : nI syn < k2
      · rw [if_pos a1]
      rw [if_neg a1]
      by_cases a2 : k1 < 0
      · rw [if_pos a2]
      rw [if_neg a2]
      by_cases a3 : k1 < k2
      · exact absurd ⟨a2, a3, a1⟩ hgood
      · rw [if_neg a3]
    have e2 : fMo_prove x2_synced x2_padded g2_keys g2_legs g2_account g2_amount g2_pad g2_stack g2_others k1 k2 = some (-1, x2_padded, g2_pad, g2_stack, g2_others) := by
      unfold fMo_prove
      rw [hsy]
      by_cases a0 : k2 < 0
      · rw [if_pos a0]
      rw [if_neg a0]
      by_cases a1 : nI syn < k2
      · rw [if_pos a1]
      rw [if_neg a1]
      by_cases a2 : k1 < 0
      · rw [if_pos a2]
      rw [if_neg a2]
      by_cases a3 : k1 < k2
      · exact absurd ⟨a2, a3, a1⟩ hgood
      · rw [if_neg a3]
    exact ⟨_, _, _, _, _, _, _, e1, e2, dr, es, syn, fl, pd, hD, hMD, hlim, hL, hsy, hdf, hmf, hf40, hw, hdk, hP, hMP, hM, hon⟩
set_option maxRecDepth 100000 in
theorem op_extend {x1_running : Int32} {g1_limits : Nat → Int32} {x1_draft_count : Int32} {g1_draft_accounts : Nat → Int32} {g1_draft_amounts : Nat → Int32} {x1_log_count : Int32} {x1_log_end : Int32} {x1_log_syncedCount : Int32} {x1_log_syncedEnd : Int32} {g1_log_cells : Nat → Int32} {g1_log_starts : Nat → Int32} {g1_log_leaves : Nat → Int32} {x1_disk_done : Int32} {x1_disk_failing : Int32} {g1_disk_cells : Nat → Int32} {x1_proof_count : Int32} {g1_proof_ints : Nat → Int32} {x2_count : Int32} {x2_synced : Int32} {x2_syncedEnd : Int32} {x2_draft : Int32} {x2_off : Int32} {x2_failing : Int32} {x2_written : Int32} {x2_padded : Int32} {g2_keys : Nat → Int32} {g2_legs : Nat → Int32} {g2_account : Nat → Int32} {g2_amount : Nat → Int32} {g2_seals : Nat → Int32} {g2_ends : Nat → Int32} {g2_draftAccount : Nat → Int32} {g2_draftAmount : Nat → Int32} {g2_limits : Nat → Int32} {g2_disk : Nat → Int32} {g2_pad : Nat → Int32} {g2_stack : Nat → Int32} {g2_firsts : Nat → Int32} {g2_others : Nat → Int32} (hR : sp_Rel x1_running g1_limits x1_draft_count g1_draft_accounts g1_draft_amounts x1_log_count x1_log_end x1_log_syncedCount x1_log_syncedEnd g1_log_cells g1_log_starts g1_log_leaves x1_disk_done x1_disk_failing g1_disk_cells x1_proof_count g1_proof_ints x2_count x2_synced x2_syncedEnd x2_draft x2_off x2_failing x2_written x2_padded g2_keys g2_legs g2_account g2_amount g2_seals g2_ends g2_draftAccount g2_draftAmount g2_limits g2_disk g2_pad g2_stack g2_firsts g2_others) (k1 : Int32) (k2 : Int32) : ∃ (r : Int32) (cx1_proof_count : Int32) (cg1_proof_ints : Nat → Int32) (mx2_padded : Int32) (mg2_pad : Nat → Int32) (mg2_stack : Nat → Int32) (mg2_others : Nat → Int32), fSl_extend x1_log_count x1_log_syncedCount g1_log_leaves x1_proof_count g1_proof_ints k1 k2 = some (r, cx1_proof_count, cg1_proof_ints) ∧ fMo_extend x2_synced x2_padded g2_keys g2_legs g2_account g2_amount g2_pad g2_stack g2_others k1 k2 = some (r, mx2_padded, mg2_pad, mg2_stack, mg2_others) ∧ sp_Rel x1_running g1_limits x1_draft_count g1_draft_accounts g1_draft_amounts x1_log_count x1_log_end x1_log_syncedCount x1_log_syncedEnd g1_log_cells g1_log_starts g1_log_leaves x1_disk_done x1_disk_failing g1_disk_cells cx1_proof_count cg1_proof_ints x2_count x2_synced x2_syncedEnd x2_draft x2_off x2_failing x2_written mx2_padded g2_keys g2_legs g2_account g2_amount g2_seals g2_ends g2_draftAccount g2_draftAmount g2_limits g2_disk mg2_pad mg2_stack g2_firsts mg2_others := by
  obtain ⟨dr, es, syn, fl, pd, hD, hMD, hlim, hL, hsy, hdf, hmf, hf40, hw, hdk, hP, hMP, hM, hon⟩ := hR
  have h73 := sp_len es hL.1
  have hz := hL.2.1
  have hsl := hL.2.2.1
  have hsc := hL.2.2.2.2.2.1
  by_cases hgood : ¬ k1 < 1 ∧ k1 ≤ k2 ∧ ¬ nI syn < k2
  · obtain ⟨g1, g2, g3⟩ := hgood
    have hk1 : ¬ k1 < 0 := by
      rw [Int32.lt_iff_toInt_lt] at g1 ⊢
      have e0 : (0 : Int32).toInt = 0 := by decide
      have e1 : (1 : Int32).toInt = 1 := by decide
      omega
    obtain ⟨i, hi, rfl⟩ := nI_of hk1
    have hi1 : 1 ≤ i := by
      rw [pu_n1, nI_ltI hi (by decide)] at g1; omega
    have hk2 : ¬ k2 < 0 := by
      rw [Int32.le_iff_toInt_le, nI_toInt hi] at g2
      rw [Int32.lt_iff_toInt_lt]
      have e0 : (0 : Int32).toInt = 0 := by decide
      omega
    obtain ⟨n, hn, rfl⟩ := nI_of hk2
    have hin : i ≤ n := (nI_leI hi hn).mp g2
    have hns : n ≤ syn := by
      rw [nI_ltI (by omega) hn] at g3; omega
    obtain ⟨ints', cnt', c1, c2⟩ := pu_con hL 12 10 i 0 n 1 g1_proof_ints 0 [] (by omega) (by omega) (by omega) (by omega) (by omega) hi1 hin (sp_RP0 _) (by simp)
    obtain ⟨pad', st', oth', m1, m2⟩ := mo_extL (sy := x2_synced) hM 600 10 i 0 n 1 [] g2_pad g2_stack g2_others x2_padded (Or.inr rfl) (by omega) (by omega) hi1 (by omega) hin (by simp) (fun j x hx => by simp at hx)
    rw [List.nil_append] at c2
    rw [List.reverse_nil, List.append_nil] at m1 m2
    have e1 : fSl_extend x1_log_count x1_log_syncedCount g1_log_leaves x1_proof_count g1_proof_ints (nI i) (nI n) = some (nI (sp_con (sp_lf es) 10 i 0 n 1).length, cnt', ints') := by
      unfold fSl_extend
      rw [show fLg_syncedSize x1_log_syncedCount = some x1_log_syncedCount from rfl, pu_bs, if_neg (by rw [hsc]; exact g3), if_neg g1, if_pos g2, show fPd_clear x1_proof_count = some 0 from rfl, pu_bs]
      unfold fTr_addConsistency
      have c1' : fTr_consistency x1_log_count g1_log_leaves 12 (nI i) 0 (nI n) 1 10 0 g1_proof_ints = some (cnt', ints') := c1
      rw [c1', pu_bs, pu_bs]
      dsimp only
      rw [show fPd_length cnt' = some cnt' from rfl, pu_bs, ← c2.1]
    have e2 : fMo_extend x2_synced x2_padded g2_keys g2_legs g2_account g2_amount g2_pad g2_stack g2_others (nI i) (nI n) = some (nI (sp_con (sp_lf es) 10 i 0 n 1).length, nI (sp_con (sp_lf es) 10 i 0 n 1).length, pad', st', oth') := by
      unfold fMo_extend
      rw [if_neg hk2, if_neg (by rw [hsy]; exact g3), if_neg g1, if_pos g2]
      exact m1
    exact ⟨_, _, _, _, _, _, _, e1, e2, dr, es, syn, fl, sp_con (sp_lf es) 10 i 0 n 1, hD, hMD, hlim, hL, hsy, hdf, hmf, hf40, hw, hdk, c2, m2, hM, hon⟩
  · have e1 : fSl_extend x1_log_count x1_log_syncedCount g1_log_leaves x1_proof_count g1_proof_ints k1 k2 = some (-1, x1_proof_count, g1_proof_ints) := by
      unfold fSl_extend
      rw [show fLg_syncedSize x1_log_syncedCount = some x1_log_syncedCount from rfl, pu_bs, hsc]
      by_cases a1 : nI syn < k2
      · rw [if_pos a1]
      rw [if_neg a1]
      by_cases a2 : k1 < 1
      · rw [if_pos a2]
      rw [if_neg a2]
      by_cases a3 : k1 ≤ k2
      · exact absurd ⟨a2, a3, a1⟩ hgood
      · rw [if_neg a3]
    have e2 : fMo_extend x2_synced x2_padded g2_keys g2_legs g2_account g2_amount g2_pad g2_stack g2_others k1 k2 = some (-1, x2_padded, g2_pad, g2_stack, g2_others) := by
      unfold fMo_extend
      rw [hsy]
      by_cases a0 : k2 < 0
      · rw [if_pos a0]
      rw [if_neg a0]
      by_cases a1 : nI syn < k2
      · rw [if_pos a1]
      rw [if_neg a1]
      by_cases a2 : k1 < 1
      · rw [if_pos a2]
      rw [if_neg a2]
      by_cases a3 : k1 ≤ k2
      · exact absurd ⟨a2, a3, a1⟩ hgood
      · rw [if_neg a3]
    exact ⟨_, _, _, _, _, _, _, e1, e2, dr, es, syn, fl, pd, hD, hMD, hlim, hL, hsy, hdf, hmf, hf40, hw, hdk, hP, hMP, hM, hon⟩
set_option maxRecDepth 100000 in
theorem op_included {x1_running : Int32} {g1_limits : Nat → Int32} {x1_draft_count : Int32} {g1_draft_accounts : Nat → Int32} {g1_draft_amounts : Nat → Int32} {x1_log_count : Int32} {x1_log_end : Int32} {x1_log_syncedCount : Int32} {x1_log_syncedEnd : Int32} {g1_log_cells : Nat → Int32} {g1_log_starts : Nat → Int32} {g1_log_leaves : Nat → Int32} {x1_disk_done : Int32} {x1_disk_failing : Int32} {g1_disk_cells : Nat → Int32} {x1_proof_count : Int32} {g1_proof_ints : Nat → Int32} {x2_count : Int32} {x2_synced : Int32} {x2_syncedEnd : Int32} {x2_draft : Int32} {x2_off : Int32} {x2_failing : Int32} {x2_written : Int32} {x2_padded : Int32} {g2_keys : Nat → Int32} {g2_legs : Nat → Int32} {g2_account : Nat → Int32} {g2_amount : Nat → Int32} {g2_seals : Nat → Int32} {g2_ends : Nat → Int32} {g2_draftAccount : Nat → Int32} {g2_draftAmount : Nat → Int32} {g2_limits : Nat → Int32} {g2_disk : Nat → Int32} {g2_pad : Nat → Int32} {g2_stack : Nat → Int32} {g2_firsts : Nat → Int32} {g2_others : Nat → Int32} (hR : sp_Rel x1_running g1_limits x1_draft_count g1_draft_accounts g1_draft_amounts x1_log_count x1_log_end x1_log_syncedCount x1_log_syncedEnd g1_log_cells g1_log_starts g1_log_leaves x1_disk_done x1_disk_failing g1_disk_cells x1_proof_count g1_proof_ints x2_count x2_synced x2_syncedEnd x2_draft x2_off x2_failing x2_written x2_padded g2_keys g2_legs g2_account g2_amount g2_seals g2_ends g2_draftAccount g2_draftAmount g2_limits g2_disk g2_pad g2_stack g2_firsts g2_others) (k1 : Int32) (k2 : Int32) (k3 : Int32) (k4 : Int32) : ∃ (r : Int32) (mg2_firsts : Nat → Int32), fSl_included x1_proof_count g1_proof_ints k1 k2 k3 k4 = some r ∧ fMo_included x2_padded g2_pad g2_firsts k1 k2 k3 k4 = some (r, mg2_firsts) ∧ sp_Rel x1_running g1_limits x1_draft_count g1_draft_accounts g1_draft_amounts x1_log_count x1_log_end x1_log_syncedCount x1_log_syncedEnd g1_log_cells g1_log_starts g1_log_leaves x1_disk_done x1_disk_failing g1_disk_cells x1_proof_count g1_proof_ints x2_count x2_synced x2_syncedEnd x2_draft x2_off x2_failing x2_written x2_padded g2_keys g2_legs g2_account g2_amount g2_seals g2_ends g2_draftAccount g2_draftAmount g2_limits g2_disk g2_pad g2_stack mg2_firsts g2_others := by
  obtain ⟨dr, es, syn, fl, pd, hD, hMD, hlim, hL, hsy, hdf, hmf, hf40, hw, hdk, hP, hMP, hM, hon⟩ := hR
  by_cases hgood : ¬ k3 < 1 ∧ ¬ (1000 : Int32) < k3 ∧ ¬ k2 < 0 ∧ k2 < k3
  · obtain ⟨g1, g2, g3, g4⟩ := hgood
    obtain ⟨i, hi, rfl⟩ := nI_of g3
    have hk3 : ¬ k3 < 0 := by
      rw [Int32.lt_iff_toInt_lt] at g1 ⊢
      have e0 : (0 : Int32).toInt = 0 := by decide
      have e1 : (1 : Int32).toInt = 1 := by decide
      omega
    obtain ⟨n, hn, rfl⟩ := nI_of hk3
    have hin : i < n := (nI_ltI hi hn).mp g4
    have hn1 : n ≤ 1000 := by
      rw [pu_n1000, nI_ltI (by decide) hn] at g2; omega
    obtain ⟨f', m1⟩ := mo_incl (leaf := k1) (head := k4) hMP g2_firsts hn1 hin
    have c1 := pu_showsInc hP k1 k4 hn1 hin
    have e1 : fSl_included x1_proof_count g1_proof_ints k1 (nI i) (nI n) k4 = some (if sp_sh k1 10 i n pd.reverse = some k4 then 1 else 0) := by
      unfold fSl_included
      rw [if_neg g1, if_neg g2, if_neg g3, if_neg (nI_ge hin hn), c1, pu_bs]
      by_cases h5 : sp_sh k1 10 i n pd.reverse = some k4
      · rw [if_pos h5, if_neg h10]
      · rw [if_neg h5, if_pos h00]
    have e2 : fMo_included x2_padded g2_pad g2_firsts k1 (nI i) (nI n) k4 = some (if sp_sh k1 10 i n pd.reverse = some k4 then 1 else 0, f') := by
      unfold fMo_included
      rw [if_neg g1, if_neg g2, if_neg g3, if_pos g4]
      exact m1
    exact ⟨_, _, e1, e2, dr, es, syn, fl, pd, hD, hMD, hlim, hL, hsy, hdf, hmf, hf40, hw, hdk, hP, hMP, hM, hon⟩
  · have e1 : fSl_included x1_proof_count g1_proof_ints k1 k2 k3 k4 = some 0 := by
      unfold fSl_included
      by_cases a1 : k3 < 1
      · rw [if_pos a1]
      rw [if_neg a1]
      by_cases a2 : (1000 : Int32) < k3
      · rw [if_pos a2]
      rw [if_neg a2]
      by_cases a3 : k2 < 0
      · rw [if_pos a3]
      rw [if_neg a3]
      by_cases a4 : k2 < k3
      · exact absurd ⟨a1, a2, a3, a4⟩ hgood
      · rw [if_pos (pu_nlt.mp a4)]
    have e2 : fMo_included x2_padded g2_pad g2_firsts k1 k2 k3 k4 = some (0, g2_firsts) := by
      unfold fMo_included
      by_cases a1 : k3 < 1
      · rw [if_pos a1]
      rw [if_neg a1]
      by_cases a2 : (1000 : Int32) < k3
      · rw [if_pos a2]
      rw [if_neg a2]
      by_cases a3 : k2 < 0
      · rw [if_pos a3]
      rw [if_neg a3]
      by_cases a4 : k2 < k3
      · exact absurd ⟨a1, a2, a3, a4⟩ hgood
      · rw [if_neg a4]
    exact ⟨_, _, e1, e2, dr, es, syn, fl, pd, hD, hMD, hlim, hL, hsy, hdf, hmf, hf40, hw, hdk, hP, hMP, hM, hon⟩
set_option maxRecDepth 100000 in
theorem op_consistent {x1_running : Int32} {g1_limits : Nat → Int32} {x1_draft_count : Int32} {g1_draft_accounts : Nat → Int32} {g1_draft_amounts : Nat → Int32} {x1_log_count : Int32} {x1_log_end : Int32} {x1_log_syncedCount : Int32} {x1_log_syncedEnd : Int32} {g1_log_cells : Nat → Int32} {g1_log_starts : Nat → Int32} {g1_log_leaves : Nat → Int32} {x1_disk_done : Int32} {x1_disk_failing : Int32} {g1_disk_cells : Nat → Int32} {x1_proof_count : Int32} {g1_proof_ints : Nat → Int32} {x2_count : Int32} {x2_synced : Int32} {x2_syncedEnd : Int32} {x2_draft : Int32} {x2_off : Int32} {x2_failing : Int32} {x2_written : Int32} {x2_padded : Int32} {g2_keys : Nat → Int32} {g2_legs : Nat → Int32} {g2_account : Nat → Int32} {g2_amount : Nat → Int32} {g2_seals : Nat → Int32} {g2_ends : Nat → Int32} {g2_draftAccount : Nat → Int32} {g2_draftAmount : Nat → Int32} {g2_limits : Nat → Int32} {g2_disk : Nat → Int32} {g2_pad : Nat → Int32} {g2_stack : Nat → Int32} {g2_firsts : Nat → Int32} {g2_others : Nat → Int32} (hR : sp_Rel x1_running g1_limits x1_draft_count g1_draft_accounts g1_draft_amounts x1_log_count x1_log_end x1_log_syncedCount x1_log_syncedEnd g1_log_cells g1_log_starts g1_log_leaves x1_disk_done x1_disk_failing g1_disk_cells x1_proof_count g1_proof_ints x2_count x2_synced x2_syncedEnd x2_draft x2_off x2_failing x2_written x2_padded g2_keys g2_legs g2_account g2_amount g2_seals g2_ends g2_draftAccount g2_draftAmount g2_limits g2_disk g2_pad g2_stack g2_firsts g2_others) (k1 : Int32) (k2 : Int32) (k3 : Int32) (k4 : Int32) : ∃ (r : Int32) (mg2_firsts : Nat → Int32), fSl_consistent x1_proof_count g1_proof_ints k1 k2 k3 k4 = some r ∧ fMo_consistent x2_padded g2_pad g2_firsts k1 k2 k3 k4 = some (r, mg2_firsts) ∧ sp_Rel x1_running g1_limits x1_draft_count g1_draft_accounts g1_draft_amounts x1_log_count x1_log_end x1_log_syncedCount x1_log_syncedEnd g1_log_cells g1_log_starts g1_log_leaves x1_disk_done x1_disk_failing g1_disk_cells x1_proof_count g1_proof_ints x2_count x2_synced x2_syncedEnd x2_draft x2_off x2_failing x2_written x2_padded g2_keys g2_legs g2_account g2_amount g2_seals g2_ends g2_draftAccount g2_draftAmount g2_limits g2_disk g2_pad g2_stack mg2_firsts g2_others := by
  obtain ⟨dr, es, syn, fl, pd, hD, hMD, hlim, hL, hsy, hdf, hmf, hf40, hw, hdk, hP, hMP, hM, hon⟩ := hR
  by_cases hgood : ¬ k4 < 1 ∧ ¬ (1000 : Int32) < k4 ∧ ¬ k2 < 1 ∧ k2 ≤ k4
  · obtain ⟨g1, g2, g3, g4⟩ := hgood
    have toN : ∀ {x : Int32}, ¬ x < 1 → ¬ x < 0 := by
      intro x h
      rw [Int32.lt_iff_toInt_lt] at h ⊢
      have e0 : (0 : Int32).toInt = 0 := by decide
      have e1 : (1 : Int32).toInt = 1 := by decide
      omega
    obtain ⟨i, hi, rfl⟩ := nI_of (toN g3)
    obtain ⟨n, hn, rfl⟩ := nI_of (toN g1)
    have hin : i ≤ n := (nI_leI hi hn).mp g4
    have hi1 : 1 ≤ i := by
      rw [pu_n1, nI_ltI hi (by decide)] at g3; omega
    have hn1 : n ≤ 1000 := by
      rw [pu_n1000, nI_ltI (by decide) hn] at g2; omega
    obtain ⟨f', m1⟩ := mo_cons (old := k1) (head := k3) hMP g2_firsts hn1 hi1 hin
    have c1 := pu_showsCon hP k1 k3 hn1 hi1 hin
    have h01 : sp_cr pd (sp_cp 10 i n) k1 k3 = 0 ∨ sp_cr pd (sp_cp 10 i n) k1 k3 = 1 := by
      unfold sp_cr
      exact pu_ite01
    have e1 : fSl_consistent x1_proof_count g1_proof_ints k1 (nI i) k3 (nI n) = some (sp_cr pd (sp_cp 10 i n) k1 k3) := by
      unfold fSl_consistent
      rw [if_neg g1, if_neg g2, if_neg g3, if_neg (nI_nlt hin hn), c1, pu_bs]
      rcases h01 with h5 | h5
      · rw [h5, if_pos h00]
      · rw [h5, if_neg h10]
    have e2 : fMo_consistent x2_padded g2_pad g2_firsts k1 (nI i) k3 (nI n) = some (sp_cr pd (sp_cp 10 i n) k1 k3, f') := by
      unfold fMo_consistent
      rw [if_neg g1, if_neg g2, if_neg g3, if_pos g4]
      exact m1
    exact ⟨_, _, e1, e2, dr, es, syn, fl, pd, hD, hMD, hlim, hL, hsy, hdf, hmf, hf40, hw, hdk, hP, hMP, hM, hon⟩
  · have e1 : fSl_consistent x1_proof_count g1_proof_ints k1 k2 k3 k4 = some 0 := by
      unfold fSl_consistent
      by_cases a1 : k4 < 1
      · rw [if_pos a1]
      rw [if_neg a1]
      by_cases a2 : (1000 : Int32) < k4
      · rw [if_pos a2]
      rw [if_neg a2]
      by_cases a3 : k2 < 1
      · rw [if_pos a3]
      rw [if_neg a3]
      by_cases a4 : k2 ≤ k4
      · exact absurd ⟨a1, a2, a3, a4⟩ hgood
      · rw [if_pos (pu_nle.mp a4)]
    have e2 : fMo_consistent x2_padded g2_pad g2_firsts k1 k2 k3 k4 = some (0, g2_firsts) := by
      unfold fMo_consistent
      by_cases a1 : k4 < 1
      · rw [if_pos a1]
      rw [if_neg a1]
      by_cases a2 : (1000 : Int32) < k4
      · rw [if_pos a2]
      rw [if_neg a2]
      by_cases a3 : k2 < 1
      · rw [if_pos a3]
      rw [if_neg a3]
      by_cases a4 : k2 ≤ k4
      · exact absurd ⟨a1, a2, a3, a4⟩ hgood
      · rw [if_neg a4]
    exact ⟨_, _, e1, e2, dr, es, syn, fl, pd, hD, hMD, hlim, hL, hsy, hdf, hmf, hf40, hw, hdk, hP, hMP, hM, hon⟩
