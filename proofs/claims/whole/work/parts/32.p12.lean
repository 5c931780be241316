theorem mo_commL {dacc damt lim : Nat → Int32} {off cnt key : Int32} {dr : List sp_Leg} {es : List sp_Ent} {keys legs seals ends : Nat → Int32} (hd : sp_RD dacc damt cnt dr) (hl : es.length < 73) (hk : keys es.length = key) (hg : legs es.length = nI dr.length) (hs : ∀ i x, es[i]? = some x → seals i = sp_seal 0 (es.take (i + 1))) (hen : ends es.length = nI (sp_szs es)) : ∀ (n j : Nat) (acc amt : Nat → Int32), j ≤ dr.length → dr.length - j < n → (∀ i g, i < j → dr[i]? = some g → acc (4 * es.length + i) = g.1 ∧ amt (4 * es.length + i) = g.2) →
    ∃ acc' amt', fMo_commit_L122 off dacc damt lim n (nI j) (nI es.length) cnt keys legs acc amt seals ends = some (nI es.length, nI (es.length + 1), 0, keys, legs, acc', amt', upd seals es.length (sp_mix (sp_seal 0 es) (sp_leaf (key, dr))), upd ends (es.length + 1) (nI (sp_szs es + sp_sz (key, dr)))) ∧ (∀ q, q < 4 * es.length → acc' q = acc q ∧ amt' q = amt q) ∧ sp_ME keys legs acc' amt' es.length (key, dr) := by
  have hd0 := hd
  obtain ⟨rfl, h4, hd, -⟩ := hd
  intro n
  induction n with
  | zero => intro j acc amt h1 h2; omega
  | succ n ih =>
    intro j acc amt h1 h2 hw
    rw [fMo_commit_L122]
    by_cases hj : j = dr.length
    · have hM : sp_ME keys legs acc amt es.length (key, dr) := ⟨hk, hg, fun i g hgi => hw i g (by have hi : i < dr.length := (List.getElem?_eq_some_iff.mp hgi).1; omega) hgi⟩
      refine ⟨acc, amt, ?_, fun q hq => ⟨rfl, rfl⟩, hM⟩
      rw [if_pos (nI_le (by omega) (by omega)), mo_sealOf hs hM (by omega) h4, pu_bs, pu_wr (by omega) (by decide), pu_bs, pu_rd (by omega) (by decide), pu_bs, hen, nI_1, pu_n2, pk_mul, pu_n3, nI_add, nI_add, pu_wr (by omega) (by decide), pu_bs, nI_pred, Nat.add_assoc]
      rfl
    · rw [if_neg (nI_ge (by omega) (by omega))]
      obtain ⟨g, hgj, hdr⟩ := pu_dropc (l := dr) (i := j) (by omega)
      rw [pu_rd (by omega) (by decide), pu_bs, mo_4, pu_wr (by omega) (by decide), pu_bs, pu_rd (by omega) (by decide), pu_bs, pu_wr (by omega) (by decide), pu_bs, nI_1, (hd j g hgj).1, (hd j g hgj).2]
      obtain ⟨acc', amt', e1, e2, e3⟩ := ih (j + 1) (upd acc (4 * es.length + j) g.1) (upd amt (4 * es.length + j) g.2) (by omega) (by omega) (fun i x hi hx => by
        by_cases hij : i = j
        · subst hij
          rw [hgj] at hx
          cases hx
          exact ⟨by simp [upd], by simp [upd]⟩
        · rw [pu_un (by omega), pu_un (by omega)]; exact hw i x (by omega) hx)
      refine ⟨acc', amt', e1, fun q hq => ?_, e3⟩
      obtain ⟨q1, q2⟩ := e2 q hq
      rw [q1, q2, pu_un (by omega), pu_un (by omega)]
      exact ⟨rfl, rfl⟩
def sp_wrs (es : List sp_Ent) : Nat → Nat → (Nat → Int32) → Int32 → Nat → (Nat → Int32) × Int32 × Option Nat
  | 0, _, d, w, fl => (d, w, some fl)
  | n + 1, b, d, w, fl => if fl = 1 then (d, w, none) else sp_wrs es n (b + 1) (sp_blk d (sp_img es) b) (w + 1) (fl - 1)
theorem sp_wrs_congr (es : List sp_Ent) : ∀ (n b : Nat) (d d' : Nat → Int32) (w : Int32) (fl : Nat), (∀ k, k < 512 → d k = d' k) → (∀ k, k < 512 → (sp_wrs es n b d w fl).1 k = (sp_wrs es n b d' w fl).1 k) ∧ (sp_wrs es n b d w fl).2 = (sp_wrs es n b d' w fl).2 := by
  intro n
  induction n with
  | zero => intro b d d' w fl h; exact ⟨h, rfl⟩
  | succ n ih =>
    intro b d d' w fl h
    rw [sp_wrs, sp_wrs]
    by_cases h1 : fl = 1
    · rw [if_pos h1, if_pos h1]; exact ⟨h, rfl⟩
    · rw [if_neg h1, if_neg h1]
      refine ih (b + 1) _ _ _ _ (fun k hk => ?_)
      unfold sp_blk
      by_cases h2 : 8 * b ≤ k ∧ k < 8 * b + 8
      · rw [if_pos h2, if_pos h2]
      · rw [if_neg h2, if_neg h2, h k hk]
theorem sp_wrs_fl (es : List sp_Ent) : ∀ (n b : Nat) (d : Nat → Int32) (w : Int32) (fl x : Nat), (sp_wrs es n b d w fl).2.2 = some x → x ≤ fl := by
  intro n
  induction n with
  | zero => intro b d w fl x h; rw [sp_wrs] at h; exact Nat.le_of_eq (Option.some.inj h).symm
  | succ n ih =>
    intro b d w fl x h
    rw [sp_wrs] at h
    by_cases h1 : fl = 1
    · rw [if_pos h1] at h; cases h
    · rw [if_neg h1] at h
      have := ih _ _ _ _ _ h
      omega
theorem sp_blk_eq {es : List sp_Ent} {c : Nat → Int32} (hc : ∀ k, k < 512 → c k = sp_img es k) (d : Nat → Int32) (b : Nat) (hb : b < 64) : sp_blk d c b = sp_blk d (sp_img es) b := by
  funext i
  unfold sp_blk
  by_cases h2 : 8 * b ≤ i ∧ i < 8 * b + 8
  · rw [if_pos h2, if_pos h2, hc i (by omega)]
  · rw [if_neg h2, if_neg h2]
theorem pu_wblock (run dc lc le ls lse dd : Int32) (cells d : Nat → Int32) (b fl : Nat) (hb : b < 64) (hf : fl ≤ 40) : fSl_writeBlock run dc lc le ls lse cells dd (nI fl) d (nI b) = if fl = 1 then some (0, 0, 0, 0, 0, 0, 0, sp_clr 0 cells, dd, 0, d) else some (1, run, dc, lc, le, ls, lse, cells, dd + 1, nI (fl - 1), sp_blk d cells b) := by
  unfold fSl_writeBlock
  rw [pu_write cells d b fl hb hf dd]
  by_cases h1 : fl = 1
  · rw [if_pos h1, if_pos h1, pu_bs]
    have h2 : fSl_losePower run dc lc le ls lse cells = some (0, 0, 0, 0, 0, 0, sp_clr 0 cells) := by
      unfold fSl_losePower
      rw [pu_clear]; rfl
    dsimp only
    rw [if_pos rfl, h2]; rfl
  · rw [if_neg h1, if_neg h1, pu_bs]
    dsimp only
    rw [if_neg (by decide)]
theorem pu_syncL {cells : Nat → Int32} {es : List sp_Ent} (hc : ∀ k, k < 512 → cells k = sp_img es k) (first last : Nat) (hfl : first ≤ last) (hl : last < 64) (run dc lc le ls lse : Int32) : ∀ (n b : Nat) (d : Nat → Int32) (dd : Int32) (fl : Nat), b ≤ last + 1 → last + 1 - b < n → fl ≤ 40 → fSl_sync_L28 (nI first) (nI last) n (nI b) run dc lc le ls lse cells dd (nI fl) d = match (sp_wrs es (last + 1 - b) b d dd fl).2.2 with
      | some x => some (nI (last - first + 1), run, dc, lc, le, lc, le, cells, (sp_wrs es (last + 1 - b) b d dd fl).2.1, nI x, (sp_wrs es (last + 1 - b) b d dd fl).1)
      | none => some (-2, 0, 0, 0, 0, 0, 0, sp_clr 0 cells, (sp_wrs es (last + 1 - b) b d dd fl).2.1, 0, (sp_wrs es (last + 1 - b) b d dd fl).1) := by
  intro n
  induction n with
  | zero => intro b d dd fl h1 h2; omega
  | succ n ih =>
    intro b d dd fl h1 h2 h3
    rw [fSl_sync_L28]
    by_cases hb : b = last + 1
    · subst hb
      rw [if_pos (nI_lt (by omega) (by omega)), Nat.sub_self, sp_wrs, pk_sub hfl, nI_1]
      rfl
    · rw [if_neg (nI_nlt (by omega) (by omega)), pu_wblock _ _ _ _ _ _ _ _ _ b fl (by omega) h3, show last + 1 - b = (last + 1 - (b + 1)) + 1 by omega, sp_wrs]
      by_cases hf : fl = 1
      · rw [if_pos hf, if_pos hf]; rfl
      · rw [if_neg hf, if_neg hf, pu_bs, nI_1, ← sp_blk_eq hc d b (by omega)]
        exact ih (b + 1) _ _ _ (by omega) (by omega) (by omega)
theorem mo_syncL {keys legs acc amt seals ends : Nat → Int32} {ct : Int32} {es : List sp_Ent} (h : sp_RM keys legs acc amt seals ends ct es) (first last : Nat) (hfl : first ≤ last) (hl : last < 64) (sy se dc off : Int32) : ∀ (n b : Nat) (d : Nat → Int32) (wn : Int32) (fl : Nat), b ≤ last + 1 → last + 1 - b < n → fl ≤ 40 → fMo_sync_L72 keys legs acc amt seals ends (nI last) (nI first) n (nI b) ct sy se dc off (nI fl) wn d = match (sp_wrs es (last + 1 - b) b d wn fl).2.2 with
      | some x => some (nI (last - first + 1), ct, ct, nI (sp_szs es), dc, off, nI x, (sp_wrs es (last + 1 - b) b d wn fl).2.1, (sp_wrs es (last + 1 - b) b d wn fl).1)
      | none => some (-2, 0, 0, se, 0, 1, 0, (sp_wrs es (last + 1 - b) b d wn fl).2.1, (sp_wrs es (last + 1 - b) b d wn fl).1) := by
  have h73 := sp_len es h.1
  have hz := h.2.1
  intro n
  induction n with
  | zero => intro b d wn fl h1 h2; omega
  | succ n ih =>
    intro b d wn fl h1 h2 h3
    rw [fMo_sync_L72]
    by_cases hb : b = last + 1
    · subst hb
      rw [if_pos (nI_lt (by omega) (by omega)), Nat.sub_self, sp_wrs, pk_sub hfl, nI_1]
      have he : hw_rd 77 ends ct = some (nI (sp_szs es)) := by rw [h.2.2.1, pu_rd (by omega) (by decide), h.2.2.2.2 es.length (by omega), List.take_length]
      rw [he]; rfl
    · rw [if_neg (nI_nlt (by omega) (by omega)), mo_write h b fl (by omega) h3, show last + 1 - b = (last + 1 - (b + 1)) + 1 by omega, sp_wrs]
      by_cases hf : fl = 1
      · rw [if_pos hf, if_pos hf]; rfl
      · rw [if_neg hf, if_neg hf, pu_bs, nI_1]
        exact ih (b + 1) _ _ _ (by omega) (by omega) (by omega)
def sp_bk (n : Nat) : Nat := min (n / 8) 63
theorem pu_blockOf (n : Nat) (h : n ≤ 512) : fLg_blockOf (nI n) = some (nI (sp_bk n)) := by
  unfold fLg_blockOf sp_bk hw_min
  rw [pu_n8, pk_div (by omega) (by decide) (by decide)]
  by_cases h1 : 63 < n / 8
  · rw [if_pos (show (63 : Int32) < nI (n / 8) from nI_lt (a := 63) h1 (by omega)), Nat.min_eq_right (by omega)]; rfl
  · rw [if_neg (show ¬ (63 : Int32) < nI (n / 8) from nI_nlt (a := 63) (by omega) (by decide)), Nat.min_eq_left (by omega)]
theorem sp_bk_mono {a b : Nat} (h : a ≤ b) : sp_bk a ≤ sp_bk b := by
  unfold sp_bk
  have : a / 8 ≤ b / 8 := Nat.div_le_div_right h
  omega
theorem sp_bk_lt (n : Nat) : sp_bk n < 64 := by unfold sp_bk; omega
