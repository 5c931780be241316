def sp_cp : Nat → Nat → Nat → List Int32
  | 0, _, _ => []
  | d + 1, m, n => if m = n then [] else if sp_k n < m then 0 :: sp_cp d (m - sp_k n) (n - sp_k n) else 1 :: sp_cp d m (sp_k n)
def sp_own : List Int32 → Int32
  | [] => 1
  | p :: ps => if p = 0 then 0 else sp_own ps
def sp_evA (base : Int32) : List Int32 → List Int32 → Int32
  | [], _ => base
  | _ :: _, [] => base
  | p :: ps, z :: r => if p = 0 then sp_node z (sp_evA base ps r) else sp_evA base ps r
def sp_cr (pd P : List Int32) (old head : Int32) : Int32 :=
  if pd.length = P.length + (if sp_own P = 0 then 1 else 0) then (if sp_evA (if sp_own P = 0 then pd[0]?.getD 0 else old) P pd.reverse = old then (if sp_ev (if sp_own P = 0 then pd[0]?.getD 0 else old) P pd.reverse = head then 1 else 0) else 0) else 0
theorem sp_own_01 : ∀ l : List Int32, sp_own l = 0 ∨ sp_own l = 1 := by
  intro l
  induction l with
  | nil => exact Or.inr rfl
  | cons p ps ih =>
    rw [sp_own]
    by_cases h : p = 0
    · rw [if_pos h]; exact Or.inl rfl
    · rw [if_neg h]; exact ih
theorem sp_own_app (a b : List Int32) : sp_own (a ++ b) = if sp_own a = 0 then 0 else sp_own b := by
  induction a with
  | nil => rw [List.nil_append, sp_own, if_neg (by decide)]
  | cons p ps ih =>
    rw [List.cons_append, sp_own, sp_own]
    by_cases h : p = 0
    · rw [if_pos h, if_pos h, if_pos rfl]
    · rw [if_neg h, if_neg h, ih]
theorem sp_cp_len : ∀ (d m n : Nat), (sp_cp d m n).length ≤ d := by
  intro d
  induction d with
  | zero => intro m n; simp [sp_cp]
  | succ d ih =>
    intro m n
    rw [sp_cp]
    by_cases h1 : m = n
    · rw [if_pos h1]; simp
    · rw [if_neg h1]
      by_cases h2 : sp_k n < m
      · rw [if_pos h2, List.length_cons]; have := ih (m - sp_k n) (n - sp_k n); omega
      · rw [if_neg h2, List.length_cons]; have := ih m (sp_k n); omega
theorem pu_csL : ∀ (q d m n v : Nat), d < q → n ≤ 2 ^ d → n ≤ 1000 → 1 ≤ m → m ≤ n → v + d ≤ 15 → fPd_consistencySteps_L2 q (nI m) (nI n) (nI v) = some (nI (v + (sp_cp d m n).length)) := by
  intro q
  induction q with
  | zero => intro d m n v h1; omega
  | succ q ih =>
    intro d m n v h1 h2 h3 h4 h4' h5
    rw [fPd_consistencySteps_L2]
    by_cases hmn : m = n
    · rw [if_pos (by rw [hmn])]
      cases d with
      | zero => rfl
      | succ d => rw [sp_cp, if_pos hmn]; rfl
    · rw [if_neg (by rw [nI_eq (by omega) (by omega)]; exact hmn), if_neg (show ¬ (16 : Int32) ≤ nI v from nI_ge (b := 16) (by omega) (by decide)), pu_spl n (by omega), pu_bs]
      cases d with
      | zero => simp at h2; omega
      | succ d =>
        obtain ⟨a, b⟩ := sp_k_le (n := n) (by omega) (by omega) h2
        obtain ⟨c1, c2, c3⟩ := sp_k_spec (n := n) (by omega) (by omega)
        rw [sp_cp, if_neg hmn, nI_1]
        by_cases h7 : sp_k n < m
        · rw [if_pos (nI_lt h7 (by omega)), if_pos h7, pk_sub (by omega), pk_sub (by omega), ih d _ _ (v + 1) (by omega) b (by omega) (by omega) (by omega) (by omega), List.length_cons, Nat.add_assoc, Nat.add_comm 1]
        · rw [if_neg (nI_nlt (by omega) (by omega)), if_neg h7, ih d _ _ (v + 1) (by omega) a (by omega) (by omega) (by omega) (by omega), List.length_cons, Nat.add_assoc, Nat.add_comm 1]
theorem pu_ownL : ∀ (q d m n v : Nat), d < q → n ≤ 2 ^ d → n ≤ 1000 → 1 ≤ m → m ≤ n → v + d = 10 → fPd_isOwn_L2 (nI m) q (nI n) (nI v) = some (sp_own (sp_cp d m n)) := by
  intro q
  induction q with
  | zero => intro d m n v h1; omega
  | succ q ih =>
    intro d m n v h1 h2 h3 h4 h4' h5
    rw [fPd_isOwn_L2]
    cases d with
    | zero =>
      rw [if_pos (show (10 : Int32) ≤ nI v from nI_le (a := 10) (by omega) (by omega))]; rfl
    | succ d =>
      rw [if_neg (show ¬ (10 : Int32) ≤ nI v from nI_ge (b := 10) (by omega) (by decide)), sp_cp]
      by_cases hmn : m = n
      · rw [if_pos (by rw [hmn]), if_pos hmn]; rfl
      · obtain ⟨a, b⟩ := sp_k_le (n := n) (by omega) (by omega) h2
        obtain ⟨c1, c2, c3⟩ := sp_k_spec (n := n) (by omega) (by omega)
        rw [if_neg (by rw [nI_eq (by omega) (by omega)]; exact hmn), if_neg hmn, pu_spl n (by omega), pu_bs]
        by_cases h7 : sp_k n < m
        · rw [if_neg (nI_ge h7 (by omega)), if_pos h7, sp_own, if_pos rfl]
        · rw [if_pos (nI_le (by omega) (by omega)), if_neg h7, nI_1, ih d _ _ (v + 1) (by omega) a (by omega) (by omega) (by omega) (by omega), sp_own, if_neg (show ¬ (1 : Int32) = 0 by decide)]
theorem sp_take_rev {pd : List Int32} {w : Nat} (h : w + 1 ≤ pd.length) : (pd.take (w + 1)).reverse = pd[w]?.getD 0 :: (pd.take w).reverse := by
  rw [List.take_succ, List.getElem?_eq_getElem (by omega)]; simp
theorem pu_old {ints : Nat → Int32} {cnt : Int32} {pd : List Int32} (hP : sp_RP ints cnt pd) (base : Int32) : ∀ (q d m n u : Nat), d < q → n ≤ 2 ^ d → n ≤ 1000 → 1 ≤ m → m ≤ n → (sp_cp d m n).length ≤ u → u ≤ pd.length → fPd_shownOld cnt ints q base (nI m) (nI n) (nI u) = some (sp_evA base (sp_cp d m n) (pd.take u).reverse) := by
  intro q
  induction q with
  | zero => intro d m n u h1; omega
  | succ q ih =>
    intro d m n u h1 h2 h3 h4 h4' h5 h6
    have h16 := hP.2.1
    rw [fPd_shownOld]
    by_cases hmn : m = n
    · rw [if_pos (by rw [hmn])]
      have : sp_cp d m n = [] := by
        cases d with
        | zero => rfl
        | succ d => rw [sp_cp, if_pos hmn]
      rw [this, sp_evA]
    · rw [if_neg (by rw [nI_eq (by omega) (by omega)]; exact hmn)]
      cases d with
      | zero => simp at h2; omega
      | succ d =>
        obtain ⟨a, b⟩ := sp_k_le (n := n) (by omega) (by omega) h2
        obtain ⟨c1, c2, c3⟩ := sp_k_spec (n := n) (by omega) (by omega)
        rw [sp_cp, if_neg hmn] at h5 ⊢
        by_cases h7 : sp_k n < m
        · rw [if_pos h7] at h5 ⊢
          rw [List.length_cons] at h5
          obtain ⟨w, rfl⟩ : ∃ w, u = w + 1 := ⟨u - 1, by omega⟩
          rw [if_pos (show 0 < nI (w + 1) from nI_lt (a := 0) (by omega) (by omega)), pu_spl n (by omega), pu_bs, if_pos (nI_lt h7 (by omega)), nI_pred, pu_intAt hP w (by omega), pu_bs, pk_sub (by omega), pk_sub (by omega), ih d _ _ w (by omega) b (by omega) (by omega) (by omega) (by omega) (by omega), pu_bs, pu_node, pu_bs, sp_take_rev h6, sp_evA, if_pos rfl]
        · rw [if_neg h7] at h5 ⊢
          rw [List.length_cons] at h5
          obtain ⟨w, rfl⟩ : ∃ w, u = w + 1 := ⟨u - 1, by omega⟩
          rw [if_pos (show 0 < nI (w + 1) from nI_lt (a := 0) (by omega) (by omega)), pu_spl n (by omega), pu_bs, if_neg (nI_nlt (by omega) (by omega)), nI_pred, ih d _ _ w (by omega) a (by omega) (by omega) (by omega) (by omega) (by omega), pu_bs, sp_take_rev h6, sp_evA, if_neg (show ¬ (1 : Int32) = 0 by decide)]
theorem pu_new {ints : Nat → Int32} {cnt : Int32} {pd : List Int32} (hP : sp_RP ints cnt pd) (base : Int32) : ∀ (q d m n u : Nat), d < q → n ≤ 2 ^ d → n ≤ 1000 → 1 ≤ m → m ≤ n → (sp_cp d m n).length ≤ u → u ≤ pd.length → fPd_shownNew cnt ints q base (nI m) (nI n) (nI u) = some (sp_ev base (sp_cp d m n) (pd.take u).reverse) := by
  intro q
  induction q with
  | zero => intro d m n u h1; omega
  | succ q ih =>
    intro d m n u h1 h2 h3 h4 h4' h5 h6
    have h16 := hP.2.1
    rw [fPd_shownNew]
    by_cases hmn : m = n
    · rw [if_pos (by rw [hmn])]
      have : sp_cp d m n = [] := by
        cases d with
        | zero => rfl
        | succ d => rw [sp_cp, if_pos hmn]
      rw [this, sp_ev]
    · rw [if_neg (by rw [nI_eq (by omega) (by omega)]; exact hmn)]
      cases d with
      | zero => simp at h2; omega
      | succ d =>
        obtain ⟨a, b⟩ := sp_k_le (n := n) (by omega) (by omega) h2
        obtain ⟨c1, c2, c3⟩ := sp_k_spec (n := n) (by omega) (by omega)
        rw [sp_cp, if_neg hmn] at h5 ⊢
        by_cases h7 : sp_k n < m
        · rw [if_pos h7] at h5 ⊢
          rw [List.length_cons] at h5
          obtain ⟨w, rfl⟩ : ∃ w, u = w + 1 := ⟨u - 1, by omega⟩
          rw [if_pos (show 0 < nI (w + 1) from nI_lt (a := 0) (by omega) (by omega)), pu_spl n (by omega), pu_bs, nI_pred, pu_intAt hP w (by omega), pu_bs, if_pos (nI_lt h7 (by omega)), pk_sub (by omega), pk_sub (by omega), ih d _ _ w (by omega) b (by omega) (by omega) (by omega) (by omega) (by omega), pu_bs, pu_node, pu_bs, sp_take_rev h6, sp_ev, if_pos rfl]
        · rw [if_neg h7] at h5 ⊢
          rw [List.length_cons] at h5
          obtain ⟨w, rfl⟩ : ∃ w, u = w + 1 := ⟨u - 1, by omega⟩
          rw [if_pos (show 0 < nI (w + 1) from nI_lt (a := 0) (by omega) (by omega)), pu_spl n (by omega), pu_bs, nI_pred, pu_intAt hP w (by omega), pu_bs, if_neg (nI_nlt (by omega) (by omega)), ih d _ _ w (by omega) a (by omega) (by omega) (by omega) (by omega) (by omega), pu_bs, pu_node, pu_bs, sp_take_rev h6, sp_ev, if_neg (show ¬ (1 : Int32) = 0 by decide)]
theorem pu_showsCon {ints : Nat → Int32} {cnt : Int32} {pd : List Int32} (hP : sp_RP ints cnt pd) (old head : Int32) {m n : Nat} (h3 : n ≤ 1000) (h4 : 1 ≤ m) (h5 : m ≤ n) : fPd_showsConsistency cnt ints old (nI m) head (nI n) = some (sp_cr pd (sp_cp 10 m n) old head) := by
  have h16 := hP.2.1
  have hl := sp_cp_len 10 m n
  have e1 : fPd_consistencySteps (nI m) (nI n) = some (nI (sp_cp 10 m n).length) := by
    unfold fPd_consistencySteps
    have := pu_csL 600 10 m n 0 (by omega) (by omega) h3 h4 h5 (by omega)
    rw [Nat.zero_add] at this
    exact this
  have e2 : fPd_isOwn (nI m) (nI n) = some (sp_own (sp_cp 10 m n)) := by
    unfold fPd_isOwn
    exact pu_ownL 600 10 m n 0 (by omega) (by omega) h3 h4 h5 (by omega)
  have e3 : ∀ base, (sp_cp 10 m n).length ≤ pd.length → fPd_shownOld cnt ints 18 base (nI m) (nI n) cnt = some (sp_evA base (sp_cp 10 m n) pd.reverse) := by
    intro base hb
    have := pu_old hP base 18 10 m n pd.length (by omega) (by omega) h3 h4 h5 hb (by omega)
    rw [List.take_length, ← hP.1] at this
    exact this
  have e4 : ∀ base, (sp_cp 10 m n).length ≤ pd.length → fPd_shownNew cnt ints 18 base (nI m) (nI n) cnt = some (sp_ev base (sp_cp 10 m n) pd.reverse) := by
    intro base hb
    have := pu_new hP base 18 10 m n pd.length (by omega) (by omega) h3 h4 h5 hb (by omega)
    rw [List.take_length, ← hP.1] at this
    exact this
  have e5 : fPd_intAt cnt ints 0 = some (pd[0]?.getD 0) := pu_intAt hP 0 (by decide)
  unfold fPd_showsConsistency sp_cr
  rw [e1, pu_bs, e2, pu_bs]
  rcases sp_own_01 (sp_cp 10 m n) with ho | ho
  · rw [ho, if_pos rfl, if_pos rfl, if_pos rfl, nI_1]
    by_cases h6 : pd.length = (sp_cp 10 m n).length + 1
    · rw [if_pos (show cnt = nI ((sp_cp 10 m n).length + 1) by rw [hP.1, h6]), if_pos rfl, if_pos h6, e5, pu_bs, e3 _ (by omega), pu_bs, e4 _ (by omega), pu_bs]
      by_cases h7 : sp_evA (pd[0]?.getD 0) (sp_cp 10 m n) pd.reverse = old
      · rw [if_pos h7, if_pos h7]
        by_cases h8 : sp_ev (pd[0]?.getD 0) (sp_cp 10 m n) pd.reverse = head
        · rw [if_pos h8, if_pos h8]
        · rw [if_neg h8, if_neg h8]
      · rw [if_neg h7, if_neg h7]
    · rw [if_neg (show ¬ cnt = nI ((sp_cp 10 m n).length + 1) by rw [hP.1, nI_eq (by omega) (by omega)]; exact h6), if_neg h6]
  · have h10 : ¬ (1 : Int32) = 0 := by decide
    rw [ho, if_neg h10, if_neg h10, if_neg h10, Nat.add_zero]
    by_cases h6 : pd.length = (sp_cp 10 m n).length
    · rw [if_pos (show cnt = nI (sp_cp 10 m n).length by rw [hP.1, h6]), if_neg h10, if_pos h6, e3 _ (by omega), pu_bs, e4 _ (by omega), pu_bs]
      by_cases h7 : sp_evA old (sp_cp 10 m n) pd.reverse = old
      · rw [if_pos h7, if_pos h7]
        by_cases h8 : sp_ev old (sp_cp 10 m n) pd.reverse = head
        · rw [if_pos h8, if_pos h8]
        · rw [if_neg h8, if_neg h8]
      · rw [if_neg h7, if_neg h7]
    · rw [if_neg (show ¬ cnt = nI (sp_cp 10 m n).length by rw [hP.1, nI_eq (by omega) (by omega)]; exact h6), if_neg h6]
