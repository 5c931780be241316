theorem mo_partL (n : Nat) (hn : n ≤ 1024) : ∀ (q k : Nat), k ≤ 1024 → 1 ≤ k → ∀ f, f < q → n ≤ 2 ^ (f + 1) * k → fMo_part_L2 (nI n) q (nI k) = some (nI (sp_kL n f k)) := by
  intro q
  induction q with
  | zero => intro k h1 h2 f h3; omega
  | succ q ih =>
    intro k h1 h2 f h3 h4
    rw [fMo_part_L2, pu_n2, pk_mul, pk_mul]
    by_cases h5 : n ≤ 2 * k
    · rw [if_pos (nI_le h5 (by omega))]
      cases f with
      | zero => rfl
      | succ f => rw [sp_kL, if_pos h5]
    · rw [if_neg (nI_ge (by omega) (by omega))]
      cases f with
      | zero => simp at h4; omega
      | succ f =>
        rw [sp_kL, if_neg h5, Nat.mul_comm k 2]
        refine ih (2 * k) (by omega) (by omega) f (by omega) ?_
        rw [Nat.pow_succ, Nat.mul_assoc] at h4
        exact h4
theorem mo_part (n : Nat) (hn : n ≤ 1000) : fMo_part (nI n) = some (nI (sp_k n)) := by
  unfold fMo_part
  exact mo_partL n (by omega) 600 1 (by omega) (by omega) 10 (by omega) (by omega)
def sp_C (lf : Nat → Int32) : Nat → Nat → Int32
  | 0, f => lf f
  | v + 1, f => sp_node (sp_C lf v f) (sp_C lf v (f + 2 ^ v))
def sp_S (lf : Nat → Int32) (f : Nat) : Nat → Nat → Nat → List Int32
  | 0, _, _ => []
  | q + 1, v, s => if s = 0 then [] else sp_S lf f q (v + 1) (s / 2) ++ (if s % 2 = 1 then [sp_C lf v (f + (s - 1) * 2 ^ v)] else [])
theorem sp_S_zero (lf : Nat → Int32) (f q v : Nat) : sp_S lf f q v 0 = [] := by
  cases q with
  | zero => rfl
  | succ q => rw [sp_S, if_pos rfl]
theorem sp_S_fuel (lf : Nat → Int32) (f : Nat) : ∀ (q q' v s : Nat), s ≤ q → s ≤ q' → sp_S lf f q v s = sp_S lf f q' v s := by
  intro q
  induction q with
  | zero => intro q' v s h1 h2; rw [show s = 0 by omega, sp_S_zero, sp_S_zero]
  | succ q ih =>
    intro q' v s h1 h2
    by_cases h0 : s = 0
    · rw [h0, sp_S_zero, sp_S_zero]
    · cases q' with
      | zero => omega
      | succ q' => rw [sp_S, sp_S, if_neg h0, if_neg h0, ih q' (v + 1) (s / 2) (by omega) (by omega)]
theorem sp_S_odd (lf : Nat → Int32) (f q v u : Nat) (h : 2 * u + 1 ≤ q) : sp_S lf f q v (2 * u + 1) = sp_S lf f q (v + 1) u ++ [sp_C lf v (f + 2 * u * 2 ^ v)] := by
  cases q with
  | zero => omega
  | succ q =>
    rw [sp_S, if_neg (by omega), show (2 * u + 1) / 2 = u by omega, show (2 * u + 1) % 2 = 1 by omega, if_pos rfl, show 2 * u + 1 - 1 = 2 * u by omega, sp_S_fuel lf f q (q + 1) (v + 1) u (by omega) (by omega)]
theorem sp_S_even (lf : Nat → Int32) (f q v u : Nat) (h : 2 * u ≤ q) : sp_S lf f q v (2 * u) = sp_S lf f q (v + 1) u := by
  by_cases h0 : u = 0
  · rw [h0, sp_S_zero, sp_S_zero]
  · cases q with
    | zero => omega
    | succ q =>
      rw [sp_S, if_neg (by omega), show (2 * u) / 2 = u by omega, show (2 * u) % 2 = 0 by omega, if_neg (by decide), List.append_nil, sp_S_fuel lf f q (q + 1) (v + 1) u (by omega) (by omega)]
theorem sp_S_len (lf : Nat → Int32) (f : Nat) : ∀ (b q v s : Nat), s < 2 ^ b → s ≤ q → (sp_S lf f q v s).length ≤ b := by
  intro b
  induction b with
  | zero => intro q v s h1 h2; rw [show s = 0 by simpa using h1, sp_S_zero]; simp
  | succ b ih =>
    intro q v s h1 h2
    rw [Nat.pow_succ] at h1
    rcases Nat.mod_two_eq_zero_or_one s with h3 | h3
    · have hs : s = 2 * (s / 2) := by omega
      rw [hs, sp_S_even lf f q v (s / 2) (by omega)]
      have := ih q (v + 1) (s / 2) (by omega) (by omega)
      omega
    · have hs : s = 2 * (s / 2) + 1 := by omega
      rw [hs, sp_S_odd lf f q v (s / 2) (by omega), List.length_append, List.length_singleton]
      have := ih q (v + 1) (s / 2) (by omega) (by omega)
      omega
theorem sp_S_ne (lf : Nat → Int32) (f q : Nat) : ∀ (s v : Nat), 1 ≤ s → s ≤ q → sp_S lf f q v s ≠ [] := by
  intro s
  induction s using Nat.strongRecOn with
  | ind s ih =>
    intro v h1 h2
    rcases Nat.mod_two_eq_zero_or_one s with h3 | h3
    · have hs : s = 2 * (s / 2) := by omega
      rw [hs, sp_S_even lf f q v (s / 2) (by omega)]
      exact ih (s / 2) (by omega) (v + 1) (by omega) (by omega)
    · have hs : s = 2 * (s / 2) + 1 := by omega
      rw [hs, sp_S_odd lf f q v (s / 2) (by omega)]
      simp
def sp_AR (st : Nat → Int32) (l : List Int32) : Prop := ∀ (j : Nat) (x : Int32), l[j]? = some x → st j = x
theorem sp_AR.pre {st : Nat → Int32} {a b : List Int32} (h : sp_AR st (a ++ b)) : sp_AR st a := fun j x hx => h j x (by rw [List.getElem?_append_left (List.getElem?_eq_some_iff.mp hx).1]; exact hx)
theorem sp_AR.last {st : Nat → Int32} {a : List Int32} {x : Int32} (h : sp_AR st (a ++ [x])) : st a.length = x := h a.length x (by rw [List.getElem?_append_right (by omega), Nat.sub_self]; rfl)
theorem sp_AR.push {st : Nat → Int32} {a : List Int32} (h : sp_AR st a) (x : Int32) : sp_AR (upd st a.length x) (a ++ [x]) := by
  intro j y hj
  by_cases h5 : j = a.length
  · rw [h5, List.getElem?_append_right (by omega), Nat.sub_self] at hj
    simp only [List.getElem?_cons_zero, Option.some.injEq] at hj
    rw [h5, pu_us, hj]
  · have hi : j < (a ++ [x]).length := (List.getElem?_eq_some_iff.mp hj).1
    rw [List.length_append, List.length_singleton] at hi
    rw [List.getElem?_append_left (by omega)] at hj
    rw [pu_un h5]; exact h j y hj
theorem mo_hI {keys legs acc amt lf : Nat → Int32} {k1 k2 : Int32} {f t : Nat} {kk : Int32 → Int32 → (Nat → Int32) → Option (Int32 × (Nat → Int32))} : ∀ (n v s : Nat) (st : Nat → Int32), s < n → s + 1 ≤ 200 → sp_AR st (sp_S lf f 200 v s) → ∃ st', fMo_hash_L35 keys legs acc amt k1 k2 (nI t) kk n (nI (sp_S lf f 200 v s).length) (sp_C lf v (f + s * 2 ^ v)) (nI s) st = kk (nI (sp_S lf f 200 v (s + 1)).length) (nI (t + 1)) st' ∧ sp_AR st' (sp_S lf f 200 v (s + 1)) := by
  intro n
  induction n with
  | zero => intro v s st h1; omega
  | succ n ih =>
    intro v s st h1 h2 hA
    rw [fMo_hash_L35, pu_n2, pk_rem (by omega) (by decide) (by decide), pk_div (by omega) (by decide) (by decide), nI_1]
    rcases Nat.mod_two_eq_zero_or_one s with h3 | h3
    · obtain ⟨u, rfl⟩ : ∃ u, s = 2 * u := ⟨s / 2, by omega⟩
      rw [h3, if_neg (by decide)]
      have hl := sp_S_len lf f 8 200 v (2 * u) (by omega) (by omega)
      rw [sp_S_even lf f 200 v u (by omega)] at hA hl ⊢
      rw [sp_S_odd lf f 200 v u (by omega), pu_wr (by omega) (by decide), pu_bs, nI_1, List.length_append, List.length_singleton]
      exact ⟨_, rfl, hA.push _⟩
    · obtain ⟨u, rfl⟩ : ∃ u, s = 2 * u + 1 := ⟨s / 2, by omega⟩
      rw [h3, if_pos (show nI 1 = 1 from rfl)]
      have hl := sp_S_len lf f 8 200 v (2 * u + 1) (by omega) (by omega)
      rw [sp_S_odd lf f 200 v u (by omega)] at hA hl ⊢
      rw [List.length_append, List.length_singleton] at hl ⊢
      rw [pk_m1, pu_rd (by omega) (by decide), pu_bs, hA.last, mo_node, pu_bs, show (2 * u + 1) / 2 = u by omega, show 2 * u + 1 + 1 = 2 * (u + 1) by omega, sp_S_even lf f 200 v (u + 1) (by omega)]
      have hc : sp_node (sp_C lf v (f + 2 * u * 2 ^ v)) (sp_C lf v (f + (2 * u + 1) * 2 ^ v)) = sp_C lf (v + 1) (f + u * 2 ^ (v + 1)) := by
        rw [sp_C, Nat.pow_succ, Nat.add_mul, Nat.one_mul, Nat.add_assoc]
        rw [show u * (2 ^ v * 2) = 2 * u * 2 ^ v by rw [Nat.mul_comm (2 ^ v) 2, ← Nat.mul_assoc, Nat.mul_comm u 2]]
      rw [hc]
      exact ih (v + 1) u st (by omega) (by omega) hA.pre
def sp_F : List Int32 → Int32
  | [] => 0
  | x :: r => if r = [] then x else sp_node x (sp_F r)
def sp_fr : List Int32 → Int32 → Int32
  | [], a => a
  | x :: r, a => sp_node x (sp_fr r a)
theorem sp_F_snoc (l : List Int32) (x : Int32) : sp_F (l ++ [x]) = sp_fr l x := by
  induction l with
  | nil => rw [List.nil_append, sp_F, if_pos rfl, sp_fr]
  | cons y r ih => rw [List.cons_append, sp_F, if_neg (by simp), ih, sp_fr]
theorem sp_fr_snoc (l : List Int32) (x a : Int32) : sp_fr (l ++ [x]) a = sp_fr l (sp_node x a) := by
  induction l with
  | nil => rw [List.nil_append, sp_fr, sp_fr, sp_fr]
  | cons y r ih => rw [List.cons_append, sp_fr, ih, sp_fr]
theorem mo_hF {keys legs acc amt st : Nat → Int32} : ∀ (n : Nat) (l : List Int32) (a : Int32), l.length < n → l.length ≤ 15 → sp_AR st l → fMo_hash_L100 keys legs acc amt n a (nI l.length - 1) st = some (sp_fr l a, st) := by
  intro n
  induction n with
  | zero => intro l a h; omega
  | succ n ih =>
    intro l a h h15 hA
    rw [fMo_hash_L100]
    rcases pu_snoc l with rfl | ⟨b, x, rfl⟩
    · rw [if_pos (by decide)]; rfl
    · rw [List.length_append, List.length_singleton] at h h15 ⊢
      rw [nI_pred, if_neg (nI_pos (by omega)), pu_rd (by omega) (by decide), pu_bs, hA.last, mo_node, pu_bs, show nI b.length + (-1) = nI b.length - 1 by rw [Int32.sub_eq_add_neg], ih b _ (by omega) (by omega) hA.pre, sp_fr_snoc]
theorem mo_hL {keys legs acc amt seals ends : Nat → Int32} {ct : Int32} {es : List sp_Ent} (h : sp_RM keys legs acc amt seals ends ct es) (f N : Nat) (hN : 1 ≤ N) (hf : f + N ≤ es.length) : ∀ (n t : Nat) (st : Nat → Int32), t ≤ N → N - t < n → sp_AR st (sp_S (sp_lf es) f 200 0 t) → ∃ st', fMo_hash_L15 keys legs acc amt (nI f) (nI N) n (nI (sp_S (sp_lf es) f 200 0 t).length) (nI t) st = some (sp_F (sp_S (sp_lf es) f 200 0 N), st') := by
  have h73 := sp_len es h.1
  have hz := h.2.1
  intro n
  induction n with
  | zero => intro t st h1 h2; omega
  | succ n ih =>
    intro t st h1 h2 hA
    rw [fMo_hash_L15]
    by_cases ht : t = N
    · subst ht
      rw [if_pos (nI_le (by omega) (by omega))]
      have hl := sp_S_len (sp_lf es) f 8 200 0 t (by omega) (by omega)
      rcases pu_snoc (sp_S (sp_lf es) f 200 0 t) with h5 | ⟨b, x, h5⟩
      · exact absurd h5 (sp_S_ne (sp_lf es) f 200 t 0 hN (by omega))
      · rw [h5] at hA hl ⊢
        rw [List.length_append, List.length_singleton] at hl ⊢
        rw [nI_pred, pu_rd (by omega) (by decide), pu_bs, hA.last, show nI (b.length + 1) - 2 = nI b.length - 1 by rw [nI_succ, Int32.sub_eq_add_neg, Int32.add_assoc, show (1 : Int32) + (-2) = -1 by decide, ← Int32.sub_eq_add_neg], mo_hF 600 b x (by omega) (by omega) hA.pre, sp_F_snoc]
        exact ⟨st, rfl⟩
    · rw [if_neg (nI_ge (by omega) (by omega)), nI_add]
      obtain ⟨e, he, -⟩ := pu_dropc (l := es) (i := f + t) (by omega)
      have hE := (h.2.2.2.1 (f + t) e he).1
      have hel := (h.1 e (List.mem_of_getElem? he)).2.1
      rw [mo_leafOf hE (by omega) hel, pu_bs]
      have hc : sp_leaf e = sp_C (sp_lf es) 0 (f + t * 2 ^ 0) := by
        rw [sp_C, Nat.pow_zero, Nat.mul_one]; unfold sp_lf; rw [he]
      rw [hc]
      obtain ⟨st', e1, e2⟩ := mo_hI (keys := keys) (legs := legs) (acc := acc) (amt := amt) (k1 := nI f) (k2 := nI N) (t := t) (kk := fun y0 y1 y2 => fMo_hash_L15 keys legs acc amt (nI f) (nI N) n y0 y1 y2) 600 0 t st (by omega) (by omega) hA
      rw [e1]
      exact ih (t + 1) st' (by omega) (by omega) e2
