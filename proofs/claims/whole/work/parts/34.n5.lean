theorem nodup_len {l m : List Nat} (h : l.Nodup) (hs : ∀ x ∈ l, x ∈ m) : l.length ≤ m.length := by
  induction l generalizing m with
  | nil => simp
  | cons a l ih =>
    rw [List.nodup_cons] at h
    have ha := hs a (by simp)
    have := ih (m := m.erase a) h.2 fun x hx => (List.mem_erase_of_ne (fun (e : x = a) => h.1 (e ▸ hx))).mpr (hs x (by simp [hx]))
    rw [List.length_erase_of_mem ha] at this
    have := List.length_pos_of_mem ha
    simp; omega
theorem map_nodup {n : Nat} {o : Nat → Nat} (oi : ∀ k k', k < n → k' < n → o k = o k' → k = k') : ((List.range n).map o).Nodup := by
  rw [List.Nodup, List.pairwise_map]
  refine List.Pairwise.imp_of_mem (fun {a b} ha hb hab e => ?_) (List.nodup_range (n := n))
  exact hab (oi a b (List.mem_range.mp ha) (List.mem_range.mp hb) e)
theorem perm_o {n : Nat} {o : Nat → Nat} (ol : ∀ k, k < n → o k < n) (oi : ∀ k k', k < n → k' < n → o k = o k' → k = k') : ((List.range n).map o).Perm (List.range n) := by
  have hn := map_nodup oi
  have sub : ∀ x ∈ (List.range n).map o, x ∈ List.range n := fun x hx => by
    obtain ⟨k, hk, rfl⟩ := List.mem_map.mp hx
    exact List.mem_range.mpr (ol k (List.mem_range.mp hk))
  rw [List.perm_iff_count]
  intro a
  by_cases ha : a ∈ List.range n
  · have h2 : a ∈ (List.range n).map o := by
      apply Classical.byContradiction; intro hc
      have := nodup_len (m := (List.range n).erase a) hn fun x hx => (List.mem_erase_of_ne (fun (e : x = a) => hc (e ▸ hx))).mpr (sub x hx)
      rw [List.length_erase_of_mem ha] at this
      have := List.length_pos_of_mem ha
      simp at *; omega
    rw [hn.count, List.nodup_range.count, if_pos h2, if_pos ha]
  · rw [List.count_eq_zero.mpr ha, List.count_eq_zero.mpr (fun hx => ha (sub a hx))]
theorem surj_o {n : Nat} {o : Nat → Nat} (ol : ∀ k, k < n → o k < n) (oi : ∀ k k', k < n → k' < n → o k = o k' → k = k') {e : Nat} (he : e < n) : ∃ k, k < n ∧ o k = e := by
  have := (perm_o ol oi).mem_iff.mpr (List.mem_range.mpr he)
  obtain ⟨k, hk, rfl⟩ := List.mem_map.mp this
  exact ⟨k, List.mem_range.mp hk, rfl⟩
/-- how many of the first n have it -/
def cnt (g : Nat → Bool) (n : Nat) : Nat := (List.range n).countP g
theorem cnt_0 (g : Nat → Bool) : cnt g 0 = 0 := rfl
theorem cnt_s (g : Nat → Bool) (n : Nat) : cnt g (n + 1) = cnt g n + if g n = true then 1 else 0 := by
  simp [cnt, List.range_succ, List.countP_append, List.countP_singleton]
theorem cnt_le (g : Nat → Bool) (n : Nat) : cnt g n ≤ n := by
  have := List.countP_le_length (p := g) (l := List.range n); simpa [cnt] using this
theorem cnt_o {n : Nat} {o : Nat → Nat} (ol : ∀ k, k < n → o k < n) (oi : ∀ k k', k < n → k' < n → o k = o k' → k = k') (g : Nat → Bool) : cnt (fun k => g (o k)) n = cnt g n := by
  have := (perm_o ol oi).countP_eq g
  rw [List.countP_map] at this
  exact this
/-- a sum over the first n -/
def sm (g : Nat → Nat) (n : Nat) : Nat := ((List.range n).map g).sum
theorem sm_0 (g : Nat → Nat) : sm g 0 = 0 := rfl
theorem sm_s (g : Nat → Nat) (n : Nat) : sm g (n + 1) = sm g n + g n := by
  simp [sm, List.range_succ, List.sum_append]
theorem sm_o {n : Nat} {o : Nat → Nat} (ol : ∀ k, k < n → o k < n) (oi : ∀ k k', k < n → k' < n → o k = o k' → k = k') (g : Nat → Nat) : sm (fun k => g (o k)) n = sm g n := by
  have := ((perm_o ol oi).map g).sum_nat
  rw [List.map_map] at this
  exact this
theorem sm_le {g g' : Nat → Nat} {n : Nat} (h : ∀ k, k < n → g k ≤ g' k) : sm g n ≤ sm g' n := by
  induction n with
  | zero => simp [sm_0]
  | succ n ih => rw [sm_s, sm_s]; have := ih fun k hk => h k (by omega); have := h n (by omega); omega
theorem sm_add {g g' : Nat → Nat} {n : Nat} : sm (fun k => g k + g' k) n = sm g n + sm g' n := by
  induction n with
  | zero => simp [sm_0]
  | succ n ih => rw [sm_s, sm_s, sm_s, ih]; omega
theorem sm_c {c n : Nat} : sm (fun _ => c) n = c * n := by
  induction n with
  | zero => simp [sm_0]
  | succ n ih => rw [sm_s, ih, Nat.mul_succ]
theorem sm_eq' {g g' : Nat → Nat} {n : Nat} (h : ∀ k, k < n → g k = g' k) : sm g n = sm g' n := by
  induction n with
  | zero => simp [sm_0]
  | succ n ih => rw [sm_s, sm_s, ih fun k hk => h k (by omega), h n (by omega)]
theorem cnt_eq' {g g' : Nat → Bool} {n : Nat} (h : ∀ k, k < n → g k = g' k) : cnt g n = cnt g' n := by
  induction n with
  | zero => simp [cnt_0]
  | succ n ih => rw [cnt_s, cnt_s, ih fun k hk => h k (by omega), h n (by omega)]
