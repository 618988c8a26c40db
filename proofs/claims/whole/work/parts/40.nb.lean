/-- before: by ticks, then tracks, then places -/
def ltk (T U : Nat → Int) (p q : Nat) : Prop := T p < T q ∨ (T p = T q ∧ (U p < U q ∨ (U p = U q ∧ p < q)))
theorem ltk_trans {T U : Nat → Int} {a b c : Nat} (h : ltk T U a b) (k : ltk T U b c) : ltk T U a c := by unfold ltk at *; omega
theorem ltk_irr {T U : Nat → Int} {a b : Nat} (h : ltk T U a b) (k : ltk T U b a) : False := by unfold ltk at *; omega
theorem ltk_ne {T U : Nat → Int} {a b : Nat} (h : ltk T U a b) : a ≠ b := fun e => by subst e; unfold ltk at h; omega
theorem srt_inj {T U : Nat → Int} {n : Nat} {s : Nat → Nat} (hs : ∀ a b, a < b → b < n → ltk T U (s a) (s b)) : ∀ k k', k < n → k' < n → s k = s k' → k = k' := by
  intro k k' hk hk' e
  apply Classical.byContradiction; intro hne
  by_cases hlt : k < k'
  · exact ltk_ne (hs k k' hlt hk') e
  · exact ltk_ne (hs k' k (by omega) hk) e.symm
theorem srt_uniq {T U : Nat → Int} {n : Nat} {s s' : Nat → Nat} (l : ∀ a, a < n → s a < n) (l' : ∀ a, a < n → s' a < n) (hs : ∀ a b, a < b → b < n → ltk T U (s a) (s b)) (hs' : ∀ a b, a < b → b < n → ltk T U (s' a) (s' b)) : ∀ k, k < n → s k = s' k := by
  have p := (perm_o l (srt_inj hs)).trans (perm_o l' (srt_inj hs')).symm
  have pw : ∀ {s : Nat → Nat}, (∀ a b, a < b → b < n → ltk T U (s a) (s b)) → List.Pairwise (ltk T U) ((List.range n).map s) := by
    intro s hs
    rw [List.pairwise_map]
    refine List.Pairwise.imp_of_mem (fun {a b} ha hb hab => hs a b hab (List.mem_range.mp hb)) (List.pairwise_lt_range (n := n))
  have e := p.eq_of_pairwise (le := ltk T U) (fun a b _ _ h k => (ltk_irr h k).elim) (pw hs) (pw hs')
  intro k hk
  have := congrArg (fun l => l[k]?) e
  simpa [hk] using this
theorem ltk_eq {T U T' U' : Nat → Int} {n : Nat} (eT : ∀ p, p < n → T p = T' p) (eU : ∀ p, p < n → U p = U' p) {a b : Nat} (ha : a < n) (hb : b < n) (h : ltk T U a b) : ltk T' U' a b := by
  unfold ltk at *; rw [← eT a ha, ← eT b hb, ← eU a ha, ← eU b hb]; exact h
theorem m_isBefore {iv av a b} (ha : a < 1001) (hb : b < 1001) : fM_isBefore iv av (nt a) (nt b) = some (b2 (decide ((av 1 a).toInt < (av 1 b).toInt ∨ ((av 1 a).toInt = (av 1 b).toInt ∧ (av 2 a).toInt < (av 2 b).toInt))), iv, av) := by
  unfold fM_isBefore b2
  simp (disch := omega) only [lit, ixF, nt_le, nt_lt, nt_eq, nt_cl, nt_add, nt_sub, bind_s, if_true, if_false, if_pos, if_neg, upd_s, k8, k16, k7, k4, s_r8, s_l7, s_l8, s_l16, a255, a127]
  simp only [Int32.lt_iff_toInt_lt, Int32.le_iff_toInt_le, ← Int32.toInt_inj]
  by_cases q1 : (av 1 a).toInt < (av 1 b).toInt
  · simp [q1]
  · by_cases q2 : (av 1 a).toInt = (av 1 b).toInt
    · by_cases q3 : (av 2 b).toInt ≤ (av 2 a).toInt
      · have : ¬ (av 2 a).toInt < (av 2 b).toInt := by omega
        simp [q2, q3, this]
      · have : (av 2 a).toInt < (av 2 b).toInt := by omega
        simp [q2, q3, this]
    · simp [q1, q2]
set_option maxRecDepth 4000 in
theorem l_ins {iv : Nat → Int32} {av : Nat → Nat → Int32} {n k : Nat} {o s : Nat → Nat} {T U : Nat → Int} (hn : n ≤ 1000) (ol : ∀ k, k < n → o k < n) (eT : ∀ p, p < n → T p = (av 1 (o p)).toInt) (eU : ∀ p, p < n → U p = (av 2 (o p)).toInt)
    (hk : k < n) (sk : ∀ t, k ≤ t → t < n → s t = t) (sl : ∀ t, t < k → s t < k) (ss : ∀ a b, a < b → b < k → ltk T U (s a) (s b))
    (K2 : (Nat → Int32) → (Nat → Nat → Int32) → Int32 → Option ((Nat → Int32) × (Nat → Nat → Int32))) :
    ∀ i fuel (avc : Nat → Nat → Int32), i ≤ k → i < fuel → (∀ a, a ≠ 8 → avc a = av a) → (∀ t, t < i → avc 8 t = nt (o (s t))) → (∀ t, i < t → t ≤ k → avc 8 t = nt (o (s (t - 1)))) → (∀ t, k < t → t < n → avc 8 t = nt (o (s t))) → (∀ t, i ≤ t → t < k → ltk T U k (s t)) →
    ∃ (avd : Nat → Nat → Int32) (s' : Nat → Nat), lM_again_19 K2 fuel iv avc (nt k) (nt (o k)) (nt i) = K2 iv avd (nt (k + 1)) ∧ (∀ a, a ≠ 8 → avd a = av a) ∧ (∀ t, t < n → avd 8 t = nt (o (s' t))) ∧ (∀ t, k + 1 ≤ t → t < n → s' t = t) ∧ (∀ t, t < k + 1 → s' t < k + 1) ∧ (∀ a b, a < b → b < k + 1 → ltk T U (s' a) (s' b)) := by
  have okk := ol k hk
  have stop : ∀ i (avc : Nat → Nat → Int32), i ≤ k → (∀ a, a ≠ 8 → avc a = av a) → (∀ t, t < i → avc 8 t = nt (o (s t))) → (∀ t, i < t → t ≤ k → avc 8 t = nt (o (s (t - 1)))) → (∀ t, k < t → t < n → avc 8 t = nt (o (s t))) → (∀ t, i ≤ t → t < k → ltk T U k (s t)) → (∀ t, t < i → ltk T U (s t) k) →
    ∃ (avd : Nat → Nat → Int32) (s' : Nat → Nat), jM_again_59 K2 iv avc (nt k) (nt (o k)) (nt i) = K2 iv avd (nt (k + 1)) ∧ (∀ a, a ≠ 8 → avd a = av a) ∧ (∀ t, t < n → avd 8 t = nt (o (s' t))) ∧ (∀ t, k + 1 ≤ t → t < n → s' t = t) ∧ (∀ t, t < k + 1 → s' t < k + 1) ∧ (∀ a b, a < b → b < k + 1 → ltk T U (s' a) (s' b)) := by
    intro i avc hi e1 e2 e3 e4 e5 e6
    refine ⟨up2 avc 8 i (nt (o k)), fun t => if t < i then s t else if t = i then k else if t ≤ k then s (t - 1) else s t, ?_, ?_, ?_, ?_, ?_, ?_⟩
    · unfold jM_again_59; simp (disch := omega) only [lit, ixF, nt_le, nt_lt, nt_eq, nt_cl, nt_add, nt_sub, bind_s, if_true, if_false, if_pos, if_neg, upd_s, k8, k16, k7, k4, s_r8, s_l7, s_l8, s_l16, a255, a127]
    · intro a ha; rw [up2_o ha]; exact e1 a ha
    · intro t ht
      by_cases q : t = i
      · subst q; rw [up2_s]; simp
      · rw [up2_n q]
        by_cases q1 : t < i
        · rw [e2 t q1]; simp [q1]
        · by_cases q2 : t ≤ k
          · rw [e3 t (by omega) q2]; simp [q1, q, q2]
          · rw [e4 t (by omega) ht]; simp [q1, q, q2]
    · intro t h1 h2; dsimp only; rw [if_neg (by omega), if_neg (by omega), if_neg (by omega)]; exact sk t (by omega) h2
    · intro t ht; dsimp only
      by_cases q1 : t < i
      · rw [if_pos q1]; have := sl t (by omega); omega
      · rw [if_neg q1]
        by_cases q : t = i
        · rw [if_pos q]; omega
        · rw [if_neg q, if_pos (by omega)]; have := sl (t - 1) (by omega); omega
    · intro a b hab hb; dsimp only
      by_cases qa : a < i
      · rw [if_pos qa]
        by_cases qb : b < i
        · rw [if_pos qb]; exact ss a b hab (by omega)
        · rw [if_neg qb]
          by_cases qe : b = i
          · rw [if_pos qe]; exact e6 a qa
          · rw [if_neg qe, if_pos (by omega)]; exact ss a (b - 1) (by omega) (by omega)
      · rw [if_neg qa, if_neg (show ¬ b < i by omega), if_neg (show ¬ b = i by omega), if_pos (show b ≤ k by omega)]
        by_cases qe : a = i
        · rw [if_pos qe]; exact e5 (b - 1) (by omega) (by omega)
        · rw [if_neg qe, if_pos (by omega)]; exact ss (a - 1) (b - 1) (by omega) (by omega)
  intro i
  induction i with
  | zero =>
    intro fuel avc hi hf e1 e2 e3 e4 e5
    obtain ⟨f, rfl⟩ : ∃ k, fuel = k + 1 := ⟨fuel - 1, by omega⟩
    unfold lM_again_19
    rw [if_pos (by decide)]
    exact stop 0 avc hi e1 e2 e3 e4 e5 (fun t ht => absurd ht (by omega))
  | succ i ih =>
    intro fuel avc hi hf e1 e2 e3 e4 e5
    obtain ⟨f, rfl⟩ : ∃ k, fuel = k + 1 := ⟨fuel - 1, by omega⟩
    have si := sl i (by omega)
    have oi := ol (s i) (by omega)
    unfold lM_again_19
    have x1 : nt (i + 1) - 1 = nt i := nt_sub (show 1 ≤ i + 1 by omega)
    have hb := m_isBefore (iv := iv) (av := avc) (show o k < 1001 by omega) (show o (s i) < 1001 by omega)
    rw [e1 1 (by decide), e1 2 (by decide)] at hb
    simp only [x1]
    simp (disch := omega) only [lit, ixF, nt_le, nt_lt, nt_eq, nt_cl, nt_add, nt_sub, bind_s, if_true, if_false, if_pos, if_neg, upd_s, k8, k16, k7, k4, s_r8, s_l7, s_l8, s_l16, a255, a127, e2 i (by omega), hb, b2_0]
    rw [← eT k hk, ← eT (s i) (by omega), ← eU k hk, ← eU (s i) (by omega)]
    by_cases q : T k < T (s i) ∨ T k = T (s i) ∧ U k < U (s i)
    · rw [if_neg (by simp [q])]
      have nn : nt (i + 1) + -nt 1 = nt i := by rw [← Int32.sub_eq_add_neg, nt_sub (by omega)]; rfl
      rw [nn]
      refine ih f _ (by omega) (by omega) (fun a ha => by rw [up2_o ha]; exact e1 a ha) ?_ ?_ ?_ ?_
      · intro t ht; rw [up2_n (by omega)]; exact e2 t (by omega)
      · intro t h1 h2
        by_cases qe : t = i + 1
        · subst qe; rw [up2_s]; rfl
        · rw [up2_n qe]; exact e3 t (by omega) h2
      · intro t h1 h2; rw [up2_n (by omega)]; exact e4 t h1 h2
      · intro t h1 h2
        by_cases qe : t = i
        · subst qe; unfold ltk; omega
        · exact e5 t (by omega) h2
    · rw [if_pos (by simpa using q)]
      refine stop (i + 1) avc hi e1 e2 e3 e4 e5 fun t ht => ?_
      have hl : ltk T U (s i) k := by unfold ltk; omega
      by_cases qe : t = i
      · subst qe; exact hl
      · exact ltk_trans (ss t i (by omega) (by omega)) hl
theorem l_again {iv : Nat → Int32} {av : Nat → Nat → Int32} {n : Nat} {o : Nat → Nat} {T U : Nat → Int} (hn : n ≤ 1000) (c : iv 10 = nt n) (ol : ∀ k, k < n → o k < n) (eT : ∀ p, p < n → T p = (av 1 (o p)).toInt) (eU : ∀ p, p < n → U p = (av 2 (o p)).toInt) :
    ∀ m fuel k (avc : Nat → Nat → Int32) (s : Nat → Nat), k + m = n → m < fuel → (∀ a, a ≠ 8 → avc a = av a) → (∀ t, t < n → avc 8 t = nt (o (s t))) → (∀ t, k ≤ t → t < n → s t = t) → (∀ t, t < k → s t < k) → (∀ a b, a < b → b < k → ltk T U (s a) (s b)) →
    ∃ (avd : Nat → Nat → Int32) (s' : Nat → Nat), lM_again_2 fuel iv avc (nt k) = some (iv, avd) ∧ (∀ a, a ≠ 8 → avd a = av a) ∧ (∀ t, t < n → avd 8 t = nt (o (s' t))) ∧ (∀ t, t < n → s' t < n) ∧ (∀ a b, a < b → b < n → ltk T U (s' a) (s' b)) := by
  intro m
  induction m with
  | zero =>
    intro fuel k avc s hk hf e1 e2 e3 e4 e5
    obtain ⟨f, rfl⟩ : ∃ k, fuel = k + 1 := ⟨fuel - 1, by omega⟩
    have : k = n := by omega
    subst this
    exact ⟨avc, s, by unfold lM_again_2; simp (disch := omega) only [lit, ixF, nt_le, nt_lt, nt_eq, nt_cl, nt_add, nt_sub, bind_s, if_true, if_false, if_pos, if_neg, upd_s, k8, k16, k7, k4, s_r8, s_l7, s_l8, s_l16, a255, a127, c], e1, e2, e4, e5⟩
  | succ m ih =>
    intro fuel k avc s hk hf e1 e2 e3 e4 e5
    obtain ⟨f, rfl⟩ : ∃ k, fuel = k + 1 := ⟨fuel - 1, by omega⟩
    have hkn : k < n := by omega
    unfold lM_again_2
    simp (disch := omega) only [lit, ixF, nt_le, nt_lt, nt_eq, nt_cl, nt_add, nt_sub, bind_s, if_true, if_false, if_pos, if_neg, upd_s, k8, k16, k7, k4, s_r8, s_l7, s_l8, s_l16, a255, a127, c, e2 k hkn, e3 k (Nat.le_refl k) hkn]
    obtain ⟨avd, s', a, b1, b2, b3, b4, b5⟩ := l_ins (iv := iv) (av := av) hn ol eT eU hkn e3 e4 e5 (lM_again_2 f) k FU avc (Nat.le_refl k) (FUn (by omega)) e1 (fun t ht => e2 t (by omega)) (fun t h1 h2 => absurd h1 (by omega)) (fun t _ h2 => e2 t h2) (fun t h1 h2 => absurd h1 (by omega))
    rw [a]
    exact ih f (k + 1) avd s' (by omega) (by omega) b1 b2 b3 b4 b5
theorem m_again {iv : Nat → Int32} {av : Nat → Nat → Int32} {n : Nat} {o : Nat → Nat} {T U : Nat → Int} (hn : n ≤ 1000) (c : iv 10 = nt n) (ol : ∀ k, k < n → o k < n) (om : ∀ k, k < n → av 8 k = nt (o k)) (eT : ∀ p, p < n → T p = (av 1 (o p)).toInt) (eU : ∀ p, p < n → U p = (av 2 (o p)).toInt) :
    ∃ (avd : Nat → Nat → Int32) (s' : Nat → Nat), fM_again iv av = some (iv, avd) ∧ (∀ a, a ≠ 8 → avd a = av a) ∧ (∀ t, t < n → avd 8 t = nt (o (s' t))) ∧ (∀ t, t < n → s' t < n) ∧ (∀ a b, a < b → b < n → ltk T U (s' a) (s' b)) := by
  unfold fM_again
  by_cases h0 : n = 0
  · subst h0
    refine ⟨av, id, ?_, fun _ _ => rfl, fun t ht => absurd ht (by omega), fun t ht => absurd ht (by omega), fun a b h1 h2 => absurd h2 (by omega)⟩
    rw [show FU = 999999 + 1 from rfl]; unfold lM_again_2; simp (disch := omega) only [lit, ixF, nt_le, nt_lt, nt_eq, nt_cl, nt_add, nt_sub, bind_s, if_true, if_false, if_pos, if_neg, upd_s, k8, k16, k7, k4, s_r8, s_l7, s_l8, s_l16, a255, a127, c]
  · exact l_again hn c ol eT eU (n - 1) FU 1 av id (by omega) (FUn (by omega)) (fun _ _ => rfl) om (fun t _ _ => rfl) (fun t ht => ht) (fun a b h1 h2 => by omega)
theorem l_sort0 {iv : Nat → Int32} {n : Nat} (hn : n ≤ 1000) (c : iv 10 = nt n) : ∀ m fuel k (avc : Nat → Nat → Int32), k + m = n → m < fuel → (∀ t, t < k → avc 8 t = nt t) →
    ∃ avd : Nat → Nat → Int32, lM_sort_2 fuel iv avc (nt k) = (fM_again iv avd).bind (fun (iv2, av2) => some (iv2, av2)) ∧ (∀ a, a ≠ 8 → avd a = avc a) ∧ (∀ t, t < n → avd 8 t = nt t) := by
  intro m
  induction m with
  | zero =>
    intro fuel k avc hk hf e
    obtain ⟨f, rfl⟩ : ∃ k, fuel = k + 1 := ⟨fuel - 1, by omega⟩
    have : k = n := by omega
    subst this
    exact ⟨avc, by unfold lM_sort_2; simp (disch := omega) only [lit, ixF, nt_le, nt_lt, nt_eq, nt_cl, nt_add, nt_sub, bind_s, if_true, if_false, if_pos, if_neg, upd_s, k8, k16, k7, k4, s_r8, s_l7, s_l8, s_l16, a255, a127, c], fun _ _ => rfl, e⟩
  | succ m ih =>
    intro fuel k avc hk hf e
    obtain ⟨f, rfl⟩ : ∃ k, fuel = k + 1 := ⟨fuel - 1, by omega⟩
    obtain ⟨avd, a, b1, b2⟩ := ih f (k + 1) (up2 avc 8 k (nt k)) (by omega) (by omega) (fun t ht => by
      by_cases q : t = k
      · subst q; exact up2_s
      · rw [up2_n q]; exact e t (by omega))
    refine ⟨avd, ?_, fun a ha => (b1 a ha).trans (up2_o ha), b2⟩
    unfold lM_sort_2
    simp (disch := omega) only [lit, ixF, nt_le, nt_lt, nt_eq, nt_cl, nt_add, nt_sub, bind_s, if_true, if_false, if_pos, if_neg, upd_s, k8, k16, k7, k4, s_r8, s_l7, s_l8, s_l16, a255, a127, c]
    rw [a]
