/-- the places that have it, in order -/
def kl (P : Nat → Bool) (n : Nat) : List Nat := (List.range n).filter P
def kp (P : Nat → Bool) (n j : Nat) : Nat := ((kl P n)[j]?).getD 0
theorem kl_len (P : Nat → Bool) (n : Nat) : (kl P n).length = cnt P n := by unfold kl cnt; rw [List.countP_eq_length_filter]
theorem kl_s (P : Nat → Bool) (n : Nat) : kl P (n + 1) = kl P n ++ (if P n = true then [n] else []) := by
  unfold kl; rw [List.range_succ, List.filter_append]; cases h : P n <;> simp [h]
theorem cnt_mono {P : Nat → Bool} {i n : Nat} (h : i ≤ n) : cnt P i ≤ cnt P n := by
  induction n with
  | zero => have : i = 0 := by omega
            subst this; exact Nat.le_refl _
  | succ n ih =>
    by_cases q : i = n + 1
    · subst q; exact Nat.le_refl _
    · rw [cnt_s]; have := ih (by omega); omega
theorem kp_st {P : Nat → Bool} {i n j : Nat} (h : i ≤ n) (hj : j < cnt P i) : kp P n j = kp P i j := by
  induction n with
  | zero => have : i = 0 := by omega
            subst this; rfl
  | succ n ih =>
    by_cases q : i = n + 1
    · subst q; rfl
    · have l := cnt_mono (P := P) (show i ≤ n by omega)
      rw [← ih (by omega)]; unfold kp; rw [kl_s, List.getElem?_append_left]; rw [kl_len]; omega
theorem kp_at {P : Nat → Bool} {i n : Nat} (h : i < n) (hp : P i = true) : kp P n (cnt P i) = i := by
  have : cnt P i < cnt P (i + 1) := by rw [cnt_s, hp]; simp
  rw [kp_st (show i + 1 ≤ n by omega) this]
  unfold kp; rw [kl_s, hp, ← kl_len]; simp
theorem kp_mem {P : Nat → Bool} {n j : Nat} (hj : j < cnt P n) : kp P n j < n ∧ P (kp P n j) = true := by
  have h1 : j < (kl P n).length := by rw [kl_len]; exact hj
  have : kp P n j ∈ kl P n := by unfold kp; rw [List.getElem?_eq_getElem h1]; exact List.getElem_mem h1
  unfold kl at this
  rw [List.mem_filter, List.mem_range] at this
  exact this
theorem kp_lt {P : Nat → Bool} {n i j : Nat} (hij : i < j) (hj : j < cnt P n) : kp P n i < kp P n j := by
  have h1 : j < (kl P n).length := by rw [kl_len]; exact hj
  have h2 : i < (kl P n).length := by omega
  have pw : List.Pairwise (· < ·) (kl P n) := List.Pairwise.filter P (List.pairwise_lt_range (n := n))
  unfold kp; rw [List.getElem?_eq_getElem h1, List.getElem?_eq_getElem h2]
  exact List.pairwise_iff_getElem.mp pw i j h2 h1 hij
theorem kp_inj {P : Nat → Bool} {n i j : Nat} (hi : i < cnt P n) (hj : j < cnt P n) (e : kp P n i = kp P n j) : i = j := by
  apply Classical.byContradiction; intro q
  by_cases h : i < j
  · have := kp_lt h hj; omega
  · have := kp_lt (show j < i by omega) hi; omega
theorem kp_sm {P : Nat → Bool} {n : Nat} {g : Nat → Nat} : ∀ i, i ≤ n → sm (fun j => g (kp P n j)) (cnt P i) = sm (fun k => if P k = true then g k else 0) i := by
  intro i
  induction i with
  | zero => intro _; rfl
  | succ i ih =>
    intro h
    rw [cnt_s, sm_s]
    cases q : P i
    · simp only [q, Bool.false_eq_true, if_false, Nat.add_zero]; exact ih (by omega)
    · simp only [q, if_true]; rw [sm_s, ih (by omega), kp_at (by omega) q]
theorem cnt_not {P : Nat → Bool} : ∀ n, cnt (fun k => !P k) n = n - cnt P n ∧ cnt P n ≤ n := by
  intro n
  induction n with
  | zero => exact ⟨rfl, Nat.le_refl _⟩
  | succ n ih =>
    rw [cnt_s, cnt_s]
    obtain ⟨a, b⟩ := ih
    cases q : P n <;> simp [q] <;> omega
theorem l_drop {h : cH} {z0 : cZ} {n : Nat} {x : Int32} (ci : CI h z0) (c : zi z0 7 = nt n) (hn : n ≤ h.2.1) (P : Nat → Bool) (hP : ∀ k, k < n → (P k = false ↔ ze z0 (rr z0 k) 1 = x)) :
    ∀ m fuel i (z : cZ), i + m = n → m < fuel → Sm z0 z → (∀ j, j < cnt P i → zr z 0 j = some (rr z0 (kp P n j))) → (∀ j, i ≤ j → zr z 0 j = zr z0 0 j) → (∀ j, j < cnt (fun k => !P k) i → zr z 1 j = some (rr z0 (kp (fun k => !P k) n j))) → (∀ j k, zr z 1 j = some k → k < h.2.1) →
    ∃ z', lS_dropTrack_7 h fuel z x (nt (cnt P i)) (nt (cnt (fun k => !P k) i)) (nt i) = (fS_copy10 h z' (nt (cnt P n)) (nt (cnt (fun k => !P k) n))).bind (fun z2 => some (nt (cnt (fun k => !P k) n), zU z2 7 (nt (cnt P n)))) ∧ Sm z0 z' ∧ (∀ j, j < cnt P n → zr z' 0 j = some (rr z0 (kp P n j))) ∧ (∀ j, n ≤ j → zr z' 0 j = zr z0 0 j) ∧ (∀ j, j < cnt (fun k => !P k) n → zr z' 1 j = some (rr z0 (kp (fun k => !P k) n j))) ∧ (∀ j k, zr z' 1 j = some k → k < h.2.1) := by
  have h1 := ci.ne; have h2 := ci.u3; have h4 := ci.l4
  intro m
  induction m with
  | zero =>
    intro fuel i z hi hf e1 e2 e3 e4 e5
    obtain ⟨f, rfl⟩ : ∃ k, fuel = k + 1 := ⟨fuel - 1, by omega⟩
    have : i = n := by omega
    subst this
    refine ⟨z, ?_, e1, e2, e3, e4, e5⟩
    unfold lS_dropTrack_7; rw [e1.i, c, if_pos (by rw [nt_le (by omega) (by omega)]; omega)]
  | succ m ih =>
    intro fuel i z hi hf e1 e2 e3 e4 e5
    obtain ⟨f, rfl⟩ : ∃ k, fuel = k + 1 := ⟨fuel - 1, by omega⟩
    have hin : i < n := by omega
    have hj := ci.ev (t := i) (by omega)
    have er : zr z 0 i = some (rr z0 i) := by rw [e3 i (Nat.le_refl i)]; exact ci.ro i (by omega)
    have cn := cnt_not (P := P) i
    have ih := ih f (i + 1)
    rw [cnt_s, cnt_s] at ih
    unfold lS_dropTrack_7 jS_dropTrack_59
    cases q : P i
    · have qx := (hP i hin).mp q
      simp only [q, Bool.not_false, if_true, Bool.false_eq_true, if_false, Nat.add_zero] at ih
      have e : (ze z (rr z0 i) 1 = x) = True := by rw [e1.e]; exact eq_true qx
      simp (disch := omega) only [lit, ixF, nt_le, nt_lt, nt_eq, nt_cl, nt_add, nt_sub, bind_s, if_true, if_false, if_pos, if_neg, upd_s, k8, k16, k7, k4, s_r8, s_l7, s_l8, s_l16, a255, a127, e1.i, c, er, Option.bind_some, e, okr_lt hj]
      refine ih (zR z 1 (cnt (fun k => !P k) i) (some (rr z0 i))) (by omega) (by omega) (e1.trans (Sm.R (by decide))) ?_ ?_ ?_ ?_
      · intro j hj; rw [zr_R, upr_o (by decide)]; exact e2 j hj
      · intro j hj; rw [zr_R, upr_o (by decide)]; exact e3 j (by omega)
      · intro j hj; rw [zr_R]
        by_cases ej : j = cnt (fun k => !P k) i
        · subst ej; rw [upr_s, kp_at hin (by simp [q])]
        · rw [upr_n ej]; exact e4 j (by omega)
      · intro j k hk; rw [zr_R] at hk
        by_cases ej : j = cnt (fun k => !P k) i
        · subst ej; rw [upr_s] at hk; cases hk; exact hj
        · rw [upr_n ej] at hk; exact e5 j k hk
    · have qx : ¬ ze z0 (rr z0 i) 1 = x := fun e => by have := (hP i hin).mpr e; rw [q] at this; cases this
      simp only [q, Bool.not_true, if_true, Bool.false_eq_true, if_false, Nat.add_zero] at ih
      have e : (ze z (rr z0 i) 1 = x) = False := by rw [e1.e]; exact eq_false qx
      simp (disch := omega) only [lit, ixF, nt_le, nt_lt, nt_eq, nt_cl, nt_add, nt_sub, bind_s, if_true, if_false, if_pos, if_neg, upd_s, k8, k16, k7, k4, s_r8, s_l7, s_l8, s_l16, a255, a127, e1.i, c, er, Option.bind_some, e, okr_lt hj]
      refine ih (zR z 0 (cnt P i) (some (rr z0 i))) (by omega) (by omega) (e1.trans (Sm.R (by decide))) ?_ ?_ ?_ ?_
      · intro j hj; rw [zr_R]
        by_cases ej : j = cnt P i
        · subst ej; rw [upr_s, kp_at hin q]
        · rw [upr_n ej]; exact e2 j (by omega)
      · intro j hj; rw [zr_R, upr_n (by omega)]; exact e3 j (by omega)
      · intro j hj; rw [zr_R, upr_o (by decide)]; exact e4 j hj
      · intro j k hk; rw [zr_R, upr_o (by decide)] at hk; exact e5 j k hk
theorem c_drop {h : cH} {z0 : cZ} {n : Nat} {x : Int32} (ci : CI h z0) (c : zi z0 7 = nt n) (hn : n ≤ h.2.1) (P : Nat → Bool) (hP : ∀ k, k < n → (P k = false ↔ ze z0 (rr z0 k) 1 = x)) :
    ∃ z', fS_dropTrack h z0 x = some (nt (n - cnt P n), z') ∧ CI h z' ∧ zi z' = upd (zi z0) 7 (nt (cnt P n)) ∧ za z' = za z0 ∧ ze z' = ze z0 ∧ (∀ j, j < cnt P n → rr z' j = rr z0 (kp P n j)) := by
  have h1 := ci.ne; have h2 := ci.u3; have h4 := ci.l4
  have cn := cnt_not (P := P) n
  obtain ⟨z1, A, B1, B2, B3, B4, B5⟩ := l_drop ci c hn P hP n FU 0 z0 (by omega) (FUn (by omega)) (Sm.refl z0) (fun j hj => absurd hj (by rw [cnt_0]; omega)) (fun _ _ => rfl) (fun j hj => absurd hj (by rw [cnt_0]; omega)) (fun j k hk => ci.wf 1 j k hk)
  obtain ⟨z2, C, D1, D2, D3⟩ := l_copy10 (h := h) (place := cnt P n) (many := cnt (fun k => !P k) n) (by omega) (by omega) h2 (cnt (fun k => !P k) n) FU 0 z1 (by omega) (FUn (by omega)) (fun t ht => by rw [B4 t ht]; exact okr_lt (ci.ev (by have := (kp_mem ht).1; omega)))
  have S := B1.trans D1
  have r1 : ∀ j, j < cnt P n → zr z2 0 j = some (rr z0 (kp P n j)) := fun j hj => by rw [D3 j, if_neg (by omega)]; exact B2 j hj
  have r2 : ∀ j, cnt P n ≤ j → j < n → zr z2 0 j = some (rr z0 (kp (fun k => !P k) n (j - cnt P n))) := fun j h1 h2 => by rw [D3 j, if_pos (by omega)]; exact B4 _ (by omega)
  have r3 : ∀ j, n ≤ j → zr z2 0 j = zr z0 0 j := fun j hj => by rw [D3 j, if_neg (by omega)]; exact B3 j hj
  have k1 : ∀ j, j < cnt P n → kp P n j < n := fun j hj => (kp_mem hj).1
  have k2 : ∀ j, cnt P n ≤ j → j < n → kp (fun k => !P k) n (j - cnt P n) < n := fun j h1 h2 => (kp_mem (by omega)).1
  have rr1 : ∀ j, j < cnt P n → rr (zU z2 7 (nt (cnt P n))) j = rr z0 (kp P n j) := fun j hj => by unfold rr; rw [zr_U, r1 j hj]; rfl
  have rr2 : ∀ j, cnt P n ≤ j → j < n → rr (zU z2 7 (nt (cnt P n))) j = rr z0 (kp (fun k => !P k) n (j - cnt P n)) := fun j x1 x2 => by unfold rr; rw [zr_U, r2 j x1 x2]; rfl
  have rr3 : ∀ j, n ≤ j → rr (zU z2 7 (nt (cnt P n))) j = rr z0 j := fun j hj => by unfold rr; rw [zr_U, r3 j hj]
  have one : ∀ j, j < h.2.1 → ∃ p, p < h.2.1 ∧ rr (zU z2 7 (nt (cnt P n))) j = rr z0 p ∧ ((j < cnt P n ∧ p = kp P n j ∧ p < n ∧ P p = true) ∨ (cnt P n ≤ j ∧ j < n ∧ p = kp (fun k => !P k) n (j - cnt P n) ∧ p < n ∧ P p = false) ∨ (n ≤ j ∧ p = j)) := fun j hj => by
    by_cases a : j < cnt P n
    · have := kp_mem a; exact ⟨_, by omega, rr1 j a, .inl ⟨a, rfl, this⟩⟩
    · by_cases b : j < n
      · have := kp_mem (P := fun k => !P k) (n := n) (j := j - cnt P n) (by omega)
        exact ⟨_, by omega, rr2 j (by omega) b, .inr (.inl ⟨by omega, b, rfl, this.1, by simpa using this.2⟩)⟩
      · exact ⟨j, hj, rr3 j (by omega), .inr (.inr ⟨by omega, rfl⟩)⟩
  refine ⟨zU z2 7 (nt (cnt P n)), ?_, ⟨ci.l0, ci.u0, ci.l1, ci.u1, ci.l2, ci.u2, ci.l3, ci.u3, ci.l4, ci.ne, ?_, ?_, ?_, ?_⟩, ?_, S.a, S.e, rr1⟩
  · have C' : fS_copy10 h z1 (nt (cnt P n)) (nt (cnt (fun k => !P k) n)) = some z2 := C
    unfold fS_dropTrack
    have A' : lS_dropTrack_7 h FU z0 x 0 0 0 = (fS_copy10 h z1 (nt (cnt P n)) (nt (cnt (fun k => !P k) n))).bind (fun z2 => some (nt (cnt (fun k => !P k) n), zU z2 7 (nt (cnt P n)))) := A
    rw [A', C', bind_s, cn.1]
  · intro t ht
    by_cases a : t < cnt P n
    · rw [rr1 t a]; exact r1 t a
    · by_cases b : t < n
      · rw [rr2 t (by omega) b]; exact r2 t (by omega) b
      · rw [rr3 t (by omega)]; show zr z2 0 t = _; rw [r3 t (by omega)]; exact ci.ro t ht
  · intro t ht; show zr z2 0 t = none; rw [r3 t (by omega)]; exact ci.rn t ht
  · intro k t j hj
    have hj : zr z2 k t = some j := hj
    by_cases k0 : k = 0
    · subst k0
      by_cases a : t < cnt P n
      · rw [r1 t a] at hj; cases hj; exact ci.ev (by have := k1 t a; omega)
      · by_cases b : t < n
        · rw [r2 t (by omega) b] at hj; cases hj; exact ci.ev (by have := k2 t (by omega) b; omega)
        · rw [r3 t (by omega)] at hj; exact ci.wf 0 t j hj
    · by_cases k1 : k = 1
      · subst k1; rw [D2] at hj; exact B5 t j hj
      · rw [S.r k (by omega)] at hj; exact ci.wf k t j hj
  · intro t t' ht ht' e
    obtain ⟨p, hp, ep, cp⟩ := one t ht
    obtain ⟨p', hp', ep', cp'⟩ := one t' ht'
    rw [ep, ep'] at e
    have e := ci.ij p p' hp hp' e
    subst e
    rcases cp with ⟨a1, a2, a3, a4⟩ | ⟨a1, a2, a3, a4, a5⟩ | ⟨a1, a2⟩ <;> rcases cp' with ⟨b1, b2, b3, b4⟩ | ⟨b1, b2, b3, b4, b5⟩ | ⟨b1, b2⟩
    · exact kp_inj a1 b1 (a2.symm.trans b2)
    · rw [a4] at b5; cases b5
    · omega
    · rw [b4] at a5; cases a5
    · have := kp_inj (P := fun k => !P k) (n := n) (by omega) (by omega) (a3.symm.trans b3); omega
    · omega
    · omega
    · omega
    · omega
  · show upd (zi z2) 7 _ = _; rw [S.i]
