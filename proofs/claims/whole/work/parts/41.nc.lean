theorem c_behind {h z j i} (hj : j < h.2.1) (hi : i < h.2.1) : fE_belongsBehind h z j (some i) = some (b2 (decide ((ze z i 0).toInt < (ze z j 0).toInt ∨ ((ze z i 0).toInt = (ze z j 0).toInt ∧ (ze z i 1).toInt < (ze z j 1).toInt))), z) := by
  unfold fE_belongsBehind b2
  rw [if_neg (by omega)]
  simp only [Option.bind_some]
  rw [if_neg (by omega)]
  simp only [Int32.lt_iff_toInt_lt, Int32.le_iff_toInt_le, ← Int32.toInt_inj]
  by_cases q1 : (ze z i 0).toInt < (ze z j 0).toInt
  · simp [q1]
  · by_cases q2 : (ze z j 0).toInt = (ze z i 0).toInt
    · by_cases q3 : (ze z j 1).toInt ≤ (ze z i 1).toInt
      · have : ¬ (ze z i 1).toInt < (ze z j 1).toInt := by omega
        simp [q2, q3, this]
      · have : (ze z i 1).toInt < (ze z j 1).toInt := by omega
        simp [q2, q3, this]
    · have q4 : ¬ (ze z i 0).toInt = (ze z j 0).toInt := fun e => q2 e.symm
      simp [q1, q2, q4]
/-- only the rows may differ -/
abbrev Sm (z z' : cZ) : Prop := (zi z' = zi z) ∧ (za z' = za z) ∧ (ze z' = ze z) ∧ (∀ k, 2 ≤ k → zr z' k = zr z k)
theorem Sm.i {z z' : cZ} (s : Sm z z') : zi z' = zi z := s.1
theorem Sm.a {z z' : cZ} (s : Sm z z') : za z' = za z := s.2.1
theorem Sm.e {z z' : cZ} (s : Sm z z') : ze z' = ze z := s.2.2.1
theorem Sm.r {z z' : cZ} (s : Sm z z') : ∀ k, 2 ≤ k → zr z' k = zr z k := s.2.2.2
theorem Sm.refl (z : cZ) : Sm z z := ⟨rfl, rfl, rfl, fun _ _ => rfl⟩
theorem Sm.trans {a b c : cZ} (p : Sm a b) (q : Sm b c) : Sm a c := ⟨q.i.trans p.i, q.a.trans p.a, q.e.trans p.e, fun k hk => (q.r k hk).trans (p.r k hk)⟩
theorem upr_s {f : Nat → Nat → Option Nat} {k i : Nat} {x : Option Nat} : upr f k i x k i = x := by simp [upr]
theorem upr_n {f : Nat → Nat → Option Nat} {k i j : Nat} {x : Option Nat} (h : j ≠ i) : upr f k i x k j = f k j := by simp [upr, h]
theorem upr_o {f : Nat → Nat → Option Nat} {k i a : Nat} {x : Option Nat} (h : a ≠ k) : upr f k i x a = f a := by funext b; simp [upr, h]
theorem Sm.R {z : cZ} {k t : Nat} {x : Option Nat} (hk : k < 2) : Sm z (zR z k t x) := ⟨rfl, rfl, rfl, fun a ha => by rw [zr_R, upr_o (by omega)]⟩
theorem okr_lt {n j : Nat} (h : j < n) : ¬ okr n (some j) = false := by simp [okr, h]
theorem l_merge {h : cH} {z0 : cZ} {r0 s : Nat → Nat} {T U : Nat → Int} {n low mid high : Nat} (hn : n ≤ h.1 3) (hn4 : n ≤ h.1 4) (hn2 : n ≤ 2000) (h1 : low ≤ mid) (h2 : mid ≤ high) (h3 : high ≤ n)
    (rl : ∀ p, p < n → r0 p < h.2.1) (eT : ∀ p, p < n → T p = (ze z0 (r0 p) 0).toInt) (eU : ∀ p, p < n → U p = (ze z0 (r0 p) 1).toInt)
    (row : ∀ t, t < n → zr z0 0 t = some (r0 (s t)))
    (sl : ∀ t, low ≤ t → t < mid → low ≤ s t ∧ s t < mid) (sr : ∀ t, mid ≤ t → t < high → mid ≤ s t ∧ s t < high)
    (ssl : ∀ a b, low ≤ a → a < b → b < mid → ltk T U (s a) (s b)) (ssr : ∀ a b, mid ≤ a → a < b → b < high → ltk T U (s a) (s b)) :
    ∀ m fuel left right to (z : cZ) (q : Nat → Nat), to + m = high → m < fuel → low ≤ left → left ≤ mid → mid ≤ right → right ≤ high → (left - low) + (right - mid) + low = to →
      Sm z0 z → zr z 0 = zr z0 0 → (∀ t, low ≤ t → t < to → zr z 1 t = some (r0 (q t))) → (∀ t, t < low ∨ high ≤ t → zr z 1 t = zr z0 1 t) →
      (∀ a b, low ≤ a → a < b → b < to → ltk T U (q a) (q b)) → (∀ a, low ≤ a → a < to → low ≤ q a ∧ q a < high) →
      (∀ a b, low ≤ a → a < to → left ≤ b → b < mid → ltk T U (q a) (s b)) → (∀ a b, low ≤ a → a < to → right ≤ b → b < high → ltk T U (q a) (s b)) →
    ∃ (z' : cZ) (q' : Nat → Nat), lS_mergeRuns_9 h fuel z (nt mid) (nt high) (nt left) (nt right) (nt to) = some z' ∧ Sm z0 z' ∧ zr z' 0 = zr z0 0 ∧ (∀ t, low ≤ t → t < high → zr z' 1 t = some (r0 (q' t))) ∧ (∀ t, t < low ∨ high ≤ t → zr z' 1 t = zr z0 1 t) ∧
      (∀ a b, low ≤ a → a < b → b < high → ltk T U (q' a) (q' b)) ∧ (∀ a, low ≤ a → a < high → low ≤ q' a ∧ q' a < high) := by
  intro m
  induction m with
  | zero =>
    intro fuel left right to z q hto hf a1 a2 a3 a4 a5 b1 b2 b3 b4 c1 c2 c3 c4
    obtain ⟨f, rfl⟩ : ∃ k, fuel = k + 1 := ⟨fuel - 1, by omega⟩
    have : to = high := by omega
    subst this
    exact ⟨z, q, by unfold lS_mergeRuns_9; rw [if_pos (by rw [nt_le (by omega) (by omega)]; omega)], b1, b2, b3, b4, c1, c2⟩
  | succ m ih =>
    intro fuel left right to z q hto hf a1 a2 a3 a4 a5 b1 b2 b3 b4 c1 c2 c3 c4
    obtain ⟨f, rfl⟩ : ∃ k, fuel = k + 1 := ⟨fuel - 1, by omega⟩
    have tR : right < high → (left < mid → ltk T U (s right) (s left)) → ∃ (z' : cZ) (q' : Nat → Nat), jS_mergeRuns_47 h (lS_mergeRuns_9 h f) z (nt mid) (nt high) (nt left) (nt right) (nt to) = some z' ∧ Sm z0 z' ∧ zr z' 0 = zr z0 0 ∧ (∀ t, low ≤ t → t < high → zr z' 1 t = some (r0 (q' t))) ∧ (∀ t, t < low ∨ high ≤ t → zr z' 1 t = zr z0 1 t) ∧
      (∀ a b, low ≤ a → a < b → b < high → ltk T U (q' a) (q' b)) ∧ (∀ a, low ≤ a → a < high → low ≤ q' a ∧ q' a < high) := by
      intro hr hl
      have sb := sr right a3 hr
      have er : zr z 0 right = some (r0 (s right)) := by rw [b2]; exact row right (by omega)
      unfold jS_mergeRuns_47 jS_mergeRuns_52 jS_mergeRuns_96
      simp (disch := omega) only [lit, ixF, nt_le, nt_lt, nt_eq, nt_cl, nt_add, nt_sub, bind_s, if_true, if_false, if_pos, if_neg, upd_s, k8, k16, k7, k4, s_r8, s_l7, s_l8, s_l16, a255, a127, er, okr_lt (rl (s right) (by omega))]
      refine ih f left (right + 1) (to + 1) (zR z 1 to (some (r0 (s right)))) (fun t => if t = to then s right else q t) (by omega) (by omega) a1 a2 (by omega) (by omega) (by omega) (b1.trans (Sm.R (by decide))) (by rw [zr_R, upr_o (by decide)]; exact b2) ?_ ?_ ?_ ?_ ?_ ?_
      · intro t t1 t2; rw [zr_R]
        by_cases e : t = to
        · subst e; rw [upr_s]; simp
        · rw [upr_n e, b3 t t1 (by omega)]; simp [e]
      · intro t t1; rw [zr_R, upr_n (by omega)]; exact b4 t t1
      · intro a b x1 x2 x3
        rw [if_neg (show ¬ a = to by omega)]
        by_cases e : b = to
        · rw [if_pos e]; exact c4 a right x1 (by omega) (Nat.le_refl _) hr
        · rw [if_neg e]; exact c1 a b x1 x2 (by omega)
      · intro a x1 x2
        by_cases e : a = to
        · rw [if_pos e]; omega
        · rw [if_neg e]; exact c2 a x1 (by omega)
      · intro a b x1 x2 x3 x4
        by_cases e : a = to
        · rw [if_pos e]
          have := hl (by omega)
          by_cases e2 : b = left
          · subst e2; exact this
          · exact ltk_trans this (ssl left b a1 (by omega) x4)
        · rw [if_neg e]; exact c3 a b x1 (by omega) x3 x4
      · intro a b x1 x2 x3 x4
        by_cases e : a = to
        · rw [if_pos e]; exact ssr right b a3 (by omega) x4
        · rw [if_neg e]; exact c4 a b x1 (by omega) (by omega) x4
    have tL : left < mid → (right < high → ltk T U (s left) (s right)) → ∃ (z' : cZ) (q' : Nat → Nat), jS_mergeRuns_51 h (lS_mergeRuns_9 h f) z (nt mid) (nt high) (nt left) (nt right) (nt to) = some z' ∧ Sm z0 z' ∧ zr z' 0 = zr z0 0 ∧ (∀ t, low ≤ t → t < high → zr z' 1 t = some (r0 (q' t))) ∧ (∀ t, t < low ∨ high ≤ t → zr z' 1 t = zr z0 1 t) ∧
      (∀ a b, low ≤ a → a < b → b < high → ltk T U (q' a) (q' b)) ∧ (∀ a, low ≤ a → a < high → low ≤ q' a ∧ q' a < high) := by
      intro hl hr
      have sb := sl left a1 hl
      have er : zr z 0 left = some (r0 (s left)) := by rw [b2]; exact row left (by omega)
      unfold jS_mergeRuns_51 jS_mergeRuns_52 jS_mergeRuns_96
      simp (disch := omega) only [lit, ixF, nt_le, nt_lt, nt_eq, nt_cl, nt_add, nt_sub, bind_s, if_true, if_false, if_pos, if_neg, upd_s, k8, k16, k7, k4, s_r8, s_l7, s_l8, s_l16, a255, a127, er, okr_lt (rl (s left) (by omega))]
      refine ih f (left + 1) right (to + 1) (zR z 1 to (some (r0 (s left)))) (fun t => if t = to then s left else q t) (by omega) (by omega) (by omega) (by omega) a3 a4 (by omega) (b1.trans (Sm.R (by decide))) (by rw [zr_R, upr_o (by decide)]; exact b2) ?_ ?_ ?_ ?_ ?_ ?_
      · intro t t1 t2; rw [zr_R]
        by_cases e : t = to
        · subst e; rw [upr_s]; simp
        · rw [upr_n e, b3 t t1 (by omega)]; simp [e]
      · intro t t1; rw [zr_R, upr_n (by omega)]; exact b4 t t1
      · intro a b x1 x2 x3
        rw [if_neg (show ¬ a = to by omega)]
        by_cases e : b = to
        · rw [if_pos e]; exact c3 a left x1 (by omega) (Nat.le_refl _) hl
        · rw [if_neg e]; exact c1 a b x1 x2 (by omega)
      · intro a x1 x2
        by_cases e : a = to
        · rw [if_pos e]; omega
        · rw [if_neg e]; exact c2 a x1 (by omega)
      · intro a b x1 x2 x3 x4
        by_cases e : a = to
        · rw [if_pos e]; exact ssl left b a1 (by omega) x4
        · rw [if_neg e]; exact c3 a b x1 (by omega) (by omega) x4
      · intro a b x1 x2 x3 x4
        by_cases e : a = to
        · rw [if_pos e]
          have := hr (by omega)
          by_cases e2 : b = right
          · subst e2; exact this
          · exact ltk_trans this (ssr right b a3 (by omega) x4)
        · rw [if_neg e]; exact c4 a b x1 (by omega) x3 x4
    unfold lS_mergeRuns_9
    by_cases hl : mid ≤ left
    · simp (disch := omega) only [lit, ixF, nt_le, nt_lt, nt_eq, nt_cl, nt_add, nt_sub, bind_s, if_true, if_false, if_pos, if_neg, upd_s, k8, k16, k7, k4, s_r8, s_l7, s_l8, s_l16, a255, a127]; exact tR (by omega) (by omega)
    · by_cases hr : high ≤ right
      · simp (disch := omega) only [lit, ixF, nt_le, nt_lt, nt_eq, nt_cl, nt_add, nt_sub, bind_s, if_true, if_false, if_pos, if_neg, upd_s, k8, k16, k7, k4, s_r8, s_l7, s_l8, s_l16, a255, a127]; exact tL (by omega) (by omega)
      · have sb := sl left a1 (by omega)
        have sb2 := sr right a3 (by omega)
        have el : zr z 0 left = some (r0 (s left)) := by rw [b2]; exact row left (by omega)
        have er : zr z 0 right = some (r0 (s right)) := by rw [b2]; exact row right (by omega)
        have l1 := rl (s left) (by omega)
        have l2 := rl (s right) (by omega)
        have hb := c_behind (z := z) l1 l2
        rw [b1.e, ← eT (s left) (by omega), ← eT (s right) (by omega), ← eU (s left) (by omega), ← eU (s right) (by omega)] at hb
        simp (disch := omega) only [lit, ixF, nt_le, nt_lt, nt_eq, nt_cl, nt_add, nt_sub, bind_s, if_true, if_false, if_pos, if_neg, upd_s, k8, k16, k7, k4, s_r8, s_l7, s_l8, s_l16, a255, a127, el, er, Option.bind_some, hb, b2_0]
        by_cases qq : T (s right) < T (s left) ∨ T (s right) = T (s left) ∧ U (s right) < U (s left)
        · rw [if_neg (by simp [qq])]
          exact tR (by omega) fun _ => by unfold ltk; omega
        · rw [if_pos (by simpa using qq)]
          exact tL (by omega) fun _ => by unfold ltk; omega
theorem l_copy10 {h : cH} {place many : Nat} (hp : place + many ≤ h.1 3) (hm : many ≤ h.1 4) (hb : h.1 3 ≤ 2000) : ∀ m fuel i (z : cZ), i + m = many → m < fuel → (∀ t, t < many → okr h.2.1 (zr z 1 t) ≠ false) →
    ∃ z', lS_copy10_3 h fuel z (nt place) (nt many) (nt i) = some z' ∧ Sm z z' ∧ zr z' 1 = zr z 1 ∧ (∀ t, zr z' 0 t = if place + i ≤ t ∧ t < place + many then zr z 1 (t - place) else zr z 0 t) := by
  intro m
  induction m with
  | zero =>
    intro fuel i z hi hf ok
    obtain ⟨f, rfl⟩ : ∃ k, fuel = k + 1 := ⟨fuel - 1, by omega⟩
    have : i = many := by omega
    subst this
    refine ⟨z, by unfold lS_copy10_3; rw [if_pos (by rw [nt_le (by omega) (by omega)]; omega)], Sm.refl z, rfl, fun t => ?_⟩
    rw [if_neg (by omega)]
  | succ m ih =>
    intro fuel i z hi hf ok
    obtain ⟨f, rfl⟩ : ∃ k, fuel = k + 1 := ⟨fuel - 1, by omega⟩
    have e1 : zr (zR z 0 (place + i) (zr z 1 i)) 1 = zr z 1 := by rw [zr_R, upr_o (by decide)]
    obtain ⟨z', a, b, c, d⟩ := ih f (i + 1) (zR z 0 (place + i) (zr z 1 i)) (by omega) (by omega) (by rw [e1]; exact ok)
    refine ⟨z', ?_, (Sm.R (by decide)).trans b, c.trans e1, fun t => ?_⟩
    · unfold lS_copy10_3
      simp (disch := omega) only [lit, ixF, nt_le, nt_lt, nt_eq, nt_cl, nt_add, nt_sub, bind_s, if_true, if_false, if_pos, if_neg, upd_s, k8, k16, k7, k4, s_r8, s_l7, s_l8, s_l16, a255, a127, ok i (by omega)]; exact a
    · rw [d t, e1, zr_R]
      by_cases q : t = place + i
      · subst q; rw [if_neg (by omega), upr_s, if_pos (by omega)]; congr 1; omega
      · rw [upr_n q]
        by_cases q2 : place + (i + 1) ≤ t ∧ t < place + many
        · rw [if_pos q2, if_pos (by omega)]
        · rw [if_neg q2, if_neg (by omega)]
/-- sorted in blocks of w -/
def blk (T U : Nat → Int) (n w : Nat) (s : Nat → Nat) : Prop := (∀ q a, q * w ≤ a → a < q * w + w → a < n → q * w ≤ s a ∧ s a < q * w + w ∧ s a < n) ∧ (∀ q a b, q * w ≤ a → a < b → b < q * w + w → b < n → ltk T U (s a) (s b))
/-- the same, below a bound only -/
def blkB (T U : Nat → Int) (n w c : Nat) (s : Nat → Nat) : Prop := (∀ q a, q < c → q * w ≤ a → a < q * w + w → a < n → q * w ≤ s a ∧ s a < q * w + w ∧ s a < n) ∧ (∀ q a b, q < c → q * w ≤ a → a < b → b < q * w + w → b < n → ltk T U (s a) (s b))
theorem min_ite {a b : Nat} (ha : a < 2147483648) (hb : b < 2147483648) : (if nt a < nt b then nt a else nt b) = nt (min a b) := by
  by_cases h : a < b
  · rw [if_pos (by rw [nt_lt ha hb]; exact h), Nat.min_eq_left (by omega)]
  · rw [if_neg (by rw [nt_lt ha hb]; exact h), Nat.min_eq_right (by omega)]
theorem mul_lt_of {q c w : Nat} (h : q < c) : q * w + w ≤ c * w := by
  have := Nat.mul_le_mul_right w (show q + 1 ≤ c from h)
  rw [Nat.add_mul, Nat.one_mul] at this; exact this
theorem l_pass {h : cH} {z0 : cZ} {r0 s : Nat → Nat} {T U : Nat → Int} {n w : Nat} (hw : 0 < w) (hw2 : w < n) (hn : n ≤ h.1 3) (hn4 : n ≤ h.1 4) (hn2 : n ≤ 2000) (cz : zi z0 7 = nt n)
    (rl : ∀ p, p < n → r0 p < h.2.1) (eT : ∀ p, p < n → T p = (ze z0 (r0 p) 0).toInt) (eU : ∀ p, p < n → U p = (ze z0 (r0 p) 1).toInt)
    (row : ∀ t, t < n → zr z0 0 t = some (r0 (s t))) (hs : blk T U n w s)
    (K2 : cZ → Int32 → Option cZ) :
    ∀ m fuel c (z : cZ) (q : Nat → Nat), n ≤ c * (2 * w) + m → m < fuel → c * (2 * w) < n + 2 * w → Sm z0 z → zr z 0 = zr z0 0 → (∀ t, t < c * (2 * w) → t < n → zr z 1 t = some (r0 (q t))) → (∀ t, n ≤ t → zr z 1 t = zr z0 1 t) → blkB T U n (2 * w) c q →
    ∃ (z' : cZ) (q' : Nat → Nat), lS_putInOrder_12 h K2 fuel z (nt w) (nt (c * (2 * w))) = (fS_copy10 h z' (nt 0) (nt n)).bind (fun z2 => K2 z2 (nt (2 * w))) ∧ Sm z0 z' ∧ zr z' 0 = zr z0 0 ∧ (∀ t, t < n → zr z' 1 t = some (r0 (q' t))) ∧ (∀ t, n ≤ t → zr z' 1 t = zr z0 1 t) ∧ blk T U n (2 * w) q' := by
  have fin : ∀ f c (z : cZ) (q : Nat → Nat), n ≤ c * (2 * w) → c * (2 * w) < n + 2 * w → Sm z0 z → zr z 0 = zr z0 0 → (∀ t, t < c * (2 * w) → t < n → zr z 1 t = some (r0 (q t))) → (∀ t, n ≤ t → zr z 1 t = zr z0 1 t) → blkB T U n (2 * w) c q →
    ∃ (z' : cZ) (q' : Nat → Nat), lS_putInOrder_12 h K2 (f + 1) z (nt w) (nt (c * (2 * w))) = (fS_copy10 h z' (nt 0) (nt n)).bind (fun z2 => K2 z2 (nt (2 * w))) ∧ Sm z0 z' ∧ zr z' 0 = zr z0 0 ∧ (∀ t, t < n → zr z' 1 t = some (r0 (q' t))) ∧ (∀ t, n ≤ t → zr z' 1 t = zr z0 1 t) ∧ blk T U n (2 * w) q' := by
    intro f c z q hc hc2 b1 b2 b3 b4 b5
    refine ⟨z, q, ?_, b1, b2, fun t ht => b3 t (by omega) ht, b4, ?_, ?_⟩
    · unfold lS_putInOrder_12
      have cz' : zi z 7 = nt n := by rw [b1.i]; exact cz
      rw [cz', if_pos (by rw [nt_le (by omega) (by omega)]; exact hc)]
      rw [lit, lit, nt_mul, Nat.mul_comm w 2]
    · intro p a x1 x2 x3
      by_cases hp : p < c
      · exact b5.1 p a hp x1 x2 x3
      · have := Nat.mul_le_mul_right (2 * w) (Nat.le_of_not_lt hp); omega
    · intro p a b x1 x2 x3 x4
      by_cases hp : p < c
      · exact b5.2 p a b hp x1 x2 x3 x4
      · have := Nat.mul_le_mul_right (2 * w) (Nat.le_of_not_lt hp); omega
  intro m
  induction m with
  | zero =>
    intro fuel c z q hc hf hc2 b1 b2 b3 b4 b5
    obtain ⟨f, rfl⟩ : ∃ k, fuel = k + 1 := ⟨fuel - 1, by omega⟩
    exact fin f c z q hc hc2 b1 b2 b3 b4 b5
  | succ m ih =>
    intro fuel c z q hc hf hc2 b1 b2 b3 b4 b5
    obtain ⟨f, rfl⟩ : ∃ k, fuel = k + 1 := ⟨fuel - 1, by omega⟩
    by_cases hlow : n ≤ c * (2 * w)
    · exact fin f c z q hlow hc2 b1 b2 b3 b4 b5
    · have e2 : (2 * c) * w = c * (2 * w) := by rw [Nat.mul_comm 2 c, Nat.mul_assoc]
      have e3 : (2 * c + 1) * w = c * (2 * w) + w := by rw [Nat.add_mul, e2, Nat.one_mul]
      have e4 : (c + 1) * (2 * w) = c * (2 * w) + 2 * w := by rw [Nat.add_mul, Nat.one_mul]
      generalize hL : c * (2 * w) = low at *
      have hsl : ∀ t, low ≤ t → t < min n (low + w) → low ≤ s t ∧ s t < min n (low + w) := fun t t1 t2 => by
        have := hs.1 (2 * c) t (by omega) (by omega) (by omega); omega
      have hsr : ∀ t, min n (low + w) ≤ t → t < min n (min n (low + w) + w) → min n (low + w) ≤ s t ∧ s t < min n (min n (low + w) + w) := fun t t1 t2 => by
        have := hs.1 (2 * c + 1) t (by omega) (by omega) (by omega); omega
      have b2' : ∀ t, t < n → zr z 0 t = some (r0 (s t)) := fun t ht => by rw [b2]; exact row t ht
      obtain ⟨z', q', A, B1, B2, B3, B4, B5, B6⟩ := l_merge (h := h) (z0 := z) (r0 := r0) (s := s) (T := T) (U := U) (n := n) (low := low) (mid := min n (low + w)) (high := min n (min n (low + w) + w)) hn hn4 hn2 (by omega) (by omega) (by omega) rl (by rw [b1.e]; exact eT) (by rw [b1.e]; exact eU) b2' hsl hsr (fun a b x1 x2 x3 => hs.2 (2 * c) a b (by omega) x2 (by omega) (by omega)) (fun a b x1 x2 x3 => hs.2 (2 * c + 1) a b (by omega) x2 (by omega) (by omega)) (min n (min n (low + w) + w) - low) FU low (min n (low + w)) low z (fun _ => 0) (by omega) (FUn (by omega)) (by omega) (by omega) (by omega) (by omega) (by omega) (Sm.refl z) rfl (fun t t1 t2 => absurd t2 (by omega)) (fun t t1 => rfl) (fun a b x1 x2 x3 => absurd x3 (by omega)) (fun a x1 x2 => absurd x2 (by omega)) (fun a b x1 x2 x3 x4 => absurd x2 (by omega)) (fun a b x1 x2 x3 x4 => absurd x2 (by omega))
      obtain ⟨z2, q2, C, D1, D2, D3, D4, D5⟩ := ih f (c + 1) z' (fun t => if t < low then q t else q' t) (by omega) (by omega) (by omega) (b1.trans B1) (B2.trans b2) (fun t t1 t2 => by
          by_cases e : t < low
          · rw [if_pos e, B4 t (.inl e)]; exact b3 t e t2
          · rw [if_neg e]; exact B3 t (by omega) (by omega)) (fun t ht => (B4 t (.inr (by omega))).trans (b4 t ht)) (by
          refine ⟨fun p a y1 y2 y3 y4 => ?_, fun p a b y1 y2 y3 y4 y5 => ?_⟩
          · dsimp only
            by_cases e : p < c
            · have := mul_lt_of (w := 2 * w) e
              rw [if_pos (by omega)]; exact b5.1 p a e y2 y3 y4
            · have e : p = c := by omega
              subst e
              rw [hL] at y2 y3 ⊢
              rw [if_neg (by omega)]
              have := B6 a y2 (by omega); omega
          · dsimp only
            by_cases e : p < c
            · have := mul_lt_of (w := 2 * w) e
              rw [if_pos (by omega), if_pos (by omega)]; exact b5.2 p a b e y2 y3 y4 y5
            · have e : p = c := by omega
              subst e
              rw [hL] at y2 y4
              rw [if_neg (by omega), if_neg (by omega)]
              exact B5 a b y2 y3 (by omega))
      refine ⟨z2, q2, ?_, D1, D2, D3, D4, D5⟩
      unfold lS_putInOrder_12
      have cz' : zi z 7 = nt n := by rw [b1.i]; exact cz
      have m1 : (if nt n < (nt low + nt w) then nt n else (nt low + nt w)) = nt (min n (low + w)) := by rw [nt_add]; exact min_ite (by omega) (by omega)
      have m2 : (if nt n < (nt (min n (low + w)) + nt w) then nt n else (nt (min n (low + w)) + nt w)) = nt (min n (min n (low + w) + w)) := by rw [nt_add]; exact min_ite (by omega) (by omega)
      rw [cz', if_neg (by rw [nt_le (by omega) (by omega)]; exact hlow), m1, m2]
      have A' : fS_mergeRuns h z (nt low) (nt (min n (low + w))) (nt (min n (min n (low + w) + w))) = some z' := A
      rw [A', bind_s, show nt low + ((2 : Int32) * nt w) = nt (low + 2 * w) by rw [lit, nt_mul, nt_add], ← e4]
      exact C
theorem l_order {h : cH} {z0 : cZ} {r0 : Nat → Nat} {T U : Nat → Int} {n : Nat} (hn : n ≤ h.1 3) (hn4 : n ≤ h.1 4) (hn2 : h.1 3 ≤ 2000) (cz : zi z0 7 = nt n)
    (rl : ∀ p, p < n → r0 p < h.2.1) (eT : ∀ p, p < n → T p = (ze z0 (r0 p) 0).toInt) (eU : ∀ p, p < n → U p = (ze z0 (r0 p) 1).toInt) :
    ∀ m fuel w (z : cZ) (s : Nat → Nat), n ≤ w + m → m < fuel → 0 < w → w < 2 * n + 2 → Sm z0 z → (∀ t, t < n → zr z 0 t = some (r0 (s t))) → (∀ t, n ≤ t → zr z 0 t = zr z0 0 t) → (∀ t, n ≤ t → zr z 1 t = zr z0 1 t) → (∀ t j, t < n → zr z 1 t = some j → j < h.2.1) → blk T U n w s →
    ∃ (z' : cZ) (s' : Nat → Nat), lS_putInOrder_2 h fuel z (nt w) = some z' ∧ Sm z0 z' ∧ (∀ t, t < n → zr z' 0 t = some (r0 (s' t))) ∧ (∀ t, n ≤ t → zr z' 0 t = zr z0 0 t) ∧ (∀ t, n ≤ t → zr z' 1 t = zr z0 1 t) ∧ (∀ t j, t < n → zr z' 1 t = some j → j < h.2.1) ∧ (∀ t, t < n → s' t < n) ∧ (∀ a b, a < b → b < n → ltk T U (s' a) (s' b)) := by
  have fin : ∀ f w (z : cZ) (s : Nat → Nat), n ≤ w → 0 < w → w < 2 * n + 2 → Sm z0 z → (∀ t, t < n → zr z 0 t = some (r0 (s t))) → (∀ t, n ≤ t → zr z 0 t = zr z0 0 t) → (∀ t, n ≤ t → zr z 1 t = zr z0 1 t) → (∀ t j, t < n → zr z 1 t = some j → j < h.2.1) → blk T U n w s →
    ∃ (z' : cZ) (s' : Nat → Nat), lS_putInOrder_2 h (f + 1) z (nt w) = some z' ∧ Sm z0 z' ∧ (∀ t, t < n → zr z' 0 t = some (r0 (s' t))) ∧ (∀ t, n ≤ t → zr z' 0 t = zr z0 0 t) ∧ (∀ t, n ≤ t → zr z' 1 t = zr z0 1 t) ∧ (∀ t j, t < n → zr z' 1 t = some j → j < h.2.1) ∧ (∀ t, t < n → s' t < n) ∧ (∀ a b, a < b → b < n → ltk T U (s' a) (s' b)) := by
    intro f w z s hw hw0 hw2 b1 b2 b3 b4 b5 b6
    refine ⟨z, s, ?_, b1, b2, b3, b4, b5, fun t ht => (b6.1 0 t (by omega) (by omega) ht).2.2, fun a b x1 x2 => b6.2 0 a b (by omega) x1 (by omega) x2⟩
    unfold lS_putInOrder_2
    have cz' : zi z 7 = nt n := by rw [b1.i]; exact cz
    rw [cz', if_pos (by rw [nt_le (by omega) (by omega)]; exact hw)]
  intro m
  induction m with
  | zero =>
    intro fuel w z s hm hf hw0 hw2 b1 b2 b3 b4 b5 b6
    obtain ⟨f, rfl⟩ : ∃ k, fuel = k + 1 := ⟨fuel - 1, by omega⟩
    exact fin f w z s hm hw0 hw2 b1 b2 b3 b4 b5 b6
  | succ m ih =>
    intro fuel w z s hm hf hw0 hw2 b1 b2 b3 b4 b5 b6
    obtain ⟨f, rfl⟩ : ∃ k, fuel = k + 1 := ⟨fuel - 1, by omega⟩
    by_cases hwn : n ≤ w
    · exact fin f w z s hwn hw0 hw2 b1 b2 b3 b4 b5 b6
    · have cz' : zi z 7 = nt n := by rw [b1.i]; exact cz
      obtain ⟨z1, q1, A, B1, B2, B3, B4, B5⟩ := l_pass (h := h) (z0 := z) (r0 := r0) (s := s) (T := T) (U := U) (n := n) (w := w) hw0 (by omega) hn hn4 (by omega) cz' rl (by rw [b1.e]; exact eT) (by rw [b1.e]; exact eU) b2 b6 (lS_putInOrder_2 h f) n FU 0 z (fun _ => 0) (by omega) (FUn (by omega)) (by omega) (Sm.refl z) rfl (fun t t1 t2 => absurd t1 (by omega)) (fun t ht => rfl) ⟨fun q a y1 => absurd y1 (by omega), fun q a b y1 => absurd y1 (by omega)⟩
      obtain ⟨z2, C, D1, D2, D3⟩ := l_copy10 (h := h) (place := 0) (many := n) (by omega) hn4 hn2 n FU 0 z1 (by omega) (FUn (by omega)) (fun t ht => by rw [B3 t ht]; exact okr_lt (rl _ ((B5.1 (t / (2 * w)) t (Nat.div_mul_le_self t (2 * w)) (by have := Nat.lt_div_mul_add (a := t) (b := 2 * w) (by omega); omega) ht).2.2)))
      obtain ⟨z3, s3, E, F⟩ := ih f (2 * w) z2 q1 (by omega) (by omega) (by omega) (by omega) ((b1.trans B1).trans D1) (fun t ht => by rw [D3 t, if_pos (by omega), Nat.sub_zero]; exact B3 t ht) (fun t ht => by rw [D3 t, if_neg (by omega), B2]; exact b3 t ht) (fun t ht => by rw [D2]; exact (B4 t ht).trans (b4 t ht)) (fun t j ht hj => by
          rw [D2, B3 t ht] at hj
          cases hj
          exact rl _ ((B5.1 (t / (2 * w)) t (Nat.div_mul_le_self t (2 * w)) (by have := Nat.lt_div_mul_add (a := t) (b := 2 * w) (by omega); omega) ht).2.2)) B5
      refine ⟨z3, s3, ?_, F⟩
      unfold lS_putInOrder_2
      rw [cz', if_neg (by rw [nt_le (by omega) (by omega)]; exact hwn)]
      have A' : lS_putInOrder_12 h (lS_putInOrder_2 h f) FU z (nt w) 0 = (fS_copy10 h z1 (nt 0) (nt n)).bind (fun z2 => lS_putInOrder_2 h f z2 (nt (2 * w))) := by rw [Nat.zero_mul] at A; exact A
      have C' : fS_copy10 h z1 (nt 0) (nt n) = some z2 := C
      rw [A', C', bind_s]; exact E
theorem c_sort {h z n} (ci : CI h z) (c : zi z 7 = nt n) (hn : n ≤ h.2.1) :
    ∃ (z' : cZ) (s' : Nat → Nat), fS_putInOrder h z = some z' ∧ Sm z z' ∧ CI h z' ∧ (∀ t, t < n → rr z' t = rr z (s' t)) ∧ (∀ t, t < n → s' t < n) ∧ (∀ a b, a < b → b < n → ltk (fun p => (ze z (rr z p) 0).toInt) (fun p => (ze z (rr z p) 1).toInt) (s' a) (s' b)) := by
  have h1 := ci.ne; have h2 := ci.u3; have h3 := ci.l4
  obtain ⟨z', s', A, B1, B2, B3, B4, B5, B6, B7⟩ := l_order (h := h) (z0 := z) (r0 := rr z) (T := fun p => (ze z (rr z p) 0).toInt) (U := fun p => (ze z (rr z p) 1).toInt) (n := n) (by omega) (by omega) h2 c (fun p hp => ci.ev (by omega)) (fun _ _ => rfl) (fun _ _ => rfl) n FU 1 z id (by omega) (FUn (by omega)) (by omega) (by omega) (Sm.refl z) (fun t ht => ci.ro t (by omega)) (fun _ _ => rfl) (fun _ _ => rfl) (fun t j _ hj => ci.wf 1 t j hj) ⟨fun q a x1 x2 x3 => ⟨x1, x2, x3⟩, fun q a b x1 x2 x3 x4 => by omega⟩
  have er : ∀ t, t < n → rr z' t = rr z (s' t) := fun t ht => by unfold rr; rw [B2 t ht]; rfl
  have er2 : ∀ t, n ≤ t → rr z' t = rr z t := fun t ht => by unfold rr; rw [B3 t ht]
  refine ⟨z', s', A, B1, ⟨ci.l0, ci.u0, ci.l1, ci.u1, ci.l2, ci.u2, ci.l3, ci.u3, ci.l4, ci.ne, ?_, ?_, ?_, ?_⟩, er, B6, B7⟩
  · intro t ht
    by_cases q : t < n
    · rw [er t q]; exact B2 t q
    · rw [er2 t (by omega), B3 t (by omega)]; exact ci.ro t ht
  · intro t ht; rw [B3 t (by omega)]; exact ci.rn t ht
  · intro k t j hj
    by_cases k0 : k = 0
    · subst k0
      by_cases q : t < n
      · rw [B2 t q] at hj; cases hj; exact ci.ev (by have := B6 t q; omega)
      · rw [B3 t (by omega)] at hj; exact ci.wf 0 t j hj
    · by_cases k1 : k = 1
      · subst k1
        by_cases q : t < n
        · exact B5 t j q hj
        · rw [B4 t (by omega)] at hj; exact ci.wf 1 t j hj
      · rw [B1.r k (by omega)] at hj; exact ci.wf k t j hj
  · intro t t' ht ht' e
    by_cases q : t < n
    · rw [er t q] at e
      by_cases q' : t' < n
      · rw [er t' q'] at e
        exact srt_inj B7 t t' q q' (ci.ij _ _ (by have := B6 t q; omega) (by have := B6 t' q'; omega) e)
      · rw [er2 t' (by omega)] at e
        have := ci.ij _ _ (by have := B6 t q; omega) ht' e
        have := B6 t q; omega
    · rw [er2 t (by omega)] at e
      by_cases q' : t' < n
      · rw [er t' q'] at e
        have := ci.ij _ _ ht (by have := B6 t' q'; omega) e
        have := B6 t' q'; omega
      · rw [er2 t' (by omega)] at e
        exact ci.ij t t' ht ht' e
