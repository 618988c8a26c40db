theorem sum64 (x y : Int32) : (x.toInt64 + y.toInt64).toInt = x.toInt + y.toInt := by
  have h1 := Int32.toInt_lt x; have h2 := Int32.le_toInt x; have h3 := Int32.toInt_lt y; have h4 := Int32.le_toInt y
  rw [Int64.toInt_add, Int32.toInt_toInt64, Int32.toInt_toInt64]
  exact Int.bmod_eq_of_le (by omega) (by omega)
theorem cmpI_lt (a b : Int64) : (lg_cmp a b < 0) = (a.toInt < b.toInt) := by
  unfold lg_cmp
  by_cases q : a > b
  · have q1 : b.toInt < a.toInt := Int64.lt_iff_toInt_lt.mp q
    rw [if_pos q]; exact propext ⟨fun x => absurd x (by decide), fun x => by omega⟩
  · have q1 : ¬ b.toInt < a.toInt := fun x => q (Int64.lt_iff_toInt_lt.mpr x)
    rw [if_neg q]
    by_cases q2 : a = b
    · subst q2; rw [if_pos rfl]; exact propext ⟨fun x => absurd x (by decide), fun x => by omega⟩
    · have : a.toInt ≠ b.toInt := fun e => q2 (Int64.toInt.inj e)
      rw [if_neg q2]; exact propext ⟨fun x => by omega, fun x => by decide⟩
theorem cmpI_le (a b : Int64) : (lg_cmp a b ≤ 0) = (a.toInt ≤ b.toInt) := by
  unfold lg_cmp
  by_cases q : a > b
  · have q1 : b.toInt < a.toInt := Int64.lt_iff_toInt_lt.mp q
    rw [if_pos q]; exact propext ⟨fun x => absurd x (by decide), fun x => by omega⟩
  · have q1 : ¬ b.toInt < a.toInt := fun x => q (Int64.lt_iff_toInt_lt.mpr x)
    rw [if_neg q]
    by_cases q2 : a = b
    · subst q2; rw [if_pos rfl]; exact propext ⟨fun x => by omega, fun x => by decide⟩
    · have : a.toInt ≠ b.toInt := fun e => q2 (Int64.toInt.inj e)
      rw [if_neg q2]; exact propext ⟨fun x => by omega, fun x => by decide⟩
theorem cmpI_ge (a b : Int64) : (0 ≤ lg_cmp a b) = (b.toInt ≤ a.toInt) := by
  unfold lg_cmp
  by_cases q : a > b
  · have q1 : b.toInt < a.toInt := Int64.lt_iff_toInt_lt.mp q
    rw [if_pos q]; exact propext ⟨fun x => by omega, fun x => by decide⟩
  · have q1 : ¬ b.toInt < a.toInt := fun x => q (Int64.lt_iff_toInt_lt.mpr x)
    rw [if_neg q]
    by_cases q2 : a = b
    · subst q2; rw [if_pos rfl]; exact propext ⟨fun x => by omega, fun x => by decide⟩
    · have : a.toInt ≠ b.toInt := fun e => q2 (Int64.toInt.inj e)
      rw [if_neg q2]; exact propext ⟨fun x => absurd x (by decide), fun x => by omega⟩
def fit (y : Int32) (a : Nat → Int32) : Bool := decide (0 ≤ (a 3).toInt + y.toInt ∧ (a 3).toInt + y.toInt ≤ 127)
/-- the class's test of a note, before any two ways on -/
theorem c_note {α : Type} {h z j} (hj : j < h.2.1) (x : Int32) (A B : cZ → Option α) : ((fE_isOfNote h z j).bind fun (r4, z4) => if r4 = 0 then A z4 else ((fE_isOfChannel h z4 j x).bind fun (r6, z6) => if r6 = 0 then A z6 else B z6)) = if bNote x (ze z j) = true then B z else A z := by
  unfold fE_isOfNote fE_isOfChannel bNote
  rw [if_neg (show ¬ h.2.1 ≤ j by omega)]
  by_cases q : (176 : Int32) ≤ ze z j 2
  · have q' : ¬ ze z j 2 < 176 := by rw [Int32.lt_iff_toInt_lt]; rw [Int32.le_iff_toInt_le] at q; omega
    simp [q, q']
  · have q' : ze z j 2 < 176 := by rw [Int32.lt_iff_toInt_lt]; rw [Int32.le_iff_toInt_le] at q; omega
    by_cases q2 : x = 16
    · simp [q, q', q2]
    · by_cases q3 : (ze z j 2 &&& 15) = x
      · simp [q, q', q2, q3, show ¬ h.2.1 ≤ j by omega]
      · simp [q, q', q2, q3, show ¬ h.2.1 ≤ j by omega]
theorem m_isNote {iv av e} (he : e < 1001) (x : Int32) : fM_isNote iv av (nt e) x = some (b2 (bNote x (fe av e)), iv, av) := by
  unfold fM_isNote bNote fe b2
  rw [if_neg (ixN he (by omega)), if_neg (ixN he (by omega)), nt_cl (by omega)]
  simp only [Nat.reduceAdd]
  by_cases q : (176 : Int32) ≤ av 3 e
  · have q' : ¬ av 3 e < 176 := by rw [Int32.lt_iff_toInt_lt]; rw [Int32.le_iff_toInt_le] at q; omega
    simp [q, q']
  · have q' : av 3 e < 176 := by rw [Int32.lt_iff_toInt_lt]; rw [Int32.le_iff_toInt_le] at q; omega
    by_cases q2 : x = 16
    · simp [q, q', q2]
    · by_cases q3 : (av 3 e &&& 15) = x
      · simp [q, q', q2, q3]
      · simp [q, q', q2, q3]
theorem l_shift5 {h z n} (ci : CI h z) (c : zi z 7 = nt n) (hn : n ≤ h.2.1) (x y : Int32) : ∀ m fuel i, i + m = n → m < fuel →
    ((∀ k, i ≤ k → k < n → bNote x (ze z (rr z k)) = true → fit y (ze z (rr z k)) = true) ∧ lS_shiftNotes_5 h fuel z x y (nt (cnt (fun k => bNote x (ze z (rr z k))) i)) (nt i) = lS_shiftNotes_81 h FU z x y (nt (cnt (fun k => bNote x (ze z (rr z k))) n)) (nt 0)) ∨
    ((∃ k, i ≤ k ∧ k < n ∧ bNote x (ze z (rr z k)) = true ∧ fit y (ze z (rr z k)) = false) ∧ lS_shiftNotes_5 h fuel z x y (nt (cnt (fun k => bNote x (ze z (rr z k))) i)) (nt i) = some (-1, z)) := by
  have h1 := ci.ne; have h2 := ci.u3
  intro m
  induction m with
  | zero =>
    intro fuel i hi hf
    obtain ⟨f, rfl⟩ : ∃ k, fuel = k + 1 := ⟨fuel - 1, by omega⟩
    have : i = n := by omega
    subst this
    left
    refine ⟨fun k a b => absurd b (by omega), ?_⟩
    unfold lS_shiftNotes_5; rw [c, if_pos (by rw [nt_le (by omega) (by omega)]; omega)]; rfl
  | succ m ih =>
    intro fuel i hi hf
    obtain ⟨f, rfl⟩ : ∃ k, fuel = k + 1 := ⟨fuel - 1, by omega⟩
    have hin : i < n := by omega
    have hj := ci.ev (t := i) (by omega)
    have ih := ih f (i + 1) (by omega) (by omega)
    rw [cnt_s] at ih
    unfold lS_shiftNotes_5
    rw [c, if_neg (by rw [nt_le (by omega) (by omega)]; omega), if_neg (ixN (by omega) (by omega)), nt_cl (by omega), ci.ro i (by omega)]
    simp only [Option.bind_some]
    rw [if_neg (show ¬ h.2.1 ≤ rr z i by omega), c_note hj x (fun z4 => jS_shiftNotes_72 h (lS_shiftNotes_5 h f) z4 x y (nt (cnt (fun k => bNote x (ze z (rr z k))) i)) (nt i)) (fun z6 => if (lg_cmp (((ze z6 (rr z i) 3).toInt64) + y.toInt64) (0 : Int64)) < 0 then (some ((-1 : Int32), z6)) else (if (lg_cmp (((ze z6 (rr z i) 3).toInt64) + y.toInt64) (127 : Int64)) ≤ 0 then (jS_shiftNotes_72 h (lS_shiftNotes_5 h f) z6 x y (nt (cnt (fun k => bNote x (ze z (rr z k))) i) + 1) (nt i)) else (some ((-1 : Int32), z6))))]
    unfold jS_shiftNotes_72
    cases q : bNote x (ze z (rr z i))
    · simp only [q, Bool.false_eq_true, if_false, Nat.add_zero] at ih ⊢
      rw [lit, nt_add]
      rcases ih with ⟨a, b⟩ | ⟨a, b⟩
      · left; refine ⟨fun k k1 k2 k3 => ?_, b⟩
        by_cases e : k = i
        · subst e; rw [q] at k3; cases k3
        · exact a k (by omega) k2 k3
      · right; obtain ⟨k, k1, k2, k3⟩ := a
        exact ⟨⟨k, by omega, k2, k3⟩, b⟩
    · simp only [q, if_true] at ih ⊢
      have x0 := cmpI_lt ((ze z (rr z i) 3).toInt64 + y.toInt64) 0
      have x1 := cmpI_le ((ze z (rr z i) 3).toInt64 + y.toInt64) 127
      rw [sum64] at x0 x1
      have z0 : (0 : Int64).toInt = 0 := rfl
      have z1 : (127 : Int64).toInt = 127 := rfl
      rw [z0] at x0; rw [z1] at x1
      by_cases q0 : (ze z (rr z i) 3).toInt + y.toInt < 0
      · right
        refine ⟨⟨i, Nat.le_refl i, hin, q, by unfold fit; simp; omega⟩, ?_⟩
        rw [if_pos (by rw [x0]; exact q0)]
      · rw [if_neg (by rw [x0]; exact q0)]
        by_cases q1 : (ze z (rr z i) 3).toInt + y.toInt ≤ 127
        · rw [if_pos (by rw [x1]; exact q1)]
          rw [lit, nt_add, nt_add]
          rcases ih with ⟨a, b⟩ | ⟨a, b⟩
          · left; refine ⟨fun k k1 k2 k3 => ?_, b⟩
            by_cases e : k = i
            · subst e; unfold fit; simp; omega
            · exact a k (by omega) k2 k3
          · right; obtain ⟨k, k1, k2, k3⟩ := a
            exact ⟨⟨k, by omega, k2, k3⟩, b⟩
        · right
          refine ⟨⟨i, Nat.le_refl i, hin, q, by unfold fit; simp; omega⟩, ?_⟩
          rw [if_neg (by rw [x1]; exact q1)]
theorem bNote_eq {x : Int32} {a a' : Nat → Int32} (e : a 2 = a' 2) : bNote x a = bNote x a' := by unfold bNote; rw [e]
theorem l_shift81 {h : cH} {z0 : cZ} {n : Nat} (ci : CI h z0) (c : zi z0 7 = nt n) (hn : n ≤ h.2.1) (x y v : Int32) : ∀ m fuel i (z : cZ), i + m = n → m < fuel → zi z = zi z0 → za z = za z0 → zr z = zr z0 → (∀ k f, k < n → ze z (rr z0 k) f = if f = 3 ∧ k < i ∧ bNote x (ze z0 (rr z0 k)) = true then ze z0 (rr z0 k) 3 + y else ze z0 (rr z0 k) f) →
    ∃ z', lS_shiftNotes_81 h fuel z x y v (nt i) = some (v, z') ∧ zi z' = zi z0 ∧ za z' = za z0 ∧ zr z' = zr z0 ∧ (∀ k f, k < n → ze z' (rr z0 k) f = if f = 3 ∧ bNote x (ze z0 (rr z0 k)) = true then ze z0 (rr z0 k) 3 + y else ze z0 (rr z0 k) f) := by
  have h1 := ci.ne; have h2 := ci.u3
  intro m
  induction m with
  | zero =>
    intro fuel i z hi hf e1 e2 e3 e4
    obtain ⟨f, rfl⟩ : ∃ k, fuel = k + 1 := ⟨fuel - 1, by omega⟩
    have : i = n := by omega
    subst this
    refine ⟨z, ?_, e1, e2, e3, fun k f hk => ?_⟩
    · unfold lS_shiftNotes_81; rw [e1, c, if_pos (by rw [nt_le (by omega) (by omega)]; omega)]
    · rw [e4 k f hk]; simp [hk]
  | succ m ih =>
    intro fuel i z hi hf e1 e2 e3 e4
    obtain ⟨f, rfl⟩ : ∃ k, fuel = k + 1 := ⟨fuel - 1, by omega⟩
    have hin : i < n := by omega
    have hj := ci.ev (t := i) (by omega)
    have er : zr z 0 i = some (rr z0 i) := by rw [e3]; exact ci.ro i (by omega)
    have es : ze z (rr z0 i) 2 = ze z0 (rr z0 i) 2 := by rw [e4 i 2 hin, if_neg (by omega)]
    have e3' : ze z (rr z0 i) 3 = ze z0 (rr z0 i) 3 := by rw [e4 i 3 hin, if_neg (by omega)]
    unfold lS_shiftNotes_81
    rw [e1, c, if_neg (by rw [nt_le (by omega) (by omega)]; omega), if_neg (ixN (by omega) (by omega)), nt_cl (by omega), er]
    simp only [Option.bind_some]
    rw [if_neg (show ¬ h.2.1 ≤ rr z0 i by omega), c_note hj x (fun z4 => jS_shiftNotes_127 h (lS_shiftNotes_81 h f) z4 x y v (nt i)) (fun z6 => jS_shiftNotes_127 h (lS_shiftNotes_81 h f) (zE z6 (rr z0 i) 3 ((ze z6 (rr z0 i) 3) + y)) x y v (nt i)), bNote_eq es, e3']
    unfold jS_shiftNotes_127
    rw [lit, nt_add]
    cases q : bNote x (ze z0 (rr z0 i))
    · simp only [Bool.false_eq_true, if_false]
      refine ih f (i + 1) z (by omega) (by omega) e1 e2 e3 fun k f' hk => ?_
      rw [e4 k f' hk]
      by_cases qk : k = i
      · subst qk; simp [q]
      · by_cases q2 : f' = 3 ∧ k < i ∧ bNote x (ze z0 (rr z0 k)) = true
        · rw [if_pos q2, if_pos ⟨q2.1, by omega, q2.2.2⟩]
        · rw [if_neg q2, if_neg (fun x => q2 ⟨x.1, by omega, x.2.2⟩)]
    · simp only [if_true]
      refine ih f (i + 1) _ (by omega) (by omega) e1 e2 e3 fun k f' hk => ?_
      rw [ze_E]
      by_cases qk : k = i ∧ f' = 3
      · obtain ⟨rfl, rfl⟩ := qk; rw [upe_s, if_pos ⟨rfl, by omega, q⟩]
      · rw [upe_n, e4 k f' hk]
        · by_cases q2 : f' = 3 ∧ k < i ∧ bNote x (ze z0 (rr z0 k)) = true
          · rw [if_pos q2, if_pos ⟨q2.1, by omega, q2.2.2⟩]
          · rw [if_neg q2, if_neg (fun x => q2 ⟨x.1, by omega, x.2.2⟩)]
        · by_cases q3 : k = i
          · right; omega
          · left; intro e; exact q3 (ci.ij k i (by omega) (by omega) e)
theorem ixN2 {n m : Nat} (h : n < m) (hb : n < 2147483648) : ¬ (nt n < 0 ∨ m ≤ n) := by
  rw [nt_neg hb]; simp; exact h
theorem b2_0' {b : Bool} : (b2 b = 0) = (b = false) := by cases b <;> simp [b2]
theorem l_tr44 {iv : Nat → Int32} {av : Nat → Nat → Int32} {n : Nat} (hn : n ≤ 1000) (c : iv 10 = nt n) (x y : Int32) : ∀ m fuel i (b : Bool), i + m = n → m < fuel →
    ∃ b' : Bool, (b' = true ↔ b = true ∧ ∀ k, i ≤ k → k < n → bNote x (fe av k) = true → fit y (fe av k) = true) ∧ lM_transpose_44 fuel iv av x y (nt (cnt (fun k => bNote x (fe av k)) i)) (b2 b) (nt i) = lM_transpose_124 FU iv av x y (nt (cnt (fun k => bNote x (fe av k)) n)) (b2 b') (nt 0) := by
  intro m
  induction m with
  | zero =>
    intro fuel i b hi hf
    obtain ⟨f, rfl⟩ : ∃ k, fuel = k + 1 := ⟨fuel - 1, by omega⟩
    have : i = n := by omega
    subst this
    refine ⟨b, ⟨fun q => ⟨q, fun k h1 h2 => absurd h2 (by omega)⟩, fun q => q.1⟩, ?_⟩
    unfold lM_transpose_44; rw [c, if_pos (by rw [nt_le (by omega) (by omega)]; omega)]; rfl
  | succ m ih =>
    intro fuel i b hi hf
    obtain ⟨f, rfl⟩ : ∃ k, fuel = k + 1 := ⟨fuel - 1, by omega⟩
    have hin : i < n := by omega
    have ih := fun b => ih f (i + 1) b (by omega) (by omega)
    rw [cnt_s] at ih
    unfold lM_transpose_44 jM_transpose_112 jM_transpose_113 jM_transpose_115
    rw [c, if_neg (by rw [nt_le (by omega) (by omega)]; omega), m_isNote (by omega)]
    simp only [bind_s, b2_0', if_neg (ixN2 (show i < 1001 by omega) (show i < 2147483648 by omega)), nt_cl (show i < 2147483648 by omega)]
    rw [show nt i + 1 = nt (i + 1) from nt_add]
    cases q : bNote x (fe av i)
    · simp only [q, Bool.false_eq_true, if_false, if_true, Nat.add_zero] at ih ⊢
      obtain ⟨b', A, B⟩ := ih b
      refine ⟨b', ⟨fun z => ⟨(A.mp z).1, fun k k1 k2 k3 => ?_⟩, fun z => A.mpr ⟨z.1, fun k k1 k2 k3 => z.2 k (by omega) k2 k3⟩⟩, B⟩
      by_cases e : k = i
      · subst e; rw [q] at k3; cases k3
      · exact (A.mp z).2 k (by omega) k2 k3
    · simp only [q, if_true, Bool.true_eq_false, if_false] at ih ⊢
      rw [show nt (cnt (fun k => bNote x (fe av k)) i) + 1 = nt (cnt (fun k => bNote x (fe av k)) i + 1) from nt_add]
      have bad : (b = false ∨ fit y (fe av i) = false) → ∃ b' : Bool, (b' = true ↔ b = true ∧ ∀ k, i ≤ k → k < n → bNote x (fe av k) = true → fit y (fe av k) = true) ∧ lM_transpose_44 f iv av x y (nt (cnt (fun k => bNote x (fe av k)) i + 1)) 0 (nt (i + 1)) = lM_transpose_124 FU iv av x y (nt (cnt (fun k => bNote x (fe av k)) n)) (b2 b') (nt 0) := by
        intro hb
        obtain ⟨b', A, B⟩ := ih false
        refine ⟨b', ⟨fun z => absurd (A.mp z).1 (by simp), fun z => ?_⟩, B⟩
        rcases hb with hb | hb
        · rw [z.1] at hb; cases hb
        · rw [z.2 i (Nat.le_refl i) hin q] at hb; cases hb
      cases hb : b
      · subst hb; simp only [if_true]; exact bad (.inl rfl)
      · subst hb; rw [if_neg (show ¬ true = false by decide)]
        have x0 := cmpI_lt ((av 4 i).toInt64 + y.toInt64) 0
        have x1 := cmpI_ge ((av 4 i).toInt64 + y.toInt64) 128
        rw [sum64] at x0 x1
        have z0 : (0 : Int64).toInt = 0 := rfl
        have z1 : (128 : Int64).toInt = 128 := rfl
        rw [z0] at x0; rw [z1] at x1
        have ef : fit y (fe av i) = decide (0 ≤ (av 4 i).toInt + y.toInt ∧ (av 4 i).toInt + y.toInt ≤ 127) := rfl
        by_cases q0 : (av 4 i).toInt + y.toInt < 0
        · rw [if_pos (by rw [x0]; exact q0)]
          exact bad (.inr (by rw [ef]; simp; omega))
        · rw [if_neg (by rw [x0]; exact q0)]
          by_cases q1 : 128 ≤ (av 4 i).toInt + y.toInt
          · rw [if_pos (by rw [x1]; exact q1)]
            exact bad (.inr (by rw [ef]; simp; omega))
          · rw [if_neg (by rw [x1]; exact q1)]
            obtain ⟨b', A, B⟩ := ih true
            refine ⟨b', ⟨fun z => ⟨rfl, fun k k1 k2 k3 => ?_⟩, fun z => A.mpr ⟨rfl, fun k k1 k2 k3 => z.2 k (by omega) k2 k3⟩⟩, B⟩
            by_cases e : k = i
            · subst e; rw [ef]; simp; omega
            · exact (A.mp z).2 k (by omega) k2 k3
theorem l_tr124 {iv : Nat → Int32} {av0 : Nat → Nat → Int32} {n : Nat} (hn : n ≤ 1000) (c : iv 10 = nt n) (x y v : Int32) : ∀ m fuel i (av : Nat → Nat → Int32), i + m = n → m < fuel → (∀ a, a ≠ 4 → av a = av0 a) → (∀ k, k < n → av 4 k = if k < i ∧ bNote x (fe av0 k) = true then av0 4 k + y else av0 4 k) →
    ∃ av' : Nat → Nat → Int32, lM_transpose_124 fuel iv av x y v (b2 true) (nt i) = some (v, iv, av') ∧ (∀ a, a ≠ 4 → av' a = av0 a) ∧ (∀ k, k < n → av' 4 k = if bNote x (fe av0 k) = true then av0 4 k + y else av0 4 k) := by
  intro m
  induction m with
  | zero =>
    intro fuel i av hi hf e1 e2
    obtain ⟨f, rfl⟩ : ∃ k, fuel = k + 1 := ⟨fuel - 1, by omega⟩
    have : i = n := by omega
    subst this
    refine ⟨av, ?_, e1, fun k hk => by rw [e2 k hk]; simp [hk]⟩
    unfold lM_transpose_124 jM_transpose_169; rw [c, if_pos (by rw [nt_le (by omega) (by omega)]; omega), if_neg (by decide)]
  | succ m ih =>
    intro fuel i av hi hf e1 e2
    obtain ⟨f, rfl⟩ : ∃ k, fuel = k + 1 := ⟨fuel - 1, by omega⟩
    have hin : i < n := by omega
    have es : bNote x (fe av i) = bNote x (fe av0 i) := bNote_eq (by unfold fe; rw [e1 3 (by decide)])
    have e4 : av 4 i = av0 4 i := by rw [e2 i hin, if_neg (by omega)]
    unfold lM_transpose_124 jM_transpose_161
    rw [c, if_neg (by rw [nt_le (by omega) (by omega)]; omega), if_neg (show ¬ b2 true = 0 by decide), m_isNote (by omega)]
    simp only [bind_s, b2_0', if_neg (ixN2 (show i < 1001 by omega) (show i < 2147483648 by omega)), nt_cl (show i < 2147483648 by omega), es, e4]
    rw [show nt i + 1 = nt (i + 1) from nt_add]
    cases q : bNote x (fe av0 i)
    · simp only [if_true]
      refine ih f (i + 1) _ (by omega) (by omega) (fun a ha => by rw [up2_o ha]; exact e1 a ha) fun k hk => ?_
      by_cases e : k = i
      · subst e; rw [up2_s]; simp [q]
      · rw [up2_n e, e2 k hk]
        by_cases q2 : k < i ∧ bNote x (fe av0 k) = true
        · rw [if_pos q2, if_pos ⟨by omega, q2.2⟩]
        · rw [if_neg q2, if_neg (fun z => q2 ⟨by omega, z.2⟩)]
    · simp only [Bool.true_eq_false, if_false]
      refine ih f (i + 1) _ (by omega) (by omega) (fun a ha => by rw [up2_o ha]; exact e1 a ha) fun k hk => ?_
      by_cases e : k = i
      · subst e; rw [up2_s]; simp [q]
      · rw [up2_n e, e2 k hk]
        by_cases q2 : k < i ∧ bNote x (fe av0 k) = true
        · rw [if_pos q2, if_pos ⟨by omega, q2.2⟩]
        · rw [if_neg q2, if_neg (fun z => q2 ⟨by omega, z.2⟩)]
theorem fit_nt {a : Nat → Int32} {y : Int32} (h : fit y a = true) : ∃ f, f < 128 ∧ a 3 + y = nt f := by
  unfold fit at h
  have h := of_decide_eq_true h
  have e : (a 3 + y).toInt = (a 3).toInt + y.toInt := by
    rw [Int32.toInt_add]; exact Int.bmod_eq_of_le (by omega) (by omega)
  exact ⟨(a 3 + y).toNatClampNeg, by rw [Int32.toNatClampNeg]; omega, nt_of (by omega)⟩
theorem EvOK.shift {a a' : Nat → Int32} {nd tr : Nat} {x y : Int32} (k : EvOK a nd tr) (hf : bNote x a = true → fit y a = true) (e : ∀ f, f < 7 → a' f = if f = 3 ∧ bNote x a = true then a 3 + y else a f) : EvOK a' nd tr := by
  cases q : bNote x a
  · exact k.eq fun f hf => by rw [e f hf, if_neg (by simp [q])]
  · have e' : ∀ f, f < 7 → f ≠ 3 → a' f = a f := fun f h1 h2 => by rw [e f h1, if_neg (by simp [h2])]
    obtain ⟨f3, h3, q3⟩ := fit_nt (hf q)
    have e3 : a' 3 = nt f3 := by rw [e 3 (by omega), if_pos ⟨rfl, q⟩, q3]
    refine ⟨by rw [e' 0 (by omega) (by omega)]; exact k.tick, by rw [e' 1 (by omega) (by omega)]; exact k.track, ?_⟩
    unfold bNote at q
    have q := (of_decide_eq_true q).1
    rw [e' 2 (by omega) (by omega), e' 4 (by omega) (by omega), e' 5 (by omega) (by omega), e' 6 (by omega) (by omega), e3]
    obtain ⟨s, es, r | r | r⟩ := k.kind
    · exact ⟨s, es, .inl ⟨r.1, r.2.1, ⟨f3, h3, rfl⟩, r.2.2.2⟩⟩
    · rw [es, lit, nt_lt (by omega) (by omega)] at q; omega
    · rw [es, lit, nt_lt (by omega) (by omega)] at q; omega
theorem fit_eq {y : Int32} {a a' : Nat → Int32} (e : a 3 = a' 3) : fit y a = fit y a' := by unfold fit; rw [e]
theorem r_transpose {h z iv av} (r : Rel h z iv av) (x y : Int32) :
    (∃ k v, (k = 1 ∨ k = 2) ∧ tD_transpose h z x y = some k ∧ fM_transpose iv av x y = some (v, upd iv 0 (nt k), av)) ∨
    ∃ v z' iv' av', fD_transpose h z x y = some (v, z') ∧ fM_transpose iv av x y = some (v, iv', av') ∧ iv' 0 = nt 0 ∧ Rel h z' iv' av' := by
  unfold tD_transpose fD_transpose fM_transpose jM_transpose_13 jM_transpose_23 jM_transpose_28 tD_needList fD_needList fS_shiftNotes
  rcases pres r with ⟨p, p'⟩ | ⟨p, p', n, o, nd, fm, tr, dv, w⟩
  · left
    refine ⟨1, nt 0, .inl rfl, by simp [p'], ?_⟩
    by_cases hx : x < nt 0
    · simp (disch := omega) only [lit, ixF, nt_le, nt_lt, nt_eq, nt_cl, nt_add, nt_sub, bind_s, if_true, if_false, if_pos, if_neg, upd_s, k8, k16, k7, k4, s_r8, s_l7, s_l8, s_l16, a255, a127, p, hx, m_fails]
    · by_cases hx2 : x ≤ nt 16
      · simp (disch := omega) only [lit, ixF, nt_le, nt_lt, nt_eq, nt_cl, nt_add, nt_sub, bind_s, if_true, if_false, if_pos, if_neg, upd_s, k8, k16, k7, k4, s_r8, s_l7, s_l8, s_l16, a255, a127, p, hx, hx2, m_fails]
      · simp (disch := omega) only [lit, ixF, nt_le, nt_lt, nt_eq, nt_cl, nt_add, nt_sub, bind_s, if_true, if_false, if_pos, if_neg, upd_s, k8, k16, k7, k4, s_r8, s_l7, s_l8, s_l16, a255, a127, p, hx, hx2, m_fails]
  · by_cases hx : x < nt 0
    · left; refine ⟨2, nt 0, .inr rfl, ?_, ?_⟩
      · simp (disch := omega) only [lit, ixF, nt_le, nt_lt, nt_eq, nt_cl, nt_add, nt_sub, bind_s, if_true, if_false, if_pos, if_neg, upd_s, k8, k16, k7, k4, s_r8, s_l7, s_l8, s_l16, a255, a127, p', hx]; simp
      · simp (disch := omega) only [lit, ixF, nt_le, nt_lt, nt_eq, nt_cl, nt_add, nt_sub, bind_s, if_true, if_false, if_pos, if_neg, upd_s, k8, k16, k7, k4, s_r8, s_l7, s_l8, s_l16, a255, a127, p, hx, m_fails]
    · by_cases hx2 : x ≤ nt 16
      · right
        have hn := w.ev.mx
        have w0 := w.thr (x := nt 0)
        have en : ∀ k, k < n → bNote x (ze z (rr z k)) = bNote x (fe av (o k)) := fun k hk => bNote_eq (w.ev.eq k hk 2 (by omega))
        have ef : ∀ k, k < n → fit y (ze z (rr z k)) = fit y (fe av (o k)) := fun k hk => fit_eq (w.ev.eq k hk 3 (by omega))
        obtain ⟨b', A, B⟩ := l_tr44 (iv := upd iv 0 (nt 0)) (av := av) hn w0.ev.m x y n FU 0 true (by omega) (FUn (by omega))
        have cc := l_shift5 r.ci w.ev.c w.ev.ne x y n FU 0 (by omega) (FUn (by omega))
        have ec : cnt (fun k => bNote x (ze z (rr z k))) n = cnt (fun e => bNote x (fe av e)) n := (cnt_eq' (g' := fun k => bNote x (fe av (o k))) fun k hk => en k hk).trans (cnt_o w.ev.ol w.oi (fun e => bNote x (fe av e)))
        have B1 : fM_transpose iv av x y = lM_transpose_124 FU (upd iv 0 (nt 0)) av x y (nt (cnt (fun k => bNote x (fe av k)) n)) (b2 b') (nt 0) := by
          unfold fM_transpose jM_transpose_13 jM_transpose_23 jM_transpose_28
          simp (disch := omega) only [lit, ixF, nt_le, nt_lt, nt_eq, nt_cl, nt_add, nt_sub, bind_s, if_true, if_false, if_pos, if_neg, upd_s, k8, k16, k7, k4, s_r8, s_l7, s_l8, s_l16, a255, a127, p, hx, hx2, m_fails]
          exact B
        unfold fM_transpose jM_transpose_13 jM_transpose_23 jM_transpose_28 at B1
        rw [B1]
        rcases cc with ⟨allf, cc⟩ | ⟨⟨k, _, k2, k3, k4⟩, cc⟩
        · have hb : b' = true := A.mpr ⟨rfl, fun e _ he hbn => by
            obtain ⟨k, hk, rfl⟩ := surj_o w.ev.ol w.oi he
            rw [← ef k hk]; rw [← en k hk] at hbn
            exact allf k (by omega) hk hbn⟩
          subst hb
          obtain ⟨z1, C, C1, C2, C3, C4⟩ := l_shift81 (h := h) (z0 := z) r.ci w.ev.c w.ev.ne x y (nt (cnt (fun e => bNote x (fe av e)) n)) n FU 0 z (by omega) (FUn (by omega)) rfl rfl rfl (fun k f hk => by rw [if_neg (by omega)])
          obtain ⟨av1, D, D1, D2⟩ := l_tr124 (iv := upd iv 0 (nt 0)) (av0 := av) hn w0.ev.m x y (nt (cnt (fun k => bNote x (fe av k)) n)) n FU 0 av (by omega) (FUn (by omega)) (fun _ _ => rfl) (fun k hk => by rw [if_neg (by omega)])
          have er := rr_eq C3
          refine ⟨nt (cnt (fun e => bNote x (fe av e)) n), z1, upd iv 0 (nt 0), av1, ?_, D, upd_s, ?_⟩
          · rw [ec] at cc
            simp (disch := omega) only [lit, ixF, nt_le, nt_lt, nt_eq, nt_cl, nt_add, nt_sub, bind_s, if_true, if_false, if_pos, if_neg, upd_s, k8, k16, k7, k4, s_r8, s_l7, s_l8, s_l16, a255, a127, cnt_0] at cc
            simp (disch := omega) only [lit, ixF, nt_le, nt_lt, nt_eq, nt_cl, nt_add, nt_sub, bind_s, if_true, if_false, if_pos, if_neg, upd_s, k8, k16, k7, k4, s_r8, s_l7, s_l8, s_l16, a255, a127, p', hx, hx2, cc, C]
          · refine Rel.lst' (n := n) (o := o) (nd := nd) (fm := fm) (tr := tr) (dv := dv) r p (r.ci.zr' C3) (fun k _ => by rw [C1]) C2 (fun k hk _ => upd_n hk) (D1 0 (by decide)) (D1 11 (by decide)) ?_
            refine ⟨⟨hn, w.ev.ne, by rw [C1]; exact w.ev.c, w0.ev.m, ?_, w.ev.ol⟩, ⟨w.da.cap, w.da.mx, by rw [C1]; exact w.da.c, by rw [C2, D1 10 (by decide)]; exact w.da.eq, by rw [D1 10 (by decide)]; exact w.da.by'⟩, by rw [D1 8 (by decide)]; exact w.om, w.oi, w.fmx, by rw [C1]; exact w.fc, w0.fi, w.t1, w.tmx, by rw [C1]; exact w.tc, w0.ti, w.dmx, by rw [C1]; exact w.dc, w0.di, ?_, by rw [D1 1 (by decide)]; exact w.so, by rw [D1 7 (by decide)]; exact w.su⟩
            · intro k hk f hf
              rw [er, C4 k f hk]
              by_cases q : f = 3
              · subst q; rw [D2 _ (w.ev.ol k hk), en k hk, w.ev.eq k hk 3 (by omega)]; simp
              · rw [if_neg (by simp [q]), D1 (f + 1) (by omega)]; exact w.ev.eq k hk f hf
            · intro e he
              refine (w.ok e he).shift (x := x) (y := y) (fun hbn => (A.mp rfl).2 e (by omega) he hbn) fun f hf => ?_
              by_cases q : f = 3
              · subst q; rw [D2 e he]; simp; rfl
              · rw [if_neg (by simp [q]), D1 (f + 1) (by omega)]
        · have hb : b' = false := by
            cases hb : b'
            · rfl
            · have := (A.mp hb).2 (o k) (by omega) (w.ev.ol k k2) (by rw [← en k k2]; exact k3)
              rw [← ef k k2, k4] at this; cases this
          subst hb
          refine ⟨-1, z, upd iv 0 (nt 0), av, ?_, ?_, upd_s, r.thr⟩
          · simp (disch := omega) only [lit, ixF, nt_le, nt_lt, nt_eq, nt_cl, nt_add, nt_sub, bind_s, if_true, if_false, if_pos, if_neg, upd_s, k8, k16, k7, k4, s_r8, s_l7, s_l8, s_l16, a255, a127, cnt_0] at cc
            simp (disch := omega) only [lit, ixF, nt_le, nt_lt, nt_eq, nt_cl, nt_add, nt_sub, bind_s, if_true, if_false, if_pos, if_neg, upd_s, k8, k16, k7, k4, s_r8, s_l7, s_l8, s_l16, a255, a127, p', hx, hx2, cc]
          · rw [show FU = 999999 + 1 from rfl]; unfold lM_transpose_124 jM_transpose_169
            simp only [show b2 false = 0 from rfl, if_true]
            split <;> rfl
      · left; refine ⟨2, nt 0, .inr rfl, ?_, ?_⟩
        · simp (disch := omega) only [lit, ixF, nt_le, nt_lt, nt_eq, nt_cl, nt_add, nt_sub, bind_s, if_true, if_false, if_pos, if_neg, upd_s, k8, k16, k7, k4, s_r8, s_l7, s_l8, s_l16, a255, a127, p', hx, hx2]; simp
        · simp (disch := omega) only [lit, ixF, nt_le, nt_lt, nt_eq, nt_cl, nt_add, nt_sub, bind_s, if_true, if_false, if_pos, if_neg, upd_s, k8, k16, k7, k4, s_r8, s_l7, s_l8, s_l16, a255, a127, p, hx, hx2, m_fails]
