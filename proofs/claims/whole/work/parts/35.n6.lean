/-- the fields of an event of the reference -/
def fe (av : Nat → Nat → Int32) (e f : Nat) : Int32 := av (f + 1) e
def b2 (b : Bool) : Int32 := if b = true then 1 else 0
theorem b2_0 {b : Bool} : (b2 b = nt 0) = (b = false) := by cases b <;> simp [b2] <;> decide
def bTempo (a : Nat → Int32) : Bool := decide (a 2 = 255 ∧ a 3 = 81)
def bBegin (a : Nat → Int32) : Bool := decide ((a 2 &&& 240) = 144 ∧ ¬ a 4 ≤ 0)
def bEnd (a : Nat → Int32) : Bool := decide ((a 2 &&& 240) = 128 ∨ ((a 2 &&& 240) = 144 ∧ a 4 = 0))
def bNote (c : Int32) (a : Nat → Int32) : Bool := decide (a 2 < 176 ∧ (c = 16 ∨ (a 2 &&& 15) = c))
theorem c_isTempo {h z j} (hj : j < h.2.1) : fE_isTempo h z j = some (b2 (bTempo (ze z j)), z) := by
  unfold fE_isTempo bTempo b2
  rw [if_neg (by omega)]
  by_cases q : ze z j 2 = 255 <;> by_cases q' : ze z j 3 = 81 <;> simp [q, q']
theorem c_begins {h z j} (hj : j < h.2.1) : fE_beginsNote h z j = some (b2 (bBegin (ze z j)), z) := by
  unfold fE_beginsNote bBegin b2
  rw [if_neg (by omega)]
  by_cases q : (ze z j 2 &&& 240) = 144 <;> by_cases q' : ze z j 4 ≤ 0 <;> simp [q, q']
theorem c_ends {h z j} (hj : j < h.2.1) : fE_endsNote h z j = some (b2 (bEnd (ze z j)), z) := by
  unfold fE_endsNote bEnd b2
  rw [if_neg (by omega)]
  by_cases q : (ze z j 2 &&& 240) = 144 <;> by_cases q' : ze z j 4 = 0 <;> by_cases q'' : (ze z j 2 &&& 240) = 128 <;> simp [q, q', q'']
theorem m_isTempo {iv av e} (he : e < 1001) : fM_isTempo iv av (nt e) = some (b2 (bTempo (fe av e)), iv, av) := by
  unfold fM_isTempo bTempo b2 fe
  rw [if_neg (ixN he (by omega)), if_neg (ixN he (by omega)), nt_cl (by omega)]
  by_cases q : av 3 e = 255 <;> by_cases q' : av 4 e = 81 <;> simp [q, q']
theorem st_9 {s : Nat} (hs : s < 256) : ((nt s >>> ((4 : Int32) &&& 31)) = 9) = ((nt s &&& 240) = 144) := by
  have : ∀ s : Fin 256, ((nt s.val >>> ((4 : Int32) &&& 31)) = 9) ↔ ((nt s.val &&& 240) = 144) := by decide +kernel
  exact propext (this ⟨s, hs⟩)
theorem st_8 {s : Nat} (hs : s < 256) : ((nt s >>> ((4 : Int32) &&& 31)) = 8) = ((nt s &&& 240) = 128) := by
  have : ∀ s : Fin 256, ((nt s.val >>> ((4 : Int32) &&& 31)) = 8) ↔ ((nt s.val &&& 240) = 128) := by decide +kernel
  exact propext (this ⟨s, hs⟩)
theorem EvOK.st {a : Nat → Int32} {nd tr : Nat} (k : EvOK a nd tr) : ∃ s, 128 ≤ s ∧ s < 256 ∧ a 2 = nt s := by
  obtain ⟨s, e, q | q | q⟩ := k.kind
  · exact ⟨s, by omega, by omega, e⟩
  · exact ⟨s, by omega, by omega, e⟩
  · exact ⟨s, by omega, by omega, e⟩
theorem m_begins {iv av e nd tr} (he : e < 1001) (ok : EvOK (fun f => av (f + 1) e) nd tr) : fM_begins iv av (nt e) = some (b2 (bBegin (fe av e)), iv, av) := by
  obtain ⟨s, _, hs, q⟩ := ok.st
  have q0 : av 3 e = nt s := q
  unfold fM_begins bBegin b2 fe
  simp only [Nat.reduceAdd]
  rw [if_neg (ixN he (by omega)), if_neg (ixN he (by omega)), nt_cl (by omega), q0]
  simp only [st_9 hs]
  by_cases q : (nt s &&& 240) = 144 <;> by_cases q' : av 5 e ≤ 0 <;> simp [q, q']
theorem m_ends {iv av e nd tr} (he : e < 1001) (ok : EvOK (fun f => av (f + 1) e) nd tr) : fM_ends iv av (nt e) = some (b2 (bEnd (fe av e)), iv, av) := by
  obtain ⟨s, _, hs, q⟩ := ok.st
  have q0 : av 3 e = nt s := q
  unfold fM_ends bEnd b2 fe
  simp only [Nat.reduceAdd]
  rw [if_neg (ixN he (by omega)), if_neg (ixN he (by omega)), if_neg (ixN he (by omega)), nt_cl (by omega), q0]
  simp only [st_9 hs, st_8 hs]
  by_cases q : (nt s &&& 240) = 144 <;> by_cases q' : av 5 e = 0 <;> by_cases q'' : (nt s &&& 240) = 128 <;> simp [q, q', q'']
theorem FUn {n : Nat} (h : n ≤ 20000) : n < FU := by unfold FU; omega
theorem l_tempoEvents {h z n} (r : CI h z) (c : zi z 7 = nt n) (hn : n ≤ h.2.1) : ∀ m fuel i, i + m = n → m < fuel →
    lS_tempoEvents_4 h fuel z (nt (cnt (fun k => bTempo (ze z (rr z k))) i)) (nt i) = some (nt (cnt (fun k => bTempo (ze z (rr z k))) n), z) := by
  have h1 := r.ne; have h2 := r.u3
  intro m
  induction m with
  | zero => intro fuel i hi hf; obtain ⟨k, rfl⟩ : ∃ k, fuel = k + 1 := ⟨fuel - 1, by omega⟩
            have : i = n := by omega
            subst this; unfold lS_tempoEvents_4; simp (disch := omega) only [lit, ixF, nt_le, nt_lt, nt_eq, nt_cl, nt_add, nt_sub, bind_s, if_true, if_false, if_pos, if_neg, upd_s, k8, k16, k7, k4, s_r8, s_l7, s_l8, s_l16, a255, a127, c]
  | succ m ih =>
    intro fuel i hi hf; obtain ⟨k, rfl⟩ : ∃ k, fuel = k + 1 := ⟨fuel - 1, by omega⟩
    have hj := r.ev (t := i) (by omega)
    have := ih k (i + 1) (by omega) (by omega)
    rw [cnt_s] at this
    unfold lS_tempoEvents_4 jS_tempoEvents_27
    simp (disch := omega) only [lit, ixF, nt_le, nt_lt, nt_eq, nt_cl, nt_add, nt_sub, bind_s, if_true, if_false, if_pos, if_neg, upd_s, k8, k16, k7, k4, s_r8, s_l7, s_l8, s_l16, a255, a127, c, r.ro i (by omega), Option.bind_some, c_isTempo hj, b2_0]
    cases q : bTempo (ze z (rr z i)) <;> simpa [q] using this
theorem l_notesBegun {h z n} (r : CI h z) (c : zi z 7 = nt n) (hn : n ≤ h.2.1) : ∀ m fuel i, i + m = n → m < fuel →
    lS_notesBegun_4 h fuel z (nt (cnt (fun k => bBegin (ze z (rr z k))) i)) (nt i) = some (nt (cnt (fun k => bBegin (ze z (rr z k))) n), z) := by
  have h1 := r.ne; have h2 := r.u3
  intro m
  induction m with
  | zero => intro fuel i hi hf; obtain ⟨k, rfl⟩ : ∃ k, fuel = k + 1 := ⟨fuel - 1, by omega⟩
            have : i = n := by omega
            subst this; unfold lS_notesBegun_4; simp (disch := omega) only [lit, ixF, nt_le, nt_lt, nt_eq, nt_cl, nt_add, nt_sub, bind_s, if_true, if_false, if_pos, if_neg, upd_s, k8, k16, k7, k4, s_r8, s_l7, s_l8, s_l16, a255, a127, c]
  | succ m ih =>
    intro fuel i hi hf; obtain ⟨k, rfl⟩ : ∃ k, fuel = k + 1 := ⟨fuel - 1, by omega⟩
    have hj := r.ev (t := i) (by omega)
    have := ih k (i + 1) (by omega) (by omega)
    rw [cnt_s] at this
    unfold lS_notesBegun_4 jS_notesBegun_27
    simp (disch := omega) only [lit, ixF, nt_le, nt_lt, nt_eq, nt_cl, nt_add, nt_sub, bind_s, if_true, if_false, if_pos, if_neg, upd_s, k8, k16, k7, k4, s_r8, s_l7, s_l8, s_l16, a255, a127, c, r.ro i (by omega), Option.bind_some, c_begins hj, b2_0]
    cases q : bBegin (ze z (rr z i)) <;> simpa [q] using this
theorem l_counted {iv av n} (x : Int32) (g : Nat → Bool) (c : iv 10 = nt n) (hn : n ≤ 1000) (hg : ∀ e, e < n → (x = nt 0 ∧ fM_begins iv av (nt e) = some (b2 (g e), iv, av)) ∨ (¬ x = nt 0 ∧ fM_isTempo iv av (nt e) = some (b2 (g e), iv, av))) : ∀ m fuel i, i + m = n → m < fuel →
    lM_counted_4 fuel iv av x (nt (cnt g i)) (nt i) = some (nt (cnt g n), iv, av) := by
  intro m
  induction m with
  | zero => intro fuel i hi hf; obtain ⟨k, rfl⟩ : ∃ k, fuel = k + 1 := ⟨fuel - 1, by omega⟩
            have : i = n := by omega
            subst this; unfold lM_counted_4; simp (disch := omega) only [lit, ixF, nt_le, nt_lt, nt_eq, nt_cl, nt_add, nt_sub, bind_s, if_true, if_false, if_pos, if_neg, upd_s, k8, k16, k7, k4, s_r8, s_l7, s_l8, s_l16, a255, a127, c]
  | succ m ih =>
    intro fuel i hi hf; obtain ⟨k, rfl⟩ : ∃ k, fuel = k + 1 := ⟨fuel - 1, by omega⟩
    have := ih k (i + 1) (by omega) (by omega)
    rw [cnt_s] at this
    unfold lM_counted_4
    unfold jM_counted_36 jM_counted_40 jM_counted_41
    rcases hg i (by omega) with ⟨q1, q2⟩ | ⟨q1, q2⟩
    · subst q1
      simp (disch := omega) only [lit, ixF, nt_le, nt_lt, nt_eq, nt_cl, nt_add, nt_sub, bind_s, if_true, if_false, if_pos, if_neg, upd_s, k8, k16, k7, k4, s_r8, s_l7, s_l8, s_l16, a255, a127, c, q2, b2_0]
      cases q : g i <;> simpa [q, nt_add] using this
    · simp (disch := omega) only [lit, ixF, nt_le, nt_lt, nt_eq, nt_cl, nt_add, nt_sub, bind_s, if_true, if_false, if_pos, if_neg, upd_s, k8, k16, k7, k4, s_r8, s_l7, s_l8, s_l16, a255, a127, c, q1, q2, b2_0]
      cases q : g i <;> simpa [q, nt_add] using this
