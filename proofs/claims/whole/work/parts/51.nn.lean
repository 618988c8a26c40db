theorem upd_upd {f : Nat → Int32} {k : Nat} {x y : Int32} : upd (upd f k x) k y = upd f k y := by
  funext j; by_cases q : j = k
  · subst q; rw [upd_s, upd_s]
  · rw [upd_n q, upd_n q, upd_n q]
theorem upd_self {f : Nat → Int32} {k : Nat} {x : Int32} (e : f k = x) : upd f k x = f := by
  funext j; by_cases q : j = k
  · subst q; rw [upd_s, e]
  · rw [upd_n q]
/-- the bytes that came in -/
abbrev Inp (h : cH) (z : cZ) (av : Nat → Nat → Int32) (b : Nat → Nat) (n : Nat) : Prop := (n ≤ h.1 0) ∧ (n ≤ 12000) ∧ (zi z 0 = nt n) ∧ (∀ i, i < n → za z 0 i = nt (b i)) ∧ (∀ i, i < n → b i < 256) ∧ (∀ i, i < n → av 0 i = nt (b i))
theorem Inp.cap {h : cH} {z : cZ} {av : Nat → Nat → Int32} {b : Nat → Nat} {n : Nat} (s : Inp h z av b n) : n ≤ h.1 0 := s.1
theorem Inp.mx {h : cH} {z : cZ} {av : Nat → Nat → Int32} {b : Nat → Nat} {n : Nat} (s : Inp h z av b n) : n ≤ 12000 := s.2.1
theorem Inp.c {h : cH} {z : cZ} {av : Nat → Nat → Int32} {b : Nat → Nat} {n : Nat} (s : Inp h z av b n) : zi z 0 = nt n := s.2.2.1
theorem Inp.eq {h : cH} {z : cZ} {av : Nat → Nat → Int32} {b : Nat → Nat} {n : Nat} (s : Inp h z av b n) : ∀ i, i < n → za z 0 i = nt (b i) := s.2.2.2.1
theorem Inp.lt {h : cH} {z : cZ} {av : Nat → Nat → Int32} {b : Nat → Nat} {n : Nat} (s : Inp h z av b n) : ∀ i, i < n → b i < 256 := s.2.2.2.2.1
theorem Inp.em {h : cH} {z : cZ} {av : Nat → Nat → Int32} {b : Nat → Nat} {n : Nat} (s : Inp h z av b n) : ∀ i, i < n → av 0 i = nt (b i) := s.2.2.2.2.2
/-- some bytes as one -/
def V (b : Nat → Nat) (p : Nat) : Nat → Nat
  | 0 => 0
  | m + 1 => V b p m * 256 + b (p + m)
theorem V_lt {b : Nat → Nat} {p : Nat} : ∀ m, (∀ i, i < m → b (p + i) < 256) → V b p m < 256 ^ m := by
  intro m
  induction m with
  | zero => intro _; show 0 < 1; omega
  | succ m ih =>
    intro hb
    have h1 := ih fun i hi => hb i (by omega)
    have h2 := hb m (by omega)
    show V b p m * 256 + b (p + m) < 256 ^ (m + 1)
    rw [Nat.pow_succ]; omega
/-- all is well at a place -/
abbrev Gd (pv : Nat → Int32) (iv : Nat → Int32) (p : Nat) (e : Nat) : Prop := (pv 0 = nt p) ∧ (pv 1 = nt e) ∧ (pv 2 = nt 0) ∧ (iv 2 = nt p) ∧ (iv 3 = nt e) ∧ (iv 4 = nt 0) ∧ (iv 5 = nt 0) ∧ (p ≤ e)
theorem Gd.c0 {pv : Nat → Int32} {iv : Nat → Int32} {p : Nat} {e : Nat} (s : Gd pv iv p e) : pv 0 = nt p := s.1
theorem Gd.c1 {pv : Nat → Int32} {iv : Nat → Int32} {p : Nat} {e : Nat} (s : Gd pv iv p e) : pv 1 = nt e := s.2.1
theorem Gd.c2 {pv : Nat → Int32} {iv : Nat → Int32} {p : Nat} {e : Nat} (s : Gd pv iv p e) : pv 2 = nt 0 := s.2.2.1
theorem Gd.m2 {pv : Nat → Int32} {iv : Nat → Int32} {p : Nat} {e : Nat} (s : Gd pv iv p e) : iv 2 = nt p := s.2.2.2.1
theorem Gd.m3 {pv : Nat → Int32} {iv : Nat → Int32} {p : Nat} {e : Nat} (s : Gd pv iv p e) : iv 3 = nt e := s.2.2.2.2.1
theorem Gd.m4 {pv : Nat → Int32} {iv : Nat → Int32} {p : Nat} {e : Nat} (s : Gd pv iv p e) : iv 4 = nt 0 := s.2.2.2.2.2.1
theorem Gd.m5 {pv : Nat → Int32} {iv : Nat → Int32} {p : Nat} {e : Nat} (s : Gd pv iv p e) : iv 5 = nt 0 := s.2.2.2.2.2.2.1
theorem Gd.le {pv : Nat → Int32} {iv : Nat → Int32} {p : Nat} {e : Nat} (s : Gd pv iv p e) : p ≤ e := s.2.2.2.2.2.2.2
/-- a fault was told -/
def Bad (pv iv : Nat → Int32) : Prop := ∃ k q, 1 ≤ k ∧ k ≤ 11 ∧ q ≤ 12000 ∧ pv 2 = nt (k + 16 * q) ∧ iv 4 = nt k ∧ iv 5 = nt q
theorem Bad.c {pv iv} (b : Bad pv iv) : ¬ pv 2 = 0 := by
  obtain ⟨k, q, h1, h2, h3, e, _⟩ := b
  rw [e, show (0 : Int32) = nt 0 from rfl, nt_eq (by omega) (by omega)]; omega
theorem Bad.m {pv iv} (b : Bad pv iv) : ¬ iv 4 ≤ 0 := by
  obtain ⟨k, q, h1, h2, h3, _, e, _⟩ := b
  rw [e, nt_pos (by omega)]; omega
theorem Bad.m' {pv iv} (b : Bad pv iv) : ¬ iv 4 = 0 := by
  obtain ⟨k, q, h1, h2, h3, _, e, _⟩ := b
  rw [e, show (0 : Int32) = nt 0 from rfl, nt_eq (by omega) (by omega)]; omega
theorem Bad.mk' {pv iv} {k q : Nat} (h1 : 1 ≤ k) (h2 : k ≤ 11) (h3 : q ≤ 12000) : Bad (upd pv 2 (nt (k + 16 * q))) (upd (upd iv 4 (nt k)) 5 (nt q)) :=
  ⟨k, q, h1, h2, h3, upd_s, by rw [upd_n (by decide), upd_s], upd_s⟩
theorem Bad.eq {pv iv pv' iv'} (b : Bad pv iv) (e : pv' 2 = pv 2) (e4 : iv' 4 = iv 4) (e5 : iv' 5 = iv 5) : Bad pv' iv' := by
  obtain ⟨k, q, h1, h2, h3, a, b, c⟩ := b
  exact ⟨k, q, h1, h2, h3, e.trans a, e4.trans b, e5.trans c⟩
/-- what the reading of bytes leaves as it was -/
def FI (iv iv' : Nat → Int32) : Prop := ∀ k, k ≠ 2 → k ≠ 4 → k ≠ 5 → iv' k = iv k
theorem FI.refl (iv : Nat → Int32) : FI iv iv := fun _ _ _ _ => rfl
theorem FI.trans {a b c : Nat → Int32} (p : FI a b) (q : FI b c) : FI a c := fun k h1 h2 h3 => (q k h1 h2 h3).trans (p k h1 h2 h3)
theorem FI.p {iv : Nat → Int32} {x : Int32} : FI iv (upd iv 2 x) := fun k h _ _ => upd_n h
theorem FI.f {iv : Nat → Int32} {x y : Int32} : FI iv (upd (upd iv 4 x) 5 y) := fun k _ h h' => by rw [upd_n h', upd_n h]
theorem x_1 {h z} {pv : Nat → Int32} {k q : Int32} : fP_expect h z pv 1 k q = some (z, pv) := rfl
theorem x_B {h z} {pv : Nat → Int32} {s k q : Int32} (b : ¬ pv 2 = 0) : fP_expect h z pv s k q = some (z, pv) := by
  unfold fP_expect
  by_cases q : s = 0
  · rw [if_pos q, if_neg b]
  · rw [if_neg q]
theorem x_0 {h z} {pv : Nat → Int32} {k q : Nat} (b : pv 2 = nt 0) : fP_expect h z pv 0 (nt k) (nt q) = some (z, upd pv 2 (nt (k + 16 * q))) := by
  unfold fP_expect
  rw [if_pos rfl, if_pos (show pv 2 = 0 from b), show (16 : Int32) = nt 16 from rfl, nt_mul, nt_add]
theorem f_B {iv : Nat → Int32} {av : Nat → Nat → Int32} {k q : Int32} (b : ¬ iv 4 ≤ 0) : fM_fail iv av k q = some (iv, av) := by
  unfold fM_fail; rw [if_neg b]
theorem f_0 {iv : Nat → Int32} {av : Nat → Nat → Int32} {k q : Int32} (b : iv 4 = nt 0) : fM_fail iv av k q = some (upd (upd iv 4 k) 5 q, av) := by
  unfold fM_fail; rw [b, if_pos (by decide)]
theorem or_mul {v c : Nat} (k : Nat) (h : c < 2 ^ k) : v * 2 ^ k ||| c = v * 2 ^ k + c := by
  have := Nat.shiftLeft_add_eq_or_of_lt h v
  rw [Nat.shiftLeft_eq] at this; exact this.symm
theorem at_I {h z av b n} (I : Inp h z av b n) {i : Nat} (hi : i < n) : fB0_at h z (nt i) = some (nt (b i), z) := by
  have := I.mx
  rw [at0 I.c (by omega) I.cap hi, I.eq i hi]
theorem l_fix {h z av b n} (I : Inp h z av b n) {p M : Nat} (hM : M ≤ 4) (hp : p + M ≤ n) : ∀ m fuel fuel' i (pv iv : Nat → Int32), i + m = M → m < fuel → m < fuel' → pv 0 = nt (p + i) → iv 2 = nt p →
    lP_fixed_43 h fuel z pv (nt M) (mt (V b p i)) (nt i) = some (mt (V b p M), z, upd pv 0 (nt (p + M))) ∧ lM_taken_43 fuel' iv av (nt M) (mt (V b p i)) (nt i) = some (mt (V b p M), upd iv 2 (nt (p + M)), av) := by
  have hn := I.mx
  intro m
  induction m with
  | zero =>
    intro fuel fuel' i pv iv hi hf hf' c0 m2
    obtain ⟨f, rfl⟩ : ∃ f, fuel = f + 1 := ⟨fuel - 1, by omega⟩
    obtain ⟨f', rfl⟩ : ∃ f, fuel' = f + 1 := ⟨fuel' - 1, by omega⟩
    obtain rfl : i = M := by omega
    have q : nt i ≤ nt i := by rw [nt_le (by omega) (by omega)]; omega
    constructor
    · rw [lP_fixed_43]; dsimp only
      rw [if_pos q, upd_self c0]
    · rw [lM_taken_43]; dsimp only
      rw [if_pos q, m2, nt_add]
  | succ m ih =>
    intro fuel fuel' i pv iv hi hf hf' c0 m2
    obtain ⟨f, rfl⟩ : ∃ f, fuel = f + 1 := ⟨fuel - 1, by omega⟩
    obtain ⟨f', rfl⟩ : ∃ f, fuel' = f + 1 := ⟨fuel' - 1, by omega⟩
    have hb := I.lt (p + i) (by omega)
    have q : ¬ nt M ≤ nt i := by rw [nt_le (by omega) (by omega)]; omega
    constructor
    · rw [lP_fixed_43]; dsimp only
      rw [if_neg q, c0, at_I I (by omega), bind_s]; dsimp only
      have e : (mt (V b p i) <<< ((8 : Int32).toInt64 &&& 63)) ||| (nt (b (p + i))).toInt64 = mt (V b p (i + 1)) := by
        rw [show ((8 : Int32).toInt64 &&& 63) = mt 8 from by decide, mt_shl (by omega), nt_64 (by omega), mt_or, or_mul 8 hb]; rfl
      rw [e, show (1 : Int32) = nt 1 from rfl, nt_add, nt_add]
      rw [(ih f f' (i + 1) (upd pv 0 (nt (p + i + 1))) iv (by omega) (by omega) (by omega) (by rw [upd_s, Nat.add_assoc]) m2).1, upd_upd]
    · rw [lM_taken_43]; dsimp only
      rw [if_neg q, m2, nt_add, if_neg (ixN (by omega) (by omega)), nt_cl (by omega), I.em _ (by omega)]
      have e : (256 : Int64) * mt (V b p i) + (nt (b (p + i))).toInt64 = mt (V b p (i + 1)) := by
        rw [lit6 256, mt_mul, nt_64 (by omega), mt_add, Nat.mul_comm]; rfl
      rw [e, show (1 : Int32) = nt 1 from rfl, nt_add]
      exact (ih f f' (i + 1) (upd pv 0 (nt (p + i + 1))) iv (by omega) (by omega) (by omega) (by rw [upd_s, Nat.add_assoc]) m2).2
theorem j_fix {h z av b n} (I : Inp h z av b n) {pv iv : Nat → Int32} {p e m : Nat} (g : Gd pv iv p e) (he : e ≤ n) (hm : m ≤ 4) :
    (p + m ≤ e ∧ fP_fixed h z pv (nt m) = some (mt (V b p m), z, upd pv 0 (nt (p + m))) ∧ fM_taken iv av (nt m) = some (mt (V b p m), upd iv 2 (nt (p + m)), av)) ∨
    (e < p + m ∧ fP_fixed h z pv (nt m) = some (-1, z, upd pv 2 (nt (1 + 16 * e))) ∧ fM_taken iv av (nt m) = some (0, upd (upd iv 4 (nt 1)) 5 (nt e), av)) := by
  have hn := I.mx
  have hpe := g.le
  unfold fP_fixed fM_taken jP_fixed_19 jM_taken_29
  rw [g.c0, g.c1, nt_sub hpe, g.m2, g.m3, g.m4, nt_add, if_pos (show nt 0 = 0 from rfl), if_pos (show nt 0 ≤ 0 by decide)]
  by_cases q : p + m ≤ e
  · left
    obtain ⟨a, b'⟩ := l_fix I hm (by omega : p + m ≤ n) m FU FU 0 pv iv (by omega) (FUn (by omega)) (FUn (by omega)) g.c0 g.m2
    refine ⟨q, ?_, ?_⟩
    · rw [if_neg (by rw [nt_lt (by omega) (by omega)]; omega), x_1, bind_s]; dsimp only
      rw [if_pos (show pv 2 = 0 from g.c2)]; exact a
    · rw [if_pos (by rw [nt_le (by omega) (by omega)]; exact q)]; exact b'
  · right
    refine ⟨by omega, ?_, ?_⟩
    · rw [if_pos (by rw [nt_lt (by omega) (by omega)]; omega), show (1 : Int32) = nt 1 from rfl, x_0 g.c2, bind_s]; dsimp only
      rw [upd_s, if_neg (by rw [show (0 : Int32) = nt 0 from rfl, nt_eq (by omega) (by omega)]; omega)]
    · rw [if_neg (by rw [nt_le (by omega) (by omega)]; exact q), f_0 g.m4, bind_s]; dsimp only
      rw [upd_n (by decide), upd_s, if_neg (by decide)]; rfl
theorem c_fixB {h z} {pv : Nat → Int32} {x : Int32} (b : ¬ pv 2 = 0) : fP_fixed h z pv x = some (-1, z, pv) := by
  unfold fP_fixed jP_fixed_19
  rw [x_B b, x_B b, bind_s]; dsimp only
  rw [if_neg b]; split <;> rfl
theorem m_takB {iv : Nat → Int32} {av : Nat → Nat → Int32} {x : Int32} (b : ¬ iv 4 ≤ 0) (b' : ¬ iv 4 = 0) : fM_taken iv av x = some (0, iv, av) := by
  unfold fM_taken jM_taken_29
  rw [if_neg b', if_neg b]
theorem Gd.adv {pv iv p e p'} (g : Gd pv iv p e) (h : p' ≤ e) : Gd (upd pv 0 (nt p')) (upd iv 2 (nt p')) p' e :=
  ⟨upd_s, (upd_n (by decide)).trans g.c1, (upd_n (by decide)).trans g.c2, upd_s, (upd_n (by decide)).trans g.m3, (upd_n (by decide)).trans g.m4, (upd_n (by decide)).trans g.m5, h⟩
theorem Gd.c {pv iv p e pv'} (g : Gd pv iv p e) (h : ∀ k, k < 3 → pv' k = pv k) : Gd pv' iv p e :=
  ⟨(h 0 (by omega)).trans g.c0, (h 1 (by omega)).trans g.c1, (h 2 (by omega)).trans g.c2, g.m2, g.m3, g.m4, g.m5, g.le⟩
theorem Gd.m {pv iv p e iv'} (g : Gd pv iv p e) (h : ∀ k, 2 ≤ k → k < 6 → iv' k = iv k) : Gd pv iv' p e :=
  ⟨g.c0, g.c1, g.c2, (h 2 (by omega) (by omega)).trans g.m2, (h 3 (by omega) (by omega)).trans g.m3, (h 4 (by omega) (by omega)).trans g.m4, (h 5 (by omega) (by omega)).trans g.m5, g.le⟩
theorem V1 {b : Nat → Nat} {p : Nat} : V b p 1 = b p := by show 0 * 256 + b (p + 0) = b p; rw [Nat.zero_mul, Nat.zero_add, Nat.add_zero]
theorem l_num {h z av b n} (I : Inp h z av b n) {e : Nat} (he : e ≤ n) {p0 : Nat} (hp0 : p0 ≤ e) : ∀ m fuel fuel' i v p (pv iv : Nat → Int32), i + m = 4 → m < fuel → m < fuel' → Gd pv iv p e → p0 ≤ p → (0 < i → p0 < p) → v < 2 ^ (7 * i) →
    (∃ v' p', p0 < p' ∧ p' ≤ e ∧ v' < 268435456 ∧ lP_number_9 h fuel z pv (nt p0) (nt v) (nt i) = some (nt v', z, upd pv 0 (nt p')) ∧ lM_number_9 fuel' iv av (nt p0) (nt v) (nt i) = some (nt v', upd iv 2 (nt p'), av)) ∨
    (∃ r r' pv' iv', lP_number_9 h fuel z pv (nt p0) (nt v) (nt i) = some (r, z, pv') ∧ lM_number_9 fuel' iv av (nt p0) (nt v) (nt i) = some (r', iv', av) ∧ Bad pv' iv' ∧ FI iv iv') := by
  have hn := I.mx
  intro m
  induction m with
  | zero =>
    intro fuel fuel' i v p pv iv hi hf hf' g hp hp1 hv
    obtain ⟨f, rfl⟩ : ∃ f, fuel = f + 1 := ⟨fuel - 1, by omega⟩
    obtain ⟨f', rfl⟩ : ∃ f, fuel' = f + 1 := ⟨fuel' - 1, by omega⟩
    obtain rfl : i = 4 := by omega
    right
    refine ⟨0, 0, upd pv 2 (nt (4 + 16 * p0)), upd (upd iv 4 (nt 4)) 5 (nt p0), ?_, ?_, Bad.mk' (by omega) (by omega) (by omega), FI.f⟩
    · rw [lP_number_9]; dsimp only
      rw [if_pos (by decide), show (4 : Int32) = nt 4 from rfl, x_0 g.c2]; rfl
    · rw [lM_number_9]; dsimp only
      rw [if_pos (by decide)]; unfold jM_number_56
      rw [f_0 g.m4]; rfl
  | succ m ih =>
    intro fuel fuel' i v p pv iv hi hf hf' g hp hp1 hv
    obtain ⟨f, rfl⟩ : ∃ f, fuel = f + 1 := ⟨fuel - 1, by omega⟩
    obtain ⟨f', rfl⟩ : ∃ f, fuel' = f + 1 := ⟨fuel' - 1, by omega⟩
    have hge := g.le
    have q4 : ¬ (4 : Int32) ≤ nt i := by rw [show (4 : Int32) = nt 4 from rfl, nt_le (by omega) (by omega)]; omega
    have g4 : iv 4 = 0 := g.m4
    rw [lP_number_9, lM_number_9]; dsimp only
    rw [if_neg q4, if_neg q4, if_pos g4, show (1 : Int32) = nt 1 from rfl]
    have hv28 : v < 2 ^ 21 := Nat.lt_of_lt_of_le hv (Nat.pow_le_pow_right (by omega) (by omega))
    rcases j_fix I g he (show 1 ≤ 4 by omega) with ⟨w, a, b'⟩ | ⟨w, a, b'⟩
    · have hb := I.lt p (by omega)
      rw [a, b', bind_s, bind_s, V1]; dsimp only
      have g' := g.adv (p' := p + 1) w
      rw [if_pos (show upd pv 0 (nt (p + 1)) 2 = 0 from g'.c2), mt_32, show (7 : Int32) &&& 31 = nt 7 from by decide, s_l7, show (127 : Int32) = nt 127 from rfl, a127, nt_or, or_mul 7 (show b p % 128 < 2 ^ 7 by omega), show (2 : Nat) ^ 7 = 128 from rfl, nt_add]
      have hv' : v * 128 + b p % 128 < 2 ^ (7 * (i + 1)) := by
        rw [show 7 * (i + 1) = 7 * i + 7 by omega, Nat.pow_add]; omega
      by_cases q : 128 ≤ b p
      · have q' : (128 : Int32) ≤ nt (b p) := by rw [show (128 : Int32) = nt 128 from rfl, nt_le (by omega) (by omega)]; exact q
        rw [if_pos q', if_pos q']
        rcases ih f f' (i + 1) (v * 128 + b p % 128) (p + 1) _ _ (by omega) (by omega) (by omega) g' (by omega) (fun _ => by omega) hv' with ⟨v', p', h1, h2, h3, a2, b2⟩ | ⟨r, r', pv', iv', a2, b2, c2, d2⟩
        · exact .inl ⟨v', p', h1, h2, h3, by rw [a2, upd_upd], by rw [b2, upd_upd]⟩
        · exact .inr ⟨r, r', pv', iv', a2, b2, c2, FI.p.trans d2⟩
      · have q' : ¬ (128 : Int32) ≤ nt (b p) := by rw [show (128 : Int32) = nt 128 from rfl, nt_le (by omega) (by omega)]; exact q
        rw [if_neg q', if_neg q']
        exact .inl ⟨_, p + 1, by omega, w, by omega, rfl, rfl⟩
    · right
      rw [a, b', bind_s, bind_s]; dsimp only
      have B : Bad (upd pv 2 (nt (1 + 16 * e))) (upd (upd iv 4 (nt 1)) 5 (nt e)) := Bad.mk' (by omega) (by omega) (by omega)
      rw [if_neg B.c, if_neg (show ¬ (128 : Int32) ≤ (0 : Int64).toInt32 by decide)]
      exact ⟨_, _, _, _, rfl, rfl, B, FI.f⟩
theorem j_num {h z av b n} (I : Inp h z av b n) {pv iv : Nat → Int32} {p e : Nat} (g : Gd pv iv p e) (he : e ≤ n) :
    (∃ v p', p < p' ∧ p' ≤ e ∧ v < 268435456 ∧ fP_number h z pv = some (nt v, z, upd pv 0 (nt p')) ∧ fM_number iv av = some (nt v, upd iv 2 (nt p'), av)) ∨
    (∃ r r' pv' iv', fP_number h z pv = some (r, z, pv') ∧ fM_number iv av = some (r', iv', av) ∧ Bad pv' iv' ∧ FI iv iv') := by
  unfold fP_number fM_number
  rw [g.c0, g.m2]
  exact l_num I he g.le 4 FU FU 0 0 p pv iv (by omega) (FUn (by omega)) (FUn (by omega)) g (by omega) (fun h => absurd h (by omega)) (by decide)
theorem c_numB {h z} {pv : Nat → Int32} (b : ¬ pv 2 = 0) : fP_number h z pv = some (0, z, pv) := by
  obtain ⟨f, hf⟩ : ∃ f, FU = f + 1 := ⟨FU - 1, by have := FUn (n := 10) (by omega); omega⟩
  unfold fP_number
  rw [hf, lP_number_9]; dsimp only
  rw [if_neg (by decide), c_fixB b, bind_s]; dsimp only
  rw [if_neg b]
theorem m_numB {iv : Nat → Int32} {av : Nat → Nat → Int32} (b : ¬ iv 4 ≤ 0) (b' : ¬ iv 4 = 0) : fM_number iv av = some (0, iv, av) := by
  obtain ⟨f, hf⟩ : ∃ f, FU = f + 1 := ⟨FU - 1, by have := FUn (n := 10) (by omega); omega⟩
  unfold fM_number
  rw [hf, lM_number_9]; dsimp only
  rw [if_neg (by decide), if_neg b']; unfold jM_number_56
  rw [f_B b]; rfl
theorem j_low {h z av b n} (I : Inp h z av b n) {pv iv : Nat → Int32} {p e : Nat} (g : Gd pv iv p e) (he : e ≤ n) :
    (∃ c, c < 128 ∧ p + 1 ≤ e ∧ fP_lowByte h z pv = some (nt c, z, upd pv 0 (nt (p + 1))) ∧ fM_small iv av = some (nt c, upd iv 2 (nt (p + 1)), av)) ∨
    (∃ r r' pv' iv', fP_lowByte h z pv = some (r, z, pv') ∧ fM_small iv av = some (r', iv', av) ∧ Bad pv' iv' ∧ FI iv iv') := by
  have hn := I.mx
  have hge := g.le
  unfold fP_lowByte fM_small jP_lowByte_25
  rw [show (1 : Int32) = nt 1 from rfl]
  rcases j_fix I g he (show 1 ≤ 4 by omega) with ⟨w, a, b'⟩ | ⟨w, a, b'⟩
  · have hb := I.lt p (by omega)
    have g' := g.adv (p' := p + 1) w
    rw [a, b', bind_s, bind_s, V1]; dsimp only
    rw [mt_32, g.c0, g.m2]
    by_cases q : b p < 128
    · left
      rw [if_neg (by rw [show (128 : Int32) = nt 128 from rfl, nt_le (by omega) (by omega)]; omega), if_pos (by rw [show (127 : Int32) = nt 127 from rfl, nt_le (by omega) (by omega)]; omega)]
      exact ⟨b p, q, w, rfl, rfl⟩
    · right
      rw [if_pos (by rw [show (128 : Int32) = nt 128 from rfl, nt_le (by omega) (by omega)]; omega), if_neg (by rw [show (127 : Int32) = nt 127 from rfl, nt_le (by omega) (by omega)]; omega), show (6 : Int32) = nt 6 from rfl, x_0 g'.c2, f_0 g'.m4]
      exact ⟨_, _, _, _, rfl, rfl, Bad.mk' (by omega) (by omega) (by omega), FI.p.trans FI.f⟩
  · right
    have B : Bad (upd pv 2 (nt (1 + 16 * e))) (upd (upd iv 4 (nt 1)) 5 (nt e)) := Bad.mk' (by omega) (by omega) (by omega)
    rw [a, b', bind_s, bind_s]; dsimp only
    rw [if_neg (show ¬ (128 : Int32) ≤ (-1 : Int64).toInt32 by decide), if_pos (show (0 : Int64).toInt32 ≤ 127 by decide)]
    exact ⟨_, _, _, _, rfl, rfl, B, FI.f⟩
theorem c_lowB {h z} {pv : Nat → Int32} (b : ¬ pv 2 = 0) : ∃ r, fP_lowByte h z pv = some (r, z, pv) := by
  unfold fP_lowByte jP_lowByte_25
  rw [c_fixB b, bind_s]; dsimp only
  rw [x_B b, x_B b]
  exact ⟨_, by split <;> rfl⟩
theorem m_lowB {iv : Nat → Int32} {av : Nat → Nat → Int32} (b : ¬ iv 4 ≤ 0) (b' : ¬ iv 4 = 0) : fM_small iv av = some (0, iv, av) := by
  unfold fM_small
  rw [m_takB b b', bind_s]; dsimp only
  rw [if_pos (show (0 : Int64).toInt32 ≤ 127 by decide)]; rfl
