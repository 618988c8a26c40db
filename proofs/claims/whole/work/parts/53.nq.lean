/-- what the arrays keep while an event is read -/
def EQ (av av' : Nat → Nat → Int32) (ne nd : Nat) : Prop :=
  (∀ a, (a = 0 ∨ a = 8 ∨ a = 9 ∨ a = 11) → av' a = av a) ∧ (∀ a, 1 ≤ a → a ≤ 7 → ∀ j, j ≠ ne → av' a j = av a j) ∧ (∀ i, i < nd → av' 10 i = av 10 i)
theorem EQ.refl (av : Nat → Nat → Int32) (ne nd : Nat) : EQ av av ne nd := ⟨fun _ _ => rfl, fun _ _ _ _ _ => rfl, fun _ _ => rfl⟩
theorem EQ.trans {a b c : Nat → Nat → Int32} {ne nd : Nat} (p : EQ a b ne nd) (q : EQ b c ne nd) : EQ a c ne nd :=
  ⟨fun k hk => (q.1 k hk).trans (p.1 k hk), fun k h1 h2 j hj => (q.2.1 k h1 h2 j hj).trans (p.2.1 k h1 h2 j hj), fun i hi => (q.2.2 i hi).trans (p.2.2 i hi)⟩
theorem EQ.u {av : Nat → Nat → Int32} {ne nd k : Nat} {x : Int32} (h1 : 1 ≤ k) (h2 : k ≤ 7) : EQ av (up2 av k ne x) ne nd :=
  ⟨fun a ha => up2_o (by omega), fun a q1 q2 j hj => by
    by_cases q : a = k
    · subst q; exact up2_n hj
    · rw [up2_o q], fun i hi => by rw [up2_o (by omega)]⟩
theorem Inp.eq' {h z av av' b n} (I : Inp h z av b n) {ne nd : Nat} (q : EQ av av' ne nd) : Inp h z av' b n := ⟨I.cap, I.mx, I.c, I.eq, I.lt, fun i hi => by rw [q.1 0 (.inl rfl)]; exact I.em i hi⟩
section
variable {iv : Nat → Int32} {av : Nat → Nat → Int32} {ne nd : Nat}
theorem m_followB {x1 x2 : Int32} (b : ¬ iv 4 ≤ 0) (b' : ¬ iv 4 = 0) : fM_follow iv av x1 x2 = some (iv, av) := by
  unfold fM_follow jM_follow_36 jM_follow_62 jM_follow_92
  rw [m_numB b b', bind_s]; dsimp only
  rw [if_neg b', if_neg b', if_neg b', if_neg b]
theorem m_e121B {x1 x2 x3 x4 x5 : Int32} (b : ¬ iv 4 ≤ 0) : jM_eventIn_121 iv av x1 x2 x3 x4 x5 = some (0, iv, av) := by
  unfold jM_eventIn_121; rw [if_neg b]
theorem m_e70B {x1 x2 x3 x4 s2 : Int32} (hne : ne < 1001) (b : ¬ iv 4 ≤ 0) (b' : ¬ iv 4 = 0) : ∃ av', jM_eventIn_70 iv av x1 x2 x3 x4 (nt ne) (nt ne) s2 = some (0, iv, av') ∧ EQ av av' ne nd := by
  unfold jM_eventIn_70 jM_eventIn_118
  rw [if_neg (ixN hne (by omega)), if_neg (ixN hne (by omega)), if_neg (ixN hne (by omega)), if_neg (ixN hne (by omega)), nt_cl (by omega), m_followB b b', m_followB b b', bind_s]
  dsimp only
  rw [m_e121B b]
  refine ⟨_, ?_, ((EQ.u (k := 5) (x := s2) (by omega) (by omega)).trans (EQ.u (k := 7) (x := -1) (by omega) (by omega))).trans (EQ.u (k := 6) (x := iv 11) (by omega) (by omega))⟩
  split
  · rfl
  split <;> rfl
theorem m_e34B {x1 x2 x3 x4 s2 : Int32} (hne : ne < 1001) (b : ¬ iv 4 ≤ 0) (b' : ¬ iv 4 = 0) : ∃ av', jM_eventIn_34 iv av x1 x2 x3 x4 (nt ne) (nt ne) s2 = some (0, iv, av') ∧ EQ av av' ne nd := by
  unfold jM_eventIn_34 jM_eventIn_62 jM_eventIn_69
  rw [if_neg (ixN hne (by omega)), nt_cl (by omega), m_lowB b b', bind_s]; dsimp only
  obtain ⟨a1, e1, q1⟩ := m_e70B (av := up2 av 4 ne s2) (nd := nd) (x1 := x1) (x2 := x2) (x3 := x3) (x4 := x4) (s2 := 0) hne b b'
  obtain ⟨a2, e2, q2⟩ := m_e70B (av := up2 av 4 ne s2) (nd := nd) (x1 := x1) (x2 := x2) (x3 := x3) (x4 := x4) (s2 := -1) hne b b'
  have u := EQ.u (av := av) (ne := ne) (nd := nd) (k := 4) (x := s2) (by omega) (by omega)
  split
  · exact ⟨a1, e1, u.trans q1⟩
  split
  · exact ⟨a2, e2, u.trans q2⟩
  split
  · exact ⟨a2, e2, u.trans q2⟩
  · exact ⟨a1, e1, u.trans q1⟩
end
/-- the data of an event are copied -/
theorem l_cop {h z b n} {iv : Nat → Int32} {x1 x2 x3 : Int32} {p c nd : Nat} (hp : p + c ≤ n) (hd : nd ≤ 8000) (e2 : iv 2 = nt p) (e11 : iv 11 = nt nd) : ∀ m fuel i (av : Nat → Nat → Int32), Inp h z av b n → i + m = c → m < fuel → (∀ t, t < i → av 10 (nd + t) = nt (b (p + t))) →
    ∃ av', lM_follow_116 fuel iv av x1 x2 x3 (nt c) (nt i) = (if x2 = (81 : Int32) then ((fM_tempo (upd iv 2 (nt (p + c))) av' x1).bind fun (r3, iv3, av3) => if r3 = 0 then ((fM_fail iv3 av3 (8 : Int32) x3).bind fun (iv5, av5) => some (iv5, av5)) else (some (iv3, av3))) else (some (upd iv 2 (nt (p + c)), av'))) ∧ (∀ a, a ≠ 10 → av' a = av a) ∧ (∀ j, j < nd → av' 10 j = av 10 j) ∧ (∀ t, t < c → av' 10 (nd + t) = nt (b (p + t))) := by
  intro m
  induction m with
  | zero =>
    intro fuel i av I hi hf hc
    have := I.mx
    obtain ⟨f, rfl⟩ : ∃ f, fuel = f + 1 := ⟨fuel - 1, by omega⟩
    obtain rfl : i = c := by omega
    refine ⟨av, ?_, fun _ _ => rfl, fun _ _ => rfl, hc⟩
    rw [lM_follow_116]; dsimp only
    rw [if_pos (by rw [nt_le (by omega) (by omega)]; omega), e2, nt_add]
  | succ m ih =>
    intro fuel i av I hi hf hc
    have := I.mx
    obtain ⟨f, rfl⟩ : ∃ f, fuel = f + 1 := ⟨fuel - 1, by omega⟩
    obtain ⟨av', a, q1, q2, q3⟩ := ih f (i + 1) (up2 av 10 (nd + i) (nt (b (p + i)))) ⟨I.cap, I.mx, I.c, I.eq, I.lt, fun j hj => by rw [up2_o (by decide)]; exact I.em j hj⟩ (by omega) (by omega) (fun t ht => by
      by_cases q : t = i
      · subst q; exact up2_s
      · rw [up2_n (by omega)]; exact hc t (by omega))
    refine ⟨av', ?_, fun k hk => (q1 k hk).trans (up2_o hk), fun j hj => (q2 j hj).trans (up2_n (by omega)), q3⟩
    rw [lM_follow_116]; dsimp only
    rw [if_neg (by rw [nt_le (by omega) (by omega)]; omega), e2, e11, nt_add, nt_add, if_neg (ixN (by omega) (by omega)), if_neg (ixN (by omega) (by omega)), nt_cl (by omega), nt_cl (by omega), I.em _ (by omega), show (1 : Int32) = nt 1 from rfl, nt_add]
    exact a
theorem c_passB {h z} {pv : Nat → Int32} (b : ¬ pv 2 = 0) : ∃ pv', fP_passData h z pv = some (z, pv') ∧ pv' 2 = pv 2 := by
  have e : ∀ s, jP_passData_22 h z pv s = some (z, upd pv 9 (pv 0)) := by
    intro s
    unfold jP_passData_22
    rw [x_B b, bind_s]; dsimp only
    rw [upd_n (by decide), if_neg b]
  unfold fP_passData
  rw [e, e]
  exact ⟨upd pv 9 (pv 0), by split <;> rfl, upd_n (by decide)⟩
theorem c_pass {h z} {pv iv : Nat → Int32} {p e c : Nat} (g : Gd pv iv p e) (he : e ≤ 12000) (hc : c < 268435456) (e10 : pv 10 = nt c) :
    (p + c ≤ e ∧ fP_passData h z pv = some (z, upd (upd pv 9 (nt p)) 0 (nt (p + c)))) ∨ (e < p + c ∧ fP_passData h z pv = some (z, upd (upd pv 2 (nt (1 + 16 * e))) 9 (nt p))) := by
  have hle := g.le
  unfold fP_passData jP_passData_22
  rw [g.c0, g.c1, nt_sub hle, e10]
  by_cases q : p + c ≤ e
  · left; refine ⟨q, ?_⟩
    rw [if_neg (by rw [nt_lt (by omega) (by omega)]; omega), x_1, bind_s]; dsimp only
    rw [upd_n (by decide), if_pos (show pv 2 = 0 from g.c2), upd_n (by decide), upd_n (by decide), e10, g.c0, nt_add]
  · right; refine ⟨by omega, ?_⟩
    rw [if_pos (by rw [nt_lt (by omega) (by omega)]; omega), show (1 : Int32) = nt 1 from rfl, x_0 g.c2, bind_s]; dsimp only
    rw [upd_n (by decide), upd_s, if_neg (by rw [show (0 : Int32) = nt 0 from rfl, nt_eq (by omega) (by omega)]; omega), upd_n (by decide), g.c0]
/-- the arrays behind the bytes of an event -/
def AvF (av av' : Nat → Nat → Int32) (ne nd c p : Nat) (b : Nat → Nat) : Prop :=
  (∀ a, a ≠ 7 → a ≠ 10 → av' a = av a) ∧ (∀ j, j ≠ ne → av' 7 j = av 7 j) ∧ av' 7 ne = nt c ∧ (∀ j, j < nd → av' 10 j = av 10 j) ∧ (∀ t, t < c → av' 10 (nd + t) = nt (b (p + t)))
theorem AvF.eq {av av' : Nat → Nat → Int32} {ne nd c p : Nat} {b : Nat → Nat} (f : AvF av av' ne nd c p b) : EQ av av' ne nd :=
  ⟨fun a ha => f.1 a (by omega) (by omega), fun a h1 h2 j hj => by
    by_cases q : a = 7
    · subst q; exact f.2.1 j hj
    · rw [f.1 a q (by omega)], f.2.2.2.1⟩
theorem m_f62 {h z av b n} (I : Inp h z av b n) {iv : Nat → Int32} {x2 : Int32} {p e c ne nd : Nat} (he : e ≤ n) (hne : ne < 1001) (hd : nd ≤ 8000) (hc : c < 268435456) (e2 : iv 2 = nt p) (e3 : iv 3 = nt e) (e4 : iv 4 = nt 0) (e11 : iv 11 = nt nd) (hp : p + c ≤ e) :
    ∃ av', jM_follow_62 iv av (nt ne) x2 (nt c) = (if x2 = (81 : Int32) then ((fM_tempo (upd iv 2 (nt (p + c))) av' (nt ne)).bind fun (r3, iv3, av3) => if r3 = 0 then ((fM_fail iv3 av3 (8 : Int32) (nt p)).bind fun (iv5, av5) => some (iv5, av5)) else (some (iv3, av3))) else (some (upd iv 2 (nt (p + c)), av'))) ∧ AvF av av' ne nd c p b := by
  have := I.mx
  obtain ⟨av', a, q1, q2, q3⟩ := l_cop (h := h) (z := z) (b := b) (n := n) (iv := iv) (x1 := nt ne) (x2 := x2) (x3 := nt p) (p := p) (c := c) (nd := nd) (by omega) hd e2 e11 c FU 0 (up2 av 7 ne (nt c)) ⟨I.cap, I.mx, I.c, I.eq, I.lt, fun j hj => by rw [up2_o (by decide)]; exact I.em j hj⟩ (by omega) (FUn (by omega)) (fun t ht => absurd ht (by omega))
  refine ⟨av', ?_, fun k h7 h10 => (q1 k h10).trans (up2_o h7), fun j hj => by rw [q1 7 (by decide), up2_n hj], by rw [q1 7 (by decide), up2_s], fun j hj => (q2 j hj).trans (by rw [up2_o (by decide)]), q3⟩
  unfold jM_follow_62 jM_follow_92
  rw [if_pos (show iv 4 = 0 from e4), e2, e3, nt_add, if_pos (by rw [nt_le (by omega) (by omega)]; exact hp), e4, if_pos (by decide), if_neg (ixN hne (by omega)), nt_cl (by omega)]
  exact a
theorem m_f62X {iv : Nat → Int32} {av : Nat → Nat → Int32} {x1 x2 : Int32} {p e c : Nat} (he : e ≤ 12000) (hp' : p ≤ e) (hc : c < 268435456) (e2 : iv 2 = nt p) (e3 : iv 3 = nt e) (e4 : iv 4 = nt 0) (hp : e < p + c) :
    jM_follow_62 iv av x1 x2 (nt c) = some (upd (upd iv 4 (nt 1)) 5 (nt e), av) := by
  unfold jM_follow_62 jM_follow_92
  rw [if_pos (show iv 4 = 0 from e4), e2, e3, nt_add, if_neg (by rw [nt_le (by omega) (by omega)]; omega), f_0 e4, bind_s]; dsimp only
  rw [upd_n (by decide), upd_s, if_neg (by decide)]; rfl
/-- a bad end of the reading of an event's body -/
def EB (z : cZ) (iv : Nat → Int32) (av : Nat → Nat → Int32) (ne nd : Nat) (C : Option (cZ × (Nat → Int32))) (M : Option ((Nat → Int32) × (Nat → Nat → Int32))) : Prop :=
  ∃ pv' iv' av', C = some (z, pv') ∧ M = some (iv', av') ∧ Bad pv' iv' ∧ FI iv iv' ∧ EQ av av' ne nd
theorem j_excl {h z av b n} (I : Inp h z av b n) {pv iv : Nat → Int32} {p e ne nd : Nat} (g : Gd pv iv p e) (he : e ≤ n) (hne : ne < 1001) (hd : nd ≤ 8000) (e11 : iv 11 = nt nd) :
    (∃ c p2 av', p < p2 ∧ p2 + c ≤ e ∧ ((fP_number h z pv).bind fun (r1, z1, pv1) => (fP_passData h z1 (upd pv1 10 r1)).bind fun (z2, pv2) => some (z2, pv2)) = some (z, upd (upd (upd (upd pv 0 (nt p2)) 10 (nt c)) 9 (nt p2)) 0 (nt (p2 + c))) ∧ fM_follow iv av (nt ne) (-1) = some (upd iv 2 (nt (p2 + c)), av') ∧ AvF av av' ne nd c p2 b) ∨
    EB z iv av ne nd ((fP_number h z pv).bind fun (r1, z1, pv1) => (fP_passData h z1 (upd pv1 10 r1)).bind fun (z2, pv2) => some (z2, pv2)) (fM_follow iv av (nt ne) (-1)) := by
  have hn := I.mx
  unfold fM_follow jM_follow_36
  rcases j_num I g he with ⟨c, p2, h1, h2, h3, a, b'⟩ | ⟨r, r', pv', iv', a, b', B, F⟩
  · have g' := g.adv (p' := p2) h2
    have g'' : Gd (upd (upd pv 0 (nt p2)) 10 (nt c)) (upd iv 2 (nt p2)) p2 e := g'.c fun k hk => upd_n (by omega)
    rw [a, b', bind_s, bind_s]; dsimp only
    rw [if_pos (show upd iv 2 (nt p2) 4 = 0 from g'.m4), if_neg (by decide), if_pos (show upd iv 2 (nt p2) 4 = 0 from g'.m4), if_neg (by decide)]
    rcases c_pass (h := h) (z := z) g'' (by omega) h3 upd_s with ⟨q, e'⟩ | ⟨q, e'⟩
    · left
      obtain ⟨av', m, f⟩ := m_f62 (x2 := -1) I he hne hd h3 g''.m2 g''.m3 g''.m4 (by rw [upd_n (by decide)]; exact e11) q
      rw [if_neg (by decide), upd_upd] at m
      exact ⟨c, p2, av', h1, q, by rw [e', bind_s], m, f⟩
    · right
      rw [m_f62X (by omega) h2 h3 g''.m2 g''.m3 g''.m4 q, e', bind_s]
      have B : Bad (upd (upd (upd (upd pv 0 (nt p2)) 10 (nt c)) 2 (nt (1 + 16 * e))) 9 (nt p2)) (upd (upd (upd iv 2 (nt p2)) 4 (nt 1)) 5 (nt e)) := (Bad.mk' (pv := upd (upd pv 0 (nt p2)) 10 (nt c)) (iv := upd iv 2 (nt p2)) (k := 1) (q := e) (by omega) (by omega) (by omega)).eq (upd_n (by decide)) rfl rfl
      exact ⟨_, _, _, rfl, rfl, B, FI.p.trans FI.f, EQ.refl _ _ _⟩
  · right
    have Bc : ¬ upd pv' 10 r 2 = 0 := by rw [upd_n (by decide)]; exact B.c
    obtain ⟨pv2, e1, e2⟩ := c_passB (h := h) (z := z) Bc
    rw [a, b', bind_s, bind_s]; dsimp only
    unfold jM_follow_62 jM_follow_92
    rw [e1, bind_s, if_neg B.m', if_neg B.m', if_neg B.m', if_neg B.m]
    exact ⟨_, _, _, rfl, rfl, B.eq (e2.trans (upd_n (by decide))) rfl rfl, F, EQ.refl _ _ _⟩
theorem m_tem {iv : Nat → Int32} {av : Nat → Nat → Int32} {ne nd x y w : Nat} (hne : ne < 1001) (hd : nd ≤ 8000) (e6 : av 6 ne = nt nd) (hx : x < 256) (hy : y < 256) (hw : w < 256) (a0 : av 10 (nd + 0) = nt x) (a1 : av 10 (nd + 1) = nt y) (a2 : av 10 (nd + 2) = nt w) :
    fM_tempo iv av (nt ne) = some (nt (x * 65536 + y * 256 + w), iv, av) := by
  unfold fM_tempo
  rw [if_neg (ixN hne (by omega)), if_neg (ixN hne (by omega)), if_neg (ixN hne (by omega)), nt_cl (by omega), e6, show (1 : Int32) = nt 1 from rfl, show (2 : Int32) = nt 2 from rfl, nt_add, nt_add, if_neg (ixN (by omega) (by omega)), if_neg (ixN (by omega) (by omega)), if_neg (ixN (by omega) (by omega)), nt_cl (by omega), nt_cl (by omega), nt_cl (by omega)]
  rw [Nat.add_zero] at a0
  rw [a0, a1, a2, show (16 : Int32) &&& 31 = nt 16 from by decide, show (8 : Int32) &&& 31 = nt 8 from by decide, s_l16, s_l8, nt_or, nt_or]
  have e1 : x * 65536 ||| y * 256 = x * 65536 + y * 256 := or_mul (v := x) 16 (show y * 256 < 2 ^ 16 by omega)
  have e2 : (x * 65536 + y * 256) ||| w = x * 65536 + y * 256 + w := by
    have := or_mul (v := x * 256 + y) 8 (show w < 2 ^ 8 by omega)
    rw [show (x * 256 + y) * 2 ^ 8 = x * 65536 + y * 256 by omega] at this; exact this
  rw [e1, e2]
/-- a meta event behind its kind: the desk's side -/
def cMeta (h : cH) (z : cZ) (pv : Nat → Int32) : Option (cZ × (Nat → Int32)) := (fP_number h z pv).bind fun (r2, z2, pv2) => if ((upd pv2 10 r2) 7) = (47 : Int32) then (jP_metaEvent_46 h z2 (upd pv2 10 r2) (pv 0) (1 : Int32)) else (jP_metaEvent_46 h z2 (upd pv2 10 r2) (pv 0) (0 : Int32))
theorem c_m98B {h z} {pv : Nat → Int32} {x s : Int32} (b : ¬ pv 2 = 0) : ∃ pv', jP_metaEvent_98 h z pv x s = some (z, pv') ∧ pv' 2 = pv 2 := by
  unfold jP_metaEvent_98
  rw [x_B b, bind_s]; dsimp only
  obtain ⟨pv2, e1, e2⟩ := c_passB (h := h) (z := z) b
  rw [e1, bind_s]; dsimp only
  rw [if_neg (by rw [e2]; exact b)]
  exact ⟨_, rfl, e2⟩
theorem c_m69B {h z} {pv : Nat → Int32} {x s : Int32} (b : ¬ pv 2 = 0) : ∃ pv', jP_metaEvent_69 h z pv x s = some (z, pv') ∧ pv' 2 = pv 2 := by
  unfold jP_metaEvent_69 jP_metaEvent_93
  rw [x_B b, bind_s]; dsimp only
  split
  · split
    · exact c_m98B b
    · exact c_m98B b
  · exact c_m98B b
theorem c_m46B {h z} {pv : Nat → Int32} {x s : Int32} (hs : s = 0 ∨ s = 1) (b : ¬ pv 2 = 0) : ∃ pv', jP_metaEvent_46 h z pv x s = some (z, pv') ∧ pv' 2 = pv 2 := by
  unfold jP_metaEvent_46 jP_metaEvent_64
  have b1 : ¬ upd pv 6 s 2 = 0 := by rw [upd_n (by decide)]; exact b
  have e : upd pv 6 s 2 = pv 2 := upd_n (by decide)
  rw [if_neg (by simp [hs])]
  have X : ∀ s', ∃ pv', jP_metaEvent_69 h z (upd pv 6 s) x s' = some (z, pv') ∧ pv' 2 = pv 2 := fun s' => by
    obtain ⟨pv', a, c⟩ := c_m69B (h := h) (z := z) (x := x) (s := s') b1
    exact ⟨pv', a, c.trans e⟩
  split
  · exact X _
  split
  · exact X _
  · exact X _
theorem j_meta {h z av b n} (I : Inp h z av b n) {pv iv : Nat → Int32} {p e ne nd f : Nat} (g : Gd pv iv p e) (he : e ≤ n) (hne : ne < 1001) (hd : nd ≤ 8000) (e11 : iv 11 = nt nd) (e6 : av 6 ne = nt nd) (hf : f < 128) (k7 : pv 7 = nt f) :
    (∃ c p2 av' pv', p < p2 ∧ p2 + c ≤ e ∧ (f = 47 → c = 0) ∧ (f = 81 → c = 3) ∧ cMeta h z pv = some (z, pv') ∧ pv' = upd (upd (upd (upd (upd pv 0 (nt p2)) 10 (nt c)) 6 (if f = 47 then 1 else 0)) 9 (nt p2)) 0 (nt (p2 + c)) ∧ fM_follow iv av (nt ne) (nt f) = some (upd iv 2 (nt (p2 + c)), av') ∧ AvF av av' ne nd c p2 b) ∨
    EB z iv av ne nd (cMeta h z pv) (fM_follow iv av (nt ne) (nt f)) := by
  have hn := I.mx
  have hle := g.le
  unfold cMeta
  rcases j_num I g he with ⟨c, p2, h1, h2, h3, a, b'⟩ | ⟨r, r', pv', iv', a, b', B, F⟩
  rotate_left
  · right
    have B2 : Bad (upd pv' 10 r) iv' := B.eq (upd_n (by decide)) rfl rfl
    have X : ∃ pv2, (if ((upd pv' 10 r) 7) = (47 : Int32) then (jP_metaEvent_46 h z (upd pv' 10 r) (pv 0) (1 : Int32)) else (jP_metaEvent_46 h z (upd pv' 10 r) (pv 0) (0 : Int32))) = some (z, pv2) ∧ pv2 2 = upd pv' 10 r 2 := by
      split
      · exact c_m46B (.inr rfl) B2.c
      · exact c_m46B (.inl rfl) B2.c
    obtain ⟨pv2, e1, e2⟩ := X
    unfold fM_follow jM_follow_36 jM_follow_62 jM_follow_92
    rw [a, b', bind_s, bind_s]; dsimp only
    rw [e1, if_neg B.m', if_neg B.m', if_neg B.m', if_neg B.m]
    exact ⟨_, _, _, rfl, rfl, B2.eq e2 rfl rfl, F, EQ.refl _ _ _⟩
  unfold fM_follow
  rw [a, b', bind_s, bind_s]; dsimp only
  have g1 := g.adv (p' := p2) h2
  have g2 : Gd (upd (upd (upd pv 0 (nt p2)) 10 (nt c)) 6 (if f = 47 then 1 else 0)) (upd iv 2 (nt p2)) p2 e := (g1.c (pv' := upd (upd pv 0 (nt p2)) 10 (nt c)) fun k hk => upd_n (by omega)).c fun k hk => upd_n (by omega)
  have k7' : upd (upd pv 0 (nt p2)) 10 (nt c) 7 = nt f := by rw [upd_n (by decide), upd_n (by decide), k7]
  have C : (if upd (upd pv 0 (nt p2)) 10 (nt c) 7 = (47 : Int32) then (jP_metaEvent_46 h z (upd (upd pv 0 (nt p2)) 10 (nt c)) (pv 0) (1 : Int32)) else (jP_metaEvent_46 h z (upd (upd pv 0 (nt p2)) 10 (nt c)) (pv 0) (0 : Int32))) = jP_metaEvent_69 h z (upd (upd (upd pv 0 (nt p2)) 10 (nt c)) 6 (if f = 47 then 1 else 0)) (nt p) (if f = 47 ∧ c ≠ 0 then 0 else 1) := by
    rw [k7', g.c0]
    unfold jP_metaEvent_46 jP_metaEvent_64
    by_cases q : f = 47
    · rw [if_pos (by rw [q]; rfl), if_pos q, if_neg (by decide), upd_s, if_neg (by decide), upd_n (by decide), upd_s]
      by_cases q2 : c = 0
      · rw [if_pos (by rw [q2]; rfl), if_neg (by omega)]
      · rw [if_neg (by rw [show (0 : Int32) = nt 0 from rfl, nt_eq (by omega) (by omega)]; exact q2), if_pos ⟨q, q2⟩]
    · rw [if_neg (by rw [show (47 : Int32) = nt 47 from rfl, nt_eq (by omega) (by omega)]; exact q), if_neg q, if_neg (by decide), upd_s, if_pos rfl, if_neg (fun w => q w.1)]
  rw [C]
  clear C a b'
  have K7 : upd (upd (upd pv 0 (nt p2)) 10 (nt c)) 6 (if f = 47 then 1 else 0) 7 = nt f := by rw [upd_n (by decide), k7']
  have K10 : upd (upd (upd pv 0 (nt p2)) 10 (nt c)) 6 (if f = 47 then 1 else 0) 10 = nt c := by rw [upd_n (by decide), upd_s]
  generalize hP : upd (upd (upd pv 0 (nt p2)) 10 (nt c)) 6 (if f = 47 then 1 else 0) = P at *
  have i4 : upd iv 2 (nt p2) 4 = 0 := g2.m4
  rw [if_pos i4, g.m2]
  -- the end's size
  by_cases q : f = 47 ∧ c ≠ 0
  · right
    have B : Bad (upd P 2 (nt (7 + 16 * p))) (upd (upd (upd iv 2 (nt p2)) 4 (nt 7)) 5 (nt p)) := Bad.mk' (by omega) (by omega) (by omega)
    obtain ⟨pv2, e1, e2⟩ := c_m69B (h := h) (z := z) (x := nt p) (s := 1) B.c
    rw [if_pos q, if_pos (show nt f = 47 by rw [q.1]; rfl), if_neg (by rw [nt_pos (by omega)]; exact q.2), show (7 : Int32) = nt 7 from rfl, f_0 g2.m4, bind_s]; dsimp only
    have e3 : jP_metaEvent_69 h z P (nt p) 0 = jP_metaEvent_69 h z (upd P 2 (nt (7 + 16 * p))) (nt p) 1 := by
      unfold jP_metaEvent_69
      rw [show (7 : Int32) = nt 7 from rfl, x_0 g2.c2, x_1]
    unfold jM_follow_36 jM_follow_62 jM_follow_92
    rw [e3, e1, if_neg B.m', if_neg B.m', if_neg B.m]
    exact ⟨_, _, _, rfl, rfl, B.eq e2 rfl rfl, FI.p.trans FI.f, EQ.refl _ _ _⟩
  have M1 : (if nt f = (47 : Int32) then (if nt c ≤ 0 then (jM_follow_36 (upd iv 2 (nt p2)) av (nt ne) (nt f) (nt p) (nt c)) else ((fM_fail (upd iv 2 (nt p2)) av (7 : Int32) (nt p)).bind fun (iv5, av5) => jM_follow_36 iv5 av5 (nt ne) (nt f) (nt p) (nt c))) else (jM_follow_36 (upd iv 2 (nt p2)) av (nt ne) (nt f) (nt p) (nt c))) = jM_follow_36 (upd iv 2 (nt p2)) av (nt ne) (nt f) (nt p) (nt c) := by
    by_cases q1 : f = 47
    · rw [if_pos (by rw [q1]; rfl), if_pos (by rw [nt_pos (by omega)]; exact Classical.byContradiction fun q2 => q ⟨q1, q2⟩)]
    · rw [if_neg (by rw [show (47 : Int32) = nt 47 from rfl, nt_eq (by omega) (by omega)]; exact q1)]
  rw [M1, if_neg q]
  clear M1
  unfold jP_metaEvent_69 jM_follow_36
  rw [x_1, bind_s]; dsimp only
  rw [K7, K10, if_pos i4]
  -- the tempo's size
  by_cases q1 : f = 81 ∧ c ≠ 3
  · right
    have B : Bad (upd P 2 (nt (8 + 16 * p))) (upd (upd (upd iv 2 (nt p2)) 4 (nt 8)) 5 (nt p)) := Bad.mk' (by omega) (by omega) (by omega)
    obtain ⟨pv2, e1, e2⟩ := c_m98B (h := h) (z := z) (x := nt p) (s := 1) B.c
    have c3 : ¬ nt c = (3 : Int32) := by rw [show (3 : Int32) = nt 3 from rfl, nt_eq (by omega) (by omega)]; exact q1.2
    have e3 : jP_metaEvent_98 h z P (nt p) 0 = jP_metaEvent_98 h z (upd P 2 (nt (8 + 16 * p))) (nt p) 1 := by
      unfold jP_metaEvent_98
      rw [show (8 : Int32) = nt 8 from rfl, x_0 g2.c2, x_1]
    rw [if_pos (show nt f = 81 by rw [q1.1]; rfl), if_neg c3, if_pos (show nt f = 81 by rw [q1.1]; rfl), if_neg c3, show (8 : Int32) = nt 8 from rfl, f_0 g2.m4, bind_s]; dsimp only
    unfold jM_follow_62 jM_follow_92
    rw [e3, e1, if_neg B.m', if_neg B.m]
    exact ⟨_, _, _, rfl, rfl, B.eq e2 rfl rfl, FI.p.trans FI.f, EQ.refl _ _ _⟩
  have C2 : (if nt f = (81 : Int32) then (if nt c = (3 : Int32) then (jP_metaEvent_93 h z P (nt p)) else (jP_metaEvent_98 h z P (nt p) (0 : Int32))) else (jP_metaEvent_93 h z P (nt p))) = jP_metaEvent_98 h z P (nt p) 1 := by
    unfold jP_metaEvent_93
    by_cases q2 : f = 81
    · rw [if_pos (by rw [q2]; rfl), if_pos (by rw [show c = 3 from Classical.byContradiction fun q3 => q1 ⟨q2, q3⟩]; rfl)]
    · rw [if_neg (by rw [show (81 : Int32) = nt 81 from rfl, nt_eq (by omega) (by omega)]; exact q2)]
  have M2 : (if nt f = (81 : Int32) then (if nt c = (3 : Int32) then (jM_follow_62 (upd iv 2 (nt p2)) av (nt ne) (nt f) (nt c)) else ((fM_fail (upd iv 2 (nt p2)) av (8 : Int32) (nt p)).bind fun (iv4, av4) => jM_follow_62 iv4 av4 (nt ne) (nt f) (nt c))) else (jM_follow_62 (upd iv 2 (nt p2)) av (nt ne) (nt f) (nt c))) = jM_follow_62 (upd iv 2 (nt p2)) av (nt ne) (nt f) (nt c) := by
    by_cases q2 : f = 81
    · rw [if_pos (by rw [q2]; rfl), if_pos (by rw [show c = 3 from Classical.byContradiction fun q3 => q1 ⟨q2, q3⟩]; rfl)]
    · rw [if_neg (by rw [show (81 : Int32) = nt 81 from rfl, nt_eq (by omega) (by omega)]; exact q2)]
  rw [C2, M2]
  clear C2 M2
  unfold jP_metaEvent_98
  rw [x_1, bind_s]; dsimp only
  rcases c_pass (h := h) (z := z) g2 (by omega) h3 K10 with ⟨q2, e'⟩ | ⟨q2, e'⟩
  rotate_left
  · right
    have B : Bad (upd (upd P 2 (nt (1 + 16 * e))) 9 (nt p2)) (upd (upd (upd iv 2 (nt p2)) 4 (nt 1)) 5 (nt e)) := (Bad.mk' (pv := P) (iv := upd iv 2 (nt p2)) (k := 1) (q := e) (by omega) (by omega) (by omega)).eq (upd_n (by decide)) rfl rfl
    rw [m_f62X (by omega) h2 h3 g2.m2 g2.m3 g2.m4 q2, e', bind_s]; dsimp only
    rw [if_neg B.c]
    exact ⟨_, _, _, rfl, rfl, B, FI.p.trans FI.f, EQ.refl _ _ _⟩
  have g3 : Gd (upd (upd P 9 (nt p2)) 0 (nt (p2 + c))) (upd (upd iv 2 (nt p2)) 2 (nt (p2 + c))) (p2 + c) e := (g2.c (pv' := upd P 9 (nt p2)) fun k hk => upd_n (by omega)).adv q2
  obtain ⟨av', m, F⟩ := m_f62 (x2 := nt f) I he hne hd h3 g2.m2 g2.m3 g2.m4 (by rw [upd_n (by decide)]; exact e11) q2
  rw [e', m, bind_s]; dsimp only
  have r7 : upd (upd P 9 (nt p2)) 0 (nt (p2 + c)) 7 = nt f := by rw [upd_n (by decide), upd_n (by decide), K7]
  have r9 : upd (upd P 9 (nt p2)) 0 (nt (p2 + c)) 9 = nt p2 := by rw [upd_n (by decide), upd_s]
  rw [if_pos (show upd (upd P 9 (nt p2)) 0 (nt (p2 + c)) 2 = 0 from g3.c2)]
  rw [upd_upd (f := iv)] at g3 ⊢
  by_cases q3 : f = 81
  rotate_left
  · left
    rw [if_neg (show ¬ upd (upd P 9 (nt p2)) 0 (nt (p2 + c)) 7 = 81 by rw [r7, show (81 : Int32) = nt 81 from rfl, nt_eq (by omega) (by omega)]; exact q3), if_neg (show ¬ nt f = 81 by rw [show (81 : Int32) = nt 81 from rfl, nt_eq (by omega) (by omega)]; exact q3)]
    exact ⟨c, p2, av', _, h1, q2, fun w => Classical.byContradiction fun w2 => q ⟨w, w2⟩, fun w => absurd w q3, rfl, by rw [hP], rfl, F⟩
  have c3 : c = 3 := Classical.byContradiction fun w => q1 ⟨q3, w⟩
  have b0 := I.lt p2 (by omega)
  have b1 := I.lt (p2 + 1) (by omega)
  have b2 := I.lt (p2 + 2) (by omega)
  rw [if_pos (show upd (upd P 9 (nt p2)) 0 (nt (p2 + c)) 7 = 81 by rw [r7, q3]; rfl), if_pos (show nt f = 81 by rw [q3]; rfl), r9]
  rw [m_tem (iv := upd iv 2 (nt (p2 + c))) (av := av') (x := b p2) (y := b (p2 + 1)) (w := b (p2 + 2)) hne hd (by rw [F.1 6 (by decide) (by decide)]; exact e6) b0 b1 b2 (F.2.2.2.2 0 (by omega)) (F.2.2.2.2 1 (by omega)) (F.2.2.2.2 2 (by omega)), bind_s]; dsimp only
  rw [at_I I (show p2 < n by omega), bind_s, show (1 : Int32) = nt 1 from rfl, nt_add]; dsimp only
  rw [at_I I (show p2 + 1 < n by omega), bind_s, show (2 : Int32) = nt 2 from rfl, nt_add]; dsimp only
  rw [at_I I (show p2 + 2 < n by omega), bind_s, nt_add, nt_add]; dsimp only
  unfold jP_metaEvent_174
  by_cases q4 : b p2 + b (p2 + 1) + b (p2 + 2) = 0
  · right
    have z0 : b p2 = 0 := by omega
    have z1 : b (p2 + 1) = 0 := by omega
    have z2 : b (p2 + 2) = 0 := by omega
    rw [if_pos (by rw [nt_pos (by omega)]; exact q4), if_pos (by rw [z0, z1, z2]; rfl), r9, show (8 : Int32) = nt 8 from rfl, x_0 g3.c2, bind_s, f_0 g3.m4, bind_s]
    exact ⟨_, _, _, rfl, rfl, Bad.mk' (by omega) (by omega) (by omega), FI.p.trans FI.f, F.eq⟩
  · left
    rw [if_neg (show ¬ nt (b p2 + b (p2 + 1) + b (p2 + 2)) ≤ 0 by rw [nt_pos (by omega)]; exact q4), if_neg (show ¬ nt (b p2 * 65536 + b (p2 + 1) * 256 + b (p2 + 2)) = 0 by rw [show (0 : Int32) = nt 0 from rfl, nt_eq (by omega) (by omega)]; omega), show nt 1 = 1 from rfl, x_1, bind_s]
    exact ⟨c, p2, av', _, h1, q2, fun w => absurd (q3.symm.trans w) (by decide), fun _ => c3, rfl, by rw [hP], rfl, F⟩
