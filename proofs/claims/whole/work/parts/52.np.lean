theorem cmp_eq {a b : Nat} (ha : a < 9223372036854775808) (hb : b < 9223372036854775808) : (lg_cmp (mt a) (mt b) = 0) = (a = b) := by
  unfold lg_cmp
  have e : (mt a > mt b) = (b < a) := mt_lt hb ha
  simp only [e, mt_eq ha hb]
  by_cases q : b < a
  · rw [if_pos q]; exact propext ⟨fun x => absurd x (by decide), fun x => by omega⟩
  · rw [if_neg q]
    by_cases q2 : a = b
    · rw [if_pos q2]; exact propext ⟨fun x => by omega, fun x => by decide⟩
    · rw [if_neg q2]; exact propext ⟨fun x => absurd x (by decide), fun x => absurd x q2⟩
theorem cmp_gt {a b : Nat} (ha : a < 9223372036854775808) (hb : b < 9223372036854775808) : (0 < lg_cmp (mt a) (mt b)) = (b < a) := by
  unfold lg_cmp
  have e : (mt a > mt b) = (b < a) := mt_lt hb ha
  simp only [e, mt_eq ha hb]
  by_cases q : b < a
  · rw [if_pos q]; exact propext ⟨fun x => q, fun x => by decide⟩
  · rw [if_neg q]
    by_cases q2 : a = b
    · rw [if_pos q2]; exact propext ⟨fun x => absurd x (by decide), fun x => absurd x q⟩
    · rw [if_neg q2]; exact propext ⟨fun x => absurd x (by decide), fun x => absurd x q⟩
theorem j_div {h z} {iv : Nat → Int32} {av : Nat → Nat → Int32} {d : Nat} (hd : d < 65536) :
    (DV d ∧ fP_isDivision h z (nt d) = some (1, z) ∧ fM_isDivision iv av (nt d) = some (1, iv, av)) ∨ (fP_isDivision h z (nt d) = some (0, z) ∧ fM_isDivision iv av (nt d) = some (0, iv, av)) := by
  unfold fP_isDivision fM_isDivision jP_isDivision_51 jP_isDivision_56 jM_isDivision_51 DV
  by_cases q : d ≤ 32767
  · by_cases q2 : 1 ≤ d
    · left; refine ⟨.inl ⟨q2, q⟩, ?_, ?_⟩ <;> simp (disch := omega) only [lit, ixF, nt_le, nt_lt, nt_eq, nt_cl, nt_add, nt_sub, bind_s, if_true, if_false, if_pos, if_neg, upd_s, k8, k16, k7, k4, s_r8, s_l7, s_l8, s_l16, a255, a127]
    · right; refine ⟨?_, ?_⟩ <;> simp (disch := omega) only [lit, ixF, nt_le, nt_lt, nt_eq, nt_cl, nt_add, nt_sub, bind_s, if_true, if_false, if_pos, if_neg, upd_s, k8, k16, k7, k4, s_r8, s_l7, s_l8, s_l16, a255, a127]
  · by_cases q3 : 0 < d % 256
    · by_cases k1 : d / 256 = 232
      · left; refine ⟨.inr ⟨by omega, by omega, by omega, q3⟩, ?_, ?_⟩ <;> simp (disch := omega) only [lit, ixF, nt_le, nt_lt, nt_eq, nt_cl, nt_add, nt_sub, bind_s, if_true, if_false, if_pos, if_neg, upd_s, k8, k16, k7, k4, s_r8, s_l7, s_l8, s_l16, a255, a127, k1]
      by_cases k2 : d / 256 = 231
      · left; refine ⟨.inr ⟨by omega, by omega, by omega, q3⟩, ?_, ?_⟩ <;> simp (disch := omega) only [lit, ixF, nt_le, nt_lt, nt_eq, nt_cl, nt_add, nt_sub, bind_s, if_true, if_false, if_pos, if_neg, upd_s, k8, k16, k7, k4, s_r8, s_l7, s_l8, s_l16, a255, a127, k2]
      by_cases k3 : d / 256 = 227
      · left; refine ⟨.inr ⟨by omega, by omega, by omega, q3⟩, ?_, ?_⟩ <;> simp (disch := omega) only [lit, ixF, nt_le, nt_lt, nt_eq, nt_cl, nt_add, nt_sub, bind_s, if_true, if_false, if_pos, if_neg, upd_s, k8, k16, k7, k4, s_r8, s_l7, s_l8, s_l16, a255, a127, k3]
      by_cases k4 : d / 256 = 226
      · left; refine ⟨.inr ⟨by omega, by omega, by omega, q3⟩, ?_, ?_⟩ <;> simp (disch := omega) only [lit, ixF, nt_le, nt_lt, nt_eq, nt_cl, nt_add, nt_sub, bind_s, if_true, if_false, if_pos, if_neg, upd_s, k8, k16, k7, k4, s_r8, s_l7, s_l8, s_l16, a255, a127, k4]
      right; refine ⟨?_, ?_⟩ <;> simp (disch := omega) only [lit, ixF, nt_le, nt_lt, nt_eq, nt_cl, nt_add, nt_sub, bind_s, if_true, if_false, if_pos, if_neg, upd_s, k8, k16, k7, k4, s_r8, s_l7, s_l8, s_l16, a255, a127]
    · right; refine ⟨?_, ?_⟩
      · simp (disch := omega) only [lit, ixF, nt_le, nt_lt, nt_eq, nt_cl, nt_add, nt_sub, bind_s, if_true, if_false, if_pos, if_neg, upd_s, k8, k16, k7, k4, s_r8, s_l7, s_l8, s_l16, a255, a127]; split
        · rfl
        split
        · rfl
        split
        · rfl
        split <;> rfl
      · simp (disch := omega) only [lit, ixF, nt_le, nt_lt, nt_eq, nt_cl, nt_add, nt_sub, bind_s, if_true, if_false, if_pos, if_neg, upd_s, k8, k16, k7, k4, s_r8, s_l7, s_l8, s_l16, a255, a127]; split
        · rfl
        split
        · rfl
        split
        · rfl
        split <;> rfl
theorem c_divT {h z} (x : Int32) : ∃ r, fP_isDivision h z x = some (r, z) := by
  unfold fP_isDivision jP_isDivision_51 jP_isDivision_56
  repeat' split
  all_goals exact ⟨_, rfl⟩
theorem m_divT {iv : Nat → Int32} {av : Nat → Nat → Int32} (x : Int32) : ∃ r, fM_isDivision iv av x = some (r, iv, av) := by
  unfold fM_isDivision jM_isDivision_51
  repeat' split
  all_goals exact ⟨_, rfl⟩
/-- the head's three values, whatever they are -/
def HZ (z z' : cZ) : Prop := ∃ x y w, z' = zU (zU (zU z 4 x) 5 y) 6 w
def FH (iv iv' : Nat → Int32) : Prop := ∀ k, k ≠ 2 → k ≠ 4 → k ≠ 5 → k ≠ 7 → k ≠ 8 → k ≠ 9 → iv' k = iv k
def RB (iv iv' : Nat → Int32) : Prop := iv' 4 = iv 4 ∧ iv' 5 = iv 5 ∧ FH iv iv'
section
variable {h : cH} {z : cZ} {pv : Nat → Int32}
theorem c_h104B {x1 x2 s : Int32} (b : ¬ pv 2 = 0) : ∃ z', jP_head_104 h z pv x1 x2 s = some (z', pv) ∧ HZ z z' := by
  unfold jP_head_104
  obtain ⟨r, e⟩ := c_divT (h := h) (z := z) (-1 : Int64).toInt32
  rw [x_B b, bind_s]; dsimp only
  rw [c_fixB b, bind_s]; dsimp only
  rw [e, bind_s]; dsimp only
  rw [x_B b, bind_s]
  exact ⟨_, rfl, _, _, _, rfl⟩
theorem c_h87B {x1 x2 s : Int32} (b : ¬ pv 2 = 0) : ∃ z', jP_head_87 h z pv x1 x2 s = some (z', pv) ∧ HZ z z' := by
  unfold jP_head_87 jP_head_103
  split
  · exact c_h104B b
  split
  · exact c_h104B b
  · exact c_h104B b
theorem c_h64B {x1 s : Int32} (b : ¬ pv 2 = 0) : ∃ z', jP_head_64 h z pv x1 s = some (z', pv) ∧ HZ z z' := by
  unfold jP_head_64
  rw [x_B b, bind_s]; dsimp only
  rw [c_fixB b, bind_s]; dsimp only
  split
  · exact c_h87B b
  · exact c_h87B b
theorem c_h41B {s : Int32} (b : ¬ pv 2 = 0) : ∃ z', jP_head_41 h z pv s = some (z', pv) ∧ HZ z z' := by
  unfold jP_head_41
  rw [x_B b, bind_s]; dsimp only
  rw [c_fixB b, bind_s]; dsimp only
  split
  · exact c_h64B b
  · exact c_h64B b
theorem c_h18B {s : Int32} (b : ¬ pv 2 = 0) : ∃ z', jP_head_18 h z pv s = some (z', pv) ∧ HZ z z' := by
  unfold jP_head_18
  rw [x_B b, bind_s]; dsimp only
  rw [c_fixB b, bind_s]; dsimp only
  split
  · exact c_h41B b
  · exact c_h41B b
end
theorem RB.trans {a b c : Nat → Int32} (p : RB a b) (q : RB b c) : RB a c := ⟨q.1.trans p.1, q.2.1.trans p.2.1, fun k h1 h2 h3 h4 h5 h6 => (q.2.2 k h1 h2 h3 h4 h5 h6).trans (p.2.2 k h1 h2 h3 h4 h5 h6)⟩
theorem RB.refl (a : Nat → Int32) : RB a a := ⟨rfl, rfl, fun _ _ _ _ _ _ _ => rfl⟩
theorem RB.u {a : Nat → Int32} {k : Nat} {x : Int32} (hk : k = 7 ∨ k = 8 ∨ k = 9 ∨ k = 2) : RB a (upd a k x) := ⟨upd_n (by omega), upd_n (by omega), fun j h1 h2 h3 h4 h5 h6 => upd_n (by omega)⟩
section
variable {iv : Nat → Int32} {av : Nat → Nat → Int32}
theorem m_h110B (b : ¬ iv 4 ≤ 0) (b' : ¬ iv 4 = 0) : ∃ iv', jM_head_110 iv av = some (iv', av) ∧ RB iv iv' := by
  unfold jM_head_110
  rw [m_takB b b', bind_s]; dsimp only
  obtain ⟨r, e⟩ := m_divT (iv := upd iv 9 (0 : Int64).toInt32) (av := av) ((upd iv 9 (0 : Int64).toInt32) 9)
  rw [e, bind_s]; dsimp only
  have : ¬ (upd iv 9 (0 : Int64).toInt32) 4 ≤ 0 := by rw [upd_n (by decide)]; exact b
  rw [f_B this, bind_s]
  refine ⟨upd iv 9 (0 : Int64).toInt32, ?_, RB.u (by omega)⟩
  split <;> rfl
theorem m_h103B (b : ¬ iv 4 ≤ 0) (b' : ¬ iv 4 = 0) : ∃ iv', jM_head_103 iv av = some (iv', av) ∧ RB iv iv' := by
  unfold jM_head_103
  rw [f_B b, bind_s]; exact m_h110B b b'
theorem m_h61B (b : ¬ iv 4 ≤ 0) (b' : ¬ iv 4 = 0) : ∃ iv', jM_head_61 iv av = some (iv', av) ∧ RB iv iv' := by
  unfold jM_head_61
  rw [m_takB b b', bind_s]; dsimp only
  have c : ¬ (upd iv 8 (0 : Int64).toInt32) 4 ≤ 0 := by rw [upd_n (by decide)]; exact b
  have c' : ¬ (upd iv 8 (0 : Int64).toInt32) 4 = 0 := by rw [upd_n (by decide)]; exact b'
  have X : ∃ iv', jM_head_103 (upd iv 8 (0 : Int64).toInt32) av = some (iv', av) ∧ RB iv iv' := by
    obtain ⟨iv', a, d⟩ := m_h103B (av := av) c c'
    exact ⟨iv', a, (RB.u (by omega)).trans d⟩
  rw [if_pos (by rw [upd_s]; decide)]; exact X
theorem m_h36B (b : ¬ iv 4 ≤ 0) (b' : ¬ iv 4 = 0) : ∃ iv', jM_head_36 iv av = some (iv', av) ∧ RB iv iv' := by
  unfold jM_head_36
  rw [m_takB b b', bind_s]; dsimp only
  have c : ¬ (upd iv 7 (0 : Int64).toInt32) 4 ≤ 0 := by rw [upd_n (by decide)]; exact b
  have c' : ¬ (upd iv 7 (0 : Int64).toInt32) 4 = 0 := by rw [upd_n (by decide)]; exact b'
  rw [if_pos (by rw [upd_s]; decide)]
  obtain ⟨iv', a, d⟩ := m_h61B (av := av) c c'
  exact ⟨iv', a, (RB.u (by omega)).trans d⟩
theorem m_h18B (b : ¬ iv 4 ≤ 0) (b' : ¬ iv 4 = 0) : ∃ iv', jM_head_18 iv av = some (iv', av) ∧ RB iv iv' := by
  unfold jM_head_18
  rw [m_takB b b', bind_s]; dsimp only
  rw [f_B b, bind_s]
  split
  · exact m_h36B b b'
  · exact m_h36B b b'
end
/-- the head, when a fault is told -/
def HB (z : cZ) (iv : Nat → Int32) (av : Nat → Nat → Int32) (C : Option (cZ × (Nat → Int32))) (M : Option ((Nat → Int32) × (Nat → Nat → Int32))) : Prop :=
  ∃ z' pv' iv', C = some (z', pv') ∧ M = some (iv', av) ∧ HZ z z' ∧ Bad pv' iv' ∧ FH iv iv'
theorem FH.trans {a b c : Nat → Int32} (p : FH a b) (q : FH b c) : FH a c := fun k h1 h2 h3 h4 h5 h6 => (q k h1 h2 h3 h4 h5 h6).trans (p k h1 h2 h3 h4 h5 h6)
theorem FI.h {a b : Nat → Int32} (p : FI a b) : FH a b := fun k h1 h2 h3 h4 h5 h6 => p k h1 h2 h3
theorem FH.u {a : Nat → Int32} {k : Nat} {x : Int32} (hk : k = 7 ∨ k = 8 ∨ k = 9) : FH a (upd a k x) := fun j h1 h2 h3 h4 h5 h6 => upd_n (by omega)
theorem HB.of {z : cZ} {iv0 pv iv : Nat → Int32} {av : Nat → Nat → Int32} {C : Option (cZ × (Nat → Int32))} {M : Option ((Nat → Int32) × (Nat → Nat → Int32))} (B : Bad pv iv) (f : FH iv0 iv) (c : ∃ z', C = some (z', pv) ∧ HZ z z') (m : ∃ iv', M = some (iv', av) ∧ RB iv iv') : HB z iv0 av C M := by
  obtain ⟨z', a, b⟩ := c
  obtain ⟨iv', a', b'⟩ := m
  exact ⟨z', pv, iv', a, a', b, B.eq rfl b'.1 b'.2.1, f.trans b'.2.2⟩
theorem V2 {h z av b n} (I : Inp h z av b n) {p : Nat} (hp : p + 2 ≤ n) : V b p 2 < 65536 := V_lt 2 fun i hi => I.lt _ (by omega)
theorem V4 {h z av b n} (I : Inp h z av b n) {p : Nat} (hp : p + 4 ≤ n) : V b p 4 < 4294967296 := V_lt 4 fun i hi => I.lt _ (by omega)
theorem j_head {h z av b n} (I : Inp h z av b n) {pv iv : Nat → Int32} (g : Gd pv iv 0 n) :
    (∃ fm tr dv iv', fm ≤ 2 ∧ 1 ≤ tr ∧ tr ≤ 16 ∧ DV dv ∧ fP_head h z pv = some (zU (zU (zU z 4 (nt fm)) 5 (nt tr)) 6 (nt dv), upd pv 0 (nt 14)) ∧ fM_head iv av = some (iv', av) ∧ iv' 7 = nt fm ∧ iv' 8 = nt tr ∧ iv' 9 = nt dv ∧ FH iv iv' ∧ Gd (upd pv 0 (nt 14)) iv' 14 n ∧ 14 ≤ n) ∨
    HB z iv av (fP_head h z pv) (fM_head iv av) := by
  have hn := I.mx
  have B1 : ∀ {pv iv : Nat → Int32}, Bad (upd pv 2 (nt (1 + 16 * n))) (upd (upd iv 4 (nt 1)) 5 (nt n)) := Bad.mk' (by omega) (by omega) (by omega)
  unfold fP_head fM_head
  rw [show (4 : Int32) = nt 4 from rfl]
  rcases j_fix I g (Nat.le_refl n) (show 4 ≤ 4 by omega) with ⟨w, a, b'⟩ | ⟨w, a, b'⟩
  rotate_left
  · right
    rw [a, b', bind_s, bind_s]; dsimp only
    have B := B1 (pv := pv) (iv := iv)
    rw [if_neg (show ¬ lg_cmp (-1) 1297377380 = 0 by decide), if_neg (show ¬ lg_cmp 0 1297377380 = 0 by decide), f_B B.m, bind_s]
    exact HB.of B FI.f.h (c_h18B B.c) (m_h18B B.m B.m')
  have v4 := V4 I (p := 0) (by omega)
  have g1 := g.adv w
  rw [a, b', bind_s, bind_s]; dsimp only
  rw [show (1297377380 : Int64) = mt 1297377380 from rfl]
  by_cases q : V b 0 4 = 1297377380
  rotate_left
  · right
    have q' : ¬ lg_cmp (mt (V b 0 4)) (mt 1297377380) = 0 := by rw [cmp_eq (by omega) (by omega)]; exact q
    have B : Bad (upd (upd pv 0 (nt (0 + 4))) 2 (nt (2 + 16 * 0))) (upd (upd (upd iv 2 (nt (0 + 4))) 4 (nt 2)) 5 (nt 0)) := Bad.mk' (by omega) (by omega) (by omega)
    rw [if_neg q', if_neg q', show (2 : Int32) = nt 2 from rfl, show (0 : Int32) = nt 0 from rfl, f_0 g1.m4, bind_s]
    unfold jP_head_18
    rw [show (0 : Int32) = nt 0 from rfl, show (2 : Int32) = nt 2 from rfl]
    refine HB.of B (FI.p.trans FI.f).h ?_ (m_h18B B.m B.m')
    have e := x_0 (h := h) (z := z) (k := 2) (q := 0) g1.c2
    rw [show (0 : Int32) = nt 0 from rfl] at e
    rw [e]
    exact c_h18B (s := 1) B.c
  have q' : lg_cmp (mt (V b 0 4)) (mt 1297377380) = 0 := by rw [cmp_eq (by omega) (by omega)]; exact q
  rw [if_pos q', if_pos q']
  clear q' q v4 a b'
  unfold jP_head_18 jM_head_18
  rw [x_1, bind_s]; dsimp only
  rw [show (4 : Int32) = nt 4 from rfl]
  rcases j_fix I g1 (Nat.le_refl n) (show 4 ≤ 4 by omega) with ⟨w2, a, b'⟩ | ⟨w2, a, b'⟩
  rotate_left
  · right
    rw [a, b', bind_s, bind_s]; dsimp only
    have B := B1 (pv := upd pv 0 (nt (0 + 4))) (iv := upd iv 2 (nt (0 + 4)))
    rw [if_neg (show ¬ lg_cmp (-1) 6 = 0 by decide), if_neg (show ¬ lg_cmp 0 6 = 0 by decide), f_B B.m, bind_s]
    exact HB.of B (FI.p.trans FI.f).h (c_h41B B.c) (m_h36B B.m B.m')
  have v4 := V4 I (p := 0 + 4) (by omega)
  have g2 := g1.adv w2
  rw [a, b', bind_s, bind_s, upd_upd, upd_upd]; dsimp only
  rw [upd_upd, upd_upd] at g2
  rw [show (6 : Int64) = mt 6 from rfl]
  by_cases q : V b (0 + 4) 4 = 6
  rotate_left
  · right
    have q' : ¬ lg_cmp (mt (V b (0 + 4) 4)) (mt 6) = 0 := by rw [cmp_eq (by omega) (by omega)]; exact q
    have B : Bad (upd (upd pv 0 (nt (0 + 4 + 4))) 2 (nt (2 + 16 * 4))) (upd (upd (upd iv 2 (nt (0 + 4 + 4))) 4 (nt 2)) 5 (nt 4)) := Bad.mk' (by omega) (by omega) (by omega)
    rw [if_neg q', if_neg q', show (2 : Int32) = nt 2 from rfl, f_0 g2.m4, bind_s]
    refine HB.of B (FI.p.trans FI.f).h ?_ (m_h36B B.m B.m')
    unfold jP_head_41
    have e := x_0 (h := h) (z := z) (k := 2) (q := 4) g2.c2
    rw [show (2 : Int32) = nt 2 from rfl, show (4 : Int32) = nt 4 from rfl, e]
    exact c_h41B (s := 1) B.c
  have q' : lg_cmp (mt (V b (0 + 4) 4)) (mt 6) = 0 := by rw [cmp_eq (by omega) (by omega)]; exact q
  rw [if_pos q', if_pos q']
  clear q' q v4 a b'
  unfold jP_head_41 jM_head_36
  rw [x_1, bind_s]; dsimp only
  rw [show (2 : Int32) = nt 2 from rfl]
  rcases j_fix I g2 (Nat.le_refl n) (show 2 ≤ 4 by omega) with ⟨w3, a, b'⟩ | ⟨w3, a, b'⟩
  rotate_left
  · right
    rw [a, b', bind_s, bind_s]; dsimp only
    rw [if_neg (show ¬ nt 2 < (-1 : Int64).toInt32 by decide), upd_s, if_pos (show (0 : Int64).toInt32 ≤ nt 2 by decide)]
    have B2 : Bad (upd (upd pv 0 (nt (0 + 4 + 4))) 2 (nt (1 + 16 * n))) (upd (upd (upd (upd iv 2 (nt (0 + 4 + 4))) 4 (nt 1)) 5 (nt n)) 7 (0 : Int64).toInt32) := (B1 (iv := iv)).eq rfl (by rw [upd_n (by decide)]; rfl) (by rw [upd_n (by decide)]; rfl)
    exact HB.of B2 ((FI.p.trans FI.f).h.trans (FH.u (by omega))) (c_h64B B2.c) (m_h61B B2.m B2.m')
  have v2 := V2 I (p := 0 + 4 + 4) (by omega)
  have g3 := g2.adv w3
  rw [a, b', bind_s, bind_s, upd_upd, upd_upd]; dsimp only
  rw [upd_upd, upd_upd] at g3
  rw [mt_32, upd_s]
  generalize V b (0 + 4 + 4) 2 = fm at *
  by_cases q : fm ≤ 2
  rotate_left
  · right
    rw [if_pos (by rw [nt_lt (by omega) (by omega)]; omega), if_neg (by rw [nt_le (by omega) (by omega)]; omega)]
    have B : Bad (upd (upd pv 0 (nt (0 + 4 + 4 + 2))) 2 (nt (3 + 16 * 8))) (upd (upd (upd (upd iv 2 (nt (0 + 4 + 4 + 2))) 7 (nt fm)) 4 (nt 3)) 5 (nt 8)) := Bad.mk' (by omega) (by omega) (by omega)
    rw [show (3 : Int32) = nt 3 from rfl, show (8 : Int32) = nt 8 from rfl, f_0 (by rw [upd_n (by decide)]; exact g3.m4), bind_s]
    refine HB.of B (FI.p.h.trans ((FH.u (by omega)).trans FI.f.h)) ?_ (m_h61B B.m B.m')
    unfold jP_head_64
    have e := x_0 (h := h) (z := z) (k := 3) (q := 8) g3.c2
    rw [show (3 : Int32) = nt 3 from rfl, show (8 : Int32) = nt 8 from rfl, e]
    exact c_h64B (s := 1) B.c
  rw [if_neg (by rw [nt_lt (by omega) (by omega)]; omega), if_pos (by rw [nt_le (by omega) (by omega)]; omega)]
  clear a b'
  have g3 : Gd (upd pv 0 (nt (0 + 4 + 4 + 2))) (upd (upd iv 2 (nt (0 + 4 + 4 + 2))) 7 (nt fm)) (0 + 4 + 4 + 2) n := g3.m fun k h1 h2 => upd_n (by omega)
  unfold jP_head_64 jM_head_61
  rw [x_1, bind_s]; dsimp only
  rw [show (2 : Int32) = nt 2 from rfl]
  rcases j_fix I g3 (Nat.le_refl n) (show 2 ≤ 4 by omega) with ⟨w4, a, b'⟩ | ⟨w4, a, b'⟩
  rotate_left
  · right
    rw [a, b', bind_s, bind_s]; dsimp only
    rw [upd_s, if_pos (show (0 : Int64).toInt32 < 1 by decide)]
    have B2 : Bad (upd (upd pv 0 (nt (0 + 4 + 4 + 2))) 2 (nt (1 + 16 * n))) (upd (upd (upd (upd (upd iv 2 (nt (0 + 4 + 4 + 2))) 7 (nt fm)) 4 (nt 1)) 5 (nt n)) 8 (0 : Int64).toInt32) := (B1 (iv := iv)).eq rfl (by rw [upd_n (by decide)]; rfl) (by rw [upd_n (by decide)]; rfl)
    refine HB.of B2 (FI.p.h.trans ((FH.u (by omega)).trans (FI.f.h.trans (FH.u (by omega))))) ?_ (m_h103B B2.m B2.m')
    split
    · exact c_h87B B2.c
    · exact c_h87B B2.c
  have v2' := V2 I (p := 0 + 4 + 4 + 2) (by omega)
  have g4 := g3.adv w4
  rw [a, b', bind_s, bind_s, upd_upd]; dsimp only
  rw [upd_upd] at g4
  rw [mt_32, upd_s]
  generalize V b (0 + 4 + 4 + 2) 2 = tr at *
  have g4 : Gd (upd pv 0 (nt (0 + 4 + 4 + 2 + 2))) (upd (upd (upd (upd iv 2 (nt (0 + 4 + 4 + 2))) 7 (nt fm)) 2 (nt (0 + 4 + 4 + 2 + 2))) 8 (nt tr)) (0 + 4 + 4 + 2 + 2) n := g4.m fun k h1 h2 => upd_n (by omega)
  have F4 : FH iv (upd (upd (upd (upd iv 2 (nt (0 + 4 + 4 + 2))) 7 (nt fm)) 2 (nt (0 + 4 + 4 + 2 + 2))) 8 (nt tr)) := FI.p.h.trans ((FH.u (by omega)).trans (FI.p.h.trans (FH.u (by omega))))
  have e7 : upd (upd (upd (upd iv 2 (nt (0 + 4 + 4 + 2))) 7 (nt fm)) 2 (nt (0 + 4 + 4 + 2 + 2))) 8 (nt tr) 7 = nt fm := by rw [upd_n (by decide), upd_n (by decide), upd_s]
  have e8 : upd (upd (upd (upd iv 2 (nt (0 + 4 + 4 + 2))) 7 (nt fm)) 2 (nt (0 + 4 + 4 + 2 + 2))) 8 (nt tr) 8 = nt tr := upd_s
  rw [e7]
  generalize upd (upd (upd (upd iv 2 (nt (0 + 4 + 4 + 2))) 7 (nt fm)) 2 (nt (0 + 4 + 4 + 2 + 2))) 8 (nt tr) = iv4 at *
  clear a b'
  have C : (if nt fm = 0 then (jP_head_87 h z (upd pv 0 (nt (0 + 4 + 4 + 2 + 2))) (nt fm) (nt tr) 1) else (jP_head_87 h z (upd pv 0 (nt (0 + 4 + 4 + 2 + 2))) (nt fm) (nt tr) 16)) = jP_head_104 h z (upd pv 0 (nt (0 + 4 + 4 + 2 + 2))) (nt fm) (nt tr) (if 1 ≤ tr ∧ tr ≤ (if fm = 0 then 1 else 16) then 1 else 0) := by
    unfold jP_head_87 jP_head_103
    by_cases f0 : fm = 0
    · by_cases t1 : tr < 1
      · simp (disch := omega) only [lit, ixF, nt_le, nt_lt, nt_eq, nt_cl, nt_add, nt_sub, bind_s, if_true, if_false, if_pos, if_neg, upd_s, k8, k16, k7, k4, s_r8, s_l7, s_l8, s_l16, a255, a127, f0]
      · by_cases t2 : 1 < tr
        · simp (disch := omega) only [lit, ixF, nt_le, nt_lt, nt_eq, nt_cl, nt_add, nt_sub, bind_s, if_true, if_false, if_pos, if_neg, upd_s, k8, k16, k7, k4, s_r8, s_l7, s_l8, s_l16, a255, a127, f0]
        · simp (disch := omega) only [lit, ixF, nt_le, nt_lt, nt_eq, nt_cl, nt_add, nt_sub, bind_s, if_true, if_false, if_pos, if_neg, upd_s, k8, k16, k7, k4, s_r8, s_l7, s_l8, s_l16, a255, a127, f0]
    · by_cases t1 : tr < 1
      · simp (disch := omega) only [lit, ixF, nt_le, nt_lt, nt_eq, nt_cl, nt_add, nt_sub, bind_s, if_true, if_false, if_pos, if_neg, upd_s, k8, k16, k7, k4, s_r8, s_l7, s_l8, s_l16, a255, a127, f0]
      · by_cases t2 : 16 < tr
        · simp (disch := omega) only [lit, ixF, nt_le, nt_lt, nt_eq, nt_cl, nt_add, nt_sub, bind_s, if_true, if_false, if_pos, if_neg, upd_s, k8, k16, k7, k4, s_r8, s_l7, s_l8, s_l16, a255, a127, f0]
        · simp (disch := omega) only [lit, ixF, nt_le, nt_lt, nt_eq, nt_cl, nt_add, nt_sub, bind_s, if_true, if_false, if_pos, if_neg, upd_s, k8, k16, k7, k4, s_r8, s_l7, s_l8, s_l16, a255, a127, f0]
  have M : (if nt tr < 1 then (jM_head_103 iv4 av) else (if (16 : Int32) < nt tr then (jM_head_103 iv4 av) else (if nt fm = 0 then (if nt tr ≤ 1 then (jM_head_110 iv4 av) else (jM_head_103 iv4 av)) else (jM_head_110 iv4 av)))) = if 1 ≤ tr ∧ tr ≤ (if fm = 0 then 1 else 16) then jM_head_110 iv4 av else jM_head_103 iv4 av := by
    by_cases f0 : fm = 0
    · by_cases t1 : tr < 1
      · simp (disch := omega) only [lit, ixF, nt_le, nt_lt, nt_eq, nt_cl, nt_add, nt_sub, bind_s, if_true, if_false, if_pos, if_neg, upd_s, k8, k16, k7, k4, s_r8, s_l7, s_l8, s_l16, a255, a127, f0]
      · by_cases t2 : 16 < tr
        · simp (disch := omega) only [lit, ixF, nt_le, nt_lt, nt_eq, nt_cl, nt_add, nt_sub, bind_s, if_true, if_false, if_pos, if_neg, upd_s, k8, k16, k7, k4, s_r8, s_l7, s_l8, s_l16, a255, a127, f0]
        · by_cases t3 : tr ≤ 1
          · simp (disch := omega) only [lit, ixF, nt_le, nt_lt, nt_eq, nt_cl, nt_add, nt_sub, bind_s, if_true, if_false, if_pos, if_neg, upd_s, k8, k16, k7, k4, s_r8, s_l7, s_l8, s_l16, a255, a127, f0]
          · simp (disch := omega) only [lit, ixF, nt_le, nt_lt, nt_eq, nt_cl, nt_add, nt_sub, bind_s, if_true, if_false, if_pos, if_neg, upd_s, k8, k16, k7, k4, s_r8, s_l7, s_l8, s_l16, a255, a127, f0]
    · by_cases t1 : tr < 1
      · simp (disch := omega) only [lit, ixF, nt_le, nt_lt, nt_eq, nt_cl, nt_add, nt_sub, bind_s, if_true, if_false, if_pos, if_neg, upd_s, k8, k16, k7, k4, s_r8, s_l7, s_l8, s_l16, a255, a127, f0]
      · by_cases t2 : 16 < tr
        · simp (disch := omega) only [lit, ixF, nt_le, nt_lt, nt_eq, nt_cl, nt_add, nt_sub, bind_s, if_true, if_false, if_pos, if_neg, upd_s, k8, k16, k7, k4, s_r8, s_l7, s_l8, s_l16, a255, a127, f0]
        · simp (disch := omega) only [lit, ixF, nt_le, nt_lt, nt_eq, nt_cl, nt_add, nt_sub, bind_s, if_true, if_false, if_pos, if_neg, upd_s, k8, k16, k7, k4, s_r8, s_l7, s_l8, s_l16, a255, a127, f0]
  rw [C, M]
  clear C M
  by_cases q4 : 1 ≤ tr ∧ tr ≤ (if fm = 0 then 1 else 16)
  rotate_left
  · right
    rw [if_neg q4, if_neg q4]
    unfold jM_head_103
    have B : Bad (upd (upd pv 0 (nt (0 + 4 + 4 + 2 + 2))) 2 (nt (3 + 16 * 10))) (upd (upd iv4 4 (nt 3)) 5 (nt 10)) := Bad.mk' (by omega) (by omega) (by omega)
    rw [show (3 : Int32) = nt 3 from rfl, show (10 : Int32) = nt 10 from rfl, f_0 g4.m4, bind_s]
    refine HB.of B (F4.trans FI.f.h) ?_ (m_h110B B.m B.m')
    unfold jP_head_104
    have e := x_0 (h := h) (z := z) (k := 3) (q := 10) g4.c2
    rw [show (3 : Int32) = nt 3 from rfl, show (10 : Int32) = nt 10 from rfl, e]
    exact c_h104B (s := 1) B.c
  rw [if_pos q4, if_pos q4]
  have tr16 : 1 ≤ tr ∧ tr ≤ 16 := by
    refine ⟨q4.1, ?_⟩
    have := q4.2
    split at this <;> omega
  unfold jP_head_104 jM_head_110
  rw [x_1, bind_s]; dsimp only
  rw [show (2 : Int32) = nt 2 from rfl]
  rcases j_fix I g4 (Nat.le_refl n) (show 2 ≤ 4 by omega) with ⟨w5, a, b'⟩ | ⟨w5, a, b'⟩
  rotate_left
  · right
    rw [a, b', bind_s, bind_s]; dsimp only
    obtain ⟨r, e⟩ := c_divT (h := h) (z := z) (-1 : Int64).toInt32
    obtain ⟨r', e'⟩ := m_divT (iv := upd (upd (upd iv4 4 (nt 1)) 5 (nt n)) 9 (0 : Int64).toInt32) (av := av) (upd (upd (upd iv4 4 (nt 1)) 5 (nt n)) 9 (0 : Int64).toInt32 9)
    have B2 : Bad (upd (upd pv 0 (nt (0 + 4 + 4 + 2 + 2))) 2 (nt (1 + 16 * n))) (upd (upd (upd iv4 4 (nt 1)) 5 (nt n)) 9 (0 : Int64).toInt32) := (B1 (iv := iv)).eq rfl (by rw [upd_n (by decide)]; rfl) (by rw [upd_n (by decide)]; rfl)
    rw [e, bind_s, e', bind_s]; dsimp only
    rw [x_B B2.c, bind_s, f_B B2.m, bind_s]; dsimp only
    refine ⟨_, _, _, rfl, ?_, ⟨_, _, _, rfl⟩, B2, F4.trans (FI.f.h.trans (FH.u (by omega)))⟩
    split <;> rfl
  have v2'' := V2 I (p := 0 + 4 + 4 + 2 + 2) (by omega)
  have g5 := g4.adv w5
  rw [a, b', bind_s, bind_s, upd_upd]; dsimp only
  rw [upd_upd] at g5
  rw [mt_32, upd_s]
  generalize V b (0 + 4 + 4 + 2 + 2) 2 = dv at *
  have g5 : Gd (upd pv 0 (nt (0 + 4 + 4 + 2 + 2 + 2))) (upd (upd iv4 2 (nt (0 + 4 + 4 + 2 + 2 + 2))) 9 (nt dv)) (0 + 4 + 4 + 2 + 2 + 2) n := g5.m fun k h1 h2 => upd_n (by omega)
  have F5 : FH iv (upd (upd iv4 2 (nt (0 + 4 + 4 + 2 + 2 + 2))) 9 (nt dv)) := F4.trans (FI.p.h.trans (FH.u (by omega)))
  rcases j_div (h := h) (z := z) (iv := upd (upd iv4 2 (nt (0 + 4 + 4 + 2 + 2 + 2))) 9 (nt dv)) (av := av) v2'' with ⟨D, e, e'⟩ | ⟨e, e'⟩
  · left
    rw [e, e', bind_s, bind_s]; dsimp only
    rw [x_1, bind_s, if_neg (by decide)]
    exact ⟨fm, tr, dv, _, q, tr16.1, tr16.2, D, rfl, rfl, by rw [upd_n (by decide), upd_n (by decide), e7], by rw [upd_n (by decide), upd_n (by decide), e8], upd_s, F5, g5, w5⟩
  · right
    rw [e, e', bind_s, bind_s]; dsimp only
    rw [if_pos rfl, show (3 : Int32) = nt 3 from rfl, show (12 : Int32) = nt 12 from rfl, x_0 g5.c2, bind_s, f_0 g5.m4, bind_s]
    exact ⟨_, _, _, rfl, rfl, ⟨_, _, _, rfl⟩, Bad.mk' (by omega) (by omega) (by omega), F5.trans FI.f.h⟩
