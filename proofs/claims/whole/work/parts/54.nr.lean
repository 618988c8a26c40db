/-- an event's body is read -/
abbrev EvB (st0 : Nat) (pv : Nat → Int32) (pv' : Nat → Int32) (av' : Nat → Nat → Int32) (b : Nat → Nat) (ne : Nat) (nd : Nat) (p : Nat) (e : Nat) (p' : Nat) (f6 : Nat) : Prop := (p < p') ∧ (p' ≤ e) ∧ (pv' 3 = pv 3) ∧ (pv' 4 = pv 4) ∧ (pv' 7 = av' 4 ne) ∧ (pv' 8 = av' 5 ne) ∧ (av' 6 ne = nt nd) ∧ (pv' 10 = av' 7 ne) ∧ ((st0 < 240 ∧ av' 7 ne = -nt 1 ∧ f6 = 0) ∨ (240 ≤ st0 ∧ av' 7 ne = nt f6 ∧ ∃ st, pv' 9 = nt st ∧ st + f6 ≤ e ∧ ∀ t, t < f6 → av' 10 (nd + t) = nt (b (st + t)))) ∧ ((128 ≤ st0 ∧ st0 < 240 ∧ (∃ f, f < 128 ∧ av' 4 ne = nt f) ∧ ((192 ≤ st0 ∧ st0 < 224 ∧ av' 5 ne = -1) ∨ ((st0 < 192 ∨ 224 ≤ st0) ∧ ∃ g, g < 128 ∧ av' 5 ne = nt g))) ∨ ((st0 = 240 ∨ st0 = 247) ∧ av' 4 ne = -1 ∧ av' 5 ne = -1) ∨ (st0 = 255 ∧ av' 5 ne = -1 ∧ ∃ f, f < 128 ∧ av' 4 ne = nt f ∧ (f = 81 → f6 = 3)))
theorem EvB.lt {st0 : Nat} {pv : Nat → Int32} {pv' : Nat → Int32} {av' : Nat → Nat → Int32} {b : Nat → Nat} {ne : Nat} {nd : Nat} {p : Nat} {e : Nat} {p' : Nat} {f6 : Nat} (s : EvB st0 pv pv' av' b ne nd p e p' f6) : p < p' := s.1
theorem EvB.le {st0 : Nat} {pv : Nat → Int32} {pv' : Nat → Int32} {av' : Nat → Nat → Int32} {b : Nat → Nat} {ne : Nat} {nd : Nat} {p : Nat} {e : Nat} {p' : Nat} {f6 : Nat} (s : EvB st0 pv pv' av' b ne nd p e p' f6) : p' ≤ e := s.2.1
theorem EvB.k3 {st0 : Nat} {pv : Nat → Int32} {pv' : Nat → Int32} {av' : Nat → Nat → Int32} {b : Nat → Nat} {ne : Nat} {nd : Nat} {p : Nat} {e : Nat} {p' : Nat} {f6 : Nat} (s : EvB st0 pv pv' av' b ne nd p e p' f6) : pv' 3 = pv 3 := s.2.2.1
theorem EvB.k4 {st0 : Nat} {pv : Nat → Int32} {pv' : Nat → Int32} {av' : Nat → Nat → Int32} {b : Nat → Nat} {ne : Nat} {nd : Nat} {p : Nat} {e : Nat} {p' : Nat} {f6 : Nat} (s : EvB st0 pv pv' av' b ne nd p e p' f6) : pv' 4 = pv 4 := s.2.2.2.1
theorem EvB.s1 {st0 : Nat} {pv : Nat → Int32} {pv' : Nat → Int32} {av' : Nat → Nat → Int32} {b : Nat → Nat} {ne : Nat} {nd : Nat} {p : Nat} {e : Nat} {p' : Nat} {f6 : Nat} (s : EvB st0 pv pv' av' b ne nd p e p' f6) : pv' 7 = av' 4 ne := s.2.2.2.2.1
theorem EvB.s2 {st0 : Nat} {pv : Nat → Int32} {pv' : Nat → Int32} {av' : Nat → Nat → Int32} {b : Nat → Nat} {ne : Nat} {nd : Nat} {p : Nat} {e : Nat} {p' : Nat} {f6 : Nat} (s : EvB st0 pv pv' av' b ne nd p e p' f6) : pv' 8 = av' 5 ne := s.2.2.2.2.2.1
theorem EvB.s3 {st0 : Nat} {pv : Nat → Int32} {pv' : Nat → Int32} {av' : Nat → Nat → Int32} {b : Nat → Nat} {ne : Nat} {nd : Nat} {p : Nat} {e : Nat} {p' : Nat} {f6 : Nat} (s : EvB st0 pv pv' av' b ne nd p e p' f6) : av' 6 ne = nt nd := s.2.2.2.2.2.2.1
theorem EvB.s4 {st0 : Nat} {pv : Nat → Int32} {pv' : Nat → Int32} {av' : Nat → Nat → Int32} {b : Nat → Nat} {ne : Nat} {nd : Nat} {p : Nat} {e : Nat} {p' : Nat} {f6 : Nat} (s : EvB st0 pv pv' av' b ne nd p e p' f6) : pv' 10 = av' 7 ne := s.2.2.2.2.2.2.2.1
theorem EvB.sz {st0 : Nat} {pv : Nat → Int32} {pv' : Nat → Int32} {av' : Nat → Nat → Int32} {b : Nat → Nat} {ne : Nat} {nd : Nat} {p : Nat} {e : Nat} {p' : Nat} {f6 : Nat} (s : EvB st0 pv pv' av' b ne nd p e p' f6) : (st0 < 240 ∧ av' 7 ne = -nt 1 ∧ f6 = 0) ∨ (240 ≤ st0 ∧ av' 7 ne = nt f6 ∧ ∃ st, pv' 9 = nt st ∧ st + f6 ≤ e ∧ ∀ t, t < f6 → av' 10 (nd + t) = nt (b (st + t))) := s.2.2.2.2.2.2.2.2.1
theorem EvB.kd {st0 : Nat} {pv : Nat → Int32} {pv' : Nat → Int32} {av' : Nat → Nat → Int32} {b : Nat → Nat} {ne : Nat} {nd : Nat} {p : Nat} {e : Nat} {p' : Nat} {f6 : Nat} (s : EvB st0 pv pv' av' b ne nd p e p' f6) : (128 ≤ st0 ∧ st0 < 240 ∧ (∃ f, f < 128 ∧ av' 4 ne = nt f) ∧ ((192 ≤ st0 ∧ st0 < 224 ∧ av' 5 ne = -1) ∨ ((st0 < 192 ∨ 224 ≤ st0) ∧ ∃ g, g < 128 ∧ av' 5 ne = nt g))) ∨ ((st0 = 240 ∨ st0 = 247) ∧ av' 4 ne = -1 ∧ av' 5 ne = -1) ∨ (st0 = 255 ∧ av' 5 ne = -1 ∧ ∃ f, f < 128 ∧ av' 4 ne = nt f ∧ (f = 81 → f6 = 3)) := s.2.2.2.2.2.2.2.2.2
def cBody (h : cH) (z : cZ) (pv : Nat → Int32) (s : Int32) : Option (cZ × (Nat → Int32)) := if (240 : Int32) ≤ s then (if s = (255 : Int32) then fP_metaEvent h z pv else fP_exclusiveEvent h z pv) else fP_channelEvent h z pv s
def BodyA (h : cH) (z : cZ) (pv iv : Nat → Int32) (av : Nat → Nat → Int32) (b : Nat → Nat) (ne nd p e s : Nat) (x1 x2 x4 : Int32) : Prop := ∃ pv' iv' av' p' f6, cBody h z pv (nt s) = some (z, pv') ∧ fM_eventIn iv av x1 x2 (nt s) x4 = jM_eventIn_172 iv' av' x1 x2 (nt s) x4 (nt ne) ∧ Gd pv' iv' p' e ∧ FI iv iv' ∧ EQ av av' ne nd ∧ EvB s pv pv' av' b ne nd p e p' f6 ∧ pv' 6 = pv 6 ∧ Run (pv' 5) (if 240 ≤ s then nt 0 else nt s)
def BodyB (h : cH) (z : cZ) (pv iv : Nat → Int32) (av : Nat → Nat → Int32) (ne nd p e s : Nat) (x1 x2 x4 : Int32) : Prop := ∃ pv' iv' av' p', cBody h z pv (nt s) = some (z, pv') ∧ fM_eventIn iv av x1 x2 (nt s) x4 = (if nt e ≤ nt p' then (some ((0 : Int32), iv', av')) else ((fM_fail iv' av' (7 : Int32) (nt p')).bind fun (iv6, av6) => some ((0 : Int32), iv6, av6))) ∧ Gd pv' iv' p' e ∧ FI iv iv' ∧ EQ av av' ne nd ∧ p < p' ∧ pv' 6 = nt 1 ∧ pv' 3 = pv 3
def BodyC (h : cH) (z : cZ) (pv iv : Nat → Int32) (av : Nat → Nat → Int32) (ne nd s : Nat) (x1 x2 x4 : Int32) : Prop := ∃ pv' r' iv' av', cBody h z pv (nt s) = some (z, pv') ∧ fM_eventIn iv av x1 x2 (nt s) x4 = some (r', iv', av') ∧ Bad pv' iv' ∧ FI iv iv' ∧ EQ av av' ne nd
section
variable {iv : Nat → Int32} {av : Nat → Nat → Int32} {x1 x2 x4 s2 : Int32} {ne s : Nat}
theorem m_e34a (hne : ne < 1001) (hs : s < 256) (q : (192 ≤ s ∧ s < 224) ∨ 240 ≤ s) : jM_eventIn_34 iv av x1 x2 (nt s) x4 (nt ne) (nt ne) s2 = jM_eventIn_70 iv (up2 av 4 ne s2) x1 x2 (nt s) x4 (nt ne) (nt ne) (-1) := by
  unfold jM_eventIn_34 jM_eventIn_69
  rw [if_neg (ixN hne (by omega)), nt_cl (by omega), if_neg (by rw [show (192 : Int32) = nt 192 from rfl, nt_lt (by omega) (by omega)]; omega)]
  by_cases q2 : s ≤ 223
  · rw [if_pos (by rw [show (223 : Int32) = nt 223 from rfl, nt_le (by omega) (by omega)]; omega)]
  · rw [if_neg (by rw [show (223 : Int32) = nt 223 from rfl, nt_le (by omega) (by omega)]; omega), if_pos (by rw [show (240 : Int32) = nt 240 from rfl, nt_le (by omega) (by omega)]; omega)]
theorem m_e34b (hne : ne < 1001) (hs : s < 240) (q : s < 192 ∨ 224 ≤ s) : jM_eventIn_34 iv av x1 x2 (nt s) x4 (nt ne) (nt ne) s2 = jM_eventIn_62 iv (up2 av 4 ne s2) x1 x2 (nt s) x4 (nt ne) (nt ne) := by
  unfold jM_eventIn_34
  rw [if_neg (ixN hne (by omega)), nt_cl (by omega)]
  by_cases q2 : s < 192
  · rw [if_pos (by rw [show (192 : Int32) = nt 192 from rfl, nt_lt (by omega) (by omega)]; omega)]
  · rw [if_neg (by rw [show (192 : Int32) = nt 192 from rfl, nt_lt (by omega) (by omega)]; omega), if_neg (by rw [show (223 : Int32) = nt 223 from rfl, nt_le (by omega) (by omega)]; omega), if_neg (by rw [show (240 : Int32) = nt 240 from rfl, nt_le (by omega) (by omega)]; omega)]
theorem m_e121a (hs : s < 255) (e4 : iv 4 = nt 0) : jM_eventIn_121 iv av x1 x2 (nt s) x4 (nt ne) = jM_eventIn_172 iv av x1 x2 (nt s) x4 (nt ne) := by
  unfold jM_eventIn_121
  rw [e4, if_pos (by decide), if_neg (by rw [show (255 : Int32) = nt 255 from rfl, nt_eq (by omega) (by omega)]; omega)]
theorem m_e121b (hne : ne < 1001) {f : Nat} (hf : f < 128) (e4 : iv 4 = nt 0) (a4 : av 4 ne = nt f) : jM_eventIn_121 iv av x1 x2 (nt 255) x4 (nt ne) = if f = 47 then (if (iv 3) ≤ (iv 2) then (some ((0 : Int32), iv, av)) else ((fM_fail iv av (7 : Int32) (iv 2)).bind fun (iv6, av6) => some ((0 : Int32), iv6, av6))) else jM_eventIn_172 iv av x1 x2 (nt 255) x4 (nt ne) := by
  unfold jM_eventIn_121
  rw [e4, if_pos (by decide), if_pos (show nt 255 = 255 from rfl), if_neg (ixN hne (by omega)), nt_cl (by omega), a4]
  by_cases q : f = 47
  · rw [if_pos (show nt f = 47 by rw [q]; rfl), if_pos q]
  · rw [if_neg (show ¬ nt f = 47 by rw [show (47 : Int32) = nt 47 from rfl, nt_eq (by omega) (by omega)]; exact q), if_neg q]
theorem m_e70a (hne : ne < 1001) (hs : s < 240) (e4 : iv 4 = nt 0) : jM_eventIn_70 iv av x1 x2 (nt s) x4 (nt ne) (nt ne) s2 = jM_eventIn_172 iv (up2 (up2 (up2 av 5 ne s2) 7 ne (-1)) 6 ne (iv 11)) x1 x2 (nt s) x4 (nt ne) := by
  unfold jM_eventIn_70
  rw [if_neg (ixN hne (by omega)), if_neg (ixN hne (by omega)), if_neg (ixN hne (by omega)), if_neg (ixN hne (by omega)), nt_cl (by omega), if_pos (by rw [show (239 : Int32) = nt 239 from rfl, nt_le (by omega) (by omega)]; omega), m_e121a (by omega) e4]
theorem m_e70b (hne : ne < 1001) (hs : s = 240 ∨ s = 247) : jM_eventIn_70 iv av x1 x2 (nt s) x4 (nt ne) (nt ne) s2 = (fM_follow iv (up2 (up2 (up2 av 5 ne s2) 7 ne (-1)) 6 ne (iv 11)) (nt ne) (-1)).bind fun (iv1, av1) => jM_eventIn_121 iv1 av1 x1 x2 (nt s) x4 (nt ne) := by
  unfold jM_eventIn_70 jM_eventIn_118
  rw [if_neg (ixN hne (by omega)), if_neg (ixN hne (by omega)), if_neg (ixN hne (by omega)), if_neg (ixN hne (by omega)), nt_cl (by omega), if_neg (by rw [show (239 : Int32) = nt 239 from rfl, nt_le (by omega) (by omega)]; omega), if_neg (by rw [show (255 : Int32) = nt 255 from rfl, nt_eq (by omega) (by omega)]; omega)]
theorem m_e70c (hne : ne < 1001) : jM_eventIn_70 iv av x1 x2 (nt 255) x4 (nt ne) (nt ne) s2 = (fM_follow iv (up2 (up2 (up2 av 5 ne s2) 7 ne (-1)) 6 ne (iv 11)) (nt ne) (av 4 ne)).bind fun (iv1, av1) => jM_eventIn_121 iv1 av1 x1 x2 (nt 255) x4 (nt ne) := by
  unfold jM_eventIn_70 jM_eventIn_118
  rw [if_neg (ixN hne (by omega)), if_neg (ixN hne (by omega)), if_neg (ixN hne (by omega)), if_neg (ixN hne (by omega)), nt_cl (by omega), if_neg (by decide), if_pos (show nt 255 = 255 from rfl), up2_o (by decide), up2_o (by decide), up2_o (by decide)]
end
theorem one_b {s : Nat} (hs : s < 256) : ((nt s &&& 240) = 192 ∨ (nt s &&& 240) = 208) = (192 ≤ s ∧ s < 224) := by
  have : ∀ s : Fin 256, ((nt s.val &&& 240) = 192 ∨ (nt s.val &&& 240) = 208) ↔ (192 ≤ s.val ∧ s.val < 224) := by decide +kernel
  exact propext (this ⟨s, hs⟩)
theorem c_one {h z} {s : Nat} (hs : s < 256) : fD_hasOneByte h z (nt s) = some (if 192 ≤ s ∧ s < 224 then 1 else 0, z) := by
  unfold fD_hasOneByte
  have := one_b hs
  by_cases q : 192 ≤ s ∧ s < 224
  · rw [if_pos q]
    rcases this.mpr q with w | w
    · rw [if_pos w]
    · by_cases w2 : (nt s &&& 240) = 192
      · rw [if_pos w2]
      · rw [if_neg w2, if_pos w]
  · rw [if_neg q]
    have w := fun x => q (this.mp x)
    rw [if_neg (fun x => w (.inl x)), if_neg (fun x => w (.inr x))]
theorem c_chB {h z} {pv : Nat → Int32} {x1 : Int32} {r : Int32} {pv1 : Nat → Int32} (hs : ∃ v, fD_hasOneByte h z x1 = some (v, z)) (b : ¬ pv1 2 = 0) (e : fP_lowByte h z (upd pv 5 x1) = some (r, z, pv1)) : ∃ pv', fP_channelEvent h z pv x1 = some (z, pv') ∧ pv' 2 = pv1 2 := by
  obtain ⟨v, hv⟩ := hs
  unfold fP_channelEvent jP_channelEvent_29
  rw [e, bind_s]; dsimp only
  rw [hv, bind_s]; dsimp only
  obtain ⟨r2, e2⟩ := c_lowB (h := h) (z := z) (pv := upd pv1 7 r) (by rw [upd_n (by decide)]; exact b)
  rw [e2, bind_s]; dsimp only
  split
  · exact ⟨_, rfl, by rw [upd_n (by decide), upd_n (by decide), upd_n (by decide)]⟩
  · exact ⟨_, rfl, by rw [upd_n (by decide), upd_n (by decide), upd_n (by decide)]⟩
theorem m_inL {iv : Nat → Int32} {av : Nat → Nat → Int32} {x1 x2 x4 : Int32} {s ne : Nat} (hs : s < 256) (n1 : s ≠ 240) (n2 : s ≠ 247) (e10 : iv 10 = nt ne) : fM_eventIn iv av x1 x2 (nt s) x4 = (fM_small iv av).bind fun (r3, iv3, av3) => jM_eventIn_34 iv3 av3 x1 x2 (nt s) x4 (nt ne) (nt ne) r3 := by
  unfold fM_eventIn
  rw [if_neg (by rw [show (240 : Int32) = nt 240 from rfl, nt_eq (by omega) (by omega)]; exact n1), if_neg (by rw [show (247 : Int32) = nt 247 from rfl, nt_eq (by omega) (by omega)]; exact n2), e10]
theorem b_chan {h z av b n} (I : Inp h z av b n) {pv iv : Nat → Int32} {p e ne nd s : Nat} {x1 x2 x4 : Int32} (g : Gd pv iv p e) (he : e ≤ n) (hne : ne < 1001) (hd : nd ≤ 8000) (e10 : iv 10 = nt ne) (e11 : iv 11 = nt nd) (h1 : 128 ≤ s) (h2 : s < 240) :
    BodyA h z pv iv av b ne nd p e s x1 x2 x4 ∨ BodyC h z pv iv av ne nd s x1 x2 x4 := by
  have hn := I.mx
  have hC : cBody h z pv (nt s) = fP_channelEvent h z pv (nt s) := by
    unfold cBody; rw [if_neg (by rw [show (240 : Int32) = nt 240 from rfl, nt_le (by omega) (by omega)]; omega)]
  have hM := m_inL (av := av) (x1 := x1) (x2 := x2) (x4 := x4) (show s < 256 by omega) (by omega) (by omega) e10
  have g0 : Gd (upd pv 5 (nt s)) iv p e := g.c fun k hk => upd_n (by omega)
  unfold BodyA BodyC
  rw [hC, hM]
  rcases j_low I g0 he with ⟨f, hf, w, a, b'⟩ | ⟨r, r', pv', iv', a, b', B, F⟩
  rotate_left
  · right
    obtain ⟨pv2, c1, c2⟩ := c_chB (h := h) (z := z) (pv := pv) (x1 := nt s) ⟨_, c_one (by omega)⟩ B.c a
    obtain ⟨av2, m1, m2⟩ := m_e34B (iv := iv') (av := av) (ne := ne) (nd := nd) (x1 := x1) (x2 := x2) (x3 := nt s) (x4 := x4) (s2 := r') hne B.m B.m'
    rw [c1, b', bind_s]; dsimp only
    rw [m1]
    exact ⟨_, _, _, _, rfl, rfl, B.eq c2 rfl rfl, F, m2⟩
  have g1 := g0.adv (p' := p + 1) w
  rw [b', bind_s]; dsimp only
  unfold fP_channelEvent jP_channelEvent_29
  rw [a, bind_s]; dsimp only
  rw [c_one (by omega), bind_s]; dsimp only
  by_cases q : 192 ≤ s ∧ s < 224
  · left
    rw [if_pos q, if_neg (by decide), m_e34a hne (by omega) (.inl q), m_e70a hne h2 g1.m4]
    have G2 : Gd (upd (upd (upd (upd (upd pv 5 (nt s)) 0 (nt (p + 1))) 7 (nt f)) 8 (-1)) 10 (-1)) (upd iv 2 (nt (p + 1))) (p + 1) e :=
      ((g1.c (pv' := upd (upd (upd pv 5 (nt s)) 0 (nt (p + 1))) 7 (nt f)) fun k hk => upd_n (by omega)).c (pv' := upd (upd (upd (upd pv 5 (nt s)) 0 (nt (p + 1))) 7 (nt f)) 8 (-1)) fun k hk => upd_n (by omega)).c fun k hk => upd_n (by omega)
    refine ⟨_, _, _, p + 1, 0, rfl, rfl, G2, FI.p, (((EQ.u (by omega) (by omega)).trans (EQ.u (by omega) (by omega))).trans (EQ.u (by omega) (by omega))).trans (EQ.u (by omega) (by omega)), ⟨by omega, w, ?_, ?_, ?_, ?_, ?_, ?_, .inl ⟨h2, ?_, rfl⟩, .inl ⟨h1, h2, ⟨f, hf, ?_⟩, .inl ⟨q.1, q.2, ?_⟩⟩⟩, ?_, ?_⟩
    · rw [upd_n (by decide), upd_n (by decide), upd_n (by decide), upd_n (by decide), upd_n (by decide)]
    · rw [upd_n (by decide), upd_n (by decide), upd_n (by decide), upd_n (by decide), upd_n (by decide)]
    · rw [upd_n (by decide), upd_n (by decide), upd_s, up2_o (by decide), up2_o (by decide), up2_o (by decide), up2_s]
    · rw [upd_n (by decide), upd_s, up2_o (by decide), up2_o (by decide), up2_s]
    · rw [up2_s, upd_n (by decide), e11]
    · rw [upd_s, up2_o (by decide), up2_s]
    · rw [up2_o (by decide), up2_s]; rfl
    · rw [up2_o (by decide), up2_o (by decide), up2_o (by decide), up2_s]
    · rw [up2_o (by decide), up2_o (by decide), up2_s]
    · rw [upd_n (by decide), upd_n (by decide), upd_n (by decide), upd_n (by decide), upd_n (by decide)]
    · rw [upd_n (by decide), upd_n (by decide), upd_n (by decide), upd_n (by decide), upd_s, if_neg (by omega)]
      exact .inr ⟨rfl, s, h1, h2, rfl⟩
  rw [if_neg q, if_pos rfl, m_e34b hne h2 (by omega)]
  have I2 : Inp h z (up2 av 4 ne (nt f)) b n := I.eq' (EQ.u (ne := ne) (nd := nd) (by omega) (by omega))
  have g2 : Gd (upd (upd (upd pv 5 (nt s)) 0 (nt (p + 1))) 7 (nt f)) (upd iv 2 (nt (p + 1))) (p + 1) e := g1.c fun k hk => upd_n (by omega)
  unfold jM_eventIn_62
  rcases j_low I2 g2 he with ⟨gg, hg, w2, a2, b2⟩ | ⟨r, r', pv', iv', a2, b2, B, F⟩
  · left
    rw [a2, b2, bind_s, bind_s]; dsimp only
    have g3 := g2.adv (p' := p + 1 + 1) w2
    rw [m_e70a hne h2 g3.m4]
    rw [upd_upd (f := iv)] at g3 ⊢
    have G2 : Gd (upd (upd (upd (upd (upd (upd pv 5 (nt s)) 0 (nt (p + 1))) 7 (nt f)) 0 (nt (p + 1 + 1))) 8 (nt gg)) 10 (-1)) (upd iv 2 (nt (p + 1 + 1))) (p + 1 + 1) e :=
      (g3.c (pv' := upd (upd (upd (upd (upd pv 5 (nt s)) 0 (nt (p + 1))) 7 (nt f)) 0 (nt (p + 1 + 1))) 8 (nt gg)) fun k hk => upd_n (by omega)).c fun k hk => upd_n (by omega)
    refine ⟨_, _, _, p + 1 + 1, 0, rfl, rfl, G2, FI.p, (((EQ.u (by omega) (by omega)).trans (EQ.u (by omega) (by omega))).trans (EQ.u (by omega) (by omega))).trans (EQ.u (by omega) (by omega)), ⟨by omega, w2, ?_, ?_, ?_, ?_, ?_, ?_, .inl ⟨h2, ?_, rfl⟩, .inl ⟨h1, h2, ⟨f, hf, ?_⟩, .inr ⟨by omega, gg, hg, ?_⟩⟩⟩, ?_, ?_⟩
    · rw [upd_n (by decide), upd_n (by decide), upd_n (by decide), upd_n (by decide), upd_n (by decide), upd_n (by decide)]
    · rw [upd_n (by decide), upd_n (by decide), upd_n (by decide), upd_n (by decide), upd_n (by decide), upd_n (by decide)]
    · rw [upd_n (by decide), upd_n (by decide), upd_n (by decide), upd_s, up2_o (by decide), up2_o (by decide), up2_o (by decide), up2_s]
    · rw [upd_n (by decide), upd_s, up2_o (by decide), up2_o (by decide), up2_s]
    · rw [up2_s, upd_n (by decide), e11]
    · rw [upd_s, up2_o (by decide), up2_s]
    · rw [up2_o (by decide), up2_s]; rfl
    · rw [up2_o (by decide), up2_o (by decide), up2_o (by decide), up2_s]
    · rw [up2_o (by decide), up2_o (by decide), up2_s]
    · rw [upd_n (by decide), upd_n (by decide), upd_n (by decide), upd_n (by decide), upd_n (by decide), upd_n (by decide)]
    · rw [upd_n (by decide), upd_n (by decide), upd_n (by decide), upd_n (by decide), upd_n (by decide), upd_s, if_neg (by omega)]
      exact .inr ⟨rfl, s, h1, h2, rfl⟩
  · right
    obtain ⟨av2, m1, m2⟩ := m_e70B (iv := iv') (av := up2 av 4 ne (nt f)) (ne := ne) (nd := nd) (x1 := x1) (x2 := x2) (x3 := nt s) (x4 := x4) (s2 := r') hne B.m B.m'
    rw [a2, b2, bind_s, bind_s]; dsimp only
    rw [m1]
    exact ⟨_, _, _, _, rfl, rfl, B.eq (by rw [upd_n (by decide), upd_n (by decide)]) rfl rfl, FI.p.trans F, (EQ.u (by omega) (by omega)).trans m2⟩
theorem b_excl {h z av b n} (I : Inp h z av b n) {pv iv : Nat → Int32} {p e ne nd s : Nat} {x1 x2 x4 : Int32} (g : Gd pv iv p e) (he : e ≤ n) (hne : ne < 1001) (hd : nd ≤ 8000) (e10 : iv 10 = nt ne) (e11 : iv 11 = nt nd) (hs : s = 240 ∨ s = 247) :
    BodyA h z pv iv av b ne nd p e s x1 x2 x4 ∨ BodyC h z pv iv av ne nd s x1 x2 x4 := by
  have hn := I.mx
  have hC : cBody h z pv (nt s) = fP_exclusiveEvent h z pv := by
    unfold cBody; rw [if_pos (by rw [show (240 : Int32) = nt 240 from rfl, nt_le (by omega) (by omega)]; omega), if_neg (by rw [show (255 : Int32) = nt 255 from rfl, nt_eq (by omega) (by omega)]; omega)]
  have hM : fM_eventIn iv av x1 x2 (nt s) x4 = jM_eventIn_26 iv av x1 x2 (nt s) x4 (nt ne) (nt ne) := by
    unfold fM_eventIn
    rw [e10]
    rcases hs with q | q
    · rw [if_pos (show nt s = 240 by rw [q]; rfl)]
    · rw [if_neg (show ¬ nt s = 240 by rw [q]; decide), if_pos (show nt s = 247 by rw [q]; rfl)]
  have g0 : Gd (upd (upd (upd pv 5 (-1)) 7 (-1)) 8 (-1)) iv p e := ((g.c (pv' := upd pv 5 (-1)) fun k hk => upd_n (by omega)).c (pv' := upd (upd pv 5 (-1)) 7 (-1)) fun k hk => upd_n (by omega)).c fun k hk => upd_n (by omega)
  have Q : EQ av (up2 (up2 (up2 (up2 av 4 ne (-1)) 5 ne (-1)) 7 ne (-1)) 6 ne (iv 11)) ne nd := (((EQ.u (by omega) (by omega)).trans (EQ.u (by omega) (by omega))).trans (EQ.u (by omega) (by omega))).trans (EQ.u (by omega) (by omega))
  have I2 := I.eq' Q
  unfold BodyA BodyC
  rw [hC, hM]
  unfold jM_eventIn_26
  rw [m_e34a hne (by omega) (.inr (by omega)), m_e70b hne hs]
  unfold fP_exclusiveEvent
  rcases j_excl I2 g0 he hne hd e11 with ⟨c, p2, av', q1, q2, a, b', F⟩ | ⟨pv', iv', av', a, b', B, F, Q2⟩
  · left
    rw [a, b', bind_s]; dsimp only
    have G : Gd (upd (upd (upd (upd (upd (upd (upd pv 5 (-1)) 7 (-1)) 8 (-1)) 0 (nt p2)) 10 (nt c)) 9 (nt p2)) 0 (nt (p2 + c))) (upd iv 2 (nt (p2 + c))) (p2 + c) e :=
      ⟨upd_s, by rw [upd_n (by decide), upd_n (by decide), upd_n (by decide), upd_n (by decide)]; exact g0.c1, by rw [upd_n (by decide), upd_n (by decide), upd_n (by decide), upd_n (by decide)]; exact g0.c2, upd_s, by rw [upd_n (by decide)]; exact g.m3, by rw [upd_n (by decide)]; exact g.m4, by rw [upd_n (by decide)]; exact g.m5, q2⟩
    rw [m_e121a (by omega) G.m4]
    refine ⟨_, _, _, p2 + c, c, rfl, rfl, G, FI.p, Q.trans F.eq, ⟨by omega, q2, ?_, ?_, ?_, ?_, ?_, ?_, .inr ⟨by omega, F.2.2.1, p2, ?_, q2, F.2.2.2.2⟩, .inr (.inl ⟨hs, ?_, ?_⟩)⟩, ?_, ?_⟩
    · rw [upd_n (by decide), upd_n (by decide), upd_n (by decide), upd_n (by decide), upd_n (by decide), upd_n (by decide), upd_n (by decide)]
    · rw [upd_n (by decide), upd_n (by decide), upd_n (by decide), upd_n (by decide), upd_n (by decide), upd_n (by decide), upd_n (by decide)]
    · rw [upd_n (by decide), upd_n (by decide), upd_n (by decide), upd_n (by decide), upd_n (by decide), upd_s, F.1 4 (by decide) (by decide), up2_o (by decide), up2_o (by decide), up2_o (by decide), up2_s]
    · rw [upd_n (by decide), upd_n (by decide), upd_n (by decide), upd_n (by decide), upd_s, F.1 5 (by decide) (by decide), up2_o (by decide), up2_o (by decide), up2_s]
    · rw [F.1 6 (by decide) (by decide), up2_s, e11]
    · rw [upd_n (by decide), upd_n (by decide), upd_s, F.2.2.1]
    · rw [upd_n (by decide), upd_s]
    · rw [F.1 4 (by decide) (by decide), up2_o (by decide), up2_o (by decide), up2_o (by decide), up2_s]
    · rw [F.1 5 (by decide) (by decide), up2_o (by decide), up2_o (by decide), up2_s]
    · rw [upd_n (by decide), upd_n (by decide), upd_n (by decide), upd_n (by decide), upd_n (by decide), upd_n (by decide), upd_n (by decide)]
    · rw [upd_n (by decide), upd_n (by decide), upd_n (by decide), upd_n (by decide), upd_n (by decide), upd_n (by decide), upd_s, if_pos (by omega)]
      exact .inl ⟨rfl, rfl⟩
  · right
    rw [a, b', bind_s]; dsimp only
    rw [m_e121B B.m]
    exact ⟨_, _, _, _, rfl, rfl, B, F, Q.trans Q2⟩
theorem c_mB {h z} {pv : Nat → Int32} (b : ¬ pv 2 = 0) : ∃ pv', cMeta h z pv = some (z, pv') ∧ pv' 2 = pv 2 := by
  unfold cMeta
  rw [c_numB b, bind_s]; dsimp only
  have b1 : ¬ upd pv 10 0 2 = 0 := by rw [upd_n (by decide)]; exact b
  have e : upd pv 10 0 2 = pv 2 := upd_n (by decide)
  split
  · obtain ⟨q, a, c⟩ := c_m46B (h := h) (z := z) (x := pv 0) (.inr rfl) b1
    exact ⟨q, a, c.trans e⟩
  · obtain ⟨q, a, c⟩ := c_m46B (h := h) (z := z) (x := pv 0) (.inl rfl) b1
    exact ⟨q, a, c.trans e⟩
theorem b_meta {h z av b n} (I : Inp h z av b n) {pv iv : Nat → Int32} {p e ne nd : Nat} {x1 x2 x4 : Int32} (g : Gd pv iv p e) (he : e ≤ n) (hne : ne < 1001) (hd : nd ≤ 8000) (e10 : iv 10 = nt ne) (e11 : iv 11 = nt nd) (k6 : pv 6 = nt 0) :
    BodyA h z pv iv av b ne nd p e 255 x1 x2 x4 ∨ BodyB h z pv iv av ne nd p e 255 x1 x2 x4 ∨ BodyC h z pv iv av ne nd 255 x1 x2 x4 := by
  have hn := I.mx
  have hC : cBody h z pv (nt 255) = (fP_lowByte h z (upd pv 5 (-1))).bind fun (r1, z1, pv1) => cMeta h z1 (upd (upd pv1 7 r1) 8 (-1)) := by
    unfold cBody; rw [if_pos (by decide), if_pos (show nt 255 = 255 from rfl)]; rfl
  have hM := m_inL (av := av) (x1 := x1) (x2 := x2) (x4 := x4) (show 255 < 256 by omega) (by omega) (by omega) e10
  have g0 : Gd (upd pv 5 (-1)) iv p e := g.c fun k hk => upd_n (by omega)
  unfold BodyA BodyB BodyC
  rw [hC, hM]
  rcases j_low I g0 he with ⟨f, hf, w, a, b'⟩ | ⟨r, r', pv', iv', a, b', B, F⟩
  rotate_left
  · right; right
    have B2 : Bad (upd (upd pv' 7 r) 8 (-1)) iv' := B.eq (by rw [upd_n (by decide), upd_n (by decide)]) rfl rfl
    obtain ⟨pv2, c1, c2⟩ := c_mB (h := h) (z := z) B2.c
    obtain ⟨av2, m1, m2⟩ := m_e34B (iv := iv') (av := av) (ne := ne) (nd := nd) (x1 := x1) (x2 := x2) (x3 := nt 255) (x4 := x4) (s2 := r') hne B.m B.m'
    rw [a, b', bind_s, bind_s]; dsimp only
    rw [c1, m1]
    exact ⟨_, _, _, _, rfl, rfl, B2.eq c2 rfl rfl, F, m2⟩
  have g1 := g0.adv (p' := p + 1) w
  rw [a, b', bind_s, bind_s]; dsimp only
  rw [m_e34a hne (by omega) (.inr (by omega)), m_e70c hne, up2_s]
  have g2 : Gd (upd (upd (upd (upd pv 5 (-1)) 0 (nt (p + 1))) 7 (nt f)) 8 (-1)) (upd iv 2 (nt (p + 1))) (p + 1) e := (g1.c (pv' := upd (upd (upd pv 5 (-1)) 0 (nt (p + 1))) 7 (nt f)) fun k hk => upd_n (by omega)).c fun k hk => upd_n (by omega)
  have e11' : upd iv 2 (nt (p + 1)) 11 = nt nd := by rw [upd_n (by decide), e11]
  rw [e11']
  have Q : EQ av (up2 (up2 (up2 (up2 av 4 ne (nt f)) 5 ne (-1)) 7 ne (-1)) 6 ne (nt nd)) ne nd := (((EQ.u (by omega) (by omega)).trans (EQ.u (by omega) (by omega))).trans (EQ.u (by omega) (by omega))).trans (EQ.u (by omega) (by omega))
  have I2 := I.eq' Q
  rcases j_meta I2 g2 he hne hd e11' up2_s hf (by rw [upd_n (by decide), upd_s]) with ⟨c, p2, av', pv', q1, q2, q3, q4, a2, eP, b2, F⟩ | ⟨pv', iv', av', a2, b2, B, F, Q2⟩
  rotate_left
  · right; right
    rw [a2, b2, bind_s]; dsimp only
    rw [m_e121B B.m]
    exact ⟨_, _, _, _, rfl, rfl, B, FI.p.trans F, Q.trans Q2⟩
  rw [a2, b2, bind_s]; dsimp only
  rw [upd_upd]
  have P : ∀ k, k ≠ 0 → k ≠ 5 → k ≠ 6 → k ≠ 7 → k ≠ 8 → k ≠ 9 → k ≠ 10 → pv' k = pv k := by
    intro k h0 h5 h6 h7 h8 h9 h10
    rw [eP, upd_n h0, upd_n h9, upd_n h6, upd_n h10, upd_n h0, upd_n h8, upd_n h7, upd_n h0, upd_n h5]
  have P0 : pv' 0 = nt (p2 + c) := by rw [eP, upd_s]
  have P5 : pv' 5 = -1 := by rw [eP, upd_n (by decide), upd_n (by decide), upd_n (by decide), upd_n (by decide), upd_n (by decide), upd_n (by decide), upd_n (by decide), upd_n (by decide), upd_s]
  have P6 : pv' 6 = if f = 47 then 1 else 0 := by rw [eP, upd_n (by decide), upd_n (by decide), upd_s]
  have P7 : pv' 7 = nt f := by rw [eP, upd_n (by decide), upd_n (by decide), upd_n (by decide), upd_n (by decide), upd_n (by decide), upd_n (by decide), upd_s]
  have P8 : pv' 8 = -1 := by rw [eP, upd_n (by decide), upd_n (by decide), upd_n (by decide), upd_n (by decide), upd_n (by decide), upd_s]
  have P9 : pv' 9 = nt p2 := by rw [eP, upd_n (by decide), upd_s]
  have P10 : pv' 10 = nt c := by rw [eP, upd_n (by decide), upd_n (by decide), upd_n (by decide), upd_s]
  have G : Gd pv' (upd iv 2 (nt (p2 + c))) (p2 + c) e :=
      ⟨P0, (P 1 (by decide) (by decide) (by decide) (by decide) (by decide) (by decide) (by decide)).trans g.c1, (P 2 (by decide) (by decide) (by decide) (by decide) (by decide) (by decide) (by decide)).trans g.c2, upd_s, by rw [upd_n (by decide)]; exact g.m3, by rw [upd_n (by decide)]; exact g.m4, by rw [upd_n (by decide)]; exact g.m5, q2⟩
  have A4 : av' 4 ne = nt f := by rw [F.1 4 (by decide) (by decide), up2_o (by decide), up2_o (by decide), up2_o (by decide), up2_s]
  have A5 : av' 5 ne = -1 := by rw [F.1 5 (by decide) (by decide), up2_o (by decide), up2_o (by decide), up2_s]
  rw [m_e121b hne hf G.m4 A4]
  by_cases q : f = 47
  · right; left
    rw [if_pos q, G.m2, G.m3]
    exact ⟨_, _, _, p2 + c, rfl, rfl, G, FI.p, Q.trans F.eq, by omega, by rw [P6, if_pos q]; rfl, P 3 (by decide) (by decide) (by decide) (by decide) (by decide) (by decide) (by decide)⟩
  · left
    rw [if_neg q]
    refine ⟨_, _, _, p2 + c, c, rfl, rfl, G, FI.p, Q.trans F.eq, ⟨by omega, q2, P 3 (by decide) (by decide) (by decide) (by decide) (by decide) (by decide) (by decide), P 4 (by decide) (by decide) (by decide) (by decide) (by decide) (by decide) (by decide), P7.trans A4.symm, P8.trans A5.symm, by rw [F.1 6 (by decide) (by decide), up2_s], P10.trans F.2.2.1.symm, .inr ⟨by omega, F.2.2.1, p2, P9, q2, F.2.2.2.2⟩, .inr (.inr ⟨rfl, A5, f, hf, A4, q4⟩)⟩, by rw [P6, if_neg q, k6]; rfl, ?_⟩
    rw [P5, if_pos (by omega)]
    exact .inl ⟨rfl, rfl⟩
theorem b_all {h z av b n} (I : Inp h z av b n) {pv iv : Nat → Int32} {p e ne nd s : Nat} {x1 x2 x4 : Int32} (g : Gd pv iv p e) (he : e ≤ n) (hne : ne < 1001) (hd : nd ≤ 8000) (e10 : iv 10 = nt ne) (e11 : iv 11 = nt nd) (k6 : pv 6 = nt 0) (hs : (128 ≤ s ∧ s ≤ 240) ∨ s = 247 ∨ s = 255) :
    BodyA h z pv iv av b ne nd p e s x1 x2 x4 ∨ BodyB h z pv iv av ne nd p e s x1 x2 x4 ∨ BodyC h z pv iv av ne nd s x1 x2 x4 := by
  by_cases q : s < 240
  · rcases b_chan I g he hne hd e10 e11 (by omega) q with w | w
    · exact .inl w
    · exact .inr (.inr w)
  by_cases q2 : s = 255
  · subst q2; exact b_meta I g he hne hd e10 e11 k6
  · rcases b_excl I g he hne hd e10 e11 (show s = 240 ∨ s = 247 by omega) with w | w
    · exact .inl w
    · exact .inr (.inr w)
