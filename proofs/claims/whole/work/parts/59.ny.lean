/-- the end of a reading -/
abbrev RO (h0 : cH) (z0 : cZ) (iv0 : Nat → Int32) (av0 : Nat → Nat → Int32) (h' : cH) (z' : cZ) (iv' : Nat → Int32) (av' : Nat → Nat → Int32) : Prop := (CI h' z') ∧ (gr h0 h') ∧ (zi z' 1 = zi z0 1) ∧ (za z' 1 = za z0 1) ∧ (h'.1 1 = h0.1 1) ∧ (iv' 0 = iv0 0) ∧ (iv' 1 = nt 0) ∧ (iv' 12 = iv0 12) ∧ (av' 11 = av0 11) ∧ ((zi z' 3 = nt 1 ∧ iv' 6 = nt 1 ∧ ∃ n o nd fm tr dv, LST h' z' iv' av' n o nd fm tr dv) ∨ (zi z' 3 = nt 0 ∧ iv' 6 = nt 0 ∧ zi z' 7 = nt 0 ∧ iv' 10 = nt 0))
theorem RO.ci {h0 : cH} {z0 : cZ} {iv0 : Nat → Int32} {av0 : Nat → Nat → Int32} {h' : cH} {z' : cZ} {iv' : Nat → Int32} {av' : Nat → Nat → Int32} (s : RO h0 z0 iv0 av0 h' z' iv' av') : CI h' z' := s.1
theorem RO.gr {h0 : cH} {z0 : cZ} {iv0 : Nat → Int32} {av0 : Nat → Nat → Int32} {h' : cH} {z' : cZ} {iv' : Nat → Int32} {av' : Nat → Nat → Int32} (s : RO h0 z0 iv0 av0 h' z' iv' av') : gr h0 h' := s.2.1
theorem RO.c1 {h0 : cH} {z0 : cZ} {iv0 : Nat → Int32} {av0 : Nat → Nat → Int32} {h' : cH} {z' : cZ} {iv' : Nat → Int32} {av' : Nat → Nat → Int32} (s : RO h0 z0 iv0 av0 h' z' iv' av') : zi z' 1 = zi z0 1 := s.2.2.1
theorem RO.a1 {h0 : cH} {z0 : cZ} {iv0 : Nat → Int32} {av0 : Nat → Nat → Int32} {h' : cH} {z' : cZ} {iv' : Nat → Int32} {av' : Nat → Nat → Int32} (s : RO h0 z0 iv0 av0 h' z' iv' av') : za z' 1 = za z0 1 := s.2.2.2.1
theorem RO.l1 {h0 : cH} {z0 : cZ} {iv0 : Nat → Int32} {av0 : Nat → Nat → Int32} {h' : cH} {z' : cZ} {iv' : Nat → Int32} {av' : Nat → Nat → Int32} (s : RO h0 z0 iv0 av0 h' z' iv' av') : h'.1 1 = h0.1 1 := s.2.2.2.2.1
theorem RO.m0 {h0 : cH} {z0 : cZ} {iv0 : Nat → Int32} {av0 : Nat → Nat → Int32} {h' : cH} {z' : cZ} {iv' : Nat → Int32} {av' : Nat → Nat → Int32} (s : RO h0 z0 iv0 av0 h' z' iv' av') : iv' 0 = iv0 0 := s.2.2.2.2.2.1
theorem RO.m1 {h0 : cH} {z0 : cZ} {iv0 : Nat → Int32} {av0 : Nat → Nat → Int32} {h' : cH} {z' : cZ} {iv' : Nat → Int32} {av' : Nat → Nat → Int32} (s : RO h0 z0 iv0 av0 h' z' iv' av') : iv' 1 = nt 0 := s.2.2.2.2.2.2.1
theorem RO.m12 {h0 : cH} {z0 : cZ} {iv0 : Nat → Int32} {av0 : Nat → Nat → Int32} {h' : cH} {z' : cZ} {iv' : Nat → Int32} {av' : Nat → Nat → Int32} (s : RO h0 z0 iv0 av0 h' z' iv' av') : iv' 12 = iv0 12 := s.2.2.2.2.2.2.2.1
theorem RO.w11 {h0 : cH} {z0 : cZ} {iv0 : Nat → Int32} {av0 : Nat → Nat → Int32} {h' : cH} {z' : cZ} {iv' : Nat → Int32} {av' : Nat → Nat → Int32} (s : RO h0 z0 iv0 av0 h' z' iv' av') : av' 11 = av0 11 := s.2.2.2.2.2.2.2.2.1
theorem RO.lst {h0 : cH} {z0 : cZ} {iv0 : Nat → Int32} {av0 : Nat → Nat → Int32} {h' : cH} {z' : cZ} {iv' : Nat → Int32} {av' : Nat → Nat → Int32} (s : RO h0 z0 iv0 av0 h' z' iv' av') : (zi z' 3 = nt 1 ∧ iv' 6 = nt 1 ∧ ∃ n o nd fm tr dv, LST h' z' iv' av' n o nd fm tr dv) ∨ (zi z' 3 = nt 0 ∧ iv' 6 = nt 0 ∧ zi z' 7 = nt 0 ∧ iv' 10 = nt 0) := s.2.2.2.2.2.2.2.2.2
def RdO (h0 : cH) (z0 : cZ) (iv0 : Nat → Int32) (av0 : Nat → Nat → Int32) (C : Option (Int32 × cH × cZ × (Nat → Int32))) (M : Option (Int32 × (Nat → Int32) × (Nat → Nat → Int32))) : Prop :=
  ∃ v h' z' pv' iv' av', C = some (v, h', z', pv') ∧ M = some (v, iv', av') ∧ RO h0 z0 iv0 av0 h' z' iv' av'
theorem e_bad {h0 z0 iv0 av0 h z} {pv iv : Nat → Int32} {av : Nat → Nat → Int32} {x1 : Int32} (fc : FC h0 z0 h z) (fm : FM iv0 av0 iv av) (B : Bad pv iv) : RdO h0 z0 iv0 av0 (jP_parse_91 h z pv) (jM_read_213 iv av x1) := by
  have C : jP_parse_91 h z pv = some (pv 2, h, zU (zU (zU z 3 0) 7 0) 2 0, pv) := by
    unfold jP_parse_91 jP_parse_111 fS_forget fB2_empty
    rw [x_B B.c, x_B B.c, bind_s]; dsimp only
    rw [if_neg B.c]
    split <;> rfl
  have M : jM_read_213 iv av x1 = some (iv 4 + 16 * iv 5, upd (upd (upd iv 6 0) 1 0) 10 0, av) := by
    unfold jM_read_213 jM_read_231 jM_read_244 jM_read_271
    rw [f_B B.m, bind_s]; dsimp only
    rw [if_neg B.m', if_neg (show ¬ ¬ ((0 : Int32) = 0 ∨ (0 : Int32) = 1) by decide), upd_n (show (6 : Nat) ≠ 1 by decide), upd_s, if_pos rfl, upd_n (by decide), upd_n (by decide), upd_n (by decide), upd_n (by decide), upd_n (by decide), upd_n (by decide)]
    split <;> rfl
  obtain ⟨k, q, h1, h2, h3, e2, e4, e5⟩ := B
  have V : pv 2 = iv 4 + 16 * iv 5 := by rw [e2, e4, e5, show (16 : Int32) = nt 16 from rfl, nt_mul, nt_add]
  rw [C, M, V]
  refine ⟨_, _, _, _, _, _, rfl, rfl, ⟨fc.ci.zr' rfl, fc.gr, fc.c1, fc.a1, fc.l1, fm.m0, rfl, fm.m12, fm.w11, .inr ⟨rfl, rfl, rfl, rfl⟩⟩⟩
theorem e_good {h0 z0 iv0 av0 h z} {pv iv : Nat → Int32} {av : Nat → Nat → Int32} {ne nd fm tr dv : Nat} (fc : FC h0 z0 h z) (fm' : FM iv0 av0 iv av) (l : LE h z iv av ne nd fm tr dv) (c2 : pv 2 = nt 0) (m4 : iv 4 = nt 0) (m5 : iv 5 = nt 0) (k3 : pv 3 = nt tr) : RdO h0 z0 iv0 av0 (jP_parse_91 h z pv) (jM_read_213 iv av (nt tr)) := by
  have htr := l.tmx
  have IV : ∀ k, k ≠ 1 → k ≠ 6 → upd (upd iv 6 1) 1 0 k = iv k := fun k h1 h6 => by rw [upd_n h1, upd_n h6]
  have i10 : upd (upd iv 6 1) 1 0 10 = nt ne := by rw [IV 10 (by decide) (by decide)]; exact l.ev.m
  obtain ⟨avd, sA, sB, sC⟩ := l_sort0 (iv := upd (upd iv 6 1) 1 0) l.ev.mx i10 ne FU 0 av (by omega) (FUn (by have := l.ev.mx; omega)) (fun t ht => absurd ht (by omega))
  have lsu : LSU h z (upd (upd iv 6 1) 1 0) avd ne id nd fm tr dv := by
    refine ⟨⟨l.ev.mx, l.ev.ne, l.ev.c, i10, fun k hk f hf => by rw [sB (f + 1) (by omega)]; exact l.ev.eq k hk f hf, l.ev.ol⟩, ⟨l.da.cap, l.da.mx, l.da.c, by rw [sB 10 (by decide)]; exact l.da.eq, by rw [sB 10 (by decide)]; exact l.da.by'⟩, sC, fun k k' _ _ e => e, l.fmx, l.fc, by rw [IV 7 (by decide) (by decide)]; exact l.fi, l.t1, l.tmx, l.tc, by rw [IV 8 (by decide) (by decide)]; exact l.ti, l.dmx, l.dc, by rw [IV 9 (by decide) (by decide)]; exact l.di, fun e he => (l.ok e he).eq fun f hf => by rw [sB (f + 1) (by omega)], ?_⟩
    rw [sB 7 (by decide)]; exact l.su
  obtain ⟨z', av', o', A1, A2, A3, A4, A5, A6⟩ := r_sort fc.ci lsu
  have C : jP_parse_91 h z pv = some (nt 0, h, zU z' 3 1, pv) := by
    unfold jP_parse_91 jP_parse_111
    rw [if_pos (k3.trans l.tc.symm), x_1, bind_s]; dsimp only
    rw [if_pos (show pv 2 = 0 from c2), A1, bind_s, c2]
  have M : jM_read_213 iv av (nt tr) = some (nt 0, upd (upd iv 6 1) 1 0, av') := by
    unfold jM_read_213 jM_read_231 jM_read_244 jM_read_271 fM_sort
    rw [l.ti, if_pos (by rw [nt_le (by omega) (by omega)]; omega), if_pos (show iv 4 = 0 from m4), if_neg (by decide), upd_n (show (6 : Nat) ≠ 1 by decide), upd_s, if_neg (by decide)]
    rw [show (lM_sort_2 FU (upd (upd iv 6 1) 1 0) av 0) = some (upd (upd iv 6 1) 1 0, av') from (show lM_sort_2 FU (upd (upd iv 6 1) 1 0) av (nt 0) = _ from by rw [sA, A2]; rfl), bind_s]; dsimp only
    rw [IV 4 (by decide) (by decide), IV 5 (by decide) (by decide), m4, m5]; rfl
  rw [C, M]
  have zk : ∀ k, k ≠ 3 → zi (zU z' 3 1) k = zi z k := fun k hk => by rw [zi_U, upd_n hk, A3.i]
  refine ⟨_, _, _, _, _, _, rfl, rfl, ⟨A4.zr' rfl, fc.gr, (zk 1 (by decide)).trans fc.c1, by rw [za_U, A3.a]; exact fc.a1, fc.l1, (IV 0 (by decide) (by decide)).trans fm'.m0, upd_s, (IV 12 (by decide) (by decide)).trans fm'.m12, by rw [A5 11 (by decide), sB 11 (by decide)]; exact fm'.w11, .inl ⟨rfl, by rw [upd_n (by decide), upd_s]; rfl, ne, o', nd, fm, tr, dv, ?_⟩⟩⟩
  exact A6.fr ⟨rfl, rfl, rfl, rfl, rfl, rfl, rfl, rfl, rfl, rfl, fun _ _ _ => rfl, fun _ _ _ => rfl⟩
/-- the end of the input, when all is well so far -/
theorem e_end {h0 z0 iv0 av0 h z} {pv iv : Nat → Int32} {av : Nat → Nat → Int32} {ne nd fm tr dv n K : Nat} (fc : FC h0 z0 h z) (fm' : FM iv0 av0 iv av) (l : LE h z iv av ne nd fm tr dv) (c2 : pv 2 = nt 0) (m4 : iv 4 = nt 0) (m5 : iv 5 = nt 0) (k3 : pv 3 = nt K) (hK : K ≤ tr) (c1 : pv 1 = nt n) (m1 : iv 1 = nt n) (hn : n ≤ 12000) : RdO h0 z0 iv0 av0 (jP_parse_91 h z pv) (jM_read_213 iv av (nt K)) := by
  have htr := l.tmx
  by_cases q : K = tr
  · subst q; exact e_good fc fm' l c2 m4 m5 k3
  · have B : Bad (upd pv 2 (nt (10 + 16 * n))) (upd (upd iv 4 (nt 10)) 5 (nt n)) := Bad.mk' (by omega) (by omega) (by omega)
    have C : jP_parse_91 h z pv = jP_parse_91 h z (upd pv 2 (nt (10 + 16 * n))) := by
      have e3 : upd pv 2 (nt (10 + 16 * n)) 3 = nt K := by rw [upd_n (by decide), k3]
      have ne' : ¬ nt K = nt tr := by rw [nt_eq (by omega) (by omega)]; exact q
      unfold jP_parse_91 jP_parse_111
      rw [k3, e3, l.tc, if_neg ne', if_neg ne', c1, show (10 : Int32) = nt 10 from rfl, x_0 c2, x_B B.c]
    have M : jM_read_213 iv av (nt K) = jM_read_213 (upd (upd iv 4 (nt 10)) 5 (nt n)) av (nt K) := by
      have e8 : upd (upd iv 4 (nt 10)) 5 (nt n) 8 = nt tr := by rw [upd_n (by decide), upd_n (by decide), l.ti]
      have nl : ¬ nt tr ≤ nt K := by rw [nt_le (by omega) (by omega)]; omega
      unfold jM_read_213
      rw [l.ti, e8, if_neg nl, if_neg nl, m1, show (10 : Int32) = nt 10 from rfl, f_0 m4, f_B B.m]
    rw [C, M]
    exact e_bad fc (fm'.next FI.f (EQ.refl _ 0 0)) B
theorem c_parB {h z} {pv : Nat → Int32} {k : Nat} {x : Int32} (b : ¬ pv 2 = 0) : lP_parse_24 (k + 1) h z pv x = jP_parse_91 h z pv := by
  rw [lP_parse_24]; dsimp only
  rw [if_neg b]; split <;> rfl
theorem m_redB {iv : Nat → Int32} {av : Nat → Nat → Int32} {k : Nat} {x : Int32} (b : ¬ iv 4 = 0) : lM_read_44 (k + 1) iv av x = jM_read_213 iv av x := by
  rw [lM_read_44]; dsimp only
  rw [if_neg b]
theorem c_b80B {h z} {pv : Nat → Int32} {x2 : Int32} {y : Int64} {s : Int32} (b : ¬ pv 2 = 0) : jP_beginsTrack_80 h z pv x2 y s = some (0, z, pv) := by
  unfold jP_beginsTrack_80
  rw [x_B b, bind_s]; dsimp only
  rw [if_neg b]
theorem c_b47B {h z} {pv : Nat → Int32} {x1 x2 s : Int32} (b : ¬ pv 2 = 0) : jP_beginsTrack_47 h z pv x1 x2 s = some (0, z, pv) := by
  unfold jP_beginsTrack_47
  rw [x_B b, bind_s]; dsimp only
  rw [c_fixB b, bind_s]; dsimp only
  rw [c_b80B b, c_b80B b]; split <;> rfl
theorem c_b22B {h z} {pv : Nat → Int32} {x1 s : Int32} (b : ¬ pv 2 = 0) : jP_beginsTrack_22 h z pv x1 s = some (0, z, pv) := by
  unfold jP_beginsTrack_22 jP_beginsTrack_42
  rw [c_b47B b, c_b47B b]
  split
  · rfl
  · split <;> rfl
section
variable {iv : Nat → Int32} {av : Nat → Nat → Int32} {K44 : (Nat → Int32) → (Nat → Nat → Int32) → Int32 → Option (Int32 × (Nat → Int32) × (Nat → Nat → Int32))}
theorem m_r159B {x1 x3 : Int32} {y : Int64} (b : ¬ iv 4 ≤ 0) : jM_read_159 K44 iv av x1 x3 y = K44 iv av x1 := by
  unfold jM_read_159; rw [if_neg b]
theorem m_r119B {x1 x3 : Int32} (b : ¬ iv 4 ≤ 0) (b' : ¬ iv 4 = 0) : jM_read_119 K44 iv av x1 x3 = K44 iv av x1 := by
  unfold jM_read_119
  rw [m_takB b b', bind_s]; dsimp only
  rw [if_neg b', m_r159B b]
theorem m_r92B {x1 x2 s : Int32} (b : ¬ iv 4 ≤ 0) (b' : ¬ iv 4 = 0) : jM_read_92 K44 iv av x1 x2 s = K44 iv av x1 := by
  unfold jM_read_92
  rw [if_neg b', m_r119B b b']
end
/-- a chunk's head: read well, or a fault -/
theorem j_beg {h z av b n} (I : Inp h z av b n) {pv iv : Nat → Int32} {p K tr : Nat} (g : Gd pv iv p n) (k3 : pv 3 = nt K) (hK : K ≤ tr) (htr : tr ≤ 16) (tc : zi z 5 = nt tr) (ti : iv 8 = nt tr) (m1 : iv 1 = nt n) (K44 : (Nat → Int32) → (Nat → Nat → Int32) → Int32 → Option (Int32 × (Nat → Int32) × (Nat → Nat → Int32))) :
    (∃ L s, p + 8 + L ≤ n ∧ (s = 0 ∨ (s = 1 ∧ K < tr)) ∧ fP_beginsTrack h z pv = some (nt s, z, upd (upd pv 0 (nt (p + 8))) 1 (nt (p + 8 + L))) ∧
      ((fM_taken iv av 4).bind fun (r3, iv3, av3) => if (lg_cmp r3 (1297379947 : Int64)) = 0 then (jM_read_92 K44 iv3 av3 (nt K) (nt p) (1 : Int32)) else (jM_read_92 K44 iv3 av3 (nt K) (nt p) (0 : Int32))) = (if s = 0 then (jM_read_190 K44 (upd (upd iv 2 (nt (p + 8))) 3 (nt (p + 8 + L))) av (nt K) (nt s)) else ((fM_track (upd (upd iv 2 (nt (p + 8))) 3 (nt (p + 8 + L))) av (nt K)).bind fun (iv3, av3) => jM_read_190 K44 iv3 av3 (nt K) (nt s)))) ∨
    (∃ pv' iv', fP_beginsTrack h z pv = some (0, z, pv') ∧ ((fM_taken iv av 4).bind fun (r3, iv3, av3) => if (lg_cmp r3 (1297379947 : Int64)) = 0 then (jM_read_92 K44 iv3 av3 (nt K) (nt p) (1 : Int32)) else (jM_read_92 K44 iv3 av3 (nt K) (nt p) (0 : Int32))) = K44 iv' av (nt K) ∧ Bad pv' iv' ∧ FI iv iv') := by
  have hn := I.mx
  have hle := g.le
  unfold fP_beginsTrack
  rw [show (4 : Int32) = nt 4 from rfl]
  rcases j_fix I g (Nat.le_refl n) (show 4 ≤ 4 by omega) with ⟨w, a, b'⟩ | ⟨w, a, b'⟩
  rotate_left
  · right
    have B : Bad (upd pv 2 (nt (1 + 16 * n))) (upd (upd iv 4 (nt 1)) 5 (nt n)) := Bad.mk' (by omega) (by omega) (by omega)
    rw [a, b', bind_s, bind_s]; dsimp only
    rw [c_b22B B.c, c_b22B B.c, m_r92B B.m B.m', m_r92B B.m B.m']
    refine ⟨_, _, ?_, ?_, B, FI.f⟩
    · split <;> rfl
    · split <;> rfl
  have g1 := g.adv w
  have v4 := V4 I (p := p) (by omega)
  rw [a, b', bind_s, bind_s]; dsimp only
  rw [show (1297379947 : Int64) = mt 1297379947 from rfl, g.c0]
  have K3 : upd pv 0 (nt (p + 4)) 3 = nt K := by rw [upd_n (by decide), k3]
  have T8 : upd iv 2 (nt (p + 4)) 8 = nt tr := by rw [upd_n (by decide), ti]
  -- is it a track
  obtain ⟨s, hs, eC, eM⟩ : ∃ s, (s = 0 ∨ s = 1) ∧ (if lg_cmp (mt (V b p 4)) (mt 1297379947) = 0 then (jP_beginsTrack_22 h z (upd pv 0 (nt (p + 4))) (nt p) (1 : Int32)) else (jP_beginsTrack_22 h z (upd pv 0 (nt (p + 4))) (nt p) (0 : Int32))) = jP_beginsTrack_22 h z (upd pv 0 (nt (p + 4))) (nt p) (nt s) ∧ (if lg_cmp (mt (V b p 4)) (mt 1297379947) = 0 then (jM_read_92 K44 (upd iv 2 (nt (p + 4))) av (nt K) (nt p) (1 : Int32)) else (jM_read_92 K44 (upd iv 2 (nt (p + 4))) av (nt K) (nt p) (0 : Int32))) = jM_read_92 K44 (upd iv 2 (nt (p + 4))) av (nt K) (nt p) (nt s) := by
    by_cases q : lg_cmp (mt (V b p 4)) (mt 1297379947) = 0
    · exact ⟨1, .inr rfl, by rw [if_pos q]; rfl, by rw [if_pos q]; rfl⟩
    · exact ⟨0, .inl rfl, by rw [if_neg q]; rfl, by rw [if_neg q]; rfl⟩
  rw [eC, eM]
  clear eC eM a b'
  unfold jP_beginsTrack_22 jP_beginsTrack_42 jM_read_92
  rw [if_pos (show upd iv 2 (nt (p + 4)) 4 = 0 from g1.m4), K3, tc, T8]
  by_cases q : s = 1 ∧ K = tr
  · right
    have B : Bad (upd (upd pv 0 (nt (p + 4))) 2 (nt (10 + 16 * p))) (upd (upd (upd iv 2 (nt (p + 4))) 4 (nt 10)) 5 (nt p)) := Bad.mk' (by omega) (by omega) (by omega)
    have e47 : jP_beginsTrack_47 h z (upd pv 0 (nt (p + 4))) (nt p) (nt s) 0 = some (0, z, upd (upd pv 0 (nt (p + 4))) 2 (nt (10 + 16 * p))) := by
      have : jP_beginsTrack_47 h z (upd pv 0 (nt (p + 4))) (nt p) (nt s) 0 = jP_beginsTrack_47 h z (upd (upd pv 0 (nt (p + 4))) 2 (nt (10 + 16 * p))) (nt p) (nt s) 1 := by
        unfold jP_beginsTrack_47
        rw [show (10 : Int32) = nt 10 from rfl, x_0 g1.c2, x_1]
      rw [this, c_b47B B.c]
    have s1 : ¬ nt s = 0 := by rw [q.1]; decide
    rw [if_neg s1, if_pos (by rw [nt_le (by omega) (by omega)]; omega), e47, if_neg s1, if_pos (by rw [q.2]), show (10 : Int32) = nt 10 from rfl, f_0 g1.m4, bind_s]; dsimp only
    rw [m_r119B B.m B.m']
    exact ⟨_, _, rfl, rfl, B, FI.p.trans FI.f⟩
  have eC : (if nt s = 0 then (jP_beginsTrack_47 h z (upd pv 0 (nt (p + 4))) (nt p) (nt s) (1 : Int32)) else (if nt tr ≤ nt K then (jP_beginsTrack_47 h z (upd pv 0 (nt (p + 4))) (nt p) (nt s) (0 : Int32)) else (jP_beginsTrack_47 h z (upd pv 0 (nt (p + 4))) (nt p) (nt s) (1 : Int32)))) = jP_beginsTrack_47 h z (upd pv 0 (nt (p + 4))) (nt p) (nt s) 1 := by
    by_cases q0 : s = 0
    · rw [if_pos (by rw [q0]; rfl)]
    · rw [if_neg (by rw [show s = 1 by omega]; decide), if_neg (by rw [nt_le (by omega) (by omega)]; omega)]
  have eM : (if nt s = 0 then (jM_read_119 K44 (upd iv 2 (nt (p + 4))) av (nt K) (nt s)) else (if nt K = nt tr then ((fM_fail (upd iv 2 (nt (p + 4))) av (10 : Int32) (nt p)).bind fun (iv4, av4) => jM_read_119 K44 iv4 av4 (nt K) (nt s)) else (jM_read_119 K44 (upd iv 2 (nt (p + 4))) av (nt K) (nt s)))) = jM_read_119 K44 (upd iv 2 (nt (p + 4))) av (nt K) (nt s) := by
    by_cases q0 : s = 0
    · rw [if_pos (by rw [q0]; rfl)]
    · rw [if_neg (by rw [show s = 1 by omega]; decide), if_neg (by rw [nt_eq (by omega) (by omega)]; omega)]
  rw [eC, eM]
  clear eC eM
  unfold jP_beginsTrack_47 jM_read_119
  rw [x_1, bind_s]; dsimp only
  rw [show (4 : Int32) = nt 4 from rfl]
  rcases j_fix I g1 (Nat.le_refl n) (show 4 ≤ 4 by omega) with ⟨w2, a, b'⟩ | ⟨w2, a, b'⟩
  rotate_left
  · right
    have B : Bad (upd (upd pv 0 (nt (p + 4))) 2 (nt (1 + 16 * n))) (upd (upd (upd iv 2 (nt (p + 4))) 4 (nt 1)) 5 (nt n)) := Bad.mk' (by omega) (by omega) (by omega)
    rw [a, b', bind_s, bind_s]; dsimp only
    rw [c_b80B B.c, c_b80B B.c, if_neg B.m', m_r159B B.m]
    refine ⟨_, _, ?_, rfl, B, FI.p.trans FI.f⟩
    split <;> rfl
  have g2 := g1.adv w2
  have vL := V4 I (p := p + 4) (by omega)
  rw [a, b', bind_s, bind_s, upd_upd, upd_upd]; dsimp only
  rw [upd_upd, upd_upd] at g2
  rw [show p + 4 + 4 = p + 8 by omega] at *
  generalize V b (p + 4) 4 = L at *
  have M1 : upd iv 2 (nt (p + 8)) 1 = nt n := by rw [upd_n (by decide), m1]
  have cC : (0 < lg_cmp (mt L) (((upd pv 0 (nt (p + 8))) 1) - ((upd pv 0 (nt (p + 8))) 0)).toInt64) = (n < p + 8 + L) := by
    rw [g2.c0, g2.c1, nt_sub (by omega), nt_64 (by omega), cmp_gt (by omega) (by omega)]; exact propext ⟨by omega, by omega⟩
  have cM : (lg_cmp (((upd iv 2 (nt (p + 8)) 2).toInt64) + mt L) ((upd iv 2 (nt (p + 8)) 1).toInt64) ≤ 0) = (p + 8 + L ≤ n) := by
    rw [g2.m2, M1, nt_64 (by omega), nt_64 (by omega), mt_add, cmp_le (by omega) (by omega)]
  rw [if_pos (show upd iv 2 (nt (p + 8)) 4 = 0 from g2.m4)]
  by_cases q2 : p + 8 + L ≤ n
  rotate_left
  · right
    have B : Bad (upd (upd pv 0 (nt (p + 8))) 2 (nt (1 + 16 * n))) (upd (upd (upd iv 2 (nt (p + 8))) 4 (nt 1)) 5 (nt n)) := Bad.mk' (by omega) (by omega) (by omega)
    rw [if_pos (cC.mpr (by omega)), if_neg (fun w => q2 (cM.mp w)), M1, show (1 : Int32) = nt 1 from rfl, f_0 g2.m4, bind_s]; dsimp only
    rw [m_r159B B.m]
    refine ⟨_, _, ?_, rfl, B, FI.p.trans FI.f⟩
    unfold jP_beginsTrack_80
    rw [g2.c1, show (1 : Int32) = nt 1 from rfl, x_0 g2.c2, bind_s]; dsimp only
    rw [if_neg B.c]
  · left
    refine ⟨L, s, q2, by omega, ?_, ?_⟩
    · rw [if_neg (fun w => absurd (cC.mp w) (by omega))]
      unfold jP_beginsTrack_80
      rw [x_1, bind_s]; dsimp only
      rw [if_pos (show upd pv 0 (nt (p + 8)) 2 = 0 from g2.c2), if_neg (by rcases hs with w | w <;> rw [w] <;> decide), mt_32, g2.c0, nt_add]
    · rw [if_pos (cM.mpr q2)]
      unfold jM_read_159
      rw [g2.m4, if_pos (show nt 0 ≤ 0 by decide), g2.m2, mt_32, nt_add]
      rcases hs with w3 | w3
      · subst w3; rw [if_pos (show nt 0 = 0 from rfl), if_pos rfl]
      · subst w3; rw [if_neg (show ¬ nt 1 = 0 by decide), if_neg (by decide)]
