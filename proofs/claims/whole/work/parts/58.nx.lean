theorem lg_tick {T v : Nat} (hT : T ≤ 268435455) (hv : v < 268435456) : (lg_cmp (mt T + (nt v).toInt64) (268435455 : Int64) ≤ 0) = (T + v ≤ 268435455) := by
  rw [nt_64 (by omega), mt_add, show (268435455 : Int64) = mt 268435455 from rfl, cmp_le (by omega) (by omega)]
theorem m_33 {h z} {pv : Nat → Int32} {x : Int32} {r : Int32} {z2 : cZ} {pv2 : Nat → Int32} (e : fP_status h z pv = some (r, z2, pv2)) (g : pv2 2 = 0) : jP_oneEvent_33 h z pv x 1 = (cBody h z2 pv2 r).bind fun (z8, pv8) => jP_oneEvent_90 h z8 pv8 (pv 0) r := by
  unfold jP_oneEvent_33 cBody
  rw [x_1, bind_s]; dsimp only
  rw [e, bind_s]; dsimp only
  rw [if_pos g]
  by_cases q : (240 : Int32) ≤ r
  · rw [if_pos q, if_pos q]
    by_cases q2 : r = 255
    · rw [if_pos q2, if_pos q2]
    · rw [if_neg q2, if_neg q2]
  · rw [if_neg q, if_neg q]
theorem s_trk {h0 z0 iv0 av0 b n e K fm tr dv h z pv iv av p T x2 ne nd} (he : e ≤ n) (hK : K < tr) (s : TS h0 z0 iv0 av0 b n e K fm tr dv h z pv iv av p T x2 ne nd) {i f f' : Nat} (hi : i < p) :
    TrkO h0 z0 iv0 av0 b n e K fm tr dv (lP_track_17 (f + 2) h z pv (nt i)) (lM_track_7 (f' + 2) iv av (nt K) x2 (mt T) 1) ∨
    ∃ h' z' pv' iv' av' p' T' x2' ne' nd', TS h0 z0 iv0 av0 b n e K fm tr dv h' z' pv' iv' av' p' T' x2' ne' nd' ∧ p < p' ∧ lP_track_17 (f + 2) h z pv (nt i) = lP_track_17 (f + 1) h' z' pv' (nt (i + 1)) ∧ lM_track_7 (f' + 2) iv av (nt K) x2 (mt T) 1 = lM_track_7 (f' + 1) iv' av' (nt K) x2' (mt T') 1 := by
  have I := s.inp
  have g := s.g
  have hn := I.mx
  have hle := g.le
  have hT := s.tT
  have hnd := s.le.da.mx
  have hne := s.le.ev.mx
  have htr := s.le.tmx
  have C0 : lP_track_17 (f + 2) h z pv (nt i) = (fP_oneEvent h z pv).bind fun (hh4, z4, pv4) => lP_track_17 (f + 1) hh4 z4 pv4 (nt (i + 1)) := by
    rw [lP_track_17]; dsimp only
    rw [if_neg (by rw [show (12000 : Int32) = nt 12000 from rfl, nt_le (by omega) (by omega)]; omega), if_pos (show pv 2 = 0 from g.c2), if_pos (show pv 6 = 0 from s.k6)]
    unfold jP_track_42
    rw [show (1 : Int32) = nt 1 from rfl, nt_add]
  have M0 : lM_track_7 (f' + 2) iv av (nt K) x2 (mt T) 1 = (fM_number iv av).bind fun (r3, iv3, av3) => if (lg_cmp (mt T + r3.toInt64) (268435455 : Int64)) ≤ 0 then (jM_track_49 (lM_track_7 (f' + 1)) iv3 av3 (nt K) x2 (mt T + r3.toInt64) 1) else ((fM_fail iv3 av3 (11 : Int32) (nt p)).bind fun (iv5, av5) => jM_track_49 (lM_track_7 (f' + 1)) iv5 av5 (nt K) x2 (mt T + r3.toInt64) 1) := by
    rw [lM_track_7]; dsimp only
    rw [if_neg (by decide), if_pos (show iv 4 = 0 from g.m4), g.m2]
  rw [C0, M0]
  clear C0 M0
  unfold fP_oneEvent
  rcases j_num I g he with ⟨v, p1, h1, h2, h3, a, b'⟩ | ⟨r, r', pv', iv', a, b', B, F⟩
  rotate_left
  · left
    have B2 : Bad (upd pv' 4 (pv 4 + r)) iv' := B.eq (upd_n (by decide)) rfl rfl
    rw [a, b', bind_s, bind_s]; dsimp only
    rw [c_33B B2.c, c_33B B2.c, f_B B.m, bind_s]; dsimp only
    rw [m_49B B.m B.m', m_trkB B.m']
    obtain ⟨pv2, e1, e2⟩ := c_trkB (h := h) (z := z) (k := f) (x := nt (i + 1)) B2.c
    refine TrkO.bad s.fc (s.fm'.next F (EQ.refl _ 0 0)) B2 (pv := pv2) ?_ ?_ e2 rfl rfl
    · have : (if (268435455 : Int32) < upd pv' 4 (pv 4 + r) 4 then some (h, z, upd pv' 4 (pv 4 + r)) else some (h, z, upd pv' 4 (pv 4 + r))) = some (h, z, upd pv' 4 (pv 4 + r)) := by split <;> rfl
      rw [this, bind_s]; exact e1
    · split <;> rfl
  have g1 := g.adv (p' := p1) h2
  have g2 : Gd (upd (upd pv 0 (nt p1)) 4 (nt (T + v))) (upd iv 2 (nt p1)) p1 e := g1.c fun k hk => upd_n (by omega)
  rw [a, b', bind_s, bind_s]; dsimp only
  rw [s.k4, nt_add, upd_s, g.c0]
  by_cases q : T + v ≤ 268435455
  rotate_left
  · left
    have B : Bad (upd (upd (upd pv 0 (nt p1)) 4 (nt (T + v))) 2 (nt (11 + 16 * p))) (upd (upd (upd iv 2 (nt p1)) 4 (nt 11)) 5 (nt p)) := Bad.mk' (by omega) (by omega) (by omega)
    rw [if_pos (by rw [show (268435455 : Int32) = nt 268435455 from rfl, nt_lt (by omega) (by omega)]; omega), if_neg (by rw [lg_tick hT h3]; exact q), show (11 : Int32) = nt 11 from rfl, f_0 g2.m4, bind_s]; dsimp only
    rw [m_49B B.m B.m', m_trkB B.m']
    have e33 : jP_oneEvent_33 h z (upd (upd pv 0 (nt p1)) 4 (nt (T + v))) (nt p) 0 = some (h, z, upd (upd (upd pv 0 (nt p1)) 4 (nt (T + v))) 2 (nt (11 + 16 * p))) := by
      have : jP_oneEvent_33 h z (upd (upd pv 0 (nt p1)) 4 (nt (T + v))) (nt p) 0 = jP_oneEvent_33 h z (upd (upd (upd pv 0 (nt p1)) 4 (nt (T + v))) 2 (nt (11 + 16 * p))) (nt p) 1 := by
        unfold jP_oneEvent_33
        rw [show (11 : Int32) = nt 11 from rfl, x_0 g2.c2, x_1]
      rw [this]; exact c_33B B.c
    rw [e33, bind_s]; dsimp only
    obtain ⟨pv2, e1, e2⟩ := c_trkB (h := h) (z := z) (k := f) (x := nt (i + 1)) B.c
    exact TrkO.bad s.fc (s.fm'.next (FI.p.trans FI.f) (EQ.refl _ 0 0)) B e1 rfl e2 rfl rfl
  rw [if_neg (by rw [show (268435455 : Int32) = nt 268435455 from rfl, nt_lt (by omega) (by omega)]; omega), if_pos (by rw [lg_tick hT h3]; exact q), nt_64 (by omega), mt_add]
  have ru2 : Run (upd (upd pv 0 (nt p1)) 4 (nt (T + v)) 5) x2 := by rw [upd_n (by decide), upd_n (by decide)]; exact s.ru
  rcases j_stat I g2 he ru2 (lM_track_7 (f' + 1)) (nt K) (mt (T + v)) 1 with ⟨st, p2, hst, q1, q2, a2, b2⟩ | ⟨r, pv', iv', s0, a2, b2, B, F⟩
  rotate_left
  · left
    have e33 : jP_oneEvent_33 h z (upd (upd pv 0 (nt p1)) 4 (nt (T + v))) (nt p) 1 = some (h, z, pv') := by
      unfold jP_oneEvent_33
      rw [x_1, bind_s]; dsimp only
      rw [a2, bind_s]; dsimp only
      rw [if_neg B.c]
    rw [b2, m_trkB B.m', e33, bind_s]; dsimp only
    obtain ⟨pv2, e1, e2⟩ := c_trkB (h := h) (z := z) (k := f) (x := nt (i + 1)) B.c
    exact TrkO.bad s.fc (s.fm'.next (FI.p.trans F) (EQ.refl _ 0 0)) B e1 rfl e2 rfl rfl
  have g3 := g2.adv (p' := p2) q2
  rw [m_33 a2 (show upd (upd (upd pv 0 (nt p1)) 4 (nt (T + v))) 0 (nt p2) 2 = 0 from g3.c2), b2, g2.c0]
  rw [upd_upd (f := iv)] at g3 ⊢
  have K3 : upd (upd (upd pv 0 (nt p1)) 4 (nt (T + v))) 0 (nt p2) 3 = nt K := by rw [upd_n (by decide), upd_n (by decide), upd_n (by decide), s.k3]
  have K4 : upd (upd (upd pv 0 (nt p1)) 4 (nt (T + v))) 0 (nt p2) 4 = nt (T + v) := by rw [upd_n (by decide), upd_s]
  have K6 : upd (upd (upd pv 0 (nt p1)) 4 (nt (T + v))) 0 (nt p2) 6 = nt 0 := by rw [upd_n (by decide), upd_n (by decide), upd_n (by decide), s.k6]
  generalize upd (upd (upd pv 0 (nt p1)) 4 (nt (T + v))) 0 (nt p2) = P at *
  have F0 : FI iv (upd iv 2 (nt p2)) := FI.p
  have i10 : upd iv 2 (nt p2) 10 = nt ne := by rw [upd_n (by decide)]; exact s.le.ev.m
  have i11 : upd iv 2 (nt p2) 11 = nt nd := by rw [upd_n (by decide)]; exact s.le.i11
  rw [mt_32]
  rcases b_all (x1 := nt K) (x2 := nt (T + v)) (x4 := nt p1) I g3 he (by omega) hnd i10 i11 K6 hst with ⟨pv', iv', av', p', f6, c1, m1, G, F, Q, EB, k6, RU⟩ | ⟨pv', iv', av', p', c1, m1, G, F, Q, lt, k6, k3⟩ | ⟨pv', r', iv', av', c1, m1, B, F, Q⟩
  rotate_left
  · -- the track's end
    left
    have L1 : lP_track_17 (f + 1) h z pv' (nt (i + 1)) = jP_track_48 h z pv' := by
      rw [lP_track_17]; dsimp only
      rw [if_pos (show pv' 2 = 0 from G.c2), if_neg (show ¬ pv' 6 = 0 by rw [k6]; decide)]; split <;> rfl
    have FM1 := s.fm'.next (F0.trans F) Q
    rw [c1, m1, bind_s]; dsimp only
    unfold jP_oneEvent_90 jP_oneEvent_120
    rw [if_neg (show ¬ pv' 6 = 0 by rw [k6]; decide), bind_s]; dsimp only
    rw [L1]
    unfold jP_track_48 jP_track_65
    rw [G.c0, G.c1]
    have hp' := G.le
    by_cases w : p' = e
    · rw [if_pos (by rw [w]), if_pos (by rw [w, nt_le (by omega) (by omega)]; omega), x_1, bind_s, bind_s]; dsimp only
      rw [m_trk0]
      subst w
      refine ⟨_, _, _, _, _, rfl, rfl, s.fc, FM1, .inr ⟨G.c fun k hk => upd_n (by omega), ?_, I.eq' Q, ne, nd, s.le.next (F0.trans F) Q⟩⟩
      rw [upd_s, k3, K3, show (1 : Int32) = nt 1 from rfl, nt_add]
    · have B : Bad (upd pv' 2 (nt (7 + 16 * p'))) (upd (upd iv' 4 (nt 7)) 5 (nt p')) := Bad.mk' (by omega) (by omega) (by omega)
      rw [if_neg (by rw [nt_eq (by omega) (by omega)]; exact w), if_neg (by rw [nt_le (by omega) (by omega)]; omega), show (7 : Int32) = nt 7 from rfl, x_0 G.c2, bind_s, f_0 G.m4, bind_s, bind_s]; dsimp only
      rw [m_trk0]
      exact TrkO.bad s.fc (FM1.next FI.f (EQ.refl _ 0 0)) B rfl rfl (upd_n (by decide)) rfl rfl
  · left
    rw [c1, m1, bind_s, bind_s]; dsimp only
    rw [c_90B B.c, bind_s, m_trkB B.m']; dsimp only
    obtain ⟨pv2, e1, e2⟩ := c_trkB (h := h) (z := z) (k := f) (x := nt (i + 1)) B.c
    exact TrkO.bad s.fc (s.fm'.next (F0.trans F) Q) B e1 rfl e2 rfl rfl
  have L := s.le.next (F0.trans F) Q
  have I2 := I.eq' Q
  have FM1 := s.fm'.next (F0.trans F) Q
  have hf6 : f6 ≤ 12000 := by
    rcases EB.sz with ⟨_, _, w⟩ | ⟨_, _, st, _, w, _⟩ <;> omega
  have szM : (st < 240 ∧ f6 = 0) ∨ (240 ≤ st ∧ av' 7 ne = nt f6) := by
    rcases EB.sz with ⟨w, _, w2⟩ | ⟨w, w2, _⟩
    · exact .inl ⟨w, w2⟩
    · exact .inr ⟨w, w2⟩
  have szC : (pv' 10 = -nt 1 ∧ f6 = 0) ∨ pv' 10 = nt f6 := by
    rcases EB.sz with ⟨_, w, w2⟩ | ⟨_, w2, _⟩
    · exact .inl ⟨EB.s4.trans w, w2⟩
    · exact .inr (EB.s4.trans w2)
  have FMK : FM iv0 av0 (upd (upd iv' 10 (nt (ne + 1))) 11 (nt (nd + f6))) (up2 (up2 (up2 av' 1 ne (nt (T + v))) 2 ne (nt K)) 3 ne (nt st)) := by
    have U : EQ av' (up2 (up2 (up2 av' 1 ne (nt (T + v))) 2 ne (nt K)) 3 ne (nt st)) ne nd := ((EQ.u (by omega) (by omega)).trans (EQ.u (by omega) (by omega))).trans (EQ.u (by omega) (by omega))
    exact ⟨by rw [upd_n (by decide), upd_n (by decide)]; exact FM1.m0, by rw [upd_n (by decide), upd_n (by decide)]; exact FM1.m1, by rw [upd_n (by decide), upd_n (by decide)]; exact FM1.m6, by rw [upd_n (by decide), upd_n (by decide)]; exact FM1.m12, (U.1 0 (by omega)).trans FM1.w0, (U.1 11 (by omega)).trans FM1.w11⟩
  rw [c1, m1, bind_s, m_172 (by omega) (by omega) L.ev.m L.i11 hnd hf6 szM]; dsimp only
  unfold jP_oneEvent_90 jP_oneEvent_120
  rw [if_pos (show pv' 6 = 0 from k6.trans K6), c_room L.ev.c L.da.c (by omega) hnd hf6 szC, bind_s]; dsimp only
  by_cases rm : ne < 1000 ∧ nd + f6 ≤ 8000
  · right
    obtain ⟨h3, z3, ck, fck, lk, ik⟩ := j_keep (T := T + v) (K := K) he I2 s.fc L EB G.c2 (EB.k3.trans K3) (EB.k4.trans K4) q hK rm.1 rm.2
    rw [if_pos rm, if_pos rm, x_1, bind_s, bind_s]; dsimp only
    rw [ck, bind_s]; dsimp only
    rw [bind_s]; dsimp only
    refine ⟨h3, z3, pv', _, _, p', T + v, _, ne + 1, nd + f6, ⟨G.m fun k h1 h2 => by rw [upd_n (by omega), upd_n (by omega)], fck, FMK, ik, lk, EB.k3.trans K3, EB.k4.trans K4, q, k6.trans K6, RU⟩, by have := EB.lt; omega, rfl, rfl⟩
  · left
    have B : Bad (upd pv' 2 (nt (9 + 16 * p1))) (upd (upd (upd (upd iv' 10 (nt (ne + 1))) 11 (nt (nd + f6))) 4 (nt 9)) 5 (nt p1)) := Bad.mk' (by omega) (by omega) (by omega)
    rw [if_neg rm, if_neg rm, show (9 : Int32) = nt 9 from rfl, x_0 G.c2, bind_s, f_0 (by rw [upd_n (by decide), upd_n (by decide)]; exact G.m4), bind_s, bind_s]; dsimp only
    rw [m_trkB B.m']
    unfold fP_keep
    rw [if_neg B.c, bind_s]; dsimp only
    rw [bind_s]; dsimp only
    obtain ⟨pv2, e1, e2⟩ := c_trkB (h := h) (z := z) (k := f) (x := nt (i + 1)) B.c
    exact TrkO.bad s.fc (FMK.next FI.f (EQ.refl _ 0 0)) B e1 rfl e2 rfl rfl
theorem l_trk {h0 z0 iv0 av0 b n e K fm tr dv} (he : e ≤ n) (hK : K < tr) : ∀ m i p h z pv iv av T x2 ne nd f f', e - p ≤ m → m + 2 ≤ f → m + 2 ≤ f' → i < p → TS h0 z0 iv0 av0 b n e K fm tr dv h z pv iv av p T x2 ne nd →
    TrkO h0 z0 iv0 av0 b n e K fm tr dv (lP_track_17 f h z pv (nt i)) (lM_track_7 f' iv av (nt K) x2 (mt T) 1) := by
  intro m
  induction m with
  | zero =>
    intro i p h z pv iv av T x2 ne nd f f' hm hf hf' hi s
    obtain ⟨f, rfl⟩ : ∃ k, f = k + 2 := ⟨f - 2, by omega⟩
    obtain ⟨f', rfl⟩ : ∃ k, f' = k + 2 := ⟨f' - 2, by omega⟩
    rcases s_trk he hK s (f := f) (f' := f') hi with w | ⟨h', z', pv', iv', av', p', T', x2', ne', nd', s', lt, _, _⟩
    · exact w
    · have := s'.g.le; omega
  | succ m ih =>
    intro i p h z pv iv av T x2 ne nd f f' hm hf hf' hi s
    obtain ⟨f, rfl⟩ : ∃ k, f = k + 2 := ⟨f - 2, by omega⟩
    obtain ⟨f', rfl⟩ : ∃ k, f' = k + 2 := ⟨f' - 2, by omega⟩
    rcases s_trk he hK s (f := f) (f' := f') hi with w | ⟨h', z', pv', iv', av', p', T', x2', ne', nd', s', lt, e1, e2⟩
    · exact w
    · rw [e1, e2]
      exact ih (i + 1) p' h' z' pv' iv' av' T' x2' ne' nd' (f + 1) (f' + 1) (by omega) (by omega) (by omega) (by omega) s'
