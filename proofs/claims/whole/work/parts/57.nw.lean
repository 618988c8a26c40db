theorem x_1' {h z} {pv : Nat → Int32} {k q : Int32} : fP_expect h z pv (nt 1) k q = some (z, pv) := rfl
theorem j_stat {h z av b n} (I : Inp h z av b n) {pv iv : Nat → Int32} {p e : Nat} {x2 : Int32} (g : Gd pv iv p e) (he : e ≤ n) (ru : Run (pv 5) x2) (K7 : (Nat → Int32) → (Nat → Nat → Int32) → Int32 → Int32 → Int64 → Int32 → Option ((Nat → Int32) × (Nat → Nat → Int32))) (x1 : Int32) (y3 : Int64) (x5 : Int32) :
    (∃ s p', ((128 ≤ s ∧ s ≤ 240) ∨ s = 247 ∨ s = 255) ∧ p ≤ p' ∧ p' ≤ e ∧ fP_status h z pv = some (nt s, z, upd pv 0 (nt p')) ∧ jM_track_49 K7 iv av x1 x2 y3 x5 = (fM_eventIn (upd iv 2 (nt p')) av x1 y3.toInt32 (nt s) (nt p)).bind (fun (r2, iv2, av2) => K7 iv2 av2 x1 (if 240 ≤ s then nt 0 else nt s) y3 r2)) ∨
    (∃ r pv' iv' s0, fP_status h z pv = some (r, z, pv') ∧ jM_track_49 K7 iv av x1 x2 y3 x5 = K7 iv' av x1 s0 y3 x5 ∧ Bad pv' iv' ∧ FI iv iv') := by
  have hn := I.mx
  have hle := g.le
  unfold fP_status jM_track_49
  rw [show (1 : Int32) = nt 1 from rfl]
  rcases j_fix I g he (show 1 ≤ 4 by omega) with ⟨w, a, b'⟩ | ⟨w, a, b'⟩
  rotate_left
  · right
    have B : Bad (upd pv 2 (nt (1 + 16 * e))) (upd (upd iv 4 (nt 1)) 5 (nt e)) := Bad.mk' (by omega) (by omega) (by omega)
    rw [a, b', bind_s, bind_s]; dsimp only
    unfold jP_status_55 jP_status_77 jP_status_82
    rw [if_neg B.c, if_neg B.m, if_pos (show (-1 : Int64).toInt32 ≤ 240 by decide), x_1, bind_s]
    exact ⟨_, _, _, _, rfl, rfl, B, FI.f⟩
  have hb := I.lt p (by omega)
  have g1 := g.adv (p' := p + 1) w
  rw [a, b', bind_s, bind_s, V1]; dsimp only
  rw [if_pos (show upd pv 0 (nt (p + 1)) 2 = 0 from g1.c2), g1.m4, if_pos (show nt 0 ≤ 0 by decide), mt_32, g.c0, g.m2]
  -- what is done with a good status
  have M155 : ∀ (iv' : Nat → Int32) s s0, iv' 4 = nt 0 → jM_track_155 K7 iv' av x1 y3 x5 (nt p) (nt s) s0 = (fM_eventIn iv' av x1 y3.toInt32 (nt s) (nt p)).bind (fun (r2, iv2, av2) => K7 iv2 av2 x1 s0 y3 r2) := by
    intro iv' s s0 e4
    unfold jM_track_155 jM_track_176
    rw [if_pos (show iv' 4 = 0 from e4)]
  have M141 : ∀ (iv' : Nat → Int32) s, s < 256 → iv' 4 = nt 0 → jM_track_141 K7 iv' av x1 y3 x5 (nt p) (nt s) = (fM_eventIn iv' av x1 y3.toInt32 (nt s) (nt p)).bind (fun (r2, iv2, av2) => K7 iv2 av2 x1 (if 240 ≤ s then nt 0 else nt s) y3 r2) := by
    intro iv' s hs e4
    unfold jM_track_141
    by_cases q : 240 ≤ s
    · rw [if_pos (by rw [show (240 : Int32) = nt 240 from rfl, nt_le (by omega) (by omega)]; exact q), M155 _ _ _ e4, if_pos q]; rfl
    · rw [if_neg (by rw [show (240 : Int32) = nt 240 from rfl, nt_le (by omega) (by omega)]; exact q), M155 _ _ _ e4, if_neg q]
  have M141B : ∀ (iv' : Nat → Int32) x7, ¬ iv' 4 = 0 → ∃ s0, jM_track_141 K7 iv' av x1 y3 x5 (nt p) x7 = K7 iv' av x1 s0 y3 x5 := by
    intro iv' x7 e4
    unfold jM_track_141 jM_track_155 jM_track_176
    rw [if_neg e4, if_neg e4]
    split
    · exact ⟨_, rfl⟩
    · exact ⟨_, rfl⟩
  have BB : Bad (upd (upd pv 0 (nt (p + 1))) 2 (nt (5 + 16 * p))) (upd (upd (upd iv 2 (nt (p + 1))) 4 (nt 5)) 5 (nt p)) := Bad.mk' (by omega) (by omega) (by omega)
  have M117 : ∀ c, c < 256 → ∃ iv' s0, jM_track_117 K7 (upd iv 2 (nt (p + 1))) av x1 x2 y3 x5 (nt p) (nt c) = K7 iv' av x1 s0 y3 x5 ∧ iv' 4 = nt 5 ∧ iv' 5 = nt p ∧ FI iv iv' := by
    intro c hc
    unfold jM_track_117 jM_track_124
    rw [show (5 : Int32) = nt 5 from rfl, f_0 g1.m4, bind_s]; dsimp only
    split
    · obtain ⟨s0, e⟩ := M141B (upd (upd (upd iv 2 (nt (p + 1))) 4 (nt 5)) 5 (nt p)) (nt c) BB.m'
      exact ⟨_, s0, e, by rw [upd_n (by decide), upd_s], upd_s, FI.p.trans FI.f⟩
    · have b4 : upd (upd (upd (upd iv 2 (nt (p + 1))) 4 (nt 5)) 5 (nt p)) 2 (nt p) 4 = nt 5 := by rw [upd_n (by decide), upd_n (by decide), upd_s]
      obtain ⟨s0, e⟩ := M141B (upd (upd (upd (upd iv 2 (nt (p + 1))) 4 (nt 5)) 5 (nt p)) 2 (nt p)) x2 (by rw [b4]; decide)
      exact ⟨_, s0, e, b4, by rw [upd_n (by decide), upd_s], (FI.p.trans FI.f).trans FI.p⟩
  generalize b p = c at *
  by_cases q : 128 ≤ c
  · have q' : (128 : Int32) ≤ nt c := by rw [show (128 : Int32) = nt 128 from rfl, nt_le (by omega) (by omega)]; exact q
    rw [if_pos q', if_pos q']
    by_cases v : c ≤ 240 ∨ c = 247 ∨ c = 255
    · left
      refine ⟨c, p + 1, by omega, by omega, w, ?_, ?_⟩
      · unfold jP_status_55 jP_status_77 jP_status_82
        rw [x_1, bind_s]
        by_cases v1 : c ≤ 240
        · rw [if_pos (by rw [show (240 : Int32) = nt 240 from rfl, nt_le (by omega) (by omega)]; exact v1)]
        · rw [if_neg (by rw [show (240 : Int32) = nt 240 from rfl, nt_le (by omega) (by omega)]; exact v1)]
          by_cases v2 : c = 247
          · rw [if_pos (by rw [v2]; rfl)]
          · rw [if_neg (by rw [show (247 : Int32) = nt 247 from rfl, nt_eq (by omega) (by omega)]; exact v2), if_pos (by rw [show c = 255 by omega]; rfl)]
      · have e124 : jM_track_124 K7 (upd iv 2 (nt (p + 1))) av x1 x2 y3 x5 (nt p) (nt c) = jM_track_141 K7 (upd iv 2 (nt (p + 1))) av x1 y3 x5 (nt p) (nt c) := by
          unfold jM_track_124; rw [if_pos q']
        rw [← M141 _ c (by omega) g1.m4, ← e124]
        unfold jM_track_85 jM_track_101
        by_cases v1 : c ≤ 240
        · rw [if_pos (by rw [show (240 : Int32) = nt 240 from rfl, nt_le (by omega) (by omega)]; exact v1), if_pos (by rw [show (247 : Int32) = nt 247 from rfl, nt_le (by omega) (by omega)]; omega)]
        · rw [if_neg (by rw [show (240 : Int32) = nt 240 from rfl, nt_le (by omega) (by omega)]; exact v1), if_neg (by rw [show (247 : Int32) = nt 247 from rfl, nt_lt (by omega) (by omega)]; omega)]
          by_cases v2 : c = 247
          · rw [if_pos (by rw [v2]; decide)]
          · rw [if_neg (by rw [show (247 : Int32) = nt 247 from rfl, nt_le (by omega) (by omega)]; omega), if_pos (by rw [show (255 : Int32) = nt 255 from rfl, nt_le (by omega) (by omega)]; omega)]
    · right
      obtain ⟨iv', s0, e1, e4, e5, F⟩ := M117 c hb
      refine ⟨nt c, upd (upd pv 0 (nt (p + 1))) 2 (nt (5 + 16 * p)), iv', s0, ?_, ?_, BB.eq rfl (e4.trans (by rw [upd_n (by decide), upd_s])) (e5.trans upd_s.symm), F⟩
      · unfold jP_status_55 jP_status_82
        rw [if_neg (by rw [show (240 : Int32) = nt 240 from rfl, nt_le (by omega) (by omega)]; omega), if_neg (by rw [show (247 : Int32) = nt 247 from rfl, nt_eq (by omega) (by omega)]; omega), if_neg (by rw [show (255 : Int32) = nt 255 from rfl, nt_eq (by omega) (by omega)]; omega), show (5 : Int32) = nt 5 from rfl, x_0 g1.c2, bind_s]
      · rw [← e1]
        unfold jM_track_85 jM_track_101
        rw [if_neg (by rw [show (240 : Int32) = nt 240 from rfl, nt_le (by omega) (by omega)]; omega)]
        by_cases v1 : c < 247
        · rw [if_pos (by rw [show (247 : Int32) = nt 247 from rfl, nt_lt (by omega) (by omega)]; exact v1)]
        · rw [if_neg (by rw [show (247 : Int32) = nt 247 from rfl, nt_lt (by omega) (by omega)]; exact v1), if_neg (by rw [show (247 : Int32) = nt 247 from rfl, nt_le (by omega) (by omega)]; omega), if_neg (by rw [show (255 : Int32) = nt 255 from rfl, nt_le (by omega) (by omega)]; omega)]
  · have q' : ¬ (128 : Int32) ≤ nt c := by rw [show (128 : Int32) = nt 128 from rfl, nt_le (by omega) (by omega)]; exact q
    rw [if_neg q', if_neg q']
    have p5 : upd pv 0 (nt (p + 1)) 5 = pv 5 := upd_n (by decide)
    rcases ru with ⟨r1, r2⟩ | ⟨r1, s, r2, r3, r4⟩
    · right
      obtain ⟨iv', s0, e1, e4, e5, F⟩ := M117 c hb
      refine ⟨upd (upd (upd pv 0 (nt (p + 1))) 2 (nt (5 + 16 * p))) 0 (nt p) 5, upd (upd (upd pv 0 (nt (p + 1))) 2 (nt (5 + 16 * p))) 0 (nt p), iv', s0, ?_, ?_, BB.eq (upd_n (by decide)) (e4.trans (by rw [upd_n (by decide), upd_s])) (e5.trans upd_s.symm), F⟩
      · unfold jP_status_40
        rw [if_pos (show upd pv 0 (nt (p + 1)) 5 = -nt 1 from p5.trans r1), show (5 : Int32) = nt 5 from rfl, x_0 g1.c2, bind_s]
      · rw [if_pos (show x2 = 0 from r2)]; exact e1
    · left
      refine ⟨s, p, .inl ⟨r2, by omega⟩, by omega, by omega, ?_, ?_⟩
      · unfold jP_status_40
        rw [if_neg (show ¬ upd pv 0 (nt (p + 1)) 5 = -nt 1 from fun w2 => by
          rw [p5, r1, r4, ntm1 (by omega)] at w2; exact w2), x_1', bind_s]; dsimp only
        rw [upd_upd, upd_n (by decide), r1, r4]
      · rw [if_neg (show ¬ x2 = 0 by rw [r4, show (0 : Int32) = nt 0 from rfl, nt_eq (by omega) (by omega)]; omega)]
        unfold jM_track_85 jM_track_101 jM_track_124
        rw [if_pos (by rw [show (240 : Int32) = nt 240 from rfl, nt_le (by omega) (by omega)]; omega), if_pos (by rw [show (247 : Int32) = nt 247 from rfl, nt_le (by omega) (by omega)]; omega), if_neg q', upd_upd, r4, M141 _ s (by omega) (by rw [upd_n (by decide)]; exact g.m4)]
theorem c_statB {h z} {pv : Nat → Int32} (b : ¬ pv 2 = 0) : ∃ r, fP_status h z pv = some (r, z, pv) := by
  unfold fP_status jP_status_55 jP_status_77 jP_status_82
  rw [c_fixB b, bind_s]; dsimp only
  rw [if_neg b, if_pos (show (-1 : Int64).toInt32 ≤ 240 by decide), x_1, bind_s]
  exact ⟨_, rfl⟩
theorem m_49B {iv : Nat → Int32} {av : Nat → Nat → Int32} {K7 : (Nat → Int32) → (Nat → Nat → Int32) → Int32 → Int32 → Int64 → Int32 → Option ((Nat → Int32) × (Nat → Nat → Int32))} {x1 x2 : Int32} {y3 : Int64} {x5 : Int32} (b : ¬ iv 4 ≤ 0) (b' : ¬ iv 4 = 0) : jM_track_49 K7 iv av x1 x2 y3 x5 = K7 iv av x1 x2 y3 x5 := by
  unfold jM_track_49
  rw [m_takB b b', bind_s]; dsimp only
  rw [if_neg b]
theorem m_trkB {iv : Nat → Int32} {av : Nat → Nat → Int32} {k : Nat} {x1 x2 : Int32} {y3 : Int64} {x5 : Int32} (b' : ¬ iv 4 = 0) : lM_track_7 (k + 1) iv av x1 x2 y3 x5 = some (iv, av) := by
  rw [lM_track_7]; dsimp only
  rw [if_neg b']; split <;> rfl
theorem m_trk0 {iv : Nat → Int32} {av : Nat → Nat → Int32} {k : Nat} {x1 x2 : Int32} {y3 : Int64} : lM_track_7 (k + 1) iv av x1 x2 y3 0 = some (iv, av) := by
  rw [lM_track_7]; dsimp only
  rw [if_pos rfl]
theorem c_33B {h z} {pv : Nat → Int32} {x s : Int32} (b : ¬ pv 2 = 0) : jP_oneEvent_33 h z pv x s = some (h, z, pv) := by
  unfold jP_oneEvent_33
  obtain ⟨r, e⟩ := c_statB (h := h) (z := z) b
  rw [x_B b, bind_s]; dsimp only
  rw [e, bind_s]; dsimp only
  rw [if_neg b]
theorem c_roomT {h z} (x : Int32) : ∃ r, fS_hasRoomFor h z x = some (r, z) := by
  unfold fS_hasRoomFor fB2_size
  rw [bind_s]; dsimp only
  repeat' split
  all_goals exact ⟨_, rfl⟩
theorem c_90B {h z} {pv : Nat → Int32} {x s : Int32} (b : ¬ pv 2 = 0) : jP_oneEvent_90 h z pv x s = some (h, z, pv) := by
  unfold jP_oneEvent_90 jP_oneEvent_120 fP_keep
  obtain ⟨r, e⟩ := c_roomT (h := h) (z := z) (pv 10)
  rw [e, bind_s]; dsimp only
  rw [x_B b, bind_s]; dsimp only
  rw [if_neg b, bind_s]; split <;> rfl
theorem c_48 {h z} {pv : Nat → Int32} : ∃ s, jP_track_48 h z pv = jP_track_65 h z pv s ∧ (s = 1 ∨ ¬ pv 0 = pv 1) := by
  unfold jP_track_48
  by_cases q : pv 0 = pv 1
  · rw [if_pos q]; exact ⟨_, rfl, .inl rfl⟩
  · rw [if_neg q]; exact ⟨_, rfl, .inr q⟩
theorem c_48B {h z} {pv : Nat → Int32} (b : ¬ pv 2 = 0) : ∃ pv', jP_track_48 h z pv = some (h, z, pv') ∧ pv' 2 = pv 2 := by
  obtain ⟨s, e, _⟩ := c_48 (h := h) (z := z) (pv := pv)
  rw [e]; unfold jP_track_65
  rw [x_B b, bind_s]
  exact ⟨_, rfl, upd_n (by decide)⟩
theorem c_trkB {h z} {pv : Nat → Int32} {k : Nat} {x : Int32} (b : ¬ pv 2 = 0) : ∃ pv', lP_track_17 (k + 1) h z pv x = some (h, z, pv') ∧ pv' 2 = pv 2 := by
  rw [lP_track_17]; dsimp only
  rw [if_neg b]
  split
  · exact c_48B b
  · exact c_48B b
def TrkO (h0 : cH) (z0 : cZ) (iv0 : Nat → Int32) (av0 : Nat → Nat → Int32) (b : Nat → Nat) (n e K fm tr dv : Nat) (C : Option (cH × cZ × (Nat → Int32))) (M : Option ((Nat → Int32) × (Nat → Nat → Int32))) : Prop :=
  ∃ h' z' pv' iv' av', C = some (h', z', pv') ∧ M = some (iv', av') ∧ FC h0 z0 h' z' ∧ FM iv0 av0 iv' av' ∧ (Bad pv' iv' ∨ (Gd pv' iv' e e ∧ pv' 3 = nt (K + 1) ∧ Inp h' z' av' b n ∧ ∃ ne nd, LE h' z' iv' av' ne nd fm tr dv))
/-- within a track -/
abbrev TS (h0 : cH) (z0 : cZ) (iv0 : Nat → Int32) (av0 : Nat → Nat → Int32) (b : Nat → Nat) (n : Nat) (e : Nat) (K : Nat) (fm : Nat) (tr : Nat) (dv : Nat) (h : cH) (z : cZ) (pv : Nat → Int32) (iv : Nat → Int32) (av : Nat → Nat → Int32) (p : Nat) (T : Nat) (x2 : Int32) (ne : Nat) (nd : Nat) : Prop := (Gd pv iv p e) ∧ (FC h0 z0 h z) ∧ (FM iv0 av0 iv av) ∧ (Inp h z av b n) ∧ (LE h z iv av ne nd fm tr dv) ∧ (pv 3 = nt K) ∧ (pv 4 = nt T) ∧ (T ≤ 268435455) ∧ (pv 6 = nt 0) ∧ (Run (pv 5) x2)
theorem TS.g {h0 : cH} {z0 : cZ} {iv0 : Nat → Int32} {av0 : Nat → Nat → Int32} {b : Nat → Nat} {n : Nat} {e : Nat} {K : Nat} {fm : Nat} {tr : Nat} {dv : Nat} {h : cH} {z : cZ} {pv : Nat → Int32} {iv : Nat → Int32} {av : Nat → Nat → Int32} {p : Nat} {T : Nat} {x2 : Int32} {ne : Nat} {nd : Nat} (s : TS h0 z0 iv0 av0 b n e K fm tr dv h z pv iv av p T x2 ne nd) : Gd pv iv p e := s.1
theorem TS.fc {h0 : cH} {z0 : cZ} {iv0 : Nat → Int32} {av0 : Nat → Nat → Int32} {b : Nat → Nat} {n : Nat} {e : Nat} {K : Nat} {fm : Nat} {tr : Nat} {dv : Nat} {h : cH} {z : cZ} {pv : Nat → Int32} {iv : Nat → Int32} {av : Nat → Nat → Int32} {p : Nat} {T : Nat} {x2 : Int32} {ne : Nat} {nd : Nat} (s : TS h0 z0 iv0 av0 b n e K fm tr dv h z pv iv av p T x2 ne nd) : FC h0 z0 h z := s.2.1
theorem TS.fm' {h0 : cH} {z0 : cZ} {iv0 : Nat → Int32} {av0 : Nat → Nat → Int32} {b : Nat → Nat} {n : Nat} {e : Nat} {K : Nat} {fm : Nat} {tr : Nat} {dv : Nat} {h : cH} {z : cZ} {pv : Nat → Int32} {iv : Nat → Int32} {av : Nat → Nat → Int32} {p : Nat} {T : Nat} {x2 : Int32} {ne : Nat} {nd : Nat} (s : TS h0 z0 iv0 av0 b n e K fm tr dv h z pv iv av p T x2 ne nd) : FM iv0 av0 iv av := s.2.2.1
theorem TS.inp {h0 : cH} {z0 : cZ} {iv0 : Nat → Int32} {av0 : Nat → Nat → Int32} {b : Nat → Nat} {n : Nat} {e : Nat} {K : Nat} {fm : Nat} {tr : Nat} {dv : Nat} {h : cH} {z : cZ} {pv : Nat → Int32} {iv : Nat → Int32} {av : Nat → Nat → Int32} {p : Nat} {T : Nat} {x2 : Int32} {ne : Nat} {nd : Nat} (s : TS h0 z0 iv0 av0 b n e K fm tr dv h z pv iv av p T x2 ne nd) : Inp h z av b n := s.2.2.2.1
theorem TS.le {h0 : cH} {z0 : cZ} {iv0 : Nat → Int32} {av0 : Nat → Nat → Int32} {b : Nat → Nat} {n : Nat} {e : Nat} {K : Nat} {fm : Nat} {tr : Nat} {dv : Nat} {h : cH} {z : cZ} {pv : Nat → Int32} {iv : Nat → Int32} {av : Nat → Nat → Int32} {p : Nat} {T : Nat} {x2 : Int32} {ne : Nat} {nd : Nat} (s : TS h0 z0 iv0 av0 b n e K fm tr dv h z pv iv av p T x2 ne nd) : LE h z iv av ne nd fm tr dv := s.2.2.2.2.1
theorem TS.k3 {h0 : cH} {z0 : cZ} {iv0 : Nat → Int32} {av0 : Nat → Nat → Int32} {b : Nat → Nat} {n : Nat} {e : Nat} {K : Nat} {fm : Nat} {tr : Nat} {dv : Nat} {h : cH} {z : cZ} {pv : Nat → Int32} {iv : Nat → Int32} {av : Nat → Nat → Int32} {p : Nat} {T : Nat} {x2 : Int32} {ne : Nat} {nd : Nat} (s : TS h0 z0 iv0 av0 b n e K fm tr dv h z pv iv av p T x2 ne nd) : pv 3 = nt K := s.2.2.2.2.2.1
theorem TS.k4 {h0 : cH} {z0 : cZ} {iv0 : Nat → Int32} {av0 : Nat → Nat → Int32} {b : Nat → Nat} {n : Nat} {e : Nat} {K : Nat} {fm : Nat} {tr : Nat} {dv : Nat} {h : cH} {z : cZ} {pv : Nat → Int32} {iv : Nat → Int32} {av : Nat → Nat → Int32} {p : Nat} {T : Nat} {x2 : Int32} {ne : Nat} {nd : Nat} (s : TS h0 z0 iv0 av0 b n e K fm tr dv h z pv iv av p T x2 ne nd) : pv 4 = nt T := s.2.2.2.2.2.2.1
theorem TS.tT {h0 : cH} {z0 : cZ} {iv0 : Nat → Int32} {av0 : Nat → Nat → Int32} {b : Nat → Nat} {n : Nat} {e : Nat} {K : Nat} {fm : Nat} {tr : Nat} {dv : Nat} {h : cH} {z : cZ} {pv : Nat → Int32} {iv : Nat → Int32} {av : Nat → Nat → Int32} {p : Nat} {T : Nat} {x2 : Int32} {ne : Nat} {nd : Nat} (s : TS h0 z0 iv0 av0 b n e K fm tr dv h z pv iv av p T x2 ne nd) : T ≤ 268435455 := s.2.2.2.2.2.2.2.1
theorem TS.k6 {h0 : cH} {z0 : cZ} {iv0 : Nat → Int32} {av0 : Nat → Nat → Int32} {b : Nat → Nat} {n : Nat} {e : Nat} {K : Nat} {fm : Nat} {tr : Nat} {dv : Nat} {h : cH} {z : cZ} {pv : Nat → Int32} {iv : Nat → Int32} {av : Nat → Nat → Int32} {p : Nat} {T : Nat} {x2 : Int32} {ne : Nat} {nd : Nat} (s : TS h0 z0 iv0 av0 b n e K fm tr dv h z pv iv av p T x2 ne nd) : pv 6 = nt 0 := s.2.2.2.2.2.2.2.2.1
theorem TS.ru {h0 : cH} {z0 : cZ} {iv0 : Nat → Int32} {av0 : Nat → Nat → Int32} {b : Nat → Nat} {n : Nat} {e : Nat} {K : Nat} {fm : Nat} {tr : Nat} {dv : Nat} {h : cH} {z : cZ} {pv : Nat → Int32} {iv : Nat → Int32} {av : Nat → Nat → Int32} {p : Nat} {T : Nat} {x2 : Int32} {ne : Nat} {nd : Nat} (s : TS h0 z0 iv0 av0 b n e K fm tr dv h z pv iv av p T x2 ne nd) : Run (pv 5) x2 := s.2.2.2.2.2.2.2.2.2
theorem TrkO.bad {h0 z0 iv0 av0 b n e K fm tr dv h z pv iv av pv1 iv1} {C : Option (cH × cZ × (Nat → Int32))} {M : Option ((Nat → Int32) × (Nat → Nat → Int32))} (fc : FC h0 z0 h z) (fm' : FM iv0 av0 iv av) (B : Bad pv1 iv1) (hC : C = some (h, z, pv)) (hM : M = some (iv, av)) (e2 : pv 2 = pv1 2) (e4 : iv 4 = iv1 4) (e5 : iv 5 = iv1 5) : TrkO h0 z0 iv0 av0 b n e K fm tr dv C M :=
  ⟨h, z, pv, iv, av, hC, hM, fc, fm', .inl (B.eq e2 e4 e5)⟩
theorem m_172 {iv : Nat → Int32} {av : Nat → Nat → Int32} {x1 x2 x4 : Int32} {ne nd s f6 : Nat} (hne : ne < 1001) (hs : s < 256) (e10 : iv 10 = nt ne) (e11 : iv 11 = nt nd) (hnd : nd ≤ 8000) (hf : f6 ≤ 12000) (sz : (s < 240 ∧ f6 = 0) ∨ (240 ≤ s ∧ av 7 ne = nt f6)) :
    jM_eventIn_172 iv av x1 x2 (nt s) x4 (nt ne) = if ne < 1000 ∧ nd + f6 ≤ 8000 then some (1, upd (upd iv 10 (nt (ne + 1))) 11 (nt (nd + f6)), up2 (up2 (up2 av 1 ne x2) 2 ne x1) 3 ne (nt s)) else ((fM_fail (upd (upd iv 10 (nt (ne + 1))) 11 (nt (nd + f6))) (up2 (up2 (up2 av 1 ne x2) 2 ne x1) 3 ne (nt s)) (9 : Int32) x4).bind fun (iv1, av1) => some ((1 : Int32), iv1, av1)) := by
  have E : jM_eventIn_172 iv av x1 x2 (nt s) x4 (nt ne) = jM_eventIn_229 (upd iv 10 (nt (ne + 1))) (up2 (up2 (up2 av 1 ne x2) 2 ne x1) 3 ne (nt s)) x4 (nt nd) (nt f6) := by
    unfold jM_eventIn_172
    rw [if_neg (ixN hne (by omega)), if_neg (ixN hne (by omega)), if_neg (ixN hne (by omega)), if_neg (ixN hne (by omega)), nt_cl (by omega), e10, show (1 : Int32) = nt 1 from rfl, nt_add, upd_n (show (11 : Nat) ≠ 10 by decide), e11]
    rcases sz with ⟨q, q6⟩ | ⟨q, q6⟩
    · rw [if_pos (by rw [show (239 : Int32) = nt 239 from rfl, nt_le (by omega) (by omega)]; omega), q6]; rfl
    · rw [if_neg (by rw [show (239 : Int32) = nt 239 from rfl, nt_le (by omega) (by omega)]; omega), up2_o (by decide), up2_o (by decide), up2_o (by decide), q6]
  rw [E]
  unfold jM_eventIn_229 jM_eventIn_253
  rw [nt_add, upd_s, upd_n (show (10 : Nat) ≠ 11 by decide), upd_s]
  by_cases q : ne < 1000
  · rw [if_neg (by rw [show (1000 : Int32) = nt 1000 from rfl, nt_lt (by omega) (by omega)]; omega)]
    by_cases q2 : nd + f6 ≤ 8000
    · rw [if_pos (by rw [show (8000 : Int32) = nt 8000 from rfl, nt_le (by omega) (by omega)]; exact q2), if_pos ⟨q, q2⟩]
    · rw [if_neg (by rw [show (8000 : Int32) = nt 8000 from rfl, nt_le (by omega) (by omega)]; exact q2), if_neg (fun w => q2 w.2)]
  · rw [if_pos (by rw [show (1000 : Int32) = nt 1000 from rfl, nt_lt (by omega) (by omega)]; omega), if_neg (fun w => q w.1)]
theorem c_room {h z} {x : Int32} {ne nd f6 : Nat} (c7 : zi z 7 = nt ne) (c2 : zi z 2 = nt nd) (hne : ne < 1001) (hnd : nd ≤ 8000) (hf : f6 ≤ 12000) (sz : (x = -nt 1 ∧ f6 = 0) ∨ x = nt f6) : fS_hasRoomFor h z x = some (if ne < 1000 ∧ nd + f6 ≤ 8000 then 1 else 0, z) := by
  have E : (if (0 : Int32) < x then x else 0) = nt f6 := by
    rcases sz with ⟨q, q6⟩ | q
    · rw [q, q6, if_neg (by decide)]; rfl
    · rw [q]
      by_cases w : f6 = 0
      · rw [w]; rfl
      · rw [if_pos (by rw [show (0 : Int32) = nt 0 from rfl, nt_lt (by omega) (by omega)]; omega)]
  unfold fS_hasRoomFor fB2_size
  rw [c7, E]
  by_cases q : ne < 1000
  · rw [if_neg (by rw [show (1000 : Int32) = nt 1000 from rfl, nt_le (by omega) (by omega)]; omega), bind_s]; dsimp only
    rw [c2, nt_add]
    by_cases q2 : nd + f6 ≤ 8000
    · rw [if_neg (by rw [show (8000 : Int32) = nt 8000 from rfl, nt_lt (by omega) (by omega)]; omega), if_pos ⟨q, q2⟩]
    · rw [if_pos (by rw [show (8000 : Int32) = nt 8000 from rfl, nt_lt (by omega) (by omega)]; omega), if_neg (fun w => q2 w.2)]
  · rw [if_pos (by rw [show (1000 : Int32) = nt 1000 from rfl, nt_le (by omega) (by omega)]; omega), if_neg (fun w => q w.1)]
