/-- between chunks -/
abbrev PT (h0 : cH) (z0 : cZ) (iv0 : Nat → Int32) (av0 : Nat → Nat → Int32) (b : Nat → Nat) (n : Nat) (fm : Nat) (tr : Nat) (dv : Nat) (h : cH) (z : cZ) (pv : Nat → Int32) (iv : Nat → Int32) (av : Nat → Nat → Int32) (p : Nat) (K : Nat) (ne : Nat) (nd : Nat) : Prop := (Gd pv (upd iv 3 (nt n)) p n) ∧ (FC h0 z0 h z) ∧ (FM iv0 av0 iv av) ∧ (Inp h z av b n) ∧ (LE h z iv av ne nd fm tr dv) ∧ (pv 3 = nt K) ∧ (K ≤ tr) ∧ (iv 1 = nt n)
theorem PT.g {h0 : cH} {z0 : cZ} {iv0 : Nat → Int32} {av0 : Nat → Nat → Int32} {b : Nat → Nat} {n : Nat} {fm : Nat} {tr : Nat} {dv : Nat} {h : cH} {z : cZ} {pv : Nat → Int32} {iv : Nat → Int32} {av : Nat → Nat → Int32} {p : Nat} {K : Nat} {ne : Nat} {nd : Nat} (s : PT h0 z0 iv0 av0 b n fm tr dv h z pv iv av p K ne nd) : Gd pv (upd iv 3 (nt n)) p n := s.1
theorem PT.fc {h0 : cH} {z0 : cZ} {iv0 : Nat → Int32} {av0 : Nat → Nat → Int32} {b : Nat → Nat} {n : Nat} {fm : Nat} {tr : Nat} {dv : Nat} {h : cH} {z : cZ} {pv : Nat → Int32} {iv : Nat → Int32} {av : Nat → Nat → Int32} {p : Nat} {K : Nat} {ne : Nat} {nd : Nat} (s : PT h0 z0 iv0 av0 b n fm tr dv h z pv iv av p K ne nd) : FC h0 z0 h z := s.2.1
theorem PT.fm' {h0 : cH} {z0 : cZ} {iv0 : Nat → Int32} {av0 : Nat → Nat → Int32} {b : Nat → Nat} {n : Nat} {fm : Nat} {tr : Nat} {dv : Nat} {h : cH} {z : cZ} {pv : Nat → Int32} {iv : Nat → Int32} {av : Nat → Nat → Int32} {p : Nat} {K : Nat} {ne : Nat} {nd : Nat} (s : PT h0 z0 iv0 av0 b n fm tr dv h z pv iv av p K ne nd) : FM iv0 av0 iv av := s.2.2.1
theorem PT.inp {h0 : cH} {z0 : cZ} {iv0 : Nat → Int32} {av0 : Nat → Nat → Int32} {b : Nat → Nat} {n : Nat} {fm : Nat} {tr : Nat} {dv : Nat} {h : cH} {z : cZ} {pv : Nat → Int32} {iv : Nat → Int32} {av : Nat → Nat → Int32} {p : Nat} {K : Nat} {ne : Nat} {nd : Nat} (s : PT h0 z0 iv0 av0 b n fm tr dv h z pv iv av p K ne nd) : Inp h z av b n := s.2.2.2.1
theorem PT.le {h0 : cH} {z0 : cZ} {iv0 : Nat → Int32} {av0 : Nat → Nat → Int32} {b : Nat → Nat} {n : Nat} {fm : Nat} {tr : Nat} {dv : Nat} {h : cH} {z : cZ} {pv : Nat → Int32} {iv : Nat → Int32} {av : Nat → Nat → Int32} {p : Nat} {K : Nat} {ne : Nat} {nd : Nat} (s : PT h0 z0 iv0 av0 b n fm tr dv h z pv iv av p K ne nd) : LE h z iv av ne nd fm tr dv := s.2.2.2.2.1
theorem PT.k3 {h0 : cH} {z0 : cZ} {iv0 : Nat → Int32} {av0 : Nat → Nat → Int32} {b : Nat → Nat} {n : Nat} {fm : Nat} {tr : Nat} {dv : Nat} {h : cH} {z : cZ} {pv : Nat → Int32} {iv : Nat → Int32} {av : Nat → Nat → Int32} {p : Nat} {K : Nat} {ne : Nat} {nd : Nat} (s : PT h0 z0 iv0 av0 b n fm tr dv h z pv iv av p K ne nd) : pv 3 = nt K := s.2.2.2.2.2.1
theorem PT.hK {h0 : cH} {z0 : cZ} {iv0 : Nat → Int32} {av0 : Nat → Nat → Int32} {b : Nat → Nat} {n : Nat} {fm : Nat} {tr : Nat} {dv : Nat} {h : cH} {z : cZ} {pv : Nat → Int32} {iv : Nat → Int32} {av : Nat → Nat → Int32} {p : Nat} {K : Nat} {ne : Nat} {nd : Nat} (s : PT h0 z0 iv0 av0 b n fm tr dv h z pv iv av p K ne nd) : K ≤ tr := s.2.2.2.2.2.2.1
theorem PT.m1 {h0 : cH} {z0 : cZ} {iv0 : Nat → Int32} {av0 : Nat → Nat → Int32} {b : Nat → Nat} {n : Nat} {fm : Nat} {tr : Nat} {dv : Nat} {h : cH} {z : cZ} {pv : Nat → Int32} {iv : Nat → Int32} {av : Nat → Nat → Int32} {p : Nat} {K : Nat} {ne : Nat} {nd : Nat} (s : PT h0 z0 iv0 av0 b n fm tr dv h z pv iv av p K ne nd) : iv 1 = nt n := s.2.2.2.2.2.2.2
theorem FM.u {iv0 av0 iv av} (f : FM iv0 av0 iv av) {k : Nat} {x : Int32} (h : k = 2 ∨ k = 3 ∨ k = 4 ∨ k = 5) : FM iv0 av0 (upd iv k x) av :=
  ⟨(upd_n (by omega)).trans f.m0, (upd_n (by omega)).trans f.m1, (upd_n (by omega)).trans f.m6, (upd_n (by omega)).trans f.m12, f.w0, f.w11⟩
theorem LE.u {h z iv av ne nd fm tr dv} (l : LE h z iv av ne nd fm tr dv) {k : Nat} {x : Int32} (hk : k = 2 ∨ k = 3 ∨ k = 4 ∨ k = 5) : LE h z (upd iv k x) av ne nd fm tr dv :=
  ⟨⟨l.ev.mx, l.ev.ne, l.ev.c, (upd_n (by omega)).trans l.ev.m, l.ev.eq, l.ev.ol⟩, l.da, (upd_n (by omega)).trans l.i11, l.fmx, l.fc, (upd_n (by omega)).trans l.fi, l.t1, l.tmx, l.tc, (upd_n (by omega)).trans l.ti, l.dmx, l.dc, (upd_n (by omega)).trans l.di, l.ok, l.su⟩
theorem FUm {m : Nat} (h : m ≤ 12000) : m + 2 ≤ FU := by have := FUn (n := m + 1) (by omega); omega
theorem s_par {h0 z0 iv0 av0 b n fm tr dv h z pv iv av p K ne nd} (s : PT h0 z0 iv0 av0 b n fm tr dv h z pv iv av p K ne nd) {i f f' : Nat} (hi : i < p) :
    RdO h0 z0 iv0 av0 (lP_parse_24 (f + 2) h z pv (nt i)) (lM_read_44 (f' + 2) iv av (nt K)) ∨
    ∃ h' z' pv' iv' av' p' K' ne' nd', PT h0 z0 iv0 av0 b n fm tr dv h' z' pv' iv' av' p' K' ne' nd' ∧ p < p' ∧ lP_parse_24 (f + 2) h z pv (nt i) = lP_parse_24 (f + 1) h' z' pv' (nt (i + 1)) ∧ lM_read_44 (f' + 2) iv av (nt K) = lM_read_44 (f' + 1) iv' av' (nt K') := by
  have I := s.inp
  have g := s.g
  have hn := I.mx
  have hle := g.le
  have htr := s.le.tmx
  have m4 : iv 4 = nt 0 := (upd_n (by decide)).symm.trans g.m4
  have m5 : iv 5 = nt 0 := (upd_n (by decide)).symm.trans g.m5
  have m2 : iv 2 = nt p := (upd_n (by decide)).symm.trans g.m2
  rw [lP_parse_24, lM_read_44]; dsimp only
  unfold fB0_size
  rw [if_neg (show ¬ (12000 : Int32) ≤ nt i by rw [show (12000 : Int32) = nt 12000 from rfl, nt_le (by omega) (by omega)]; omega), if_pos (show pv 2 = 0 from g.c2), if_pos (show iv 4 = 0 from m4), bind_s, s.m1, m2]; dsimp only
  rw [I.c, g.c0]
  by_cases q : p = n
  · left
    rw [if_pos (by rw [nt_le (by omega) (by omega)]; omega), if_pos (by rw [nt_le (by omega) (by omega)]; omega)]
    exact e_end s.fc s.fm' s.le g.c2 m4 m5 s.k3 s.hK g.c1 s.m1 hn
  rw [if_neg (by rw [nt_le (by omega) (by omega)]; omega), if_neg (by rw [nt_le (by omega) (by omega)]; omega), g.m2]
  have FM3 := s.fm'.u (k := 3) (x := nt n) (by omega)
  have LE3 := s.le.u (k := 3) (x := nt n) (by omega)
  rcases j_beg I g s.k3 s.hK htr s.le.tc ((upd_n (by decide)).trans s.le.ti) ((upd_n (by decide)).trans s.m1) (lM_read_44 (f' + 1)) with ⟨L, st, hL, hst, a, m⟩ | ⟨pv', iv', a, m, B, F⟩
  rotate_left
  · left
    rw [a, m, bind_s]; dsimp only
    rw [if_pos rfl]
    unfold jP_parse_74 fB0_size
    rw [bind_s]; dsimp only
    have B2 : Bad (upd (upd pv' 0 (pv' 1)) 1 (zi z 0)) iv' := B.eq (by rw [upd_n (by decide), upd_n (by decide)]) rfl rfl
    rw [c_parB B2.c, m_redB B.m']
    exact e_bad s.fc (FM3.next F (EQ.refl _ 0 0)) B2
  rw [a, m, bind_s]; dsimp only
  clear a m
  rcases hst with hst | ⟨hst, hKt⟩
  · right
    subst hst
    rw [if_pos (show nt 0 = 0 from rfl), if_pos rfl]
    unfold jP_parse_74 fB0_size jM_read_190 jM_read_209
    rw [bind_s, if_pos (show nt 0 = 0 from rfl), upd_s, I.c, upd_s, show (1 : Int32) = nt 1 from rfl, nt_add]; dsimp only
    refine ⟨h, z, _, _, _, p + 8 + L, K, ne, nd, ⟨⟨?_, ?_, ?_, ?_, ?_, ?_, ?_, hL⟩, s.fc, ((FM3.u (by omega)).u (by omega)).u (by omega), I, ((LE3.u (by omega)).u (by omega)).u (by omega), ?_, s.hK, ?_⟩, by omega, rfl, rfl⟩
    · rw [upd_n (by decide), upd_s]
    · rw [upd_s]
    · rw [upd_n (by decide), upd_n (by decide), upd_n (by decide), upd_n (by decide)]; exact g.c2
    · rw [upd_n (by decide), upd_s]
    · rw [upd_s]
    · rw [upd_n (by decide), upd_n (by decide), upd_n (by decide), upd_n (by decide), upd_n (by decide)]; exact m4
    · rw [upd_n (by decide), upd_n (by decide), upd_n (by decide), upd_n (by decide), upd_n (by decide)]; exact m5
    · rw [upd_n (by decide), upd_n (by decide), upd_n (by decide), upd_n (by decide)]; exact s.k3
    · rw [upd_n (by decide), upd_n (by decide), upd_n (by decide), upd_n (by decide)]; exact s.m1
  · subst hst
    rw [if_neg (show ¬ nt 1 = 0 by decide), if_neg (show ¬ (1 : Nat) = 0 by decide)]
    unfold fP_track fM_track
    have T : TS h0 z0 iv0 av0 b n (p + 8 + L) K fm tr dv h z (upd (upd (upd (upd (upd pv 0 (nt (p + 8))) 1 (nt (p + 8 + L))) 4 0) 5 (-1)) 6 0) (upd (upd (upd iv 3 (nt n)) 2 (nt (p + 8))) 3 (nt (p + 8 + L))) av (p + 8) 0 0 ne nd := by
      refine ⟨⟨?_, ?_, ?_, ?_, ?_, ?_, ?_, by omega⟩, s.fc, (FM3.u (by omega)).u (by omega), I, (LE3.u (by omega)).u (by omega), ?_, ?_, by omega, ?_, ?_⟩
      · rw [upd_n (by decide), upd_n (by decide), upd_n (by decide), upd_n (by decide), upd_s]
      · rw [upd_n (by decide), upd_n (by decide), upd_n (by decide), upd_s]
      · rw [upd_n (by decide), upd_n (by decide), upd_n (by decide), upd_n (by decide), upd_n (by decide)]; exact g.c2
      · rw [upd_n (by decide), upd_s]
      · rw [upd_s]
      · rw [upd_n (by decide), upd_n (by decide), upd_n (by decide)]; exact m4
      · rw [upd_n (by decide), upd_n (by decide), upd_n (by decide)]; exact m5
      · rw [upd_n (by decide), upd_n (by decide), upd_n (by decide), upd_n (by decide), upd_n (by decide)]; exact s.k3
      · rw [upd_n (by decide), upd_n (by decide), upd_s]; rfl
      · rw [upd_s]; rfl
      · rw [upd_n (by decide), upd_s]; exact .inl ⟨rfl, rfl⟩
    obtain ⟨h', z', pv', iv', av', a, m, FC', FM', O⟩ := l_trk hL hKt (12000) 0 (p + 8) h z _ _ av 0 0 ne nd FU FU (by omega) (FUm (by omega)) (FUm (by omega)) (by omega) T
    rw [show lP_track_17 FU h z (upd (upd (upd (upd (upd pv 0 (nt (p + 8))) 1 (nt (p + 8 + L))) 4 0) 5 (-1)) 6 0) 0 = some (h', z', pv') from a, show lM_track_7 FU (upd (upd (upd iv 3 (nt n)) 2 (nt (p + 8))) 3 (nt (p + 8 + L))) av (nt K) 0 0 1 = some (iv', av') from m, bind_s, bind_s]; dsimp only
    unfold jP_parse_63 jP_parse_74 fB0_size jM_read_190 jM_read_209
    rw [bind_s, if_neg (show ¬ nt 1 = 0 by decide)]; dsimp only
    have cn : zi z' 0 = nt n := by rw [FC'.c0, ← s.fc.c0]; exact I.c
    rcases O with B | ⟨G, k3', I', ne', nd', l'⟩
    · left
      have B2 : Bad (upd pv' 1 (zi z' 0)) (upd iv' 2 (iv' 3)) := B.eq (upd_n (by decide)) (upd_n (by decide)) (upd_n (by decide))
      rw [c_parB B2.c, m_redB B2.m']
      exact e_bad FC' (FM'.u (by omega)) B2
    · right
      rw [cn, G.m3, show (1 : Int32) = nt 1 from rfl, nt_add, nt_add]
      refine ⟨h', z', _, _, _, p + 8 + L, K + 1, ne', nd', ⟨⟨?_, ?_, ?_, ?_, ?_, ?_, ?_, hL⟩, FC', FM'.u (by omega), I', l'.u (by omega), ?_, by omega, ?_⟩, by omega, rfl, rfl⟩
      · rw [upd_n (by decide)]; exact G.c0
      · rw [upd_s]
      · rw [upd_n (by decide)]; exact G.c2
      · rw [upd_n (by decide), upd_s]
      · rw [upd_s]
      · rw [upd_n (by decide), upd_n (by decide)]; exact G.m4
      · rw [upd_n (by decide), upd_n (by decide)]; exact G.m5
      · rw [upd_n (by decide)]; exact k3'
      · rw [upd_n (by decide), FM'.m1, ← s.fm'.m1]; exact s.m1
theorem l_par {h0 z0 iv0 av0 b n fm tr dv} : ∀ m i p h z pv iv av K ne nd f f', n - p ≤ m → m + 2 ≤ f → m + 2 ≤ f' → i < p → PT h0 z0 iv0 av0 b n fm tr dv h z pv iv av p K ne nd →
    RdO h0 z0 iv0 av0 (lP_parse_24 f h z pv (nt i)) (lM_read_44 f' iv av (nt K)) := by
  intro m
  induction m with
  | zero =>
    intro i p h z pv iv av K ne nd f f' hm hf hf' hi s
    obtain ⟨f, rfl⟩ : ∃ k, f = k + 2 := ⟨f - 2, by omega⟩
    obtain ⟨f', rfl⟩ : ∃ k, f' = k + 2 := ⟨f' - 2, by omega⟩
    rcases s_par s (f := f) (f' := f') hi with w | ⟨h', z', pv', iv', av', p', K', ne', nd', s', lt, _, _⟩
    · exact w
    · have := s'.g.le; omega
  | succ m ih =>
    intro i p h z pv iv av K ne nd f f' hm hf hf' hi s
    obtain ⟨f, rfl⟩ : ∃ k, f = k + 2 := ⟨f - 2, by omega⟩
    obtain ⟨f', rfl⟩ : ∃ k, f' = k + 2 := ⟨f' - 2, by omega⟩
    rcases s_par s (f := f) (f' := f') hi with w | ⟨h', z', pv', iv', av', p', K', ne', nd', s', lt, e1, e2⟩
    · exact w
    · rw [e1, e2]
      exact ih (i + 1) p' h' z' pv' iv' av' K' ne' nd' (f + 1) (f' + 1) (by omega) (by omega) (by omega) (by omega) s'
theorem r_read {h z iv av} (r : Rel h z iv av) : ∃ v h' z' iv' av', fD_read h z = some (v, h', z') ∧ fM_read iv av = some (v, iv', av') ∧ iv' 0 = nt 0 ∧ Rel h' z' iv' av' ∧ gr (hC h 1 13) h' := by
  obtain ⟨n, wi⟩ := r.inp
  obtain ⟨no, wo⟩ := r.out
  have hn := wi.mx
  have hb : ∀ i, i < n → av 0 i = nt (av 0 i).toNatClampNeg ∧ (av 0 i).toNatClampNeg < 256 := fun i hi => by
    obtain ⟨c, hc, e⟩ := wi.by' i hi
    rw [e, nt_cl (by omega)]; exact ⟨rfl, hc⟩
  -- the states at the start
  have z1c : ∀ k, k ≠ 3 → k ≠ 7 → k ≠ 2 → zi (zU (zU (zU z 3 0) 7 0) 2 0) k = zi z k := fun k h3 h7 h2 => by rw [zi_U, upd_n h2, zi_U, upd_n h7, zi_U, upd_n h3]
  have I : Inp (hC h 1 13) (zU (zU (zU z 3 0) 7 0) 2 0) av (fun i => (av 0 i).toNatClampNeg) n :=
    ⟨wi.cap, hn, (z1c 0 (by decide) (by decide) (by decide)).trans wi.c, fun i hi => (wi.eq i hi).trans (hb i hi).1, fun i hi => (hb i hi).2, fun i hi => (hb i hi).1⟩
  have FC0 : FC (hC h 1 13) (zU (zU (zU z 3 0) 7 0) 2 0) (hC h 1 13) (zU (zU (zU z 3 0) 7 0) 2 0) := ⟨r.ci.C.zr' rfl, gr.refl _, rfl, rfl, rfl, rfl, rfl, rfl, rfl⟩
  have e1 : (upd (upd iv 0 (0 : Int32)) 2 (0 : Int32)) 1 = nt n := by rw [upd_n (by decide), upd_n (by decide)]; exact wi.m
  have G : Gd (upd (fun _ => 0) 1 (nt n)) (upd (upd (upd (upd (upd (upd (upd iv 0 (0 : Int32)) 2 (0 : Int32)) 3 (nt n)) 4 (0 : Int32)) 5 (0 : Int32)) 10 (0 : Int32)) 11 (0 : Int32)) 0 n :=
    ⟨rfl, upd_s, rfl, rfl, rfl, rfl, rfl, by omega⟩
  have iv1 : ∀ k, k ≠ 0 → k ≠ 2 → k ≠ 3 → k ≠ 4 → k ≠ 5 → k ≠ 10 → k ≠ 11 → (upd (upd (upd (upd (upd (upd (upd iv 0 (0 : Int32)) 2 (0 : Int32)) 3 (nt n)) 4 (0 : Int32)) 5 (0 : Int32)) 10 (0 : Int32)) 11 (0 : Int32)) k = iv k := fun k h0 h2 h3 h4 h5 h10 h11 => by
    rw [upd_n h11, upd_n h10, upd_n h5, upd_n h4, upd_n h3, upd_n h2, upd_n h0]
  have i0 : (upd (upd (upd (upd (upd (upd (upd iv 0 (0 : Int32)) 2 (0 : Int32)) 3 (nt n)) 4 (0 : Int32)) 5 (0 : Int32)) 10 (0 : Int32)) 11 (0 : Int32)) 0 = nt 0 := rfl
  have i10 : (upd (upd (upd (upd (upd (upd (upd iv 0 (0 : Int32)) 2 (0 : Int32)) 3 (nt n)) 4 (0 : Int32)) 5 (0 : Int32)) 10 (0 : Int32)) 11 (0 : Int32)) 10 = nt 0 := rfl
  have i11 : (upd (upd (upd (upd (upd (upd (upd iv 0 (0 : Int32)) 2 (0 : Int32)) 3 (nt n)) 4 (0 : Int32)) 5 (0 : Int32)) 10 (0 : Int32)) 11 (0 : Int32)) 11 = nt 0 := rfl
  have zf2 : zi (zU (zU (zU z 3 0) 7 0) 2 0) 2 = nt 0 := rfl
  have zf7 : zi (zU (zU (zU z 3 0) 7 0) 2 0) 7 = nt 0 := rfl
  have zr0 : za (zU (zU (zU z 3 0) 7 0) 2 0) = za z := rfl
  -- the parse
  have P : ∃ v h' z' iv' av' pv', fP_parse (hC h 1 13) z (fun _ => 0) = some (v, h', z', pv') ∧ fM_read iv av = some (v, iv', av') ∧ RO (hC h 1 13) (zU (zU (zU z 3 0) 7 0) 2 0) (upd (upd (upd (upd (upd (upd (upd iv 0 (0 : Int32)) 2 (0 : Int32)) 3 (nt n)) 4 (0 : Int32)) 5 (0 : Int32)) 10 (0 : Int32)) 11 (0 : Int32)) av h' z' iv' av' := by
    unfold fP_parse fM_read fS_forget fB2_empty fB0_size
    rw [e1, bind_s, bind_s, bind_s]; dsimp only
    rw [I.c]
    obtain ⟨f, hf⟩ : ∃ f, FU = f + 1 := ⟨FU - 1, by have := FUn (n := 10) (by omega); omega⟩
    generalize upd (upd (upd (upd (upd (upd (upd iv 0 (0 : Int32)) 2 (0 : Int32)) 3 (nt n)) 4 (0 : Int32)) 5 (0 : Int32)) 10 (0 : Int32)) 11 (0 : Int32) = ivs at *
    generalize zU (zU (zU z 3 0) 7 0) 2 0 = zs at *
    rcases j_head I G with ⟨fm, tr, dv, iv', q1, q2, q3, q4, a, m, s7, s8, s9, F, G', hn14⟩ | ⟨z', pv', iv', a, m, ⟨x, y, w, ez⟩, B, F⟩
    · rw [a, m, bind_s, bind_s]; dsimp only
      have F' : ∀ k, k = 0 ∨ k = 1 ∨ k = 6 ∨ k = 12 ∨ k = 10 ∨ k = 11 → iv' k = ivs k := fun k hk => F k (by omega) (by omega) (by omega) (by omega) (by omega) (by omega)
      have PT0 : PT (hC h 1 13) zs ivs av (fun i => (av 0 i).toNatClampNeg) n fm tr dv (hC h 1 13) (zU (zU (zU zs 4 (nt fm)) 5 (nt tr)) 6 (nt dv)) (upd (upd (fun _ => 0) 1 (nt n)) 0 (nt 14)) iv' av 14 0 0 0 := by
        refine ⟨G'.m fun k h1 h2 => ?_, ⟨FC0.ci.zr' rfl, gr.refl _, rfl, rfl, rfl, rfl, rfl, rfl, rfl⟩, ⟨F' 0 (by omega), F' 1 (by omega), F' 6 (by omega), F' 12 (by omega), rfl, rfl⟩, ⟨I.cap, I.mx, I.c, I.eq, I.lt, I.em⟩, ⟨⟨by omega, by omega, zf7, (F' 10 (by omega)).trans i10, fun k hk => absurd hk (by omega), fun k hk => absurd hk (by omega)⟩, ⟨by omega, by omega, zf2, fun k hk => absurd hk (by omega), fun k hk => absurd hk (by omega)⟩, (F' 11 (by omega)).trans i11, q1, rfl, s7, q2, q3, rfl, s8, q4, rfl, s9, fun e he => absurd he (by omega), by rw [sm_0]; omega⟩, rfl, by omega, ?_⟩
        · by_cases k3 : k = 3
          · subst k3; rw [upd_s, G'.m3]
          · exact upd_n k3
        · rw [F' 1 (by omega), iv1 1 (by decide) (by decide) (by decide) (by decide) (by decide) (by decide) (by decide)]; exact wi.m
      obtain ⟨v, h2, z2, pv2, iv2, av2, A, M, R⟩ := l_par 12000 0 14 _ _ _ _ _ 0 0 0 FU FU (by omega) (FUm (by omega)) (FUm (by omega)) (by omega) PT0
      exact ⟨v, h2, z2, iv2, av2, pv2, A, M, R⟩
    · rw [a, m, bind_s, bind_s]; dsimp only
      rw [hf, c_parB B.c, m_redB B.m']
      have F' : ∀ k, k = 0 ∨ k = 1 ∨ k = 6 ∨ k = 12 → iv' k = ivs k := fun k hk => F k (by omega) (by omega) (by omega) (by omega) (by omega) (by omega)
      subst ez
      obtain ⟨v, h2, z2, pv2, iv2, av2, A, M, R⟩ := e_bad (h0 := hC h 1 13) (z0 := zs) (iv0 := ivs) (av0 := av) (h := hC h 1 13) (z := zU (zU (zU zs 4 x) 5 y) 6 w) (x1 := 0) ⟨FC0.ci.zr' rfl, gr.refl _, rfl, rfl, rfl, rfl, rfl, rfl, rfl⟩ ⟨F' 0 (by omega), F' 1 (by omega), F' 6 (by omega), F' 12 (by omega), rfl, rfl⟩ B
      exact ⟨v, h2, z2, iv2, av2, pv2, A, M, R⟩
  obtain ⟨v, h', z', iv', av', pv', A, M, R⟩ := P
  have OUTz : OUT h' (zU z' 0 0) iv' av' no := wo.fr (by rw [zi_U, upd_n (by decide), R.c1, z1c 1 (by decide) (by decide) (by decide)]) (by rw [za_U, R.a1]; rfl) R.l1 (by rw [R.m12, iv1 12 (by decide) (by decide) (by decide) (by decide) (by decide) (by decide) (by decide)]) R.w11
  have INz : IN h' (zU z' 0 0) iv' av' 0 := ⟨by omega, by omega, rfl, R.m1, fun i hi => absurd hi (by omega), fun i hi => absurd hi (by omega)⟩
  refine ⟨v, h', zU z' 0 0, iv', av', ?_, M, R.m0.trans i0, ?_, R.gr⟩
  · unfold fD_read fB0_empty
    rw [A, bind_s]; dsimp only
    rw [bind_s]
  · refine ⟨R.ci.zr' rfl, ⟨0, INz⟩, ⟨no, OUTz⟩, ?_, ?_, fun q => ?_, fun q => ?_⟩
    · rw [zi_U, upd_n (by decide)]
      rcases R.lst with ⟨w1, w2, _⟩ | ⟨w1, w2, _⟩ <;> rw [w1, w2]
    · rcases R.lst with ⟨_, w2, _⟩ | ⟨_, w2, _⟩
      · exact .inr w2
      · exact .inl w2
    · rcases R.lst with ⟨_, _, n, o, nd, fm, tr, dv, w⟩ | ⟨_, w2, _⟩
      · exact ⟨n, o, nd, fm, tr, dv, w.fr ⟨rfl, rfl, rfl, rfl, rfl, rfl, rfl, rfl, rfl, rfl, fun _ _ _ => rfl, fun _ _ _ => rfl⟩⟩
      · rw [w2] at q; exact absurd q (by decide)
    · rcases R.lst with ⟨_, w2, _⟩ | ⟨_, _, w3, w4⟩
      · rw [w2] at q; exact absurd q (by decide)
      · exact ⟨by rw [zi_U, upd_n (by decide)]; exact w3, w4⟩
