/-- what the desk keeps while it reads -/
abbrev FC (h0 : cH) (z0 : cZ) (h : cH) (z : cZ) : Prop := (CI h z) ∧ (gr h0 h) ∧ (zi z 0 = zi z0 0) ∧ (zi z 1 = zi z0 1) ∧ (zi z 3 = zi z0 3) ∧ (za z 0 = za z0 0) ∧ (za z 1 = za z0 1) ∧ (h.1 0 = h0.1 0) ∧ (h.1 1 = h0.1 1)
theorem FC.ci {h0 : cH} {z0 : cZ} {h : cH} {z : cZ} (s : FC h0 z0 h z) : CI h z := s.1
theorem FC.gr {h0 : cH} {z0 : cZ} {h : cH} {z : cZ} (s : FC h0 z0 h z) : gr h0 h := s.2.1
theorem FC.c0 {h0 : cH} {z0 : cZ} {h : cH} {z : cZ} (s : FC h0 z0 h z) : zi z 0 = zi z0 0 := s.2.2.1
theorem FC.c1 {h0 : cH} {z0 : cZ} {h : cH} {z : cZ} (s : FC h0 z0 h z) : zi z 1 = zi z0 1 := s.2.2.2.1
theorem FC.c3 {h0 : cH} {z0 : cZ} {h : cH} {z : cZ} (s : FC h0 z0 h z) : zi z 3 = zi z0 3 := s.2.2.2.2.1
theorem FC.a0 {h0 : cH} {z0 : cZ} {h : cH} {z : cZ} (s : FC h0 z0 h z) : za z 0 = za z0 0 := s.2.2.2.2.2.1
theorem FC.a1 {h0 : cH} {z0 : cZ} {h : cH} {z : cZ} (s : FC h0 z0 h z) : za z 1 = za z0 1 := s.2.2.2.2.2.2.1
theorem FC.l0 {h0 : cH} {z0 : cZ} {h : cH} {z : cZ} (s : FC h0 z0 h z) : h.1 0 = h0.1 0 := s.2.2.2.2.2.2.2.1
theorem FC.l1 {h0 : cH} {z0 : cZ} {h : cH} {z : cZ} (s : FC h0 z0 h z) : h.1 1 = h0.1 1 := s.2.2.2.2.2.2.2.2
/-- what the reference keeps -/
abbrev FM (iv0 : Nat → Int32) (av0 : Nat → Nat → Int32) (iv : Nat → Int32) (av : Nat → Nat → Int32) : Prop := (iv 0 = iv0 0) ∧ (iv 1 = iv0 1) ∧ (iv 6 = iv0 6) ∧ (iv 12 = iv0 12) ∧ (av 0 = av0 0) ∧ (av 11 = av0 11)
theorem FM.m0 {iv0 : Nat → Int32} {av0 : Nat → Nat → Int32} {iv : Nat → Int32} {av : Nat → Nat → Int32} (s : FM iv0 av0 iv av) : iv 0 = iv0 0 := s.1
theorem FM.m1 {iv0 : Nat → Int32} {av0 : Nat → Nat → Int32} {iv : Nat → Int32} {av : Nat → Nat → Int32} (s : FM iv0 av0 iv av) : iv 1 = iv0 1 := s.2.1
theorem FM.m6 {iv0 : Nat → Int32} {av0 : Nat → Nat → Int32} {iv : Nat → Int32} {av : Nat → Nat → Int32} (s : FM iv0 av0 iv av) : iv 6 = iv0 6 := s.2.2.1
theorem FM.m12 {iv0 : Nat → Int32} {av0 : Nat → Nat → Int32} {iv : Nat → Int32} {av : Nat → Nat → Int32} (s : FM iv0 av0 iv av) : iv 12 = iv0 12 := s.2.2.2.1
theorem FM.w0 {iv0 : Nat → Int32} {av0 : Nat → Nat → Int32} {iv : Nat → Int32} {av : Nat → Nat → Int32} (s : FM iv0 av0 iv av) : av 0 = av0 0 := s.2.2.2.2.1
theorem FM.w11 {iv0 : Nat → Int32} {av0 : Nat → Nat → Int32} {iv : Nat → Int32} {av : Nat → Nat → Int32} (s : FM iv0 av0 iv av) : av 11 = av0 11 := s.2.2.2.2.2
theorem FM.next {iv0 av0 iv av iv' av' ne nd} (f : FM iv0 av0 iv av) (a : FI iv iv') (q : EQ av av' ne nd) : FM iv0 av0 iv' av' :=
  ⟨(a 0 (by decide) (by decide) (by decide)).trans f.m0, (a 1 (by decide) (by decide) (by decide)).trans f.m1, (a 6 (by decide) (by decide) (by decide)).trans f.m6, (a 12 (by decide) (by decide) (by decide)).trans f.m12, (q.1 0 (by omega)).trans f.w0, (q.1 11 (by omega)).trans f.w11⟩
/-- the list so far -/
abbrev LE (h : cH) (z : cZ) (iv : Nat → Int32) (av : Nat → Nat → Int32) (ne : Nat) (nd : Nat) (fm : Nat) (tr : Nat) (dv : Nat) : Prop := (EVS h z iv av ne id) ∧ (DAT h z av nd) ∧ (iv 11 = nt nd) ∧ (fm ≤ 2) ∧ (zi z 4 = nt fm) ∧ (iv 7 = nt fm) ∧ (1 ≤ tr) ∧ (tr ≤ 16) ∧ (zi z 5 = nt tr) ∧ (iv 8 = nt tr) ∧ (DV dv) ∧ (zi z 6 = nt dv) ∧ (iv 9 = nt dv) ∧ (∀ e, e < ne → EvOK (fun f => av (f + 1) e) nd tr) ∧ (sm (fun e => (av 7 e).toNatClampNeg) ne ≤ nd)
theorem LE.ev {h : cH} {z : cZ} {iv : Nat → Int32} {av : Nat → Nat → Int32} {ne : Nat} {nd : Nat} {fm : Nat} {tr : Nat} {dv : Nat} (s : LE h z iv av ne nd fm tr dv) : EVS h z iv av ne id := s.1
theorem LE.da {h : cH} {z : cZ} {iv : Nat → Int32} {av : Nat → Nat → Int32} {ne : Nat} {nd : Nat} {fm : Nat} {tr : Nat} {dv : Nat} (s : LE h z iv av ne nd fm tr dv) : DAT h z av nd := s.2.1
theorem LE.i11 {h : cH} {z : cZ} {iv : Nat → Int32} {av : Nat → Nat → Int32} {ne : Nat} {nd : Nat} {fm : Nat} {tr : Nat} {dv : Nat} (s : LE h z iv av ne nd fm tr dv) : iv 11 = nt nd := s.2.2.1
theorem LE.fmx {h : cH} {z : cZ} {iv : Nat → Int32} {av : Nat → Nat → Int32} {ne : Nat} {nd : Nat} {fm : Nat} {tr : Nat} {dv : Nat} (s : LE h z iv av ne nd fm tr dv) : fm ≤ 2 := s.2.2.2.1
theorem LE.fc {h : cH} {z : cZ} {iv : Nat → Int32} {av : Nat → Nat → Int32} {ne : Nat} {nd : Nat} {fm : Nat} {tr : Nat} {dv : Nat} (s : LE h z iv av ne nd fm tr dv) : zi z 4 = nt fm := s.2.2.2.2.1
theorem LE.fi {h : cH} {z : cZ} {iv : Nat → Int32} {av : Nat → Nat → Int32} {ne : Nat} {nd : Nat} {fm : Nat} {tr : Nat} {dv : Nat} (s : LE h z iv av ne nd fm tr dv) : iv 7 = nt fm := s.2.2.2.2.2.1
theorem LE.t1 {h : cH} {z : cZ} {iv : Nat → Int32} {av : Nat → Nat → Int32} {ne : Nat} {nd : Nat} {fm : Nat} {tr : Nat} {dv : Nat} (s : LE h z iv av ne nd fm tr dv) : 1 ≤ tr := s.2.2.2.2.2.2.1
theorem LE.tmx {h : cH} {z : cZ} {iv : Nat → Int32} {av : Nat → Nat → Int32} {ne : Nat} {nd : Nat} {fm : Nat} {tr : Nat} {dv : Nat} (s : LE h z iv av ne nd fm tr dv) : tr ≤ 16 := s.2.2.2.2.2.2.2.1
theorem LE.tc {h : cH} {z : cZ} {iv : Nat → Int32} {av : Nat → Nat → Int32} {ne : Nat} {nd : Nat} {fm : Nat} {tr : Nat} {dv : Nat} (s : LE h z iv av ne nd fm tr dv) : zi z 5 = nt tr := s.2.2.2.2.2.2.2.2.1
theorem LE.ti {h : cH} {z : cZ} {iv : Nat → Int32} {av : Nat → Nat → Int32} {ne : Nat} {nd : Nat} {fm : Nat} {tr : Nat} {dv : Nat} (s : LE h z iv av ne nd fm tr dv) : iv 8 = nt tr := s.2.2.2.2.2.2.2.2.2.1
theorem LE.dmx {h : cH} {z : cZ} {iv : Nat → Int32} {av : Nat → Nat → Int32} {ne : Nat} {nd : Nat} {fm : Nat} {tr : Nat} {dv : Nat} (s : LE h z iv av ne nd fm tr dv) : DV dv := s.2.2.2.2.2.2.2.2.2.2.1
theorem LE.dc {h : cH} {z : cZ} {iv : Nat → Int32} {av : Nat → Nat → Int32} {ne : Nat} {nd : Nat} {fm : Nat} {tr : Nat} {dv : Nat} (s : LE h z iv av ne nd fm tr dv) : zi z 6 = nt dv := s.2.2.2.2.2.2.2.2.2.2.2.1
theorem LE.di {h : cH} {z : cZ} {iv : Nat → Int32} {av : Nat → Nat → Int32} {ne : Nat} {nd : Nat} {fm : Nat} {tr : Nat} {dv : Nat} (s : LE h z iv av ne nd fm tr dv) : iv 9 = nt dv := s.2.2.2.2.2.2.2.2.2.2.2.2.1
theorem LE.ok {h : cH} {z : cZ} {iv : Nat → Int32} {av : Nat → Nat → Int32} {ne : Nat} {nd : Nat} {fm : Nat} {tr : Nat} {dv : Nat} (s : LE h z iv av ne nd fm tr dv) : ∀ e, e < ne → EvOK (fun f => av (f + 1) e) nd tr := s.2.2.2.2.2.2.2.2.2.2.2.2.2.1
theorem LE.su {h : cH} {z : cZ} {iv : Nat → Int32} {av : Nat → Nat → Int32} {ne : Nat} {nd : Nat} {fm : Nat} {tr : Nat} {dv : Nat} (s : LE h z iv av ne nd fm tr dv) : sm (fun e => (av 7 e).toNatClampNeg) ne ≤ nd := s.2.2.2.2.2.2.2.2.2.2.2.2.2.2
theorem LE.next {h z iv av iv' av' ne nd fm tr dv} (l : LE h z iv av ne nd fm tr dv) (a : FI iv iv') (q : EQ av av' ne nd) : LE h z iv' av' ne nd fm tr dv := by
  have F : ∀ k, k < ne → ∀ f, f < 7 → av' (f + 1) k = av (f + 1) k := fun k hk f hf => q.2.1 (f + 1) (by omega) (by omega) k (by omega)
  refine ⟨⟨l.ev.mx, l.ev.ne, l.ev.c, (a 10 (by decide) (by decide) (by decide)).trans l.ev.m, fun k hk f hf => (l.ev.eq k hk f hf).trans (F k hk f hf).symm, l.ev.ol⟩, ⟨l.da.cap, l.da.mx, l.da.c, fun i hi => (l.da.eq i hi).trans (q.2.2 i hi).symm, fun i hi => by rw [q.2.2 i hi]; exact l.da.by' i hi⟩, (a 11 (by decide) (by decide) (by decide)).trans l.i11, l.fmx, l.fc, (a 7 (by decide) (by decide) (by decide)).trans l.fi, l.t1, l.tmx, l.tc, (a 8 (by decide) (by decide) (by decide)).trans l.ti, l.dmx, l.dc, (a 9 (by decide) (by decide) (by decide)).trans l.di, fun e he => (l.ok e he).eq fun f hf => F e he f hf, ?_⟩
  have : sm (fun e => (av' 7 e).toNatClampNeg) ne = sm (fun e => (av 7 e).toNatClampNeg) ne := sm_eq' fun k hk => by rw [F k hk 6 (by omega)]
  rw [this]; exact l.su
/-- what putting the data does -/
abbrev PD (h : cH) (z : cZ) (h' : cH) (z' : cZ) (lo : Nat) (hi : Nat) : Prop := (CI h' z') ∧ (gr h h') ∧ (zi z' = upd (zi z) 2 (nt hi)) ∧ (∀ k, k ≠ 2 → za z' k = za z k) ∧ (∀ j, j < lo → za z' 2 j = za z 2 j) ∧ (zr z' = zr z) ∧ (ze z' = ze z) ∧ (h'.2.1 = h.2.1) ∧ (∀ k, k ≠ 2 → h'.1 k = h.1 k) ∧ (hi ≤ h'.1 2)
theorem PD.ci {h : cH} {z : cZ} {h' : cH} {z' : cZ} {lo : Nat} {hi : Nat} (s : PD h z h' z' lo hi) : CI h' z' := s.1
theorem PD.gr {h : cH} {z : cZ} {h' : cH} {z' : cZ} {lo : Nat} {hi : Nat} (s : PD h z h' z' lo hi) : gr h h' := s.2.1
theorem PD.i {h : cH} {z : cZ} {h' : cH} {z' : cZ} {lo : Nat} {hi : Nat} (s : PD h z h' z' lo hi) : zi z' = upd (zi z) 2 (nt hi) := s.2.2.1
theorem PD.a {h : cH} {z : cZ} {h' : cH} {z' : cZ} {lo : Nat} {hi : Nat} (s : PD h z h' z' lo hi) : ∀ k, k ≠ 2 → za z' k = za z k := s.2.2.2.1
theorem PD.o {h : cH} {z : cZ} {h' : cH} {z' : cZ} {lo : Nat} {hi : Nat} (s : PD h z h' z' lo hi) : ∀ j, j < lo → za z' 2 j = za z 2 j := s.2.2.2.2.1
theorem PD.r {h : cH} {z : cZ} {h' : cH} {z' : cZ} {lo : Nat} {hi : Nat} (s : PD h z h' z' lo hi) : zr z' = zr z := s.2.2.2.2.2.1
theorem PD.e {h : cH} {z : cZ} {h' : cH} {z' : cZ} {lo : Nat} {hi : Nat} (s : PD h z h' z' lo hi) : ze z' = ze z := s.2.2.2.2.2.2.1
theorem PD.en {h : cH} {z : cZ} {h' : cH} {z' : cZ} {lo : Nat} {hi : Nat} (s : PD h z h' z' lo hi) : h'.2.1 = h.2.1 := s.2.2.2.2.2.2.2.1
theorem PD.l {h : cH} {z : cZ} {h' : cH} {z' : cZ} {lo : Nat} {hi : Nat} (s : PD h z h' z' lo hi) : ∀ k, k ≠ 2 → h'.1 k = h.1 k := s.2.2.2.2.2.2.2.2.1
theorem PD.cap {h : cH} {z : cZ} {h' : cH} {z' : cZ} {lo : Nat} {hi : Nat} (s : PD h z h' z' lo hi) : hi ≤ h'.1 2 := s.2.2.2.2.2.2.2.2.2
theorem l_keep {b : Nat → Nat} {n st c nd : Nat} (hst : st + c ≤ n) (hn : n ≤ 12000) (hc : nd + c ≤ 8000) (hb : ∀ i, i < n → b i < 256) {pv : Nat → Int32} (k9 : pv 9 = nt st) (k10 : pv 10 = nt c) : ∀ m fuel i h z, i + m = c → m < fuel → CI h z → zi z 0 = nt n → n ≤ h.1 0 → (∀ i, i < n → za z 0 i = nt (b i)) → zi z 2 = nt (nd + i) → nd + i ≤ h.1 2 →
    ∃ h' z', lP_keep_77 fuel h z pv (nt i) = some (h', z', pv) ∧ PD h z h' z' (nd + i) (nd + c) ∧ (∀ t, i ≤ t → t < c → za z' 2 (nd + t) = nt (b (st + t))) := by
  intro m
  induction m with
  | zero =>
    intro fuel i h z hi hf ci c0 hcap he c2 hl
    obtain ⟨f, rfl⟩ : ∃ f, fuel = f + 1 := ⟨fuel - 1, by omega⟩
    obtain rfl : i = c := by omega
    refine ⟨h, z, ?_, ⟨ci, gr.refl _, (upd_self c2).symm, fun _ _ => rfl, fun _ _ => rfl, rfl, rfl, rfl, fun _ _ => rfl, hl⟩, fun t h1 h2 => absurd h2 (by omega)⟩
    rw [lP_keep_77]; dsimp only
    rw [k10, if_pos (by rw [nt_le (by omega) (by omega)]; omega)]
  | succ m ih =>
    intro fuel i h z hi hf ci c0 hcap he c2 hl
    obtain ⟨f, rfl⟩ : ∃ f, fuel = f + 1 := ⟨fuel - 1, by omega⟩
    have bb := hb (st + i) (by omega)
    obtain ⟨h1, z1, a, p⟩ := put2 (x := nt (b (st + i))) c2 (by omega) hl ci.l2 ci.u2
    have ci1 := ci.put (.inr (.inr ⟨rfl, rfl⟩)) p
    obtain ⟨h2, z2, a2, P, Q⟩ := ih f (i + 1) h1 z1 (by omega) (by omega) ci1 (by rw [p.ei, upd_n (by decide)]; exact c0) (by rw [p.el 0 (by decide)]; exact hcap) (fun j hj => by rw [p.ea 0 (by decide)]; exact he j hj) (by rw [p.ei, upd_s]; rfl) (by have := p.le; omega)
    have x255 : nt (b (st + i)) &&& 255 = nt (b (st + i)) := isB_255 ⟨_, bb, rfl⟩
    refine ⟨h2, z2, ?_, ⟨P.ci, p.gr.trans P.gr, by rw [P.i, p.ei, upd_upd], fun k hk => (P.a k hk).trans (p.ea k hk), fun j hj => (P.o j (by omega)).trans (p.eo j hj), P.r.trans p.er, P.e.trans p.ee, P.en.trans p.en, fun k hk => (P.l k hk).trans (p.el k hk), P.cap⟩, fun t h1 h2 => ?_⟩
    · rw [lP_keep_77]; dsimp only
      rw [k10, if_neg (by rw [nt_le (by omega) (by omega)]; omega), k9, nt_add, at0 c0 (by omega) hcap (by omega), bind_s]; dsimp only
      rw [he _ (by omega), a, bind_s]; dsimp only
      unfold jP_keep_108
      rw [show (1 : Int32) = nt 1 from rfl, nt_add]; exact a2
    · by_cases q : t = i
      · subst q; rw [P.o (nd + t) (by omega), p.ev, x255]
      · exact Q t (by omega) h2
theorem zE_i {z : cZ} {k i : Nat} {x : Int32} : zi (zE z k i x) = zi z := rfl
theorem j_keep {h0 z0 b n e h z} {iv pv : Nat → Int32} {av : Nat → Nat → Int32} {ne nd fm tr dv s p p' f6 T K : Nat} {pv0 : Nat → Int32} (he : e ≤ n) (I : Inp h z av b n) (fc : FC h0 z0 h z) (l : LE h z iv av ne nd fm tr dv) (B : EvB s pv0 pv av b ne nd p e p' f6) (g2 : pv 2 = nt 0) (k3 : pv 3 = nt K) (k4 : pv 4 = nt T) (hT : T ≤ 268435455) (hK : K < tr) (hne : ne < 1000) (hnd : nd + f6 ≤ 8000) :
    ∃ h' z', fP_keep h z pv (nt s) = some (h', z', pv) ∧ FC h0 z0 h' z' ∧ LE h' z' (upd (upd iv 10 (nt (ne + 1))) 11 (nt (nd + f6))) (up2 (up2 (up2 av 1 ne (nt T)) 2 ne (nt K)) 3 ne (nt s)) (ne + 1) (nd + f6) fm tr dv ∧ Inp h' z' (up2 (up2 (up2 av 1 ne (nt T)) 2 ne (nt K)) 3 ne (nt s)) b n := by
  have hn := I.mx
  obtain ⟨h1, z1, A, D⟩ := c_add fc.ci l.ev.c l.ev.ne hne
  have jlt : rr z1 ne < h1.2.1 := D.ci.ev D.lt
  generalize hj : rr z1 ne = j at *
  have d2 : zi z1 2 = nt nd := by rw [D.i, upd_n (by decide)]; exact l.da.c
  -- the event's fields
  have E : ∀ (Z : cZ), Z = zE (zE (zE (zE (zE (zE (zE z1 j 0 (pv 4)) j 1 (pv 3)) j 2 (nt s)) j 3 (pv 7)) j 4 (pv 8)) j 5 (nt nd)) j 6 (pv 10) → zi Z = zi z1 ∧ za Z = za z1 ∧ zr Z = zr z1 ∧ (∀ a f, a ≠ j → ze Z a f = ze z1 a f) ∧ ze Z j 0 = pv 4 ∧ ze Z j 1 = pv 3 ∧ ze Z j 2 = nt s ∧ ze Z j 3 = pv 7 ∧ ze Z j 4 = pv 8 ∧ ze Z j 5 = nt nd ∧ ze Z j 6 = pv 10 := by
    intro Z hZ
    subst hZ
    refine ⟨rfl, rfl, rfl, fun a f ha => ?_, ?_, ?_, ?_, ?_, ?_, ?_, ?_⟩
    · rw [ze_E, upe_n (.inl ha), ze_E, upe_n (.inl ha), ze_E, upe_n (.inl ha), ze_E, upe_n (.inl ha), ze_E, upe_n (.inl ha), ze_E, upe_n (.inl ha), ze_E, upe_n (.inl ha)]
    · rw [ze_E, upe_n (.inr (by decide)), ze_E, upe_n (.inr (by decide)), ze_E, upe_n (.inr (by decide)), ze_E, upe_n (.inr (by decide)), ze_E, upe_n (.inr (by decide)), ze_E, upe_n (.inr (by decide)), ze_E, upe_s]
    · rw [ze_E, upe_n (.inr (by decide)), ze_E, upe_n (.inr (by decide)), ze_E, upe_n (.inr (by decide)), ze_E, upe_n (.inr (by decide)), ze_E, upe_n (.inr (by decide)), ze_E, upe_s]
    · rw [ze_E, upe_n (.inr (by decide)), ze_E, upe_n (.inr (by decide)), ze_E, upe_n (.inr (by decide)), ze_E, upe_n (.inr (by decide)), ze_E, upe_s]
    · rw [ze_E, upe_n (.inr (by decide)), ze_E, upe_n (.inr (by decide)), ze_E, upe_n (.inr (by decide)), ze_E, upe_s]
    · rw [ze_E, upe_n (.inr (by decide)), ze_E, upe_n (.inr (by decide)), ze_E, upe_s]
    · rw [ze_E, upe_n (.inr (by decide)), ze_E, upe_s]
    · rw [ze_E, upe_s]
  have hK0 : fP_keep h z pv (nt s) = lP_keep_77 FU h1 (zE (zE (zE (zE (zE (zE (zE z1 j 0 (pv 4)) j 1 (pv 3)) j 2 (nt s)) j 3 (pv 7)) j 4 (pv 8)) j 5 (nt nd)) j 6 (pv 10)) pv 0 := by
    unfold fP_keep jP_keep_15
    rw [if_pos (show pv 2 = 0 from g2), A, bind_s]; dsimp only
    rw [bind_s, if_neg (by omega)]
    unfold fB2_size
    rw [bind_s]; dsimp only
    have : zi (zE (zE (zE (zE (zE z1 j 0 (pv 4)) j 1 (pv 3)) j 2 (nt s)) j 3 (pv 7)) j 4 (pv 8)) 2 = nt nd := d2
    rw [this]
  rw [hK0]
  generalize hZ : zE (zE (zE (zE (zE (zE (zE z1 j 0 (pv 4)) j 1 (pv 3)) j 2 (nt s)) j 3 (pv 7)) j 4 (pv 8)) j 5 (nt nd)) j 6 (pv 10) = Z
  obtain ⟨Zi, Za, Zr, Zo, Z0, Z1, Z2, Z3, Z4, Z5, Z6⟩ := E Z hZ.symm
  clear E hK0 hZ
  have ciZ : CI h1 Z := D.ci.zr' Zr
  have capD : nd ≤ h1.1 2 := by rw [D.l 2 (by decide) (by decide)]; exact l.da.cap
  -- the data
  have X : ∃ h2 z2, lP_keep_77 FU h1 Z pv 0 = some (h2, z2, pv) ∧ PD h1 Z h2 z2 nd (nd + f6) ∧ (∀ t, t < f6 → za z2 2 (nd + t) = av 10 (nd + t) ∧ isB (av 10 (nd + t))) := by
    rcases B.sz with ⟨_, w, w6⟩ | ⟨_, w, st, w9, wst, wd⟩
    · obtain ⟨f, hf⟩ : ∃ f, FU = f + 1 := ⟨FU - 1, by have := FUn (n := 10) (by omega); omega⟩
      refine ⟨h1, Z, ?_, ⟨ciZ, gr.refl _, ?_, fun _ _ => rfl, fun _ _ => rfl, rfl, rfl, rfl, fun _ _ => rfl, by omega⟩, fun t ht => absurd ht (by omega)⟩
      · rw [hf, lP_keep_77]; dsimp only
        rw [B.s4, w, if_pos (by decide)]
      · rw [w6, Nat.add_zero, upd_self (by rw [Zi]; exact d2)]
    · obtain ⟨h2, z2, a, P, Q⟩ := l_keep (b := b) (n := n) (st := st) (c := f6) (nd := nd) (by omega) hn hnd I.lt w9 (B.s4.trans w) f6 FU 0 h1 Z (by omega) (FUn (by omega)) ciZ (by rw [Zi, D.i, upd_n (by decide)]; exact I.c) (by rw [D.l 0 (by decide) (by decide)]; exact I.cap) (fun i hi => by rw [Za, D.a]; exact I.eq i hi) (by rw [Zi]; exact d2) capD
      exact ⟨h2, z2, a, P, fun t ht => by
        rw [wd t ht, Q t (by omega) ht]
        exact ⟨rfl, _, I.lt (st + t) (by omega), rfl⟩⟩
  obtain ⟨h2, z2, a, P, Q⟩ := X
  have i2 : ∀ k, k ≠ 2 → k ≠ 7 → zi z2 k = zi z k := fun k h1 h2 => by rw [P.i, upd_n h1, Zi, D.i, upd_n h2]
  have rk : ∀ k, rr z2 k = rr z1 k := fun k => by unfold rr; rw [P.r, Zr]
  have AvO : ∀ a k, k ≠ ne → up2 (up2 (up2 av 1 ne (nt T)) 2 ne (nt K)) 3 ne (nt s) a k = av a k := fun a k hk => by
    by_cases w3 : a = 3
    · subst w3; rw [up2_n hk, up2_o (by decide), up2_o (by decide)]
    by_cases w2 : a = 2
    · subst w2; rw [up2_o (by decide), up2_n hk, up2_o (by decide)]
    by_cases w1 : a = 1
    · subst w1; rw [up2_o (by decide), up2_o (by decide), up2_n hk]
    rw [up2_o w3, up2_o w2, up2_o w1]
  have AvA : ∀ a, a ≠ 1 → a ≠ 2 → a ≠ 3 → up2 (up2 (up2 av 1 ne (nt T)) 2 ne (nt K)) 3 ne (nt s) a = av a := fun a w1 w2 w3 => by rw [up2_o w3, up2_o w2, up2_o w1]
  have Av1 : up2 (up2 (up2 av 1 ne (nt T)) 2 ne (nt K)) 3 ne (nt s) 1 ne = nt T := by rw [up2_o (by decide), up2_o (by decide), up2_s]
  have Av2 : up2 (up2 (up2 av 1 ne (nt T)) 2 ne (nt K)) 3 ne (nt s) 2 ne = nt K := by rw [up2_o (by decide), up2_s]
  have Av3 : up2 (up2 (up2 av 1 ne (nt T)) 2 ne (nt K)) 3 ne (nt s) 3 ne = nt s := up2_s
  generalize up2 (up2 (up2 av 1 ne (nt T)) 2 ne (nt K)) 3 ne (nt s) = av2 at *
  have hle : h.2.1 ≤ h2.2.1 := by rw [P.en]; exact D.le
  have F7 : ∀ f, f < 7 → ze z2 (rr z2 ne) f = av2 (f + 1) ne := by
    intro f hf
    rw [rk, hj, P.e]
    rcases (show f = 0 ∨ f = 1 ∨ f = 2 ∨ f = 3 ∨ f = 4 ∨ f = 5 ∨ f = 6 by omega) with q | q | q | q | q | q | q <;> subst q
    · rw [Z0, k4, Av1]
    · rw [Z1, k3, Av2]
    · rw [Z2, Av3]
    · rw [Z3, B.s1, AvA 4 (by decide) (by decide) (by decide)]
    · rw [Z4, B.s2, AvA 5 (by decide) (by decide) (by decide)]
    · rw [Z5, AvA 6 (by decide) (by decide) (by decide), B.s3]
    · rw [Z6, B.s4, AvA 7 (by decide) (by decide) (by decide)]
  have FO : ∀ k, k < ne → ∀ f, f < 7 → ze z2 (rr z2 k) f = av2 (f + 1) k := by
    intro k hk f hf
    have hne' : rr z1 k ≠ j := fun w => by
      rw [← hj] at w
      have := D.ci.ij k ne (by have := D.lt; omega) D.lt w; omega
    have hlt : rr z k < h.2.1 := fc.ci.ev (by have := l.ev.ne; omega)
    rw [rk, P.e, Zo _ _ hne', D.r k hk, D.e _ hlt, AvO (f + 1) k (by omega)]
    exact l.ev.eq k hk f hf
  refine ⟨h2, z2, a, ⟨P.ci, fc.gr.trans (D.gr.trans P.gr), (i2 0 (by decide) (by decide)).trans fc.c0, (i2 1 (by decide) (by decide)).trans fc.c1, (i2 3 (by decide) (by decide)).trans fc.c3, by rw [P.a 0 (by decide), Za, D.a]; exact fc.a0, by rw [P.a 1 (by decide), Za, D.a]; exact fc.a1, by rw [P.l 0 (by decide), D.l 0 (by decide) (by decide)]; exact fc.l0, by rw [P.l 1 (by decide), D.l 1 (by decide) (by decide)]; exact fc.l1⟩, ⟨⟨by omega, by rw [P.en]; exact D.lt, by rw [P.i, upd_n (by decide), Zi, D.i, upd_s], by rw [upd_n (by decide), upd_s], fun k hk f hf => ?_, fun k hk => hk⟩, ⟨P.cap, hnd, by rw [P.i, upd_s], fun i hi => ?_, fun i hi => ?_⟩, upd_s, l.fmx, (i2 4 (by decide) (by decide)).trans l.fc, by rw [upd_n (by decide), upd_n (by decide)]; exact l.fi, l.t1, l.tmx, (i2 5 (by decide) (by decide)).trans l.tc, by rw [upd_n (by decide), upd_n (by decide)]; exact l.ti, l.dmx, (i2 6 (by decide) (by decide)).trans l.dc, by rw [upd_n (by decide), upd_n (by decide)]; exact l.di, fun k hk => ?_, ?_⟩, ⟨by rw [P.l 0 (by decide), D.l 0 (by decide) (by decide)]; exact I.cap, I.mx, (i2 0 (by decide) (by decide)).trans I.c, fun i hi => by rw [P.a 0 (by decide), Za, D.a]; exact I.eq i hi, I.lt, fun i hi => by rw [AvA 0 (by decide) (by decide) (by decide)]; exact I.em i hi⟩⟩
  · show ze z2 (rr z2 k) f = av2 (f + 1) k
    by_cases q : k = ne
    · subst q; exact F7 f hf
    · exact FO k (by omega) f hf
  · rw [AvA 10 (by decide) (by decide) (by decide)]
    by_cases q : i < nd
    · rw [P.o i q, Za, D.a]; exact l.da.eq i q
    · have := (Q (i - nd) (by omega)).1
      rwa [show nd + (i - nd) = i by omega] at this
  · rw [AvA 10 (by decide) (by decide) (by decide)]
    by_cases q : i < nd
    · exact l.da.by' i q
    · have := (Q (i - nd) (by omega)).2
      rwa [show nd + (i - nd) = i by omega] at this
  · by_cases q : k = ne
    · subst q
      have a4 : av2 4 k = av 4 k := by rw [AvA 4 (by decide) (by decide) (by decide)]
      have a5 : av2 5 k = av 5 k := by rw [AvA 5 (by decide) (by decide) (by decide)]
      have a6 : av2 6 k = av 6 k := by rw [AvA 6 (by decide) (by decide) (by decide)]
      have a7 : av2 7 k = av 7 k := by rw [AvA 7 (by decide) (by decide) (by decide)]
      refine ⟨⟨T, hT, Av1⟩, ⟨K, hK, Av2⟩, s, Av3, ?_⟩
      dsimp only [Nat.reduceAdd]
      rw [a4, a5, a6, a7, B.s3]
      rcases B.kd with ⟨w1, w2, w3, w4⟩ | ⟨w1, w2, w3⟩ | ⟨w1, w2, f, w3, w4, w5⟩
      · refine .inl ⟨w1, w2, w3, w4, ?_⟩
        rcases B.sz with ⟨_, w, _⟩ | ⟨w, _⟩
        · exact w
        · exact absurd w (by omega)
      · refine .inr (.inl ⟨w1, w2, w3, nd, f6, rfl, ?_, by omega⟩)
        rcases B.sz with ⟨w, _⟩ | ⟨_, w, _⟩
        · exact absurd w (by omega)
        · exact w
      · refine .inr (.inr ⟨w1, w2, f, nd, f6, w3, w4, rfl, ?_, by omega, w5⟩)
        rcases B.sz with ⟨w, _⟩ | ⟨_, w, _⟩
        · exact absurd w (by omega)
        · exact w
    · exact ((l.ok k (by omega)).eq (a' := fun f => av2 (f + 1) k) fun f hf => AvO (f + 1) k q).mono (by omega)
  · rw [sm_s]
    have e1 : sm (fun e => (av2 7 e).toNatClampNeg) ne = sm (fun e => (av 7 e).toNatClampNeg) ne := sm_eq' fun k hk => by rw [AvO 7 k (by omega)]
    have e2 := l.su
    have e3 : (av2 7 ne).toNatClampNeg ≤ f6 := by
      rw [AvA 7 (by decide) (by decide) (by decide)]
      rcases B.sz with ⟨_, w, _⟩ | ⟨_, w, _⟩
      · rw [w, mo_cl]; omega
      · rw [w, nt_cl (by omega)]; omega
    omega
