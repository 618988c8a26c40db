/-- the number of the event at a place of the row -/
def rr (z : cZ) (t : Nat) : Nat := (zr z 0 t).getD 0
/-- the class's shape -/
structure CI (h : cH) (z : cZ) : Prop where
  l0 : 64 ≤ h.1 0
  u0 : h.1 0 ≤ 24000
  l1 : 64 ≤ h.1 1
  u1 : h.1 1 ≤ 32768
  l2 : 64 ≤ h.1 2
  u2 : h.1 2 ≤ 16000
  l3 : 16 ≤ h.1 3
  u3 : h.1 3 ≤ 2000
  l4 : h.1 4 = h.1 3
  ne : h.2.1 ≤ h.1 3
  ro : ∀ t, t < h.2.1 → zr z 0 t = some (rr z t)
  rn : ∀ t, h.2.1 ≤ t → zr z 0 t = none
  wf : wfz h z
  ij : ∀ t t', t < h.2.1 → t' < h.2.1 → rr z t = rr z t' → t = t'
def isB (x : Int32) : Prop := ∃ c, c < 256 ∧ x = nt c
structure IN (h : cH) (z : cZ) (iv : Nat → Int32) (av : Nat → Nat → Int32) (n : Nat) : Prop where
  cap : n ≤ h.1 0
  mx : n ≤ 12000
  c : zi z 0 = nt n
  m : iv 1 = nt n
  eq : ∀ i, i < n → za z 0 i = av 0 i
  by' : ∀ i, i < n → isB (av 0 i)
structure OUT (h : cH) (z : cZ) (iv : Nat → Int32) (av : Nat → Nat → Int32) (n : Nat) : Prop where
  cap : n ≤ h.1 1
  mx : n ≤ 16384
  c : zi z 1 = nt n
  m : iv 12 = nt n
  eq : ∀ i, i < n → za z 1 i = av 11 i
  by' : ∀ i, i < n → isB (av 11 i)
structure DAT (h : cH) (z : cZ) (av : Nat → Nat → Int32) (n : Nat) : Prop where
  cap : n ≤ h.1 2
  mx : n ≤ 8000
  c : zi z 2 = nt n
  eq : ∀ i, i < n → za z 2 i = av 10 i
  by' : ∀ i, i < n → isB (av 10 i)
structure EVS (h : cH) (z : cZ) (iv : Nat → Int32) (av : Nat → Nat → Int32) (n : Nat) (o : Nat → Nat) : Prop where
  mx : n ≤ 1000
  ne : n ≤ h.2.1
  c : zi z 7 = nt n
  m : iv 10 = nt n
  eq : ∀ k, k < n → ∀ f, f < 7 → ze z (rr z k) f = av (f + 1) (o k)
  ol : ∀ k, k < n → o k < n
/-- an event's fields: tick track status first second start size -/
structure EvOK (a : Nat → Int32) (nd tr : Nat) : Prop where
  tick : ∃ T, T ≤ 268435455 ∧ a 0 = nt T
  track : ∃ K, K < tr ∧ a 1 = nt K
  kind : ∃ s, a 2 = nt s ∧
    ((128 ≤ s ∧ s < 240 ∧ (∃ f, f < 128 ∧ a 3 = nt f) ∧ ((192 ≤ s ∧ s < 224 ∧ a 4 = -1) ∨ ((s < 192 ∨ 224 ≤ s) ∧ ∃ g, g < 128 ∧ a 4 = nt g)) ∧ a 6 = -1) ∨
     ((s = 240 ∨ s = 247) ∧ a 3 = -1 ∧ a 4 = -1 ∧ ∃ st c, a 5 = nt st ∧ a 6 = nt c ∧ st + c ≤ nd) ∨
     (s = 255 ∧ a 4 = -1 ∧ ∃ f st c, f < 128 ∧ a 3 = nt f ∧ a 5 = nt st ∧ a 6 = nt c ∧ st + c ≤ nd ∧ (f = 81 → c = 3)))
def DV (d : Nat) : Prop := (1 ≤ d ∧ d ≤ 32767) ∨ (32768 ≤ d ∧ d < 65536 ∧ (d / 256 = 232 ∨ d / 256 = 231 ∨ d / 256 = 227 ∨ d / 256 = 226) ∧ 0 < d % 256)
structure LST (h : cH) (z : cZ) (iv : Nat → Int32) (av : Nat → Nat → Int32) (n : Nat) (o : Nat → Nat) (nd fm tr dv : Nat) : Prop where
  ev : EVS h z iv av n o
  da : DAT h z av nd
  om : ∀ k, k < n → av 8 k = nt (o k)
  oi : ∀ k k', k < n → k' < n → o k = o k' → k = k'
  fmx : fm ≤ 2
  fc : zi z 4 = nt fm
  fi : iv 7 = nt fm
  t1 : 1 ≤ tr
  tmx : tr ≤ 16
  tc : zi z 5 = nt tr
  ti : iv 8 = nt tr
  dmx : DV dv
  dc : zi z 6 = nt dv
  di : iv 9 = nt dv
  ok : ∀ e, e < n → EvOK (fun f => av (f + 1) e) nd tr
  so : ∀ i j, i < j → j < n → av 1 (o i) ≤ av 1 (o j)
  su : ((List.range n).map (fun e => (av 7 e).toNatClampNeg)).sum ≤ nd
structure Rel (h : cH) (z : cZ) (iv : Nat → Int32) (av : Nat → Nat → Int32) : Prop where
  ci : CI h z
  inp : ∃ n, IN h z iv av n
  out : ∃ n, OUT h z iv av n
  pr : zi z 3 = iv 6
  p01 : iv 6 = 0 ∨ iv 6 = 1
  lst : iv 6 = 1 → ∃ n o nd fm tr dv, LST h z iv av n o nd fm tr dv
  non : iv 6 = 0 → zi z 7 = 0 ∧ iv 10 = 0
theorem IN.iv {h z iv av n} {iv' : Nat → Int32} (r : IN h z iv av n) (e : iv' 1 = iv 1) : IN h z iv' av n := ⟨r.cap, r.mx, r.c, e.trans r.m, r.eq, r.by'⟩
theorem OUT.iv {h z iv av n} {iv' : Nat → Int32} (r : OUT h z iv av n) (e : iv' 12 = iv 12) : OUT h z iv' av n := ⟨r.cap, r.mx, r.c, e.trans r.m, r.eq, r.by'⟩
theorem EVS.iv {h z iv av n o} {iv' : Nat → Int32} (r : EVS h z iv av n o) (e : iv' 10 = iv 10) : EVS h z iv' av n o := ⟨r.mx, r.ne, r.c, e.trans r.m, r.eq, r.ol⟩
theorem LST.iv {h z iv av n o nd fm tr dv} {iv' : Nat → Int32} (r : LST h z iv av n o nd fm tr dv) (e7 : iv' 7 = iv 7) (e8 : iv' 8 = iv 8) (e9 : iv' 9 = iv 9) (e10 : iv' 10 = iv 10) : LST h z iv' av n o nd fm tr dv :=
  ⟨r.ev.iv e10, r.da, r.om, r.oi, r.fmx, r.fc, e7.trans r.fi, r.t1, r.tmx, r.tc, e8.trans r.ti, r.dmx, r.dc, e9.trans r.di, r.ok, r.so, r.su⟩
theorem Rel.iv {h z iv av} {iv' : Nat → Int32} (r : Rel h z iv av) (e : ∀ k, k ≠ 0 → iv' k = iv k) : Rel h z iv' av where
  ci := r.ci
  inp := r.inp.elim fun n w => ⟨n, w.iv (e 1 (by decide))⟩
  out := r.out.elim fun n w => ⟨n, w.iv (e 12 (by decide))⟩
  pr := by rw [e 6 (by decide)]; exact r.pr
  p01 := by rw [e 6 (by decide)]; exact r.p01
  lst := fun q => by
    rw [e 6 (by decide)] at q
    obtain ⟨n, o, nd, fm, tr, dv, w⟩ := r.lst q
    exact ⟨n, o, nd, fm, tr, dv, w.iv (e 7 (by decide)) (e 8 (by decide)) (e 9 (by decide)) (e 10 (by decide))⟩
  non := fun q => by rw [e 6 (by decide)] at q; rw [e 10 (by decide)]; exact r.non q
theorem Rel.thr {h z iv av} {x : Int32} (r : Rel h z iv av) : Rel h z (upd iv 0 x) av := r.iv fun k hk => upd_n hk
theorem lt_nt {x : Int32} (h : ¬ x < 0) : ∃ i, i < 2147483648 ∧ x = nt i := by
  have h1 : 0 ≤ x.toInt := by
    rw [Int32.lt_iff_toInt_lt] at h; exact Int.not_lt.mp h
  refine ⟨x.toNatClampNeg, ?_, nt_of h1⟩
  have := Int32.toInt_lt x
  rw [Int32.toNatClampNeg]; omega
/-- the number of events -/
theorem Rel.cnt {h z iv av} (r : Rel h z iv av) : ∃ n, n ≤ 1000 ∧ zi z 7 = nt n ∧ iv 10 = nt n ∧ (n = 0 ∨ iv 6 = 1) := by
  rcases r.p01 with p | p
  · exact ⟨0, by omega, (r.non p).1, (r.non p).2, .inl rfl⟩
  · obtain ⟨n, o, nd, fm, tr, dv, w⟩ := r.lst p
    exact ⟨n, w.ev.mx, w.ev.c, w.ev.m, .inr p⟩
theorem CI.ev {h z} (r : CI h z) {t : Nat} (ht : t < h.2.1) : rr z t < h.2.1 := r.wf 0 t _ (r.ro t ht)
/-- at, in range or not -/
theorem sAt {h z iv av} (r : Rel h z iv av) (x : Int32) :
    (fS_at h z x = some (none, z) ∧ fM_has iv av x = some (0, iv, av)) ∨
    ∃ i n o nd fm tr dv, i < n ∧ x = nt i ∧ iv 6 = 1 ∧ LST h z iv av n o nd fm tr dv ∧ fS_at h z x = some (some (rr z i), z) ∧ fM_has iv av x = some (1, iv, av) := by
  obtain ⟨n, hn, e1, e2, e3⟩ := r.cnt
  unfold fS_at fM_has
  by_cases hx : x < 0
  · left; simp only [hx, if_true]; refine ⟨trivial, ?_⟩; split <;> rfl
  obtain ⟨i, hi, rfl⟩ := lt_nt hx
  simp only [hx, if_false, e1, e2]
  by_cases hni : n ≤ i
  · left
    ns []
    refine ⟨trivial, ?_⟩; split <;> rfl
  · right
    have p : iv 6 = 1 := e3.resolve_left (by omega)
    obtain ⟨n', o, nd, fm, tr, dv, w⟩ := r.lst p
    have en : n' = n := nt_inj (w.ev.c.symm.trans e1) (by have := w.ev.mx; omega) (by omega)
    subst en
    refine ⟨i, n', o, nd, fm, tr, dv, by omega, rfl, p, w, ?_, ?_⟩
    · have hc := r.ci.ne; have hc2 := w.ev.ne
      ns [false_or, r.ci.ro i (by omega)]
    · ns [p]
